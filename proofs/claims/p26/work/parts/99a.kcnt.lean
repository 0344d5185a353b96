section
/-! how many parts the events of a text may make: no more than it has tokens -/
def ubv (v : Nat × Nat × Nat) : Nat := if v.1 = 24 ∨ v.1 = 27 then 2 else if v.1 = 50 ∨ v.1 = 51 ∨ v.1 = 52 ∨ v.1 = 53 ∨ v.1 = 3 ∨ v.1 = 6 ∨ v.1 = 7 ∨ v.1 = 54 then 1 else 0
def cnt (L : gU) : Nat := (L.map ubv).sum
section CNTL
variable {K V : Nat → Int32} {L L' : gU} {o : Bool} {sN : Nat → Nat → Bool}
theorem cnt_app {M : gU} : cnt (L ++ M) = cnt L + cnt M := by
  unfold cnt
  rw [List.map_append, List.sum_append]
theorem cnt_one {v : Nat × Nat × Nat} : cnt [v] = ubv v := rfl
theorem cnt_two {v w : Nat × Nat × Nat} : cnt [v, w] = ubv v + ubv w := rfl
theorem ub_3 {a b : Nat} : ubv (3, a, b) = 1 := rfl
theorem ub_6 {a b : Nat} : ubv (6, a, b) = 1 := rfl
theorem ub_7 {a b : Nat} : ubv (7, a, b) = 1 := rfl
theorem ub_12 {a b : Nat} : ubv (12, a, b) = 0 := rfl
theorem ub_20 {a b : Nat} : ubv (20, a, b) = 0 := rfl
theorem ub_21 {a b : Nat} : ubv (21, a, b) = 0 := rfl
theorem ub_22 {a b : Nat} : ubv (22, a, b) = 0 := rfl
theorem ub_23 {a b : Nat} : ubv (23, a, b) = 0 := rfl
theorem ub_24 {a b : Nat} : ubv (24, a, b) = 2 := rfl
theorem ub_25 {a b : Nat} : ubv (25, a, b) = 0 := rfl
theorem ub_26 {a b : Nat} : ubv (26, a, b) = 0 := rfl
theorem ub_27 {a b : Nat} : ubv (27, a, b) = 2 := rfl
theorem ub_31 {a b : Nat} : ubv (31, a, b) = 0 := rfl
theorem ub_32 {a b : Nat} : ubv (32, a, b) = 0 := rfl
theorem ub_33 {a b : Nat} : ubv (33, a, b) = 0 := rfl
theorem ub_34 {a b : Nat} : ubv (34, a, b) = 0 := rfl
theorem ub_35 {a b : Nat} : ubv (35, a, b) = 0 := rfl
theorem ub_36 {a b : Nat} : ubv (36, a, b) = 0 := rfl
theorem ub_50 {a b : Nat} : ubv (50, a, b) = 1 := rfl
theorem ub_51 {a b : Nat} : ubv (51, a, b) = 1 := rfl
theorem ub_52 {a b : Nat} : ubv (52, a, b) = 1 := rfl
theorem ub_53 {a b : Nat} : ubv (53, a, b) = 1 := rfl
theorem ub_54 {a b : Nat} : ubv (54, a, b) = 1 := rfl
theorem ub_60 {a b : Nat} : ubv (60, a, b) = 0 := rfl
theorem ub_61 {a b : Nat} : ubv (61, a, b) = 0 := rfl
theorem ub_62 {a b : Nat} : ubv (62, a, b) = 0 := rfl
theorem ub_63 {a b : Nat} : ubv (63, a, b) = 0 := rfl
theorem ub_65 {a b : Nat} : ubv (65, a, b) = 0 := rfl
theorem ub_66 {a b : Nat} : ubv (66, a, b) = 0 := rfl
theorem ub_67 {a b : Nat} : ubv (67, a, b) = 0 := rfl
theorem ub_68 {a b : Nat} : ubv (68, a, b) = 0 := rfl
theorem ub_69 {a b : Nat} : ubv (69, a, b) = 0 := rfl
theorem ub_70 {a b : Nat} : ubv (70, a, b) = 0 := rfl
theorem ub_74 {a b : Nat} : ubv (74, a, b) = 0 := rfl
theorem ub_75 {a b : Nat} : ubv (75, a, b) = 0 := rfl
theorem ub_76 {a b : Nat} : ubv (76, a, b) = 0 := rfl
theorem ub_77 {a b : Nat} : ubv (77, a, b) = 0 := rfl
theorem ub_78 {a b : Nat} : ubv (78, a, b) = 0 := rfl
theorem ub_80 {a b : Nat} : ubv (80, a, b) = 0 := rfl
theorem ub_81 {a b : Nat} : ubv (81, a, b) = 0 := rfl
theorem ub_82 {a b : Nat} : ubv (82, a, b) = 0 := rfl
theorem ub_83 {a b : Nat} : ubv (83, a, b) = 0 := rfl
/-- the parts are no more -/
theorem tPs_cnt : ∀ {L : gU} {E : gV}, (tPs sN V K L E).length ≤ cnt L := by
  intro L
  induction L with
  | nil => intro E; exact Nat.le_refl _
  | cons v L ih =>
    intro E
    show (tPv sN V K E v ++ tPs sN V K L (exV E v)).length ≤ ubv v + cnt L
    rw [List.length_append]
    have a : (tPv sN V K E v).length ≤ ubv v := by
      unfold tPv ubv
      by_cases c1 : v.1 = 24
      · rw [if_pos c1, if_pos (Or.inl c1)]
        unfold alP
        cases kfi sN E.1 v.2.1 with
        | none => exact Nat.zero_le _
        | some p => exact Nat.le_refl _
      · rw [if_neg c1]
        by_cases c2 : v.1 = 27
        · rw [if_pos c2, if_pos (Or.inr c2)]
          unfold alP
          cases kfi sN E.1 v.2.2 with
          | none => exact Nat.zero_le _
          | some p => exact Nat.le_refl _
        · rw [if_neg c2, if_neg (fun z => z.elim c1 c2)]
          by_cases c3 : v.1 = 50 ∨ v.1 = 51 ∨ v.1 = 52 ∨ v.1 = 53 ∨ v.1 = 3 ∨ v.1 = 6 ∨ v.1 = 7 ∨ v.1 = 54
          · rw [if_pos c3]
            cases cPt sN V K E v with
            | none => exact Nat.zero_le _
            | some p => exact Nat.le_refl _
          · rw [if_neg c3]
            have e : cPt sN V K E v = none := by
              unfold cPt
              rw [if_neg (by omega), if_neg (by omega), if_neg (by omega), if_neg (by omega), if_neg (by omega), if_neg (by omega)]
            rw [e]
            exact Nat.le_refl _
    have := ih (E := exV E v)
    omega
theorem pt_cn {w : Int32} {q r : Nat × gU} (h : pt K w q = some r) : cnt r.2 = cnt q.2 ∧ r.1 = q.1 + 1 := by
  obtain ⟨-, -, e⟩ := pt_is h
  rw [e]; exact ⟨rfl, rfl⟩
abbrev cgoN (rE : Nat → Nat → gU → gOp) : Prop := ∀ s i L q, rE s i L = some q → cnt q.2 + i ≤ cnt L + q.1
theorem pW_cn {rE : Nat → Nat → gU → gOp} {th : Nat} (hr : cgoN rE) : ∀ (f j : Nat) (L : gU) (q : Nat × gU), pW rE K th f j L = some q → cnt q.2 + j ≤ cnt L + q.1 := by
  intro f
  induction f with
  | zero => intro j L q h; exact absurd h (by simp [pW])
  | succ f ih =>
    intro j L q h
    rw [pW] at h
    split at h
    · split at h
      · obtain ⟨z, hz, h2⟩ := Option.bind_eq_some_iff.mp h
        have a := hr _ _ _ _ hz
        have b := ih _ _ _ h2
        ((try simp only [cnt_app, cnt_one, cnt_two, ub_3, ub_6, ub_7, ub_12, ub_20, ub_21, ub_22, ub_23, ub_24, ub_25, ub_26, ub_27, ub_31, ub_32, ub_33, ub_34, ub_35, ub_36, ub_50, ub_51, ub_52, ub_53, ub_54, ub_60, ub_61, ub_62, ub_63, ub_65, ub_66, ub_67, ub_68, ub_69, ub_70, ub_74, ub_75, ub_76, ub_77, ub_78, ub_80, ub_81, ub_82, ub_83] at *); omega)
      · exact absurd h (by simp)
    · cases Option.some.inj h; exact Nat.le_refl _
theorem pO_cn {rE : Nat → Nat → gU → gOp} (hr : cgoN rE) {i : Nat} {q : Nat × gU} (h : pO rE K o i L = some q) : cnt q.2 + i ≤ cnt L + q.1 := by
  unfold pO at h
  split at h
  · exact absurd h (by simp)
  · split at h
    · cases Option.some.inj h; ((try simp only [cnt_app, cnt_one, cnt_two, ub_3, ub_6, ub_7, ub_12, ub_20, ub_21, ub_22, ub_23, ub_24, ub_25, ub_26, ub_27, ub_31, ub_32, ub_33, ub_34, ub_35, ub_36, ub_50, ub_51, ub_52, ub_53, ub_54, ub_60, ub_61, ub_62, ub_63, ub_65, ub_66, ub_67, ub_68, ub_69, ub_70, ub_74, ub_75, ub_76, ub_77, ub_78, ub_80, ub_81, ub_82, ub_83] at *); omega)
    · split at h
      · cases Option.some.inj h; ((try simp only [cnt_app, cnt_one, cnt_two, ub_3, ub_6, ub_7, ub_12, ub_20, ub_21, ub_22, ub_23, ub_24, ub_25, ub_26, ub_27, ub_31, ub_32, ub_33, ub_34, ub_35, ub_36, ub_50, ub_51, ub_52, ub_53, ub_54, ub_60, ub_61, ub_62, ub_63, ub_65, ub_66, ub_67, ub_68, ub_69, ub_70, ub_74, ub_75, ub_76, ub_77, ub_78, ub_80, ub_81, ub_82, ub_83] at *); omega)
      · split at h
        · obtain ⟨z, hz, h2⟩ := Option.bind_eq_some_iff.mp h
          have a := hr _ _ _ _ hz
          have b := pt_cn h2
          ((try simp only [cnt_app, cnt_one, cnt_two, ub_3, ub_6, ub_7, ub_12, ub_20, ub_21, ub_22, ub_23, ub_24, ub_25, ub_26, ub_27, ub_31, ub_32, ub_33, ub_34, ub_35, ub_36, ub_50, ub_51, ub_52, ub_53, ub_54, ub_60, ub_61, ub_62, ub_63, ub_65, ub_66, ub_67, ub_68, ub_69, ub_70, ub_74, ub_75, ub_76, ub_77, ub_78, ub_80, ub_81, ub_82, ub_83] at *); omega)
        · split at h
          · split at h
            · split at h
              · split at h
                · cases Option.some.inj h; ((try simp only [cnt_app, cnt_one, cnt_two, ub_3, ub_6, ub_7, ub_12, ub_20, ub_21, ub_22, ub_23, ub_24, ub_25, ub_26, ub_27, ub_31, ub_32, ub_33, ub_34, ub_35, ub_36, ub_50, ub_51, ub_52, ub_53, ub_54, ub_60, ub_61, ub_62, ub_63, ub_65, ub_66, ub_67, ub_68, ub_69, ub_70, ub_74, ub_75, ub_76, ub_77, ub_78, ub_80, ub_81, ub_82, ub_83] at *); omega)
                · exact absurd h (by simp)
              · cases Option.some.inj h; ((try simp only [cnt_app, cnt_one, cnt_two, ub_3, ub_6, ub_7, ub_12, ub_20, ub_21, ub_22, ub_23, ub_24, ub_25, ub_26, ub_27, ub_31, ub_32, ub_33, ub_34, ub_35, ub_36, ub_50, ub_51, ub_52, ub_53, ub_54, ub_60, ub_61, ub_62, ub_63, ub_65, ub_66, ub_67, ub_68, ub_69, ub_70, ub_74, ub_75, ub_76, ub_77, ub_78, ub_80, ub_81, ub_82, ub_83] at *); omega)
            · cases Option.some.inj h; ((try simp only [cnt_app, cnt_one, cnt_two, ub_3, ub_6, ub_7, ub_12, ub_20, ub_21, ub_22, ub_23, ub_24, ub_25, ub_26, ub_27, ub_31, ub_32, ub_33, ub_34, ub_35, ub_36, ub_50, ub_51, ub_52, ub_53, ub_54, ub_60, ub_61, ub_62, ub_63, ub_65, ub_66, ub_67, ub_68, ub_69, ub_70, ub_74, ub_75, ub_76, ub_77, ub_78, ub_80, ub_81, ub_82, ub_83] at *); omega)
          · exact absurd h (by simp)
theorem pE_cn : ∀ f : Nat, cgoN (pE K o f) := by
  intro f
  induction f with
  | zero => intro s i L q h; exact absurd h (by simp [pE])
  | succ f ih =>
    intro s i L q h
    rw [pE] at h
    split at h
    · obtain ⟨z, hz, h2⟩ := Option.bind_eq_some_iff.mp h
      have b := pW_cn ih _ _ _ _ h2
      have a : cnt z.2 + i ≤ cnt L + z.1 := by
        split at hz
        · split at hz
          · obtain ⟨y, hy, h3⟩ := Option.bind_eq_some_iff.mp hz
            cases Option.some.inj h3
            have a := ih _ _ _ _ hy
            ((try simp only [cnt_app, cnt_one, cnt_two, ub_3, ub_6, ub_7, ub_12, ub_20, ub_21, ub_22, ub_23, ub_24, ub_25, ub_26, ub_27, ub_31, ub_32, ub_33, ub_34, ub_35, ub_36, ub_50, ub_51, ub_52, ub_53, ub_54, ub_60, ub_61, ub_62, ub_63, ub_65, ub_66, ub_67, ub_68, ub_69, ub_70, ub_74, ub_75, ub_76, ub_77, ub_78, ub_80, ub_81, ub_82, ub_83] at *); omega)
          · exact absurd hz (by simp)
        · exact pO_cn ih hz
      omega
    · exact absurd h (by simp)
theorem pX_cn {f i : Nat} {q : Nat × gU} (h : pX K o f i L = some q) : cnt q.2 + i ≤ cnt L + q.1 + 1 := by
  obtain ⟨z, hz, h2⟩ := Option.bind_eq_some_iff.mp h
  have a := pE_cn f _ _ _ _ hz
  unfold pan at h2
  cases Option.some.inj h2
  ((try simp only [cnt_app, cnt_one, cnt_two, ub_3, ub_6, ub_7, ub_12, ub_20, ub_21, ub_22, ub_23, ub_24, ub_25, ub_26, ub_27, ub_31, ub_32, ub_33, ub_34, ub_35, ub_36, ub_50, ub_51, ub_52, ub_53, ub_54, ub_60, ub_61, ub_62, ub_63, ub_65, ub_66, ub_67, ub_68, ub_69, ub_70, ub_74, ub_75, ub_76, ub_77, ub_78, ub_80, ub_81, ub_82, ub_83] at *); omega)
theorem pXq_cn {f : Nat} {r q : Nat × gU} (h : pXq K f r = some q) : cnt q.2 + r.1 ≤ cnt r.2 + q.1 + 1 := pX_cn h
theorem pP_cn {f i : Nat} {q : Nat × gU} (h : pP K f i L = some q) : cnt q.2 + i ≤ cnt L + q.1 := by
  unfold pP at h
  split at h
  · split at h
    · split at h
      · obtain ⟨z, hz, h2⟩ := Option.bind_eq_some_iff.mp h
        have a := pX_cn hz
        have b := pt_cn h2
        ((try simp only [cnt_app, cnt_one, cnt_two, ub_3, ub_6, ub_7, ub_12, ub_20, ub_21, ub_22, ub_23, ub_24, ub_25, ub_26, ub_27, ub_31, ub_32, ub_33, ub_34, ub_35, ub_36, ub_50, ub_51, ub_52, ub_53, ub_54, ub_60, ub_61, ub_62, ub_63, ub_65, ub_66, ub_67, ub_68, ub_69, ub_70, ub_74, ub_75, ub_76, ub_77, ub_78, ub_80, ub_81, ub_82, ub_83] at *); omega)
      · exact absurd h (by simp)
    · cases Option.some.inj h; ((try simp only [cnt_app, cnt_one, cnt_two, ub_3, ub_6, ub_7, ub_12, ub_20, ub_21, ub_22, ub_23, ub_24, ub_25, ub_26, ub_27, ub_31, ub_32, ub_33, ub_34, ub_35, ub_36, ub_50, ub_51, ub_52, ub_53, ub_54, ub_60, ub_61, ub_62, ub_63, ub_65, ub_66, ub_67, ub_68, ub_69, ub_70, ub_74, ub_75, ub_76, ub_77, ub_78, ub_80, ub_81, ub_82, ub_83] at *); omega)
  · exact absurd h (by simp)
theorem pme_cn {t : Option Nat} : cnt (pme t) = 0 := by
  cases t <;> rfl
theorem pma_cn {t : Option Nat} : cnt (pma t) = 0 := by
  cases t <;> rfl
theorem pal_cn {t : Option Nat} {i : Nat} : cnt [pal t i] = 2 := by
  cases t <;> rfl
theorem pan_cn {k a b : Nat} {q r : Nat × gU} (h : pan (k, a, b) q = some r) : cnt r.2 = cnt q.2 + ubv (k, a, b) ∧ r.1 = q.1 := by
  unfold pan at h
  cases Option.some.inj h
  exact ⟨cnt_app, rfl⟩
theorem pR_cn {f i : Nat} {t : Option Nat} {q : Nat × gU} (h : pR K f t i L = some q) : cnt q.2 + i ≤ cnt L + q.1 + 1 := by
  unfold pR at h
  split at h
  · split at h
    · obtain ⟨z4, hz4, h4⟩ := Option.bind_eq_some_iff.mp h
      obtain ⟨z3, hz3, h3⟩ := Option.bind_eq_some_iff.mp hz4
      obtain ⟨z2, hz2, h2⟩ := Option.bind_eq_some_iff.mp hz3
      obtain ⟨z5, hz5, h5⟩ := Option.bind_eq_some_iff.mp h4
      have d := pan_cn h5
      have a1 := pP_cn hz2
      have a2 := pt_cn h2
      have a3 := pXq_cn h3
      rw [cnt_app, pme_cn] at a1
      split at hz5
      · obtain ⟨z6, hz6, h6⟩ := Option.bind_eq_some_iff.mp hz5
        have b1 := pt_cn hz6
        have b2 := pXq_cn h6
        ((try simp only [cnt_app, cnt_one, cnt_two, ub_3, ub_6, ub_7, ub_12, ub_20, ub_21, ub_22, ub_23, ub_24, ub_25, ub_26, ub_27, ub_31, ub_32, ub_33, ub_34, ub_35, ub_36, ub_50, ub_51, ub_52, ub_53, ub_54, ub_60, ub_61, ub_62, ub_63, ub_65, ub_66, ub_67, ub_68, ub_69, ub_70, ub_74, ub_75, ub_76, ub_77, ub_78, ub_80, ub_81, ub_82, ub_83] at *); omega)
      · cases Option.some.inj hz5
        ((try simp only [cnt_app, cnt_one, cnt_two, ub_3, ub_6, ub_7, ub_12, ub_20, ub_21, ub_22, ub_23, ub_24, ub_25, ub_26, ub_27, ub_31, ub_32, ub_33, ub_34, ub_35, ub_36, ub_50, ub_51, ub_52, ub_53, ub_54, ub_60, ub_61, ub_62, ub_63, ub_65, ub_66, ub_67, ub_68, ub_69, ub_70, ub_74, ub_75, ub_76, ub_77, ub_78, ub_80, ub_81, ub_82, ub_83] at *); omega)
    · exact absurd h (by simp)
  · split at h
    · obtain ⟨z, hz, h2⟩ := Option.bind_eq_some_iff.mp h
      have a1 := pP_cn hz
      have d := pan_cn h2
      rw [cnt_app, pme_cn] at a1
      ((try simp only [cnt_app, cnt_one, cnt_two, ub_3, ub_6, ub_7, ub_12, ub_20, ub_21, ub_22, ub_23, ub_24, ub_25, ub_26, ub_27, ub_31, ub_32, ub_33, ub_34, ub_35, ub_36, ub_50, ub_51, ub_52, ub_53, ub_54, ub_60, ub_61, ub_62, ub_63, ub_65, ub_66, ub_67, ub_68, ub_69, ub_70, ub_74, ub_75, ub_76, ub_77, ub_78, ub_80, ub_81, ub_82, ub_83] at *); omega)
    · split at h
      · split at h
        · cases Option.some.inj h
          show cnt (L ++ [pal t i]) + i ≤ cnt L + (i + 1) + 1
          rw [cnt_app, pal_cn]
          omega
        · exact absurd h (by simp)
      · obtain ⟨z, hz, h2⟩ := Option.bind_eq_some_iff.mp h
        have a1 := pX_cn hz
        have d := pan_cn h2
        rw [cnt_app, pma_cn] at a1
        ((try simp only [cnt_app, cnt_one, cnt_two, ub_3, ub_6, ub_7, ub_12, ub_20, ub_21, ub_22, ub_23, ub_24, ub_25, ub_26, ub_27, ub_31, ub_32, ub_33, ub_34, ub_35, ub_36, ub_50, ub_51, ub_52, ub_53, ub_54, ub_60, ub_61, ub_62, ub_63, ub_65, ub_66, ub_67, ub_68, ub_69, ub_70, ub_74, ub_75, ub_76, ub_77, ub_78, ub_80, ub_81, ub_82, ub_83] at *); omega)
abbrev cgsN (rS : Nat → Nat → gU → gTs) : Prop := ∀ c i L q, rS c i L = some q → cnt q.2.2 + i ≤ cnt L + q.2.1
theorem pBl_cn {rS : Nat → Nat → gU → gTs} {z : Nat} (hr : cgsN rS) : ∀ (n c i : Nat) (L : gU) (q : Nat × Nat × gU), pBl rS K z n c i L = some q → cnt q.2.2 + i ≤ cnt L + q.2.1 := by
  intro n
  induction n with
  | zero => intro c i L q h; exact absurd h (by simp [pBl])
  | succ n ih =>
    intro c i L q h
    rw [pBl] at h
    split at h
    · split at h
      · cases Option.some.inj h; ((try simp only [cnt_app, cnt_one, cnt_two, ub_3, ub_6, ub_7, ub_12, ub_20, ub_21, ub_22, ub_23, ub_24, ub_25, ub_26, ub_27, ub_31, ub_32, ub_33, ub_34, ub_35, ub_36, ub_50, ub_51, ub_52, ub_53, ub_54, ub_60, ub_61, ub_62, ub_63, ub_65, ub_66, ub_67, ub_68, ub_69, ub_70, ub_74, ub_75, ub_76, ub_77, ub_78, ub_80, ub_81, ub_82, ub_83] at *); omega)
      · exact absurd h (by simp)
    · obtain ⟨y, hy, h2⟩ := Option.bind_eq_some_iff.mp h
      have a := hr _ _ _ _ hy
      have b := ih _ _ _ _ h2
      omega
theorem pBk_cn {rS : Nat → Nat → gU → gTs} {z : Nat} (hr : cgsN rS) {c i : Nat} {q : Nat × Nat × gU} (h : pBk rS K z c i L = some q) : cnt q.2.2 + i ≤ cnt L + q.2.1 := by
  unfold pBk at h
  split at h
  · have b := pBl_cn hr _ _ _ _ _ h
    ((try simp only [cnt_app, cnt_one, cnt_two, ub_3, ub_6, ub_7, ub_12, ub_20, ub_21, ub_22, ub_23, ub_24, ub_25, ub_26, ub_27, ub_31, ub_32, ub_33, ub_34, ub_35, ub_36, ub_50, ub_51, ub_52, ub_53, ub_54, ub_60, ub_61, ub_62, ub_63, ub_65, ub_66, ub_67, ub_68, ub_69, ub_70, ub_74, ub_75, ub_76, ub_77, ub_78, ub_80, ub_81, ub_82, ub_83] at *); omega)
  · exact absurd h (by simp)
theorem pEl_cn {rS : Nat → Nat → gU → gTs} (hr : cgsN rS) {q r : Nat × Nat × gU} (h : pEl rS K q = some r) : cnt r.2.2 + q.2.1 ≤ cnt q.2.2 + r.2.1 := by
  unfold pEl at h
  split at h
  · split at h
    · split at h
      · have b := hr _ _ _ _ h
        ((try simp only [cnt_app, cnt_one, cnt_two, ub_3, ub_6, ub_7, ub_12, ub_20, ub_21, ub_22, ub_23, ub_24, ub_25, ub_26, ub_27, ub_31, ub_32, ub_33, ub_34, ub_35, ub_36, ub_50, ub_51, ub_52, ub_53, ub_54, ub_60, ub_61, ub_62, ub_63, ub_65, ub_66, ub_67, ub_68, ub_69, ub_70, ub_74, ub_75, ub_76, ub_77, ub_78, ub_80, ub_81, ub_82, ub_83] at *); omega)
      · have b := pBk_cn hr h
        ((try simp only [cnt_app, cnt_one, cnt_two, ub_3, ub_6, ub_7, ub_12, ub_20, ub_21, ub_22, ub_23, ub_24, ub_25, ub_26, ub_27, ub_31, ub_32, ub_33, ub_34, ub_35, ub_36, ub_50, ub_51, ub_52, ub_53, ub_54, ub_60, ub_61, ub_62, ub_63, ub_65, ub_66, ub_67, ub_68, ub_69, ub_70, ub_74, ub_75, ub_76, ub_77, ub_78, ub_80, ub_81, ub_82, ub_83] at *); omega)
    · exact absurd h (by simp)
  · cases Option.some.inj h; exact Nat.le_refl _
theorem pup_cn {c k a b : Nat} {r : gOp} {q : Nat × Nat × gU} (h : pup c (k, a, b) r = some q) : ∃ z, r = some z ∧ cnt q.2.2 = cnt z.2 + ubv (k, a, b) ∧ q.2.1 = z.1 := by
  unfold pup at h
  obtain ⟨z, hz, e⟩ := Option.bind_eq_some_iff.mp h
  cases Option.some.inj e
  exact ⟨z, hz, cnt_app, rfl⟩
theorem pS1_cn {f c i : Nat} {q : Nat × Nat × gU} (h : pS1 K f c i L = some q) : cnt q.2.2 + i ≤ cnt L + q.2.1 := by
  unfold pS1 at h
  split at h
  · split at h
    · obtain ⟨z, h, g⟩ := pup_cn h
      obtain ⟨y, hy, h2⟩ := Option.bind_eq_some_iff.mp h
      have a := pR_cn hy
      have b := pt_cn h2
      ((try simp only [cnt_app, cnt_one, cnt_two, ub_3, ub_6, ub_7, ub_12, ub_20, ub_21, ub_22, ub_23, ub_24, ub_25, ub_26, ub_27, ub_31, ub_32, ub_33, ub_34, ub_35, ub_36, ub_50, ub_51, ub_52, ub_53, ub_54, ub_60, ub_61, ub_62, ub_63, ub_65, ub_66, ub_67, ub_68, ub_69, ub_70, ub_74, ub_75, ub_76, ub_77, ub_78, ub_80, ub_81, ub_82, ub_83] at *); omega)
    · exact absurd h (by simp)
  · split at h
    · split at h
      · split at h
        · obtain ⟨z, h, g⟩ := pup_cn h
          obtain ⟨y5, hy5, h5⟩ := Option.bind_eq_some_iff.mp h
          obtain ⟨y4, hy4, h4⟩ := Option.bind_eq_some_iff.mp hy5
          obtain ⟨y3, hy3, h3⟩ := Option.bind_eq_some_iff.mp hy4
          obtain ⟨y2, hy2, h2⟩ := Option.bind_eq_some_iff.mp hy3
          have a1 := pX_cn hy2
          have a2 := pt_cn h2
          have a3 := pt_cn h3
          have a4 := pXq_cn h4
          have a5 := pt_cn h5
          ((try simp only [cnt_app, cnt_one, cnt_two, ub_3, ub_6, ub_7, ub_12, ub_20, ub_21, ub_22, ub_23, ub_24, ub_25, ub_26, ub_27, ub_31, ub_32, ub_33, ub_34, ub_35, ub_36, ub_50, ub_51, ub_52, ub_53, ub_54, ub_60, ub_61, ub_62, ub_63, ub_65, ub_66, ub_67, ub_68, ub_69, ub_70, ub_74, ub_75, ub_76, ub_77, ub_78, ub_80, ub_81, ub_82, ub_83] at *); omega)
        · exact absurd h (by simp)
      · split at h
        · obtain ⟨z, h, g⟩ := pup_cn h
          obtain ⟨y2, hy2, h2⟩ := Option.bind_eq_some_iff.mp h
          have a := pR_cn hy2
          have b := pt_cn h2
          ((try simp only [cnt_app, cnt_one, cnt_two, ub_3, ub_6, ub_7, ub_12, ub_20, ub_21, ub_22, ub_23, ub_24, ub_25, ub_26, ub_27, ub_31, ub_32, ub_33, ub_34, ub_35, ub_36, ub_50, ub_51, ub_52, ub_53, ub_54, ub_60, ub_61, ub_62, ub_63, ub_65, ub_66, ub_67, ub_68, ub_69, ub_70, ub_74, ub_75, ub_76, ub_77, ub_78, ub_80, ub_81, ub_82, ub_83] at *); omega)
        · exact absurd h (by simp)
    · split at h
      · obtain ⟨z, h, g⟩ := pup_cn h
        have b := pt_cn h
        ((try simp only [cnt_app, cnt_one, cnt_two, ub_3, ub_6, ub_7, ub_12, ub_20, ub_21, ub_22, ub_23, ub_24, ub_25, ub_26, ub_27, ub_31, ub_32, ub_33, ub_34, ub_35, ub_36, ub_50, ub_51, ub_52, ub_53, ub_54, ub_60, ub_61, ub_62, ub_63, ub_65, ub_66, ub_67, ub_68, ub_69, ub_70, ub_74, ub_75, ub_76, ub_77, ub_78, ub_80, ub_81, ub_82, ub_83] at *); omega)
      · split at h
        · obtain ⟨z, h, g⟩ := pup_cn h
          obtain ⟨y2, hy2, h2⟩ := Option.bind_eq_some_iff.mp h
          have a := pX_cn hy2
          have b := pt_cn h2
          ((try simp only [cnt_app, cnt_one, cnt_two, ub_3, ub_6, ub_7, ub_12, ub_20, ub_21, ub_22, ub_23, ub_24, ub_25, ub_26, ub_27, ub_31, ub_32, ub_33, ub_34, ub_35, ub_36, ub_50, ub_51, ub_52, ub_53, ub_54, ub_60, ub_61, ub_62, ub_63, ub_65, ub_66, ub_67, ub_68, ub_69, ub_70, ub_74, ub_75, ub_76, ub_77, ub_78, ub_80, ub_81, ub_82, ub_83] at *); omega)
        · split at h
          · split at h
            · obtain ⟨z, h, g⟩ := pup_cn h
              obtain ⟨y2, hy2, h2⟩ := Option.bind_eq_some_iff.mp h
              have a := pX_cn hy2
              have b := pt_cn h2
              ((try simp only [cnt_app, cnt_one, cnt_two, ub_3, ub_6, ub_7, ub_12, ub_20, ub_21, ub_22, ub_23, ub_24, ub_25, ub_26, ub_27, ub_31, ub_32, ub_33, ub_34, ub_35, ub_36, ub_50, ub_51, ub_52, ub_53, ub_54, ub_60, ub_61, ub_62, ub_63, ub_65, ub_66, ub_67, ub_68, ub_69, ub_70, ub_74, ub_75, ub_76, ub_77, ub_78, ub_80, ub_81, ub_82, ub_83] at *); omega)
            · exact absurd h (by simp)
          · split at h
            · split at h
              · obtain ⟨z, h, g⟩ := pup_cn h
                have b := pt_cn h
                ((try simp only [cnt_app, cnt_one, cnt_two, ub_3, ub_6, ub_7, ub_12, ub_20, ub_21, ub_22, ub_23, ub_24, ub_25, ub_26, ub_27, ub_31, ub_32, ub_33, ub_34, ub_35, ub_36, ub_50, ub_51, ub_52, ub_53, ub_54, ub_60, ub_61, ub_62, ub_63, ub_65, ub_66, ub_67, ub_68, ub_69, ub_70, ub_74, ub_75, ub_76, ub_77, ub_78, ub_80, ub_81, ub_82, ub_83] at *); omega)
              · exact absurd h (by simp)
            · split at h
              · split at h
                · obtain ⟨z, h, g⟩ := pup_cn h
                  have b := pt_cn h
                  ((try simp only [cnt_app, cnt_one, cnt_two, ub_3, ub_6, ub_7, ub_12, ub_20, ub_21, ub_22, ub_23, ub_24, ub_25, ub_26, ub_27, ub_31, ub_32, ub_33, ub_34, ub_35, ub_36, ub_50, ub_51, ub_52, ub_53, ub_54, ub_60, ub_61, ub_62, ub_63, ub_65, ub_66, ub_67, ub_68, ub_69, ub_70, ub_74, ub_75, ub_76, ub_77, ub_78, ub_80, ub_81, ub_82, ub_83] at *); omega)
                · exact absurd h (by simp)
              · exact absurd h (by simp)
theorem pfi_cn {q r : Nat × Nat × gU} (h : pfi q = some r) : cnt r.2.2 = cnt q.2.2 ∧ r.2.1 = q.2.1 := by
  unfold pfi at h
  cases Option.some.inj h
  exact ⟨cnt_app, rfl⟩
theorem pS_cn : ∀ f : Nat, cgsN (pS K f) := by
  intro f
  induction f with
  | zero => intro c i L q h; exact absurd h (by simp [pS])
  | succ f ih =>
    intro c i L q h
    rw [pS] at h
    split at h
    · exact absurd h (by simp)
    · split at h
      · obtain ⟨z, hz, h2⟩ := Option.bind_eq_some_iff.mp h
        obtain ⟨x, hx, h4⟩ := Option.bind_eq_some_iff.mp h2
        obtain ⟨y, hy, h3⟩ := Option.bind_eq_some_iff.mp hx
        have a := pX_cn hz
        have b := pBk_cn ih hy
        have c := pEl_cn ih h3
        have d := pfi_cn h4
        ((try simp only [cnt_app, cnt_one, cnt_two, ub_3, ub_6, ub_7, ub_12, ub_20, ub_21, ub_22, ub_23, ub_24, ub_25, ub_26, ub_27, ub_31, ub_32, ub_33, ub_34, ub_35, ub_36, ub_50, ub_51, ub_52, ub_53, ub_54, ub_60, ub_61, ub_62, ub_63, ub_65, ub_66, ub_67, ub_68, ub_69, ub_70, ub_74, ub_75, ub_76, ub_77, ub_78, ub_80, ub_81, ub_82, ub_83] at *); omega)
      · split at h
        · obtain ⟨z, hz, h2⟩ := Option.bind_eq_some_iff.mp h
          have a := pX_cn hz
          have b := pBk_cn ih h2
          ((try simp only [cnt_app, cnt_one, cnt_two, ub_3, ub_6, ub_7, ub_12, ub_20, ub_21, ub_22, ub_23, ub_24, ub_25, ub_26, ub_27, ub_31, ub_32, ub_33, ub_34, ub_35, ub_36, ub_50, ub_51, ub_52, ub_53, ub_54, ub_60, ub_61, ub_62, ub_63, ub_65, ub_66, ub_67, ub_68, ub_69, ub_70, ub_74, ub_75, ub_76, ub_77, ub_78, ub_80, ub_81, ub_82, ub_83] at *); omega)
        · split at h
          · split at h
            · have b := pBk_cn ih h
              ((try simp only [cnt_app, cnt_one, cnt_two, ub_3, ub_6, ub_7, ub_12, ub_20, ub_21, ub_22, ub_23, ub_24, ub_25, ub_26, ub_27, ub_31, ub_32, ub_33, ub_34, ub_35, ub_36, ub_50, ub_51, ub_52, ub_53, ub_54, ub_60, ub_61, ub_62, ub_63, ub_65, ub_66, ub_67, ub_68, ub_69, ub_70, ub_74, ub_75, ub_76, ub_77, ub_78, ub_80, ub_81, ub_82, ub_83] at *); omega)
            · exact absurd h (by simp)
          · exact pS1_cn h
theorem pCv_cn {q r : Nat × gU} (h : pCv K q = some r) : cnt r.2 = cnt q.2 ∧ q.1 ≤ r.1 := by
  unfold pCv at h
  split at h
  · split at h
    · split at h
      · split at h
        · cases Option.some.inj h; exact ⟨cnt_app, by show q.1 ≤ q.1 + 3; omega⟩
        · exact absurd h (by simp)
      · split at h
        · cases Option.some.inj h; exact ⟨cnt_app, by show q.1 ≤ q.1 + 2; omega⟩
        · exact absurd h (by simp)
    · exact absurd h (by simp)
  · cases Option.some.inj h; exact ⟨cnt_app, Nat.le_refl _⟩
theorem pCl_cn {n i t : Nat} {q : Nat × Nat × gU} (h : pCl K V n i t L = some q) : cnt q.2.2 + t ≤ cnt L + q.2.1 := by
  unfold pCl at h
  split at h
  · split at h
    · split at h
      · obtain ⟨z, hz, h2⟩ := Option.bind_eq_some_iff.mp h
        obtain ⟨y, hy, h3⟩ := Option.bind_eq_some_iff.mp hz
        have a := pCv_cn hy
        have b := pt_cn h3
        cases Option.some.inj h2
        ((try simp only [cnt_app, cnt_one, cnt_two, ub_3, ub_6, ub_7, ub_12, ub_20, ub_21, ub_22, ub_23, ub_24, ub_25, ub_26, ub_27, ub_31, ub_32, ub_33, ub_34, ub_35, ub_36, ub_50, ub_51, ub_52, ub_53, ub_54, ub_60, ub_61, ub_62, ub_63, ub_65, ub_66, ub_67, ub_68, ub_69, ub_70, ub_74, ub_75, ub_76, ub_77, ub_78, ub_80, ub_81, ub_82, ub_83] at *); omega)
      · exact absurd h (by simp)
    · obtain ⟨z, hz, h2⟩ := Option.bind_eq_some_iff.mp h
      obtain ⟨y, hy, h3⟩ := Option.bind_eq_some_iff.mp hz
      have a := pCv_cn hy
      have b := pt_cn h3
      cases Option.some.inj h2
      ((try simp only [cnt_app, cnt_one, cnt_two, ub_3, ub_6, ub_7, ub_12, ub_20, ub_21, ub_22, ub_23, ub_24, ub_25, ub_26, ub_27, ub_31, ub_32, ub_33, ub_34, ub_35, ub_36, ub_50, ub_51, ub_52, ub_53, ub_54, ub_60, ub_61, ub_62, ub_63, ub_65, ub_66, ub_67, ub_68, ub_69, ub_70, ub_74, ub_75, ub_76, ub_77, ub_78, ub_80, ub_81, ub_82, ub_83] at *); omega)
  · exact absurd h (by simp)
theorem pD_cn {n : gN} {i : Nat} {q : gN × Nat × gU} (h : pD K V n i L = some q) : cnt q.2.2 + i ≤ cnt L + q.2.1 := by
  unfold pD at h
  split at h
  · split at h
    · obtain ⟨z, hz, h2⟩ := Option.bind_eq_some_iff.mp h
      have a := pCl_cn hz
      cases Option.some.inj h2
      ((try simp only [cnt_app, cnt_one, cnt_two, ub_3, ub_6, ub_7, ub_12, ub_20, ub_21, ub_22, ub_23, ub_24, ub_25, ub_26, ub_27, ub_31, ub_32, ub_33, ub_34, ub_35, ub_36, ub_50, ub_51, ub_52, ub_53, ub_54, ub_60, ub_61, ub_62, ub_63, ub_65, ub_66, ub_67, ub_68, ub_69, ub_70, ub_74, ub_75, ub_76, ub_77, ub_78, ub_80, ub_81, ub_82, ub_83] at *); omega)
    · exact absurd h (by simp)
  · split at h
    · obtain ⟨z, hz, h2⟩ := Option.bind_eq_some_iff.mp h
      have a := pCl_cn hz
      cases Option.some.inj h2
      ((try simp only [cnt_app, cnt_one, cnt_two, ub_3, ub_6, ub_7, ub_12, ub_20, ub_21, ub_22, ub_23, ub_24, ub_25, ub_26, ub_27, ub_31, ub_32, ub_33, ub_34, ub_35, ub_36, ub_50, ub_51, ub_52, ub_53, ub_54, ub_60, ub_61, ub_62, ub_63, ub_65, ub_66, ub_67, ub_68, ub_69, ub_70, ub_74, ub_75, ub_76, ub_77, ub_78, ub_80, ub_81, ub_82, ub_83] at *); omega)
    · split at h
      · split at h
        · cases Option.some.inj h; ((try simp only [cnt_app, cnt_one, cnt_two, ub_3, ub_6, ub_7, ub_12, ub_20, ub_21, ub_22, ub_23, ub_24, ub_25, ub_26, ub_27, ub_31, ub_32, ub_33, ub_34, ub_35, ub_36, ub_50, ub_51, ub_52, ub_53, ub_54, ub_60, ub_61, ub_62, ub_63, ub_65, ub_66, ub_67, ub_68, ub_69, ub_70, ub_74, ub_75, ub_76, ub_77, ub_78, ub_80, ub_81, ub_82, ub_83] at *); omega)
        · exact absurd h (by simp)
      · split at h
        · split at h
          · obtain ⟨z, hz, h2⟩ := Option.bind_eq_some_iff.mp h
            have a := pBk_cn (pS_cn 16) hz
            cases Option.some.inj h2
            ((try simp only [cnt_app, cnt_one, cnt_two, ub_3, ub_6, ub_7, ub_12, ub_20, ub_21, ub_22, ub_23, ub_24, ub_25, ub_26, ub_27, ub_31, ub_32, ub_33, ub_34, ub_35, ub_36, ub_50, ub_51, ub_52, ub_53, ub_54, ub_60, ub_61, ub_62, ub_63, ub_65, ub_66, ub_67, ub_68, ub_69, ub_70, ub_74, ub_75, ub_76, ub_77, ub_78, ub_80, ub_81, ub_82, ub_83] at *); omega)
          · exact absurd h (by simp)
        · split at h
          · split at h
            · obtain ⟨z, hz, h2⟩ := Option.bind_eq_some_iff.mp h
              have a := pBk_cn (pS_cn 16) hz
              cases Option.some.inj h2
              ((try simp only [cnt_app, cnt_one, cnt_two, ub_3, ub_6, ub_7, ub_12, ub_20, ub_21, ub_22, ub_23, ub_24, ub_25, ub_26, ub_27, ub_31, ub_32, ub_33, ub_34, ub_35, ub_36, ub_50, ub_51, ub_52, ub_53, ub_54, ub_60, ub_61, ub_62, ub_63, ub_65, ub_66, ub_67, ub_68, ub_69, ub_70, ub_74, ub_75, ub_76, ub_77, ub_78, ub_80, ub_81, ub_82, ub_83] at *); omega)
            · exact absurd h (by simp)
          · split at h
            · split at h
              · obtain ⟨z, hz, h2⟩ := Option.bind_eq_some_iff.mp h
                obtain ⟨y, hy, h3⟩ := Option.bind_eq_some_iff.mp hz
                have a := pX_cn hy
                have b := pt_cn h3
                cases Option.some.inj h2
                ((try simp only [cnt_app, cnt_one, cnt_two, ub_3, ub_6, ub_7, ub_12, ub_20, ub_21, ub_22, ub_23, ub_24, ub_25, ub_26, ub_27, ub_31, ub_32, ub_33, ub_34, ub_35, ub_36, ub_50, ub_51, ub_52, ub_53, ub_54, ub_60, ub_61, ub_62, ub_63, ub_65, ub_66, ub_67, ub_68, ub_69, ub_70, ub_74, ub_75, ub_76, ub_77, ub_78, ub_80, ub_81, ub_82, ub_83] at *); omega)
              · exact absurd h (by simp)
            · split at h
              · split at h
                · obtain ⟨z, hz, h2⟩ := Option.bind_eq_some_iff.mp h
                  obtain ⟨y, hy, h3⟩ := Option.bind_eq_some_iff.mp hz
                  have a := pX_cn hy
                  have b := pt_cn h3
                  cases Option.some.inj h2
                  ((try simp only [cnt_app, cnt_one, cnt_two, ub_3, ub_6, ub_7, ub_12, ub_20, ub_21, ub_22, ub_23, ub_24, ub_25, ub_26, ub_27, ub_31, ub_32, ub_33, ub_34, ub_35, ub_36, ub_50, ub_51, ub_52, ub_53, ub_54, ub_60, ub_61, ub_62, ub_63, ub_65, ub_66, ub_67, ub_68, ub_69, ub_70, ub_74, ub_75, ub_76, ub_77, ub_78, ub_80, ub_81, ub_82, ub_83] at *); omega)
                · exact absurd h (by simp)
              · exact absurd h (by simp)
theorem pAl_cn : ∀ (m : Nat) (n : gN) (i : Nat) (L : gU) (q : gN × Nat × gU), pAl K V m n i L = some q → cnt q.2.2 + i ≤ cnt L + q.2.1 := by
  intro m
  induction m with
  | zero => intro n i L q h; exact absurd h (by simp [pAl])
  | succ m ih =>
    intro n i L q h
    rw [pAl] at h
    split at h
    · cases Option.some.inj h; exact Nat.le_refl _
    · obtain ⟨z, hz, h2⟩ := Option.bind_eq_some_iff.mp h
      have a := pD_cn hz
      have b := ih _ _ _ _ h2
      omega
/-- so all parts have room -/
theorem tPs_800 {n : gN} {j : Nat} {E : gV} (h : pAl K V 701 (0, 0, 0, 0, 0) 0 [] = some (n, j, L)) : (tPs sN V K L E).length ≤ j := by
  have a := pAl_cn _ _ _ _ _ h
  have b : (tPs sN V K L E).length ≤ cnt L := tPs_cnt
  have a : cnt L + 0 ≤ 0 + j := a
  omega
end CNTL
end
section
/-! the code of a text, by the grammar: what its sums and steps are like -/
/-- a sum's events -/
def sVv (K : Nat → Int32) (v : Nat × Nat × Nat) : Prop := (v.1 = 50 → K v.2.1 = 29 ∨ K v.2.1 = 58) ∧ (v.1 = 51 → ¬ pst (K v.2.1) = 0) ∧ (v.1 = 52 → K v.2.1 = 2) ∧ (v.1 = 3 ∨ v.1 = 6 ∨ v.1 = 7 → K v.2.1 = 1) ∧ (v.1 = 12 → K v.2.1 = 2 ∧ K v.2.2 = 1)
/-- how high the values stand: h before the events, 1 behind them, never above 40 -/
def okE : gU → Nat → Prop
  | [], h => h = 1
  | v :: N, h => if v.1 = 7 then okE N h else if v.1 = 50 then 1 ≤ h ∧ okE N h else if v.1 = 51 then 2 ≤ h ∧ okE N (h - 1) else h < 40 ∧ okE N (h + 1)
/-- a cell of a row is told by two events, the one behind the other -/
def ajE (N : gU) : Prop := ∀ (f g : Nat × Nat × Nat → Option (Int32 × Int32)), (∀ v ∈ N, ¬ v.1 = 7 → ¬ v.1 = 12 → f v = g v) → (∀ i, (7, i, 0) ∈ N → (12, i + 2, i) ∈ N → f (7, i, 0) = g (12, i + 2, i)) → (∀ i j, f (12, i, j) = none) → (∀ i j, g (7, i, j) = none) → N.filterMap f = N.filterMap g
def sW (K : Nat → Int32) (d : Nat) (N : gU) : Prop := (∀ v ∈ N, sVv K v) ∧ (∀ R h, h + d ≤ 40 → okE R (h + 1) → okE (N ++ R) h) ∧ ajE N
section SWL
variable {K V : Nat → Int32} {sN : Nat → Nat → Bool} {T : gTd} {L M N R : gU} {d e i j f : Nat} {v : Nat × Nat × Nat} {o : Bool} {E : gV}
theorem ajE_app (a : ajE N) (b : ajE M) : ajE (N ++ M) := fun f g h1 h2 h3 h4 => by
  rw [List.filterMap_append, List.filterMap_append, a f g (fun v hv => h1 v (List.mem_append_left _ hv)) (fun i a1 a2 => h2 i (List.mem_append_left _ a1) (List.mem_append_left _ a2)) h3 h4, b f g (fun v hv => h1 v (List.mem_append_right _ hv)) (fun i a1 a2 => h2 i (List.mem_append_right _ a1) (List.mem_append_right _ a2)) h3 h4]
theorem ajE_one (h : ¬ v.1 = 7 ∧ ¬ v.1 = 12) : ajE [v] := fun f g h1 _ _ _ => by
  simp only [List.filterMap_cons, List.filterMap_nil, h1 v List.mem_cons_self h.1 h.2]
theorem ajE_row : ajE [(7, i, 0), (12, i + 2, i)] := fun f g h1 h2 h3 h4 => by
  have e := h2 i List.mem_cons_self (List.mem_cons_of_mem _ List.mem_cons_self)
  simp only [List.filterMap_cons, List.filterMap_nil, e, h3, h4]
theorem sVv_50 (k : K i = 29 ∨ K i = 58) : sVv K (50, i, j) := ⟨fun _ => k, fun c => absurd c (show ¬ 50 = 51 by decide), fun c => absurd c (show ¬ 50 = 52 by decide), fun c => absurd c (show ¬ (50 = 3 ∨ 50 = 6 ∨ 50 = 7) by decide), fun c => absurd c (show ¬ 50 = 12 by decide)⟩
theorem sVv_51 (k : ¬ pst (K i) = 0) : sVv K (51, i, j) := ⟨fun c => absurd c (show ¬ 51 = 50 by decide), fun _ => k, fun c => absurd c (show ¬ 51 = 52 by decide), fun c => absurd c (show ¬ (51 = 3 ∨ 51 = 6 ∨ 51 = 7) by decide), fun c => absurd c (show ¬ 51 = 12 by decide)⟩
theorem sVv_52 (k : K i = 2) : sVv K (52, i, j) := ⟨fun c => absurd c (show ¬ 52 = 50 by decide), fun c => absurd c (show ¬ 52 = 51 by decide), fun _ => k, fun c => absurd c (show ¬ (52 = 3 ∨ 52 = 6 ∨ 52 = 7) by decide), fun c => absurd c (show ¬ 52 = 12 by decide)⟩
theorem sVv_53 : sVv K (53, i, j) := ⟨fun c => absurd c (show ¬ 53 = 50 by decide), fun c => absurd c (show ¬ 53 = 51 by decide), fun c => absurd c (show ¬ 53 = 52 by decide), fun c => absurd c (show ¬ (53 = 3 ∨ 53 = 6 ∨ 53 = 7) by decide), fun c => absurd c (show ¬ 53 = 12 by decide)⟩
theorem sVv_nm {k : Nat} (hk : k = 3 ∨ k = 6 ∨ k = 7) (k1 : K i = 1) : sVv K (k, i, j) := by
  have c0 : ¬ k = 50 := by omega
  have c1 : ¬ k = 51 := by omega
  have c2 : ¬ k = 52 := by omega
  have c3 : ¬ k = 12 := by omega
  exact ⟨fun c => absurd c c0, fun c => absurd c c1, fun c => absurd c c2, fun _ => k1, fun c => absurd c c3⟩
theorem sVv_12 (k2 : K i = 2) (k1 : K j = 1) : sVv K (12, i, j) := ⟨fun c => absurd c (show ¬ 12 = 50 by decide), fun c => absurd c (show ¬ 12 = 51 by decide), fun c => absurd c (show ¬ 12 = 52 by decide), fun c => absurd c (show ¬ (12 = 3 ∨ 12 = 6 ∨ 12 = 7) by decide), fun _ => ⟨k2, k1⟩⟩
theorem sW_up (h : sW K d N) (hd : d ≤ e) : sW K e N := ⟨h.1, fun R h' hh hR => h.2.1 R h' (by omega) hR, h.2.2⟩
theorem sW_leaf (hv : sVv K v) (h : ¬ v.1 = 7 ∧ ¬ v.1 = 12 ∧ ¬ v.1 = 50 ∧ ¬ v.1 = 51) (hd : 1 ≤ d) : sW K d [v] := ⟨fun w hw => by rw [List.mem_singleton.mp hw]; exact hv, fun R h' hh hR => by
  show okE (v :: R) h'
  rw [okE, if_neg h.1, if_neg h.2.2.1, if_neg h.2.2.2]
  exact ⟨by omega, hR⟩, ajE_one ⟨h.1, h.2.1⟩⟩
theorem sW_row (k1 : K i = 1) (k2 : K (i + 2) = 2) (hd : 1 ≤ d) : sW K d [(7, i, 0), (12, i + 2, i)] := ⟨fun w hw => by
  rcases List.mem_cons.mp hw with e | hw
  · rw [e]; exact sVv_nm (Or.inr (Or.inr rfl)) k1
  · rw [List.mem_singleton.mp hw]; exact sVv_12 k2 k1, fun R h' hh hR => by
  show okE ((7, i, 0) :: (12, i + 2, i) :: R) h'
  rw [okE, if_pos rfl, okE, if_neg (show ¬ 12 = 7 by decide), if_neg (show ¬ 12 = 50 by decide), if_neg (show ¬ 12 = 51 by decide)]
  exact ⟨by omega, hR⟩, ajE_row⟩
theorem sW_un (a : sW K d N) (k : K i = 29 ∨ K i = 58) : sW K d (N ++ [(50, i, 0)]) := ⟨fun w hw => (List.mem_append.mp hw).elim (a.1 w) (fun hw => by rw [List.mem_singleton.mp hw]; exact sVv_50 k), fun R h' hh hR => by
  rw [List.append_assoc]
  refine a.2.1 _ h' hh ?_
  show okE ((50, i, 0) :: R) (h' + 1)
  rw [okE, if_neg (show ¬ 50 = 7 by decide), if_pos rfl]
  exact ⟨by omega, hR⟩, ajE_app a.2.2 (ajE_one ⟨show ¬ 50 = 7 by decide, show ¬ 50 = 12 by decide⟩)⟩
theorem sW_bin (a : sW K d N) (b : sW K e M) (he : e < d) (k : ¬ pst (K j) = 0) : sW K d (N ++ M ++ [(51, j, 0)]) := ⟨fun w hw => (List.mem_append.mp hw).elim (fun hw => (List.mem_append.mp hw).elim (a.1 w) (b.1 w)) (fun hw => by rw [List.mem_singleton.mp hw]; exact sVv_51 k), fun R h' hh hR => by
  rw [List.append_assoc, List.append_assoc]
  refine a.2.1 _ h' hh (b.2.1 _ (h' + 1) (by omega) ?_)
  show okE ((51, j, 0) :: R) (h' + 1 + 1)
  rw [okE, if_neg (show ¬ 51 = 7 by decide), if_neg (show ¬ 51 = 50 by decide), if_pos rfl, Nat.add_sub_cancel]
  exact ⟨by omega, hR⟩, ajE_app (ajE_app a.2.2 b.2.2) (ajE_one ⟨show ¬ 51 = 7 by decide, show ¬ 51 = 12 by decide⟩)⟩
abbrev swo (K : Nat → Int32) (o : Bool) (d : Nat) (rE : Nat → Nat → gU → gOp) : Prop := ∀ s i L q, rE s i L = some q → ∃ N, q.2 = L ++ N ∧ sEv o N ∧ sW K d N
theorem pW_sW {rE : Nat → Nat → gU → gOp} {th : Nat} (hr : swo K o f rE) : ∀ (n j : Nat) (L N : gU) (q : Nat × gU), sEv o N → sW K (f + 1) N → pW rE K th n j (L ++ N) = some q → ∃ N', q.2 = L ++ N' ∧ sEv o N' ∧ sW K (f + 1) N' := by
  intro n
  induction n with
  | zero => intro j L N q _ _ h; exact absurd h (by simp [pW])
  | succ n ih =>
    intro j L N q hs hN h
    rw [pW] at h
    split at h
    · next c =>
      split at h
      · obtain ⟨z, hz, h2⟩ := Option.bind_eq_some_iff.mp h
        have h2 : pW rE K th n z.1 (z.2 ++ [(51, j, 0)]) = some q := h2
        obtain ⟨M, eM, sM, wM⟩ := hr _ _ _ _ hz
        have e : z.2 ++ [(51, j, 0)] = L ++ (N ++ M ++ [(51, j, 0)]) := by rw [eM]; simp only [List.append_assoc]
        rw [e] at h2
        exact ih _ _ _ _ (sEv_app (sEv_app hs sM) (sEv_one (Or.inr (Or.inl rfl)))) (sW_bin hN wM (Nat.lt_succ_self _) (by omega)) h2
      · exact absurd h (by simp)
    · cases Option.some.inj h; exact ⟨N, rfl, hs, hN⟩
theorem pO_sW {rE : Nat → Nat → gU → gOp} (hr : swo K o f rE) {q : Nat × gU} (h : pO rE K o i L = some q) : ∃ N, q.2 = L ++ N ∧ sEv o N ∧ sW K (f + 1) N := by
  have h1 : 1 ≤ f + 1 := Nat.succ_le_succ (Nat.zero_le _)
  unfold pO at h
  split at h
  · exact absurd h (by simp)
  · split at h
    · next k => cases Option.some.inj h; exact ⟨_, rfl, sEv_one (Or.inr (Or.inr (Or.inl rfl))), sW_leaf (sVv_52 k) ⟨show ¬ 52 = 7 by decide, show ¬ 52 = 12 by decide, show ¬ 52 = 50 by decide, show ¬ 52 = 51 by decide⟩ h1⟩
    · split at h
      · cases Option.some.inj h; exact ⟨_, rfl, sEv_one (Or.inr (Or.inr (Or.inr (Or.inl rfl)))), sW_leaf sVv_53 ⟨show ¬ 53 = 7 by decide, show ¬ 53 = 12 by decide, show ¬ 53 = 50 by decide, show ¬ 53 = 51 by decide⟩ h1⟩
      · split at h
        · obtain ⟨z, hz, h2⟩ := Option.bind_eq_some_iff.mp h
          obtain ⟨N, eN, sN', wN⟩ := hr _ _ _ _ hz
          obtain ⟨-, -, e2⟩ := pt_is h2
          rw [e2]
          exact ⟨N, eN, sN', sW_up wN (Nat.le_succ _)⟩
        · split at h
          · next k1 =>
            split at h
            · next ho =>
              split at h
              · split at h
                · next c =>
                  cases Option.some.inj h
                  exact ⟨_, rfl, sEv_app (N := [_]) (M := [_]) (sEv_one (Or.inr (Or.inr (Or.inr (Or.inr (Or.inr ⟨ho, Or.inr (Or.inl rfl)⟩)))))) (sEv_one (Or.inr (Or.inr (Or.inr (Or.inr (Or.inr ⟨ho, Or.inr (Or.inr rfl)⟩)))))), sW_row k1 c.2.1.1 h1⟩
                · exact absurd h (by simp)
              · cases Option.some.inj h; exact ⟨_, rfl, sEv_one (Or.inr (Or.inr (Or.inr (Or.inr (Or.inr ⟨ho, Or.inl rfl⟩))))), sW_leaf (sVv_nm (Or.inr (Or.inl rfl)) k1) ⟨show ¬ 6 = 7 by decide, show ¬ 6 = 12 by decide, show ¬ 6 = 50 by decide, show ¬ 6 = 51 by decide⟩ h1⟩
            · next ho =>
              cases Option.some.inj h
              exact ⟨_, rfl, sEv_one (Or.inr (Or.inr (Or.inr (Or.inr (Or.inl ⟨by cases o with | false => rfl | true => exact absurd rfl ho, rfl⟩))))), sW_leaf (sVv_nm (Or.inl rfl) k1) ⟨show ¬ 3 = 7 by decide, show ¬ 3 = 12 by decide, show ¬ 3 = 50 by decide, show ¬ 3 = 51 by decide⟩ h1⟩
          · exact absurd h (by simp)
theorem pE_sW : ∀ f : Nat, swo K o f (pE K o f) := by
  intro f
  induction f with
  | zero => intro s i L q h; exact absurd h (by simp [pE])
  | succ f ih =>
    intro s i L q h
    rw [pE] at h
    split at h
    · obtain ⟨z, hz, h2⟩ := Option.bind_eq_some_iff.mp h
      have a : ∃ N, z.2 = L ++ N ∧ sEv o N ∧ sW K (f + 1) N := by
        split at hz
        · next k =>
          split at hz
          · obtain ⟨y, hy, h3⟩ := Option.bind_eq_some_iff.mp hz
            obtain ⟨N, eN, sN', wN⟩ := ih _ _ _ _ hy
            cases Option.some.inj h3
            exact ⟨N ++ [(50, i, 0)], by show y.2 ++ [(50, i, 0)] = _; rw [eN, List.append_assoc], sEv_app sN' (sEv_one (Or.inl rfl)), sW_up (sW_un wN k) (Nat.le_succ _)⟩
          · exact absurd hz (by simp)
        · exact pO_sW ih hz
      obtain ⟨N, eN, sN', wN⟩ := a
      have h2 : pW (pE K o f) K s 701 z.1 z.2 = some q := h2
      rw [eN] at h2
      exact pW_sW ih _ _ _ _ _ sN' wN h2
    · exact absurd h (by simp)
theorem pX_sW {q : Nat × gU} (h : pX K o f i L = some q) : ∃ N, q.2 = L ++ (N ++ [(54, 0, 0)]) ∧ sEv o N ∧ sW K f N := by
  obtain ⟨z, hz, h2⟩ := Option.bind_eq_some_iff.mp h
  obtain ⟨N, eN, hs, hw⟩ := pE_sW f _ _ _ _ hz
  unfold pan at h2
  cases Option.some.inj h2
  exact ⟨N, by show z.2 ++ [(54, 0, 0)] = _; rw [eN, List.append_assoc], hs, hw⟩
theorem sW_ok (h : sW K d N) (hd : d ≤ 40) : okE N 0 := by
  have a := h.2.1 [] 0 (by omega) rfl
  rw [List.append_nil] at a
  exact a
theorem flt_mem : ∀ {N : gU}, still N → ∀ {v : Nat × Nat × Nat}, v ∈ N → fv sN T V E v → flt sN T V N E := by
  intro N
  induction N with
  | nil => intro _ v hv _; cases hv
  | cons w N ih =>
    intro hs v hv hf
    rcases List.mem_cons.mp hv with e | hv
    · rw [e] at hf; exact Or.inl hf
    · refine Or.inr ?_
      rw [exV_still (hs w List.mem_cons_self)]
      exact ih (fun u hu => hs u (List.mem_cons_of_mem _ hu)) hv hf
theorem sEv_st (h : sEv o N) : still N := fun v hv => by
  have := h v hv
  refine ⟨by omega, by omega, by omega⟩
/-- a sum of a thread: well formed, its names known -/
def sOo (sN : Nat → Nat → Bool) (K : Nat → Int32) (E : gV) (o : Option gU) : Prop := ∀ N, o = some N → sEv false N ∧ (∀ v ∈ N, sVv K v) ∧ okE N 0 ∧ ∀ v ∈ N, v.1 = 3 → ∃ p, kfi sN E.1 v.2.1 = some p
theorem sOo_no : sOo sN K E none := fun N h => by cases h
theorem sOo_so (hs : sEv false N) (hw : sW K d N) (hd : d ≤ 40) (nf : ¬ flt sN T V N E) : sOo sN K E (some N) := fun M hM => by
  cases Option.some.inj hM
  refine ⟨hs, hw.1, sW_ok hw hd, fun v hv h3 => ?_⟩
  cases c : kfi sN E.1 v.2.1 with
  | some p => exact ⟨p, rfl⟩
  | none => exact absurd (flt_mem (sEv_st hs) hv (Or.inl ⟨h3, c⟩)) nf
theorem sOo_one (k : K i = 1) (hk : ¬ kfi sN E.1 i = none) : sOo sN K E (some [(3, i, 0)]) := fun M hM => by
  cases Option.some.inj hM
  refine ⟨sEv_one (Or.inr (Or.inr (Or.inr (Or.inr (Or.inl ⟨rfl, rfl⟩))))), fun v hv => by rw [List.mem_singleton.mp hv]; exact sVv_nm (Or.inl rfl) k, ?_, fun v hv _ => ?_⟩
  · rw [okE, if_neg (show ¬ 3 = 7 by decide), if_neg (show ¬ 3 = 50 by decide), if_neg (show ¬ 3 = 51 by decide)]
    exact ⟨by decide, rfl⟩
  · rw [List.mem_singleton.mp hv]
    cases c : kfi sN E.1 i with
    | some p => exact ⟨p, rfl⟩
    | none => exact absurd c hk
end SWL
/-- one step, where E is known -/
def pOk (E : gV) (p : Nat) : Prop := p < E.1.length ∨ (p = E.1.length ∧ E.2.2 < 8)
/-- what belongs where: the second sum, the first, the target -/
def nxL (st : gSt) : Prop := (¬ st.1 = 4 → st.2.2.2.2.2.2.2.2 = none) ∧ (¬ ((1 ≤ st.1 ∧ st.1 ≤ 4) ∨ st.1 = 13 ∨ st.1 = 14 ∨ (16 ≤ st.1 ∧ st.1 ≤ 18)) → st.2.2.2.2.2.2.2.1 = none) ∧ (¬ (st.1 = 0 ∨ (2 ≤ st.1 ∧ st.1 ≤ 4) ∨ st.1 = 16 ∨ st.1 = 17 ∨ st.1 = 20) → st.2.2.2.1 = none)
theorem nxL_of {op tk : Nat} {kn : gK × Nat} {to tn : Option Nat} {fl : Bool} {ix e1 e2 : Option gU} (a : ¬ op = 4 → e2 = none) (b : ¬ ((1 ≤ op ∧ op ≤ 4) ∨ op = 13 ∨ op = 14 ∨ (16 ≤ op ∧ op ≤ 18)) → e1 = none) (c : ¬ (op = 0 ∨ (2 ≤ op ∧ op ≤ 4) ∨ op = 16 ∨ op = 17 ∨ op = 20) → to = none) : nxL (op, tk, kn, to, tn, fl, ix, e1, e2) := ⟨a, b, c⟩
def stLk (sN : Nat → Nat → Bool) (K : Nat → Int32) (E : gV) (st : gSt) : Prop :=
  st.2.2.1 = knw E ∧ (st.1 < 22 ∧ ¬ st.1 = 15) ∧
  ((st.1 = 0 ∨ (2 ≤ st.1 ∧ st.1 ≤ 4) ∨ st.1 = 16) → ∃ p, st.2.2.2.1 = some p ∧ pOk E p) ∧
  (st.1 ≤ 10 → ∃ t, st.2.2.2.2.1 = some t ∧ K t = 1) ∧ (st.1 = 13 → ∃ t, st.2.2.2.2.1 = some t ∧ K t = 2) ∧ (10 < st.1 → ¬ st.1 = 13 → st.2.2.2.2.1 = none) ∧
  (st.1 ≤ 4 → (st.2.2.2.2.2.1 = true ↔ ¬ st.2.2.2.2.2.2.1 = none)) ∧ (5 ≤ st.1 → st.2.2.2.2.2.2.1 = none) ∧
  ((1 ≤ st.1 ∧ st.1 ≤ 4) ∨ st.1 = 13 ∨ st.1 = 14 ∨ (16 ≤ st.1 ∧ st.1 ≤ 18) → ¬ st.2.2.2.2.2.2.2.1 = none) ∧
  (st.1 = 4 → ¬ st.2.2.2.2.2.2.2.2 = none) ∧
  sOo sN K E st.2.2.2.2.2.2.1 ∧ sOo sN K E st.2.2.2.2.2.2.2.1 ∧ sOo sN K E st.2.2.2.2.2.2.2.2 ∧ (19 ≤ st.1 → st.2.2.2.2.2.2.2.1 = none) ∧ nxL st
section STL
variable {K V : Nat → Int32} {sN : Nat → Nat → Bool} {E : gV} {op tk t p : Nat} {to : Option Nat} {fl : Bool} {ix e1 e2 : Option gU} {N : gU}
theorem stLk_x (ho : op ≤ 4) (hp : op = 1 ∨ ∃ p, to = some p ∧ pOk E p) (hk : K t = 1) (hr : fl = true ↔ ¬ ix = none) (h1 : ¬ op = 0 → ¬ e1 = none) (h2 : op = 4 → ¬ e2 = none) (s0 : sOo sN K E ix) (s1 : sOo sN K E e1) (s2 : sOo sN K E e2) (hz : op = 1 → to = none) (hy : op = 0 → e1 = none) (hw : ¬ op = 4 → e2 = none) : stLk sN K E (op, tk, knw E, to, some t, fl, ix, e1, e2) := by
  refine ⟨rfl, ⟨by show op < 22; omega, by show ¬ op = 15; omega⟩, fun c => ?_, fun _ => ⟨t, rfl, hk⟩, fun c => absurd c (by show ¬ op = 13; omega), fun c => absurd c (by show ¬ 10 < op; omega), fun _ => hr, fun c => absurd c (by show ¬ 5 ≤ op; omega), fun c => h1 ?_, h2, s0, s1, s2, fun c => absurd c (by show ¬ 19 ≤ op; omega), nxL_of hw (fun c => hy (by omega)) (fun c => hz (by omega))⟩
  · have c : op = 0 ∨ (2 ≤ op ∧ op ≤ 4) ∨ op = 16 := c
    exact hp.elim (fun z => absurd c (by omega)) id
  · have c : (1 ≤ op ∧ op ≤ 4) ∨ op = 13 ∨ op = 14 ∨ (16 ≤ op ∧ op ≤ 18) := c
    omega
theorem stLk_16 (hp : pOk E p) (s1 : sOo sN K E (some N)) : stLk sN K E (16, tk, knw E, some p, none, false, none, some N, none) := ⟨rfl, ⟨show 16 < 22 by decide, show ¬ 16 = 15 by decide⟩, fun _ => ⟨p, rfl, hp⟩, fun c => absurd c (show ¬ 16 ≤ 10 by decide), fun c => absurd c (show ¬ 16 = 13 by decide), fun _ _ => rfl, fun c => absurd c (show ¬ 16 ≤ 4 by decide), fun _ => rfl, fun _ => Option.some_ne_none _, fun c => absurd c (show ¬ 16 = 4 by decide), sOo_no, s1, sOo_no, fun c => absurd c (show ¬ 19 ≤ 16 by decide), nxL_of (fun _ => rfl) (fun c => absurd (by decide) c) (fun c => absurd (by decide) c)⟩
theorem stLk_p (h : op = 11 ∨ op = 12 ∨ op = 19 ∨ op = 20 ∨ op = 21) (hz : ¬ op = 20 → to = none) : stLk sN K E (op, tk, knw E, to, none, false, none, none, none) := by
  refine ⟨rfl, ⟨by show op < 22; omega, by show ¬ op = 15; omega⟩, fun c => ?_, fun c => absurd c (by show ¬ op ≤ 10; omega), fun c => absurd c (by show ¬ op = 13; omega), fun _ _ => rfl, fun c => absurd c (by show ¬ op ≤ 4; omega), fun _ => rfl, fun c => ?_, fun c => absurd c (by show ¬ op = 4; omega), sOo_no, sOo_no, sOo_no, fun _ => rfl, nxL_of (fun _ => rfl) (fun _ => rfl) (fun c => hz (by omega))⟩
  · have c : op = 0 ∨ (2 ≤ op ∧ op ≤ 4) ∨ op = 16 := c
    omega
  · have c : (1 ≤ op ∧ op ≤ 4) ∨ op = 13 ∨ op = 14 ∨ (16 ≤ op ∧ op ≤ 18) := c
    omega
theorem stLk_w (h : 5 ≤ op ∧ op ≤ 10) (hk : K t = 1) : stLk sN K E (op, tk, knw E, none, some t, fl, none, none, none) := by
  refine ⟨rfl, ⟨by show op < 22; omega, by show ¬ op = 15; omega⟩, fun c => ?_, fun _ => ⟨t, rfl, hk⟩, fun c => absurd c (by show ¬ op = 13; omega), fun c => absurd c (by show ¬ 10 < op; omega), fun c => absurd c (by show ¬ op ≤ 4; omega), fun _ => rfl, fun c => ?_, fun c => absurd c (by show ¬ op = 4; omega), sOo_no, sOo_no, sOo_no, fun _ => rfl, nxL_of (fun _ => rfl) (fun _ => rfl) (fun _ => rfl)⟩
  · have c : op = 0 ∨ (2 ≤ op ∧ op ≤ 4) ∨ op = 16 := c
    omega
  · have c : (1 ≤ op ∧ op ≤ 4) ∨ op = 13 ∨ op = 14 ∨ (16 ≤ op ∧ op ≤ 18) := c
    omega
theorem stLk_s (h : op = 14 ∨ op = 17 ∨ op = 18) (s1 : sOo sN K E (some N)) : stLk sN K E (op, tk, knw E, none, none, false, none, some N, none) := by
  refine ⟨rfl, ⟨by show op < 22; omega, by show ¬ op = 15; omega⟩, fun c => ?_, fun c => absurd c (by show ¬ op ≤ 10; omega), fun c => absurd c (by show ¬ op = 13; omega), fun _ _ => rfl, fun c => absurd c (by show ¬ op ≤ 4; omega), fun _ => rfl, fun _ => Option.some_ne_none _, fun c => absurd c (by show ¬ op = 4; omega), sOo_no, s1, sOo_no, fun c => absurd c (by show ¬ 19 ≤ op; omega), nxL_of (fun _ => rfl) (fun c => absurd (by omega) c) (fun _ => rfl)⟩
  have c : op = 0 ∨ (2 ≤ op ∧ op ≤ 4) ∨ op = 16 := c
  omega
theorem stLk_13 (hk : K t = 2) (s1 : sOo sN K E (some N)) : stLk sN K E (13, tk, knw E, none, some t, false, none, some N, none) := ⟨rfl, ⟨show 13 < 22 by decide, show ¬ 13 = 15 by decide⟩, fun c => absurd c (show ¬ (13 = 0 ∨ (2 ≤ 13 ∧ 13 ≤ 4) ∨ 13 = 16) by decide), fun c => absurd c (show ¬ 13 ≤ 10 by decide), fun _ => ⟨t, rfl, hk⟩, fun _ c => absurd rfl c, fun c => absurd c (show ¬ 13 ≤ 4 by decide), fun _ => rfl, fun _ => Option.some_ne_none _, fun c => absurd c (show ¬ 13 = 4 by decide), sOo_no, s1, sOo_no, fun c => absurd c (show ¬ 19 ≤ 13 by decide), nxL_of (fun _ => rfl) (fun c => absurd (by decide) c) (fun _ => rfl)⟩
/-- a step whose target is set -/
theorem stLk_to {st : gSt} {n : Nat} (h : stLk sN K E st) (ho : st.1 = 17 ∨ st.1 = 20) : stLk sN K E (stS st n) := by
  obtain ⟨h1, h2, h3, h4, h5, h6, h7, h8, h9, h10, h11, h12, h13, h14, h15, h16, h17⟩ := h
  refine ⟨h1, h2, fun c => ?_, h4, h5, h6, h7, h8, h9, h10, h11, h12, h13, h14, h15, h16, fun c => ?_⟩
  · have c : st.1 = 0 ∨ (2 ≤ st.1 ∧ st.1 ≤ 4) ∨ st.1 = 16 := c
    omega
  · have c : ¬ (st.1 = 0 ∨ (2 ≤ st.1 ∧ st.1 ≤ 4) ∨ st.1 = 16 ∨ st.1 = 17 ∨ st.1 = 20) := c
    omega
end STL
end
section
/-! where the steps of a text go, and what is known there -/
def slK (ks : gK) : List Nat := ks.map Prod.snd
/-- the slots known behind a step -/
def aft (st : gSt) : List Nat := if (st.1 = 0 ∨ (2 ≤ st.1 ∧ st.1 ≤ 4) ∨ st.1 = 16) ∧ st.2.2.2.1 = some st.2.2.1.1.length then st.2.2.1.2 :: slK st.2.2.1.1 else slK st.2.2.1.1
def gEe (E : gV) : Prop := (slK E.1).Pairwise (fun a b => b < a) ∧ (∀ s ∈ slK E.1, s < E.2.2) ∧ E.2.2 ≤ 8
/-- at n goes on what knows no more than a: a step, or what comes behind them all -/
def nxO (S : List gSt) (E : gV) (n : Nat) (a : List Nat) : Prop := (∃ st, S[n]? = some st ∧ slK st.2.2.1.1 <:+ a) ∨ (n = S.length ∧ slK E.1 <:+ a)
def flO (S : List gSt) (E : gV) (j : Nat) (st : gSt) : Prop := (¬ (st.1 = 20 ∨ st.1 = 21) → nxO S E (j + 1) (aft st)) ∧ (st.1 = 17 ∨ st.1 = 20 → ∃ n, st.2.2.2.1 = some n ∧ nxO S E n (slK st.2.2.1.1))
def SGx (sN : Nat → Nat → Bool) (K : Nat → Int32) (X : Nat → Prop) (E : gV) (S : List gSt) (E' : gV) (S' : List gSt) : Prop := xtS S S' ∧ nxO S' E' S.length (slK E.1) ∧ ∀ j st, S.length ≤ j → S'[j]? = some st → (¬ X j → flO S' E' j st) ∧ ∃ E0, stLk sN K E0 st ∧ gEe E0
abbrev SG (sN : Nat → Nat → Bool) (K : Nat → Int32) (E : gV) (S : List gSt) (E' : gV) (S' : List gSt) : Prop := SGx sN K (fun _ => False) E S E' S'
section FLW
variable {K V : Nat → Int32} {sN : Nat → Nat → Bool} {T : gTd} {X X' : Nat → Prop} {E E0 E1 E2 E' : gV} {S S1 S2 S' : List gSt} {st : gSt} {a b : List Nat} {i j n m : Nat}
theorem aft_suf : slK st.2.2.1.1 <:+ aft st := by
  unfold aft
  split
  · exact List.suffix_cons _ _
  · exact List.suffix_refl _
theorem aft_no (h : ¬ (st.1 = 0 ∨ (2 ≤ st.1 ∧ st.1 ≤ 4) ∨ st.1 = 16)) : aft st = slK st.2.2.1.1 := if_neg (fun c => h c.1)
theorem aft_let {op tk : Nat} {ob : Option Nat} {fl : Bool} {ix e1 e2 : Option gU} (h : op = 0 ∨ (2 ≤ op ∧ op ≤ 4) ∨ op = 16) : aft (op, tk, knw E, some E.1.length, ob, fl, ix, e1, e2) = E.2.2 :: slK E.1 := if_pos ⟨h, rfl⟩
theorem nxO_up (h : nxO S E n a) (x : xtS S S') (e : nxO S' E' S.length (slK E.1)) : nxO S' E' n a := by
  rcases h with ⟨st, h1, h2⟩ | ⟨h1, h2⟩
  · exact Or.inl ⟨st, by rw [x.2 n (gt_lt h1)]; exact h1, h2⟩
  · subst h1
    rcases e with ⟨st, e1, e2⟩ | ⟨e1, e2⟩
    · exact Or.inl ⟨st, e1, e2.trans h2⟩
    · exact Or.inr ⟨e1, e2.trans h2⟩
theorem nxO_to (h : nxO S E m a) : nxO (cTo S i n) E m a := by
  rcases h with ⟨st, h1, h2⟩ | ⟨h1, h2⟩
  · refine Or.inl ⟨if m = i then stS st n else st, by rw [cTo_at, h1]; rfl, ?_⟩
    split <;> exact h2
  · exact Or.inr ⟨by rw [cTo_len]; exact h1, h2⟩
theorem nxO_x (h : nxO S E n a) (w : slK E'.1 <:+ slK E.1) : nxO S E' n a := by
  rcases h with h | ⟨h1, h2⟩
  · exact Or.inl h
  · exact Or.inr ⟨h1, w.trans h2⟩
theorem flO_up (h : flO S E j st) (x : xtS S S') (e : nxO S' E' S.length (slK E.1)) : flO S' E' j st := ⟨fun c => nxO_up (h.1 c) x e, fun c => by
  obtain ⟨n, h1, h2⟩ := h.2 c
  exact ⟨n, h1, nxO_up h2 x e⟩⟩
theorem flO_to (h : flO S E j st) : flO (cTo S i n) E j st := ⟨fun c => nxO_to (h.1 c), fun c => by
  obtain ⟨n, h1, h2⟩ := h.2 c
  exact ⟨n, h1, nxO_to h2⟩⟩
theorem flO_x (h : flO S E j st) (w : slK E'.1 <:+ slK E.1) : flO S E' j st := ⟨fun c => nxO_x (h.1 c) w, fun c => by
  obtain ⟨n, h1, h2⟩ := h.2 c
  exact ⟨n, h1, nxO_x h2 w⟩⟩
theorem SGx_rf : SGx sN K X E S E S := ⟨xtS_rf, Or.inr ⟨rfl, List.suffix_refl _⟩, fun j st hj hs => absurd (gt_lt hs) (by omega)⟩
theorem SGx_tr (a : SGx sN K X E S E1 S1) (b : SG sN K E1 S1 E2 S2) : SGx sN K X E S E2 S2 := by
  obtain ⟨a1, a2, a3⟩ := a
  obtain ⟨b1, b2, b3⟩ := b
  refine ⟨xtS_tr a1 b1, nxO_up a2 b1 b2, fun j st hj hs => ?_⟩
  by_cases c : j < S1.length
  · rw [b1.2 j c] at hs
    obtain ⟨p, q⟩ := a3 j st hj hs
    exact ⟨fun z => flO_up (p z) b1 b2, q⟩
  · obtain ⟨p, q⟩ := b3 j st (by omega) hs
    exact ⟨fun _ => p (fun z => z), q⟩
theorem snA : (S ++ [st])[S.length]? = some st := by
  rw [List.getElem?_append_right (Nat.le_refl _), Nat.sub_self]
  rfl
theorem SGx_add (a : SGx sN K X E S E1 S1) (hX : ∀ j, X j → X' j) (kn : slK st.2.2.1.1 <:+ slK E1.1) (hf : ¬ X' S1.length → flO (S1 ++ [st]) E2 S1.length st) (hL : ∃ E0, stLk sN K E0 st ∧ gEe E0) : SGx sN K X' E S E2 (S1 ++ [st]) := by
  obtain ⟨a1, a2, a3⟩ := a
  have ent : nxO (S1 ++ [st]) E2 S1.length (slK E1.1) := Or.inl ⟨st, snA, kn⟩
  refine ⟨xtS_tr a1 xtS_sn, nxO_up a2 xtS_sn ent, fun j st9 hj hs => ?_⟩
  by_cases c : j < S1.length
  · rw [List.getElem?_append_left c] at hs
    obtain ⟨p, q⟩ := a3 j st9 hj hs
    exact ⟨fun z => flO_up (p (fun y => z (hX j y))) xtS_sn ent, q⟩
  · have hl := gt_lt hs
    rw [List.length_append] at hl
    have hl : j < S1.length + 1 := hl
    have ej : j = S1.length := by omega
    rw [ej, snA] at hs
    cases Option.some.inj hs
    rw [ej]
    exact ⟨hf, hL⟩
/-- a step's target is set -/
theorem SGx_cl (h : SGx sN K X E S E' S') (hi : S.length ≤ i) (hs : S'[i]? = some st) (ho : st.1 = 17 ∨ st.1 = 20) (hn : nxO S' E' n (slK st.2.2.1.1)) (h1 : st.1 = 17 → nxO S' E' (i + 1) (slK st.2.2.1.1)) (hX : ∀ j, X j → j = i ∨ X' j) : SGx sN K X' E S E' (cTo S' i n) := by
  obtain ⟨a1, a2, a3⟩ := h
  refine ⟨xtS_to a1 hi, nxO_to a2, fun j st9 hj h9 => ?_⟩
  rw [cTo_at] at h9
  obtain ⟨s0, h0, e0⟩ := Option.map_eq_some_iff.mp h9
  have e : (if j = i then stS s0 n else s0) = st9 := e0
  clear e0
  obtain ⟨p, q⟩ := a3 j s0 hj h0
  by_cases c : j = i
  · rw [if_pos c] at e
    subst c
    rw [hs] at h0
    cases Option.some.inj h0
    rw [← e]
    refine ⟨fun _ => ⟨fun c2 => ?_, fun _ => ⟨n, rfl, nxO_to hn⟩⟩, ?_⟩
    · have c2 : ¬ (st.1 = 20 ∨ st.1 = 21) := c2
      have o17 : st.1 = 17 := by omega
      have ea : aft (stS st n) = slK st.2.2.1.1 := aft_no (st := stS st n) (by show ¬ (st.1 = 0 ∨ (2 ≤ st.1 ∧ st.1 ≤ 4) ∨ st.1 = 16); omega)
      rw [ea]
      exact nxO_to (h1 o17)
    · obtain ⟨E0, q1, q2⟩ := q
      exact ⟨E0, stLk_to q1 ho, q2⟩
  · rw [if_neg c] at e
    rw [← e]
    exact ⟨fun z => flO_to (p (fun y => (hX j y).elim c z)), q⟩
theorem SGx_ex (h : SGx sN K X E S E1 S1) (w : slK E2.1 <:+ slK E1.1) : SGx sN K X E S E2 S1 := ⟨h.1, nxO_x h.2.1 w, fun j st hj hs => ⟨fun z => flO_x ((h.2.2 j st hj hs).1 z) w, (h.2.2 j st hj hs).2⟩⟩
theorem SGx_en (h : SGx sN K X E S E1 S1) (w : slK E.1 = slK E0.1) : SGx sN K X E0 S E1 S1 := ⟨h.1, by rw [← w]; exact h.2.1, h.2.2⟩
theorem SG_one (hL : stLk sN K E st) (hg : gEe E) (ho : ¬ (st.1 = 17 ∨ st.1 = 20)) (w : slK E'.1 <:+ aft st) : SG sN K E S E' (S ++ [st]) :=
  SGx_add (E1 := E) SGx_rf (fun _ z => z) (by rw [hL.1]; exact List.suffix_refl _) (fun _ => ⟨fun _ => Or.inr ⟨by rw [List.length_append]; rfl, w⟩, fun c => absurd c ho⟩) ⟨E, hL, hg⟩
end FLW
/-- what a statement's events do to the code -/
def PSt (K : Nat → Int32) (b : Prop) (c c' : Nat) (N : gU) : Prop := ∀ sN T V E, ¬ flt sN T V N E → ¬ E.2.1 = [] → gEe E → E.2.2 = c → ((exs N E).2.1 = E.2.1 ∧ E.1 <:+ (exs N E).1 ∧ gEe (exs N E) ∧ (exs N E).2.2 = c' ∧ (b → (exs N E).1 = E.1)) ∧ ∀ S k w, ∃ S', cds sN K N (E, S, k, rg0, w) = (exs N E, S', k, rg0, w) ∧ SG sN K E S (exs N E) S'
def PRt (K : Nat → Int32) (t : Option Nat) (N : gU) : Prop := still N ∧ ∀ sN T V E, ¬ flt sN T V N E → ¬ E.2.1 = [] → (t = none → E.2.2 < 8) → ∀ S k w tk, ∃ st, cds sN K N (E, S, k, ([], [], 0, false, none, tk), w) = (E, S ++ [st], k, rg0, w) ∧ stLk sN K E st ∧ ¬ (st.1 = 17 ∨ st.1 = 20) ∧ (t = none → aft st = E.2.2 :: slK E.1)
section PST
variable {K V : Nat → Int32} {sN : Nat → Nat → Bool} {T : gTd} {E : gV} {L M N N0 N1 : gU} {f i c tk tp : Nat} {t : Option Nat} {ro : Bool} {ix : Option gU} {S : List gSt} {k : List Nat} {w : List (Nat × Nat) × List (Nat × gU)}
theorem nf_app (h : ¬ flt sN T V (M ++ N) E) (hs : still M) : ¬ flt sN T V M E ∧ ¬ flt sN T V N E := by
  rw [flt_app, exs_still hs] at h
  exact ⟨fun z => h (Or.inl z), fun z => h (Or.inr z)⟩
theorem st_k {k a b : Nat} (h : ¬ k = 20 ∧ ¬ k = 21 ∧ ¬ k = 22) : still [(k, a, b)] := still_one h
theorem pP_f {q : Nat × gU} (h : pP K f i L = some q) : ∃ N0 ro ix N1, q.2 = L ++ N1 ∧ pPl i N0 ro ix N1 ∧ K i = 1 ∧ ∀ N, ix = some N → sW K f N := by
  unfold pP at h
  split at h
  · next c =>
    split at h
    · split at h
      · obtain ⟨z, hz, h2⟩ := Option.bind_eq_some_iff.mp h
        obtain ⟨N, eN, hs, hw⟩ := pX_sW hz
        obtain ⟨-, -, e2⟩ := pt_is h2
        rw [e2]
        exact ⟨N, true, some N, _, by rw [eN, List.append_assoc], Or.inr ⟨rfl, rfl, hs, rfl⟩, c.1, fun M hM => by cases Option.some.inj hM; exact hw⟩
      · exact absurd h (by simp)
    · cases Option.some.inj h
      exact ⟨[], false, none, _, rfl, Or.inl ⟨rfl, rfl, rfl⟩, c.1, fun M hM => by cases hM⟩
  · exact absurd h (by simp)
theorem pPl_st (h : pPl tp N0 ro ix N1) : still N1 := by
  rcases h with ⟨-, -, e⟩ | ⟨-, -, hs, e⟩
  · rw [e]; exact st_k (by decide)
  · rw [e]; exact still_app (st_k (by decide)) (still_app (sEv_st hs) (st_k (by decide)))
theorem pPl_sO (h : pPl tp N0 ro ix N1) (hw : ∀ N, ix = some N → sW K f N) (hf : f ≤ 40) (nf : ¬ flt sN T V N1 E) : sOo sN K E ix ∧ (ro = true ↔ ¬ ix = none) := by
  rcases h with ⟨e1, e2, -⟩ | ⟨e1, e2, hs, e⟩
  · rw [e1, e2]; exact ⟨sOo_no, by simp⟩
  · rw [e] at nf
    have nf := (nf_app (nf_app nf (st_k (by decide))).2 (sEv_st hs)).1
    rw [e1, e2]
    exact ⟨sOo_so hs (hw _ e2) hf nf, by simp⟩
theorem cds_pme : ∃ tk', cds sN K (pme t) (E, S, k, ([], [], 0, false, none, tk), w) = (E, S, k, ([], [], 0, false, t, tk'), w) := by
  cases t with
  | none => exact ⟨tk, rfl⟩
  | some a => exact ⟨a, rfl⟩
theorem cds_pma : ∃ tk', cds sN K (pma t) (E, S, k, ([], [], 0, false, none, tk), w) = (E, S, k, ([], [], 0, false, t, tk'), w) := by
  cases t with
  | none => exact ⟨tk, rfl⟩
  | some a => exact ⟨a, rfl⟩
theorem pme_st : still (pme t) := by
  cases t with
  | none => exact still_nil
  | some a => exact st_k (by decide)
theorem pma_st : still (pma t) := by
  cases t with
  | none => exact still_nil
  | some a => exact st_k (by decide)
theorem pme_k (nf : ¬ flt sN T V (pme t) E) (a : Nat) (h : t = some a) : ¬ kfi sN E.1 a = none := by
  subst h
  exact fun z => nf (flt_one.mpr (fv_26.mpr z))
theorem toL_ok (ht : t = none → E.2.2 < 8) (hk : ∀ a, t = some a → ¬ kfi sN E.1 a = none) : ∃ p, toL sN E.1 t = some p ∧ pOk E p ∧ (t = none → p = E.1.length) := by
  cases t with
  | none => exact ⟨E.1.length, rfl, Or.inr ⟨rfl, ht rfl⟩, fun _ => rfl⟩
  | some a =>
    cases c : kfi sN E.1 a with
    | none => exact absurd c (hk a rfl)
    | some p => exact ⟨p, c, Or.inl (kfi_lt c), fun z => by cases z⟩
theorem cSe_s {c : gCd} {tg : Option Nat} {p : Nat} (h : toL sN c.1.1 tg = some p) : cSe sN c tg tk N = cEm c (16, tk, knw c.1, some p, none, false, none, some N, none) := by unfold cSe; rw [h]
theorem cSe_n {c : gCd} {tg : Option Nat} (h : toL sN c.1.1 tg = none) : cSe sN c tg tk N = cEm c (1, tk, knw c.1, none, tg, false, none, some N, none) := by unfold cSe; rw [h]
theorem cAl_s {c : gCd} {tg : Option Nat} {p : Nat} (h : kfi sN c.1.1 i = some p) : cAl sN c tg tk i = cSe sN c tg tk [(3, i, 0)] := by unfold cAl; rw [h]
theorem cAl_n {c : gCd} {tg : Option Nat} (h : kfi sN c.1.1 i = none) : cAl sN c tg tk i = cEm c (0, tk, knw c.1, toL sN c.1.1 tg, some i, false, none, none, none) := by unfold cAl; rw [h]
theorem cSe_ok {tg tg0 : Option Nat} {cu : gU} {su : List gU} {pl tk0 : Nat} (ht : tg = none → E.2.2 < 8) (hk : ∀ a, tg = some a → K a = 1) (s1 : sOo sN K E (some N)) : ∃ st, cSe sN (E, S, k, (cu, su, pl, ro, tg0, tk0), w) tg tk N = (E, S ++ [st], k, rg0, w) ∧ stLk sN K E st ∧ ¬ (st.1 = 17 ∨ st.1 = 20) ∧ (tg = none → aft st = E.2.2 :: slK E.1) := by
  cases c : toL sN E.1 tg with
  | some p =>
    refine ⟨_, cSe_s c, stLk_16 ?_ s1, show ¬ (16 = 17 ∨ 16 = 20) by decide, fun z => ?_⟩
    · cases tg with
      | none => cases Option.some.inj c; exact Or.inr ⟨rfl, ht rfl⟩
      | some a => exact Or.inl (kfi_lt c)
    · subst z
      cases Option.some.inj c
      exact aft_let (Or.inr (Or.inr rfl))
  | none =>
    cases tg with
    | none => cases c
    | some a => exact ⟨_, cSe_n c, stLk_x (by decide) (Or.inl rfl) (hk a rfl) (by simp) (fun _ => Option.some_ne_none _) (fun z => absurd z (by decide)) sOo_no s1 sOo_no (fun _ => rfl) (fun z => absurd z (by decide)) (fun _ => rfl), show ¬ (1 = 17 ∨ 1 = 20) by decide, fun z => by cases z⟩
theorem pR_f {q : Nat × gU} (hf : f ≤ 16) (ht : ∀ a, t = some a → K a = 1) (h : pR K f t i L = some q) : ∃ N, q.2 = L ++ N ∧ PRt K t N := by
  unfold pR at h
  split at h
  · next kk =>
    split at h
    · obtain ⟨z4, hz4, h4⟩ := Option.bind_eq_some_iff.mp h
      obtain ⟨z3, hz3, h3⟩ := Option.bind_eq_some_iff.mp hz4
      obtain ⟨z2, hz2, h2⟩ := Option.bind_eq_some_iff.mp hz3
      obtain ⟨N0, ro, ix, N1, e1, hpl, k1, hix⟩ := pP_f hz2
      obtain ⟨-, -, e2⟩ := pt_is h2
      have h3 : pX K false f z3.1 z3.2 = some z4 := h3
      obtain ⟨N2, e3, s2, w2⟩ := pX_sW h3
      obtain ⟨z5, hz5, h5⟩ := Option.bind_eq_some_iff.mp h4
      unfold pan at h5
      split at hz5
      · next k16 =>
        obtain ⟨z6, hz6, h6⟩ := Option.bind_eq_some_iff.mp hz5
        obtain ⟨-, -, e6⟩ := pt_is hz6
        have h6 : pX K false f z6.1 z6.2 = some z5 := h6
        obtain ⟨N3, e7, s3, w3⟩ := pX_sW h6
        cases Option.some.inj h5
        refine ⟨pme t ++ (N1 ++ ((N2 ++ [(54, 0, 0)]) ++ ((N3 ++ [(54, 0, 0)]) ++ [(74, i, 0)]))), ?_, ?_, ?_⟩
        · show z5.2 ++ [(74, i, 0)] = _
          rw [e7, e6]
          show (z4.2 ++ (N3 ++ [(54, 0, 0)])) ++ [(74, i, 0)] = _
          rw [e3, e2]
          show ((z2.2 ++ (N2 ++ [(54, 0, 0)])) ++ (N3 ++ [(54, 0, 0)])) ++ [(74, i, 0)] = _
          rw [e1]
          simp only [List.append_assoc]
        · exact still_app pme_st (still_app (pPl_st hpl) (still_app (still_app (sEv_st s2) (st_k (by decide))) (still_app (still_app (sEv_st s3) (st_k (by decide))) (st_k (by decide)))))
        · intro sN T V E nf hE h8 S k w tk
          obtain ⟨n1, nf⟩ := nf_app nf pme_st
          obtain ⟨n2, nf⟩ := nf_app nf (pPl_st hpl)
          obtain ⟨n3, nf⟩ := nf_app nf (still_app (sEv_st s2) (st_k (by decide)))
          obtain ⟨n3, -⟩ := nf_app n3 (sEv_st s2)
          obtain ⟨n4, -⟩ := nf_app nf (still_app (sEv_st s3) (st_k (by decide)))
          obtain ⟨n4, -⟩ := nf_app n4 (sEv_st s3)
          obtain ⟨so, hro⟩ := pPl_sO hpl hix (by omega) n2
          obtain ⟨tk', et⟩ := cds_pme (sN := sN) (K := K) (t := t) (E := E) (S := S) (k := k) (w := w) (tk := tk)
          obtain ⟨p, ep, hp, hn⟩ := toL_ok h8 (pme_k n1)
          refine ⟨_, by rw [cds_app, et, cds_r74c hpl s2 s3 hE k16], ?_, show ¬ (4 = 17 ∨ 4 = 20) by decide, fun z => ?_⟩
          · rw [ep]
            exact stLk_x (by decide) (Or.inr ⟨p, rfl, hp⟩) k1 hro (fun _ => Option.some_ne_none _) (fun _ => Option.some_ne_none _) so (sOo_so s2 w2 (by omega) n3) (sOo_so s3 w3 (by omega) n4) (fun z => absurd z (by decide)) (fun z => absurd z (by decide)) (fun z => absurd rfl z)
          · rw [ep, hn z]
            exact aft_let (Or.inr (Or.inl (by decide)))
      · next k16 =>
        cases Option.some.inj hz5
        cases Option.some.inj h5
        refine ⟨pme t ++ (N1 ++ ((N2 ++ [(54, 0, 0)]) ++ [(74, i, 0)])), ?_, ?_, ?_⟩
        · show z4.2 ++ [(74, i, 0)] = _
          rw [e3, e2]
          show (z2.2 ++ (N2 ++ [(54, 0, 0)])) ++ [(74, i, 0)] = _
          rw [e1]
          simp only [List.append_assoc]
        · exact still_app pme_st (still_app (pPl_st hpl) (still_app (still_app (sEv_st s2) (st_k (by decide))) (st_k (by decide))))
        · intro sN T V E nf hE h8 S k w tk
          obtain ⟨n1, nf⟩ := nf_app nf pme_st
          obtain ⟨n2, nf⟩ := nf_app nf (pPl_st hpl)
          obtain ⟨n3, -⟩ := nf_app nf (still_app (sEv_st s2) (st_k (by decide)))
          obtain ⟨n3, -⟩ := nf_app n3 (sEv_st s2)
          obtain ⟨so, hro⟩ := pPl_sO hpl hix (by omega) n2
          obtain ⟨tk', et⟩ := cds_pme (sN := sN) (K := K) (t := t) (E := E) (S := S) (k := k) (w := w) (tk := tk)
          obtain ⟨p, ep, hp, hn⟩ := toL_ok h8 (pme_k n1)
          have hop : opX (K i) = 2 ∨ opX (K i) = 3 := by
            rcases kk with e | e | e
            · rw [e]; exact Or.inl rfl
            · rw [e]; exact Or.inr rfl
            · exact absurd e k16
          refine ⟨_, by rw [cds_app, et, cds_r74 hpl s2 hE k16], ?_, by show ¬ (opX (K i) = 17 ∨ opX (K i) = 20); omega, fun z => ?_⟩
          · rw [ep]
            exact stLk_x (by omega) (Or.inr ⟨p, rfl, hp⟩) k1 hro (fun _ => Option.some_ne_none _) (fun z => absurd z (by omega)) so (sOo_so s2 w2 (by omega) n3) sOo_no (fun z => absurd z (by omega)) (fun z => absurd z (by omega)) (fun _ => rfl)
          · rw [ep, hn z]
            exact aft_let (by omega)
    · exact absurd h (by simp)
  · split at h
    · obtain ⟨z, hz, h2⟩ := Option.bind_eq_some_iff.mp h
      obtain ⟨N0, ro, ix, N1, e1, hpl, k1, hix⟩ := pP_f hz
      unfold pan at h2
      cases Option.some.inj h2
      refine ⟨pme t ++ (N1 ++ [(75, i, 0)]), ?_, still_app pme_st (still_app (pPl_st hpl) (st_k (by decide))), ?_⟩
      · show z.2 ++ [(75, i, 0)] = _
        rw [e1]
        simp only [List.append_assoc]
      · intro sN T V E nf hE h8 S k w tk
        obtain ⟨n1, nf⟩ := nf_app nf pme_st
        obtain ⟨n2, -⟩ := nf_app nf (pPl_st hpl)
        obtain ⟨so, hro⟩ := pPl_sO hpl hix (by omega) n2
        obtain ⟨tk', et⟩ := cds_pme (sN := sN) (K := K) (t := t) (E := E) (S := S) (k := k) (w := w) (tk := tk)
        obtain ⟨p, ep, hp, hn⟩ := toL_ok h8 (pme_k n1)
        refine ⟨_, by rw [cds_app, et, cds_r75 hpl hE], ?_, show ¬ (0 = 17 ∨ 0 = 20) by decide, fun z => ?_⟩
        · rw [ep]
          exact stLk_x (by decide) (Or.inr ⟨p, rfl, hp⟩) k1 hro (fun z => absurd rfl z) (fun z => absurd z (by decide)) so sOo_no sOo_no (fun z => absurd z (by decide)) (fun _ => rfl) (fun _ => rfl)
        · rw [ep, hn z]
          exact aft_let (Or.inl rfl)
    · split at h
      · next kk =>
        split at h
        · cases Option.some.inj h
          refine ⟨[pal t i], rfl, ?_, ?_⟩
          · cases t with
            | none => exact st_k (by decide)
            | some a => exact st_k (by decide)
          · intro sN T V E nf hE h8 S k w tk
            have nf := fun z => nf (flt_one.mpr z)
            cases t with
            | none =>
              rw [show cds sN K [pal none i] (E, S, k, ([], [], 0, false, none, tk), w) = cAl sN (E, S, k, ([], [], 0, false, none, tk), w) none tk i from rfl]
              cases ck : kfi sN E.1 i with
              | some p0 =>
                rw [cAl_s ck]
                exact cSe_ok h8 (fun a z => by cases z) (sOo_one kk.1 (by rw [ck]; exact fun z => by cases z))
              | none => exact ⟨_, cAl_n ck, stLk_x (by decide) (Or.inr ⟨_, rfl, Or.inr ⟨rfl, h8 rfl⟩⟩) kk.1 (by simp) (fun z => absurd rfl z) (fun z => absurd z (by decide)) sOo_no sOo_no sOo_no (fun z => absurd z (by decide)) (fun _ => rfl) (fun _ => rfl), show ¬ (0 = 17 ∨ 0 = 20) by decide, fun _ => aft_let (Or.inl rfl)⟩
            | some a =>
              rw [show cds sN K [pal (some a) i] (E, S, k, ([], [], 0, false, none, tk), w) = cAl sN (E, S, k, ([], [], 0, false, none, tk), w) (some a) a i from rfl]
              cases ck : kfi sN E.1 i with
              | some p0 =>
                rw [cAl_s ck]
                exact cSe_ok h8 ht (sOo_one kk.1 (by rw [ck]; exact fun z => by cases z))
              | none =>
                cases ca : kfi sN E.1 a with
                | none => exact absurd (fv_27.mpr (Or.inl ⟨ck, Or.inl ca⟩)) nf
                | some p =>
                  refine ⟨_, cAl_n ck, ?_, show ¬ (0 = 17 ∨ 0 = 20) by decide, fun z => by cases z⟩
                  exact stLk_x (by decide) (Or.inr ⟨p, ca, Or.inl (kfi_lt ca)⟩) kk.1 (by simp) (fun z => absurd rfl z) (fun z => absurd z (by decide)) sOo_no sOo_no sOo_no (fun z => absurd z (by decide)) (fun _ => rfl) (fun _ => rfl)
        · exact absurd h (by simp)
      · obtain ⟨z, hz, h2⟩ := Option.bind_eq_some_iff.mp h
        obtain ⟨N2, e3, s2, w2⟩ := pX_sW hz
        unfold pan at h2
        cases Option.some.inj h2
        refine ⟨pma t ++ ((N2 ++ [(54, 0, 0)]) ++ [(76, i, 0)]), ?_, still_app pma_st (still_app (still_app (sEv_st s2) (st_k (by decide))) (st_k (by decide))), ?_⟩
        · show z.2 ++ [(76, i, 0)] = _
          rw [e3]
          simp only [List.append_assoc]
        · intro sN T V E nf hE h8 S k w tk
          obtain ⟨-, nf⟩ := nf_app nf pma_st
          obtain ⟨n3, -⟩ := nf_app nf (still_app (sEv_st s2) (st_k (by decide)))
          obtain ⟨n3, -⟩ := nf_app n3 (sEv_st s2)
          obtain ⟨tk', et⟩ := cds_pma (sN := sN) (K := K) (t := t) (E := E) (S := S) (k := k) (w := w) (tk := tk)
          rw [cds_app, et, cds_app, cds_x s2 hE, cds_one, cd_76]
          exact cSe_ok h8 ht (sOo_so s2 w2 (by omega) n3)
end PST
end
section
/-! statements, blocks and definitions: what their events make of the code -/
section PSS
variable {K V : Nat → Int32} {sN : Nat → Nat → Bool} {T : gTd} {E : gV} {L M N : gU} {f i c c' c2 z n : Nat} {b b2 : Prop} {S : List gSt} {k : List Nat} {w : List (Nat × Nat) × List (Nat × gU)}
theorem PSt_one (hs : still N) (h : ∀ sN T V E, ¬ flt sN T V N E → ¬ E.2.1 = [] → ∀ S k w, ∃ st, cds sN K N (E, S, k, rg0, w) = (E, S ++ [st], k, rg0, w) ∧ stLk sN K E st ∧ ¬ (st.1 = 17 ∨ st.1 = 20)) : PSt K b c c N := by
  intro sN T V E nf hE hg hc
  rw [exs_still hs]
  refine ⟨⟨rfl, List.suffix_refl _, hg, hc, fun _ => rfl⟩, fun S k w => ?_⟩
  obtain ⟨st, e, hL, ho⟩ := h sN T V E nf hE S k w
  refine ⟨_, e, SG_one hL hg ho ?_⟩
  have a := aft_suf (st := st)
  rw [hL.1] at a
  exact a
theorem PSt_let (hR : PRt K none N) (h8 : c < 8) (hb : ¬ b) {t0 t1 : Nat} : PSt K b c (c + 1) ([(23, t0, 0)] ++ (N ++ [(22, t0, t1)])) := by
  intro sN T V E nf hE hg hc
  have s23 : still [(23, t0, 0)] := st_k (by decide)
  obtain ⟨-, nf⟩ := nf_app nf s23
  obtain ⟨nf, -⟩ := nf_app nf hR.1
  have ex : exs ([(23, t0, 0)] ++ (N ++ [(22, t0, t1)])) E = ((t0, E.2.2) :: E.1, E.2.1, E.2.2 + 1) := by
    rw [exs_app, exs_still s23, exs_app, exs_still hR.1]; rfl
  rw [ex]
  refine ⟨⟨rfl, List.suffix_cons _ _, ⟨List.Pairwise.cons hg.2.1 hg.1, fun s hs => ?_, by show E.2.2 + 1 ≤ 8; omega⟩, by show E.2.2 + 1 = c + 1; rw [hc], fun z => absurd z hb⟩, fun S k w => ?_⟩
  · rcases List.mem_cons.mp hs with e | hs
    · rw [e]; exact Nat.lt_succ_self _
    · exact Nat.lt_succ_of_lt (hg.2.1 s hs)
  · obtain ⟨st, e, hL, ho, ha⟩ := hR.2 sN T V E nf hE (fun _ => by omega) S k w (t0 - 1)
    refine ⟨_, by rw [cds_app, cds_one, cd_23, cds_app, e, cds_one, cd_22]; rfl, SG_one hL hg ho ?_⟩
    rw [ha rfl]
    exact List.suffix_refl _
theorem PSt_set {t a : Nat} (hR : PRt K (some t) N) : PSt K b c c (N ++ [(77, a, 0)]) := PSt_one (still_app hR.1 (st_k (by decide))) (fun sN T V E nf hE S k w => by
  obtain ⟨nf, -⟩ := nf_app nf hR.1
  obtain ⟨st, e, hL, ho, -⟩ := hR.2 sN T V E nf hE (fun z => by cases z) S k w 0
  exact ⟨st, by rw [cds_app, e, cds_one, cd_77], hL, ho⟩)
abbrev psto (K : Nat → Int32) (rS : Nat → Nat → gU → gTs) : Prop := ∀ c i L q, rS c i L = some q → ∃ N, q.2.2 = L ++ N ∧ PSt K (K i = 24) c q.1 N
theorem pS1_f {q : Nat × Nat × gU} (hf : f ≤ 16) (h : pS1 K f c i L = some q) : ∃ N, q.2.2 = L ++ N ∧ PSt K (K i = 24) c q.1 N := by
  unfold pS1 at h
  split at h
  · next k26 =>
    split at h
    · next cc =>
      obtain ⟨r, hr, h2⟩ := Option.bind_eq_some_iff.mp h
      obtain ⟨r1, hr1, h3⟩ := Option.bind_eq_some_iff.mp hr
      obtain ⟨-, -, e3⟩ := pt_is h3
      obtain ⟨N, eN, hN⟩ := pR_f hf (fun a z => by cases z) hr1
      cases Option.some.inj h2
      refine ⟨[(23, i + 1, 0)] ++ (N ++ [(22, i + 1, i)]), ?_, PSt_let hN cc.2.1 (by rw [k26]; decide)⟩
      show r.2 ++ [(22, i + 1, i)] = _
      rw [e3]
      show r1.2 ++ [(22, i + 1, i)] = _
      rw [eN]
      simp only [List.append_assoc]
    · exact absurd h (by simp)
  · split at h
    · next k1 =>
      split at h
      · split at h
        · obtain ⟨r, hr, h2⟩ := Option.bind_eq_some_iff.mp h
          obtain ⟨r1, hr1, h3⟩ := Option.bind_eq_some_iff.mp hr
          obtain ⟨r2, hr2, h4⟩ := Option.bind_eq_some_iff.mp hr1
          obtain ⟨r3, hr3, h5⟩ := Option.bind_eq_some_iff.mp hr2
          obtain ⟨r4, hr4, h6⟩ := Option.bind_eq_some_iff.mp hr3
          obtain ⟨-, -, e3⟩ := pt_is h3
          have h4 : pX K false f r2.1 r2.2 = some r1 := h4
          obtain ⟨-, -, e5⟩ := pt_is h5
          obtain ⟨-, -, e6⟩ := pt_is h6
          obtain ⟨N0, a0, s0, w0⟩ := pX_sW hr4
          obtain ⟨N2, a2, s2, w2⟩ := pX_sW h4
          cases Option.some.inj h2
          refine ⟨[(7, i, 0)] ++ ((N0 ++ [(54, 0, 0)]) ++ ((N2 ++ [(54, 0, 0)]) ++ [(78, i, 0)])), ?_, PSt_one (still_app (st_k (by decide)) (still_app (still_app (sEv_st s0) (st_k (by decide))) (still_app (still_app (sEv_st s2) (st_k (by decide))) (st_k (by decide))))) (fun sN T V E nf hE S k w => ?_)⟩
          · show r.2 ++ [(78, i, 0)] = _
            rw [e3]
            show r1.2 ++ [(78, i, 0)] = _
            rw [a2, e5]
            show (r3.2 ++ (N2 ++ [(54, 0, 0)])) ++ [(78, i, 0)] = _
            rw [e6]
            show (r4.2 ++ (N2 ++ [(54, 0, 0)])) ++ [(78, i, 0)] = _
            rw [a0]
            simp only [List.append_assoc]
          · obtain ⟨-, nf⟩ := nf_app nf (st_k (by decide))
            obtain ⟨n0, nf⟩ := nf_app nf (still_app (sEv_st s0) (st_k (by decide)))
            obtain ⟨n0, -⟩ := nf_app n0 (sEv_st s0)
            obtain ⟨n2, -⟩ := nf_app nf (still_app (sEv_st s2) (st_k (by decide)))
            obtain ⟨n2, -⟩ := nf_app n2 (sEv_st s2)
            refine ⟨_, by rw [cds_app, cds_one, cd_7 hE, cds_app, cds_x s0 hE, cds_app, cds_x s2 hE, cds_one, cd_78], ?_, show ¬ (1 = 17 ∨ 1 = 20) by decide⟩
            exact stLk_x (by decide) (Or.inl rfl) k1 (by simp) (fun _ => Option.some_ne_none _) (fun z => absurd z (by decide)) (sOo_so s0 w0 (by omega) n0) (sOo_so s2 w2 (by omega) n2) sOo_no (fun _ => rfl) (fun z => absurd z (by decide)) (fun _ => rfl)
        · exact absurd h (by simp)
      · split at h
        · obtain ⟨r, hr, h2⟩ := Option.bind_eq_some_iff.mp h
          obtain ⟨r1, hr1, h3⟩ := Option.bind_eq_some_iff.mp hr
          obtain ⟨-, -, e3⟩ := pt_is h3
          obtain ⟨N, eN, hN⟩ := pR_f hf (fun a z => by cases Option.some.inj z; exact k1) hr1
          cases Option.some.inj h2
          refine ⟨N ++ [(77, i, 0)], ?_, PSt_set hN⟩
          show r.2 ++ [(77, i, 0)] = _
          rw [e3]
          show r1.2 ++ [(77, i, 0)] = _
          rw [eN, List.append_assoc]
        · exact absurd h (by simp)
    · split at h
      · next kk =>
        obtain ⟨r, hr, h2⟩ := Option.bind_eq_some_iff.mp h
        obtain ⟨-, -, e3⟩ := pt_is hr
        cases Option.some.inj h2
        refine ⟨[(68, i, 0)], by show r.2 ++ _ = _; rw [e3], PSt_one (st_k (by decide)) (fun sN T V E nf hE S k w => ⟨_, by rw [cds_one, cd_68], stLk_p ?_ (fun _ => rfl), ?_⟩)⟩
        · unfold opP
          split
          · exact Or.inl rfl
          · split
            · exact Or.inr (Or.inl rfl)
            · exact Or.inr (Or.inr (Or.inl rfl))
        · show ¬ (opP (K i) = 17 ∨ opP (K i) = 20)
          unfold opP
          split
          · decide
          · split <;> decide
      · split at h
        · obtain ⟨r, hr, h2⟩ := Option.bind_eq_some_iff.mp h
          obtain ⟨r1, hr1, h3⟩ := Option.bind_eq_some_iff.mp hr
          obtain ⟨-, -, e3⟩ := pt_is h3
          obtain ⟨N0, a0, s0, w0⟩ := pX_sW hr1
          cases Option.some.inj h2
          refine ⟨(N0 ++ [(54, 0, 0)]) ++ [(69, i, 0)], ?_, PSt_one (still_app (still_app (sEv_st s0) (st_k (by decide))) (st_k (by decide))) (fun sN T V E nf hE S k w => ?_)⟩
          · show r.2 ++ [(69, i, 0)] = _
            rw [e3]
            show r1.2 ++ [(69, i, 0)] = _
            rw [a0, List.append_assoc]
          · obtain ⟨n0, -⟩ := nf_app nf (still_app (sEv_st s0) (st_k (by decide)))
            obtain ⟨n0, -⟩ := nf_app n0 (sEv_st s0)
            have ho : opS (K i) = 14 ∨ opS (K i) = 18 := by
              unfold opS
              split
              · exact Or.inr rfl
              · exact Or.inl rfl
            exact ⟨(opS (K i), i, knw E, none, none, false, none, some N0, none), by rw [cds_app, cds_x s0 hE, cds_one, cd_69]; rfl, stLk_s (by omega) (sOo_so s0 w0 (by omega) n0), by show ¬ (opS (K i) = 17 ∨ opS (K i) = 20); omega⟩
        · split at h
          · split at h
            · next cc =>
              obtain ⟨r, hr, h2⟩ := Option.bind_eq_some_iff.mp h
              obtain ⟨r1, hr1, h3⟩ := Option.bind_eq_some_iff.mp hr
              obtain ⟨-, -, e3⟩ := pt_is h3
              obtain ⟨N0, a0, s0, w0⟩ := pX_sW hr1
              cases Option.some.inj h2
              refine ⟨(N0 ++ [(54, 0, 0)]) ++ [(70, i, i + 1)], ?_, PSt_one (still_app (still_app (sEv_st s0) (st_k (by decide))) (st_k (by decide))) (fun sN T V E nf hE S k w => ?_)⟩
              · show r.2 ++ [(70, i, i + 1)] = _
                rw [e3]
                show r1.2 ++ [(70, i, i + 1)] = _
                rw [a0, List.append_assoc]
              · obtain ⟨n0, -⟩ := nf_app nf (still_app (sEv_st s0) (st_k (by decide)))
                obtain ⟨n0, -⟩ := nf_app n0 (sEv_st s0)
                exact ⟨(13, i, knw E, none, some (i + 1), false, none, some N0, none), by rw [cds_app, cds_x s0 hE, cds_one, cd_70]; rfl, stLk_13 cc.1.1 (sOo_so s0 w0 (by omega) n0), show ¬ (13 = 17 ∨ 13 = 20) by decide⟩
            · exact absurd h (by simp)
          · have hop : ∀ k, 5 ≤ opW k ∧ opW k ≤ 10 := fun k => by
              unfold opW
              split
              · decide
              · split
                · decide
                · split
                  · decide
                  · split
                    · decide
                    · split <;> decide
            split at h
            · split at h
              · next cc =>
                obtain ⟨r, hr, h2⟩ := Option.bind_eq_some_iff.mp h
                obtain ⟨-, -, e3⟩ := pt_is hr
                cases Option.some.inj h2
                exact ⟨[(66, i, i + 1)], by show r.2 ++ _ = _; rw [e3], PSt_one (st_k (by decide)) (fun sN T V E nf hE S k w => ⟨_, by rw [cds_one, cd_66], stLk_w (hop _) cc.1, by show ¬ (opW (K i) = 17 ∨ opW (K i) = 20); have := hop (K i); omega⟩)⟩
              · exact absurd h (by simp)
            · split at h
              · split at h
                · next cc =>
                  obtain ⟨r, hr, h2⟩ := Option.bind_eq_some_iff.mp h
                  obtain ⟨-, -, e3⟩ := pt_is hr
                  cases Option.some.inj h2
                  exact ⟨[(67, i, i + 1)], by show r.2 ++ _ = _; rw [e3], PSt_one (st_k (by decide)) (fun sN T V E nf hE S k w => ⟨_, by rw [cds_one, cd_67], stLk_w (hop _) cc.1, by show ¬ (opW (K i) = 17 ∨ opW (K i) = 20); have := hop (K i); omega⟩)⟩
                · exact absurd h (by simp)
              · exact absurd h (by simp)
theorem PSt_nil : PSt K b c c [] := fun sN T V E nf hE hg hc => ⟨⟨rfl, List.suffix_refl _, hg, hc, fun _ => rfl⟩, fun S k w => ⟨S, rfl, SGx_rf⟩⟩
theorem PSt_app (h : PSt K b c c' M) (g : PSt K b2 c' c2 N) : PSt K False c c2 (M ++ N) := by
  intro sN T V E nf hE hg hc
  rw [flt_app] at nf
  obtain ⟨⟨h1, h2, h3, h4, -⟩, h6⟩ := h sN T V E (fun z => nf (Or.inl z)) hE hg hc
  obtain ⟨⟨g1, g2, g3, g4, -⟩, g6⟩ := g sN T V (exs M E) (fun z => nf (Or.inr z)) (by rw [h1]; exact hE) h3 h4
  rw [exs_app]
  refine ⟨⟨g1.trans h1, h2.trans g2, g3, g4, fun z => z.elim⟩, fun S k w => ?_⟩
  obtain ⟨S1, e1, s1⟩ := h6 S k w
  obtain ⟨S2, e2, s2⟩ := g6 S1 k w
  exact ⟨S2, by rw [cds_app, e1, e2], SGx_tr s1 s2⟩
theorem pBl_f {rS : Nat → Nat → gU → gTs} (hr : psto K rS) : ∀ (n c i : Nat) (L : gU) (q : Nat × Nat × gU), pBl rS K z n c i L = some q → ∃ N, q.2.2 = L ++ (N ++ [(21, z, 0)]) ∧ PSt K False c q.1 N := by
  intro n
  induction n with
  | zero => intro c i L q h; exact absurd h (by simp [pBl])
  | succ n ih =>
    intro c i L q h
    rw [pBl] at h
    split at h
    · split at h
      · cases Option.some.inj h
        exact ⟨[], rfl, PSt_nil⟩
      · exact absurd h (by simp)
    · obtain ⟨y, hy, h2⟩ := Option.bind_eq_some_iff.mp h
      obtain ⟨M, eM, hM⟩ := hr _ _ _ _ hy
      obtain ⟨N, eN, hN⟩ := ih _ _ _ _ h2
      exact ⟨M ++ N, by rw [eN, eM]; simp only [List.append_assoc], PSt_app hM hN⟩
/-- a block, but for what its end adds -/
def PBt (K : Nat → Int32) (z c c' : Nat) (N : gU) : Prop := ∀ sN T V E, ¬ flt sN T V N E → gEe E → E.2.2 = c → gEe (E.1, E.2.1, c') ∧ exs N E = (E.1, E.2.1, c') ∧ ∀ S k w, ∃ S', cds sN K N (E, S, k, rg0, w) = cCl ((E.1, E.2.1, c'), S', k, rg0, w) z ∧ SG sN K E S (E.1, E.2.1, c') S'
theorem pBk_f {rS : Nat → Nat → gU → gTs} (hr : psto K rS) {q : Nat × Nat × gU} (h : pBk rS K z c i L = some q) : ∃ N, q.2.2 = L ++ N ∧ PBt K z c q.1 N := by
  unfold pBk at h
  split at h
  · obtain ⟨N, eN, hN⟩ := pBl_f hr _ _ _ _ _ h
    refine ⟨[(20, z, 0)] ++ (N ++ [(21, z, 0)]), by rw [eN, List.append_assoc], fun sN T V E nf hg hc => ?_⟩
    obtain ⟨E1, eE1⟩ : ∃ E1 : gV, E1 = (E.1, E.1.length :: E.2.1, E.2.2) := ⟨_, rfl⟩
    have x1 : exs [(20, z, 0)] E = E1 := by rw [eE1]; rfl
    rw [flt_app, x1, flt_app] at nf
    have hg1 : gEe E1 := by rw [eE1]; exact hg
    obtain ⟨⟨h1, h2, h3, h4, -⟩, h6⟩ := hN sN T V E1 (fun z => nf (Or.inr (Or.inl z))) (by rw [eE1]; exact List.cons_ne_nil _ _) hg1 (by rw [eE1]; exact hc)
    have h1 : (exs N E1).2.1 = E.1.length :: E.2.1 := by rw [h1, eE1]
    have h2 : E.1 <:+ (exs N E1).1 := by rw [eE1] at h2 ⊢; exact h2
    have x2 : exV (exs N E1) (21, z, 0) = (E.1, E.2.1, q.1) := by
      show ((exs N E1).1.drop ((exs N E1).1.length - (exs N E1).2.1.headD 0), (exs N E1).2.1.tail, (exs N E1).2.2) = _
      rw [h1, h4]
      show ((exs N E1).1.drop ((exs N E1).1.length - E.1.length), E.2.1, q.1) = _
      rw [← List.suffix_iff_eq_drop.mp h2]
    have x3 : exs ([(20, z, 0)] ++ (N ++ [(21, z, 0)])) E = (E.1, E.2.1, q.1) := by rw [exs_app, x1, exs_app, exs_one, x2]
    have sl2 : slK E.1 <:+ slK (exs N E1).1 := h2.map _
    refine ⟨⟨hg.1, fun s hs => ?_, by rw [← h4]; exact h3.2.2⟩, x3, fun S k w => ?_⟩
    · have := h3.2.1 s (sl2.subset hs)
      rw [h4] at this
      exact this
    · obtain ⟨S', e, hS⟩ := h6 S k w
      refine ⟨S', ?_, SGx_ex (E1 := exs N E1) (SGx_en (E0 := E) hS (by rw [eE1])) sl2⟩
      rw [cds_app, cds_one, cd_20]
      have x1 : exV E (20, z, 0) = E1 := x1
      rw [x1, cds_app, e, cds_one, cd_21, x2]
  · exact absurd h (by simp)
theorem cCl_no {cc : gCd} (h : z = 3 ∨ z = 4) : cCl cc z = cc := by
  unfold cCl
  rw [if_neg (by omega), if_neg (by omega), if_neg (by omega)]
/-- the test is laid -/
theorem SG_test {N0 : gU} (hg : gEe E) (so : sOo sN K E (some N0)) : SGx sN K (fun j => j = S.length) E S E (S ++ [(17, i, knw E, none, none, false, none, some N0, none)]) :=
  SGx_add (X := fun _ => False) (E1 := E) SGx_rf (fun _ z => z.elim) (List.suffix_refl _) (fun z => absurd rfl z) ⟨E, stLk_s (Or.inr (Or.inl rfl)) so, hg⟩
theorem pS_f : ∀ f : Nat, f ≤ 16 → psto K (pS K f) := by
  intro f
  induction f with
  | zero => intro _ c i L q h; exact absurd h (by simp [pS])
  | succ f ih =>
    intro hf c i L q h
    have ih := ih (by omega)
    rw [pS] at h
    split at h
    · exact absurd h (by simp)
    · split at h
      · next k24 =>
        obtain ⟨r0, hr0, h0⟩ := Option.bind_eq_some_iff.mp h
        obtain ⟨r1, hr1, h1⟩ := Option.bind_eq_some_iff.mp h0
        obtain ⟨r2, hr2, h2⟩ := Option.bind_eq_some_iff.mp hr1
        obtain ⟨N0, a0, s0, w0⟩ := pX_sW hr0
        obtain ⟨B, eB, hB⟩ := pBk_f ih hr2
        unfold pfi at h1
        cases Option.some.inj h1
        unfold pEl at h2
        have p54 : still (N0 ++ [(54, 0, 0)]) := still_app (sEv_st s0) (st_k (by decide))
        have s60 : still [(60, i, 0)] := st_k (by decide)
        split at h2
        · split at h2
          · -- else
            have els : ∃ M, r1.2.2 = (r2.2.2 ++ [(62, r2.2.1, 0)]) ++ M ∧ ∀ sN T V (E : gV), ¬ flt sN T V M E → ¬ E.2.1 = [] → gEe E → E.2.2 = r2.1 → ((exs M E).2.1 = E.2.1 ∧ (exs M E).1 = E.1 ∧ gEe (exs M E) ∧ (exs M E).2.2 = r1.1) ∧ ∀ S k w, ∃ S', cds sN K M (E, S, k, rg0, w) = (exs M E, S', k, rg0, w) ∧ SG sN K E S (exs M E) S' := by
              split at h2
              · next kk =>
                obtain ⟨M, eM, hM⟩ := ih _ _ _ _ h2
                refine ⟨M, eM, fun sN T V E nf hE hg hc => ?_⟩
                obtain ⟨⟨g1, g2, g3, g4, g5⟩, g6⟩ := hM sN T V E nf hE hg hc
                exact ⟨⟨g1, g5 kk, g3, g4⟩, g6⟩
              · obtain ⟨M, eM, hM⟩ := pBk_f ih h2
                refine ⟨M, eM, fun sN T V E nf hE hg hc => ?_⟩
                obtain ⟨g1, g2, g3⟩ := hM sN T V E nf hg hc
                rw [g2]
                refine ⟨⟨rfl, rfl, g1, rfl⟩, fun S k w => ?_⟩
                obtain ⟨S', e, hS⟩ := g3 S k w
                exact ⟨S', by rw [e, cCl_no (Or.inr rfl)], hS⟩
            obtain ⟨M, eM, hM⟩ := els
            have s62 : still [(62, r2.2.1, 0)] := st_k (by decide)
            refine ⟨(N0 ++ [(54, 0, 0)]) ++ ([(60, i, 0)] ++ (B ++ ([(62, r2.2.1, 0)] ++ (M ++ [(63, 0, 0)])))), ?_, ?_⟩
            · show r1.2.2 ++ [(63, 0, 0)] = _
              rw [eM, eB, a0]
              simp only [List.append_assoc]
            · intro sN T V E nf hE hg hc
              obtain ⟨n0, nf⟩ := nf_app nf p54
              obtain ⟨n0, -⟩ := nf_app n0 (sEv_st s0)
              obtain ⟨-, nf⟩ := nf_app nf s60
              rw [flt_app] at nf
              obtain ⟨b1, b2, b3⟩ := hB sN T V E (fun z => nf (Or.inl z)) hg hc
              rw [b2] at nf
              have nf := fun z => nf (Or.inr z)
              obtain ⟨-, nf⟩ := nf_app nf s62
              rw [flt_app] at nf
              obtain ⟨⟨m1, m2, m3, m4⟩, m5⟩ := hM sN T V (E.1, E.2.1, r2.1) (fun z => nf (Or.inl z)) hE b1 rfl
              have ex : exs ((N0 ++ [(54, 0, 0)]) ++ ([(60, i, 0)] ++ (B ++ ([(62, r2.2.1, 0)] ++ (M ++ [(63, 0, 0)]))))) E = exs M (E.1, E.2.1, r2.1) := by
                rw [exs_app, exs_still p54, exs_app, exs_still s60, exs_app, b2, exs_app, exs_still s62, exs_app, exs_still (E := exs M (E.1, E.2.1, r2.1)) (st_k (by decide))]
              rw [ex]
              refine ⟨⟨m1, by rw [m2]; exact List.suffix_refl _, m3, m4, fun _ => m2⟩, fun S k w => ?_⟩
              have g0 := SG_test (i := i) (S := S) hg (sOo_so s0 w0 (by omega) n0)
              obtain ⟨S2, e2, g2⟩ := b3 (S ++ [(17, i, knw E, none, none, false, none, some N0, none)]) (S.length :: k) w
              rw [cCl_no (Or.inl rfl)] at e2
              have g3 := SGx_tr g0 g2
              have lS1 : (S ++ [((17, i, knw E, none, none, false, none, some N0, none) : gSt)]).length = S.length + 1 := by rw [List.length_append]; rfl
              have at1 : S2[S.length]? = some (17, i, knw E, none, none, false, none, some N0, none) := by
                rw [g2.1.2 S.length (by omega)]; exact snA
              have lt2 : S.length < S2.length := gt_lt at1
              -- the jump behind the block
              have g4 : SGx sN K (fun j => j = S.length ∨ j = S2.length) E S (E.1, E.2.1, r2.1) (S2 ++ [(20, 0, knw (E.1, E.2.1, r2.1), none, none, false, none, none, none)]) := SGx_add g3 (fun j z => Or.inl z) (List.suffix_refl _) (fun z => absurd (Or.inr rfl) z) ⟨_, stLk_p (by decide) (fun z => absurd rfl z), b1⟩
              have n1 := g2.2.1
              rw [lS1] at n1
              have lJ : (S2 ++ [((20, 0, knw (E.1, E.2.1, r2.1), none, none, false, none, none, none) : gSt)]).length = S2.length + 1 := by rw [List.length_append]; rfl
              have ent : nxO (S2 ++ [(20, 0, knw (E.1, E.2.1, r2.1), none, none, false, none, none, none)]) (E.1, E.2.1, r2.1) S2.length (slK E.1) := Or.inl ⟨_, snA, List.suffix_refl _⟩
              have g5 : SGx sN K (fun j => j = S2.length) E S (E.1, E.2.1, r2.1) (cTo (S2 ++ [(20, 0, knw (E.1, E.2.1, r2.1), none, none, false, none, none, none)]) S.length (S2.length + 1)) :=
                SGx_cl g4 (Nat.le_refl _) (by rw [List.getElem?_append_left lt2]; exact at1) (Or.inl rfl) (Or.inr ⟨lJ.symm, List.suffix_refl _⟩) (fun _ => nxO_up n1 xtS_sn ent) (fun j z => z)
              obtain ⟨S4, e4, g6⟩ := m5 (cTo (S2 ++ [(20, 0, knw (E.1, E.2.1, r2.1), none, none, false, none, none, none)]) S.length (S2.length + 1)) (S2.length :: k) w
              have g7 := SGx_tr g5 g6
              have at4 : S4[S2.length]? = some (20, 0, knw (E.1, E.2.1, r2.1), none, none, false, none, none, none) := by
                rw [g6.1.2 S2.length (by rw [cTo_len, lJ]; omega), cTo_at, snA]
                show some (if S2.length = S.length then _ else _) = _
                rw [if_neg (by omega)]
              have g8 : SG sN K E S (exs M (E.1, E.2.1, r2.1)) (cTo S4 S2.length S4.length) := SGx_cl g7 (by omega) at4 (Or.inr rfl) (Or.inr ⟨rfl, by rw [m2]; exact List.suffix_refl _⟩) (fun z => absurd z (show ¬ 20 = 17 by decide)) (fun j z => Or.inl z)
              refine ⟨_, ?_, g8⟩
              rw [cds_app, cds_x s0 hE, cds_app, cds_one, cd_60]
              show cds sN K (B ++ ([(62, r2.2.1, 0)] ++ (M ++ [(63, 0, 0)]))) (E, S ++ [(17, i, knw E, none, none, false, none, some N0, none)], S.length :: k, rg0, w) = _
              rw [cds_app, e2, cds_app, cds_one, cd_62]
              show cds sN K (M ++ [(63, 0, 0)]) ((E.1, E.2.1, r2.1), cTo (S2 ++ [(20, 0, knw (E.1, E.2.1, r2.1), none, none, false, none, none, none)]) S.length (S2.length + 1), S2.length :: k, rg0, w) = _
              rw [cds_app, e4, cds_one, cd_63]
              rfl
          · exact absurd h2 (by simp)
        · cases Option.some.inj h2
          refine ⟨(N0 ++ [(54, 0, 0)]) ++ ([(60, i, 0)] ++ (B ++ [(63, 0, 0)])), ?_, ?_⟩
          · show r1.2.2 ++ [(63, 0, 0)] = _
            rw [eB, a0]
            simp only [List.append_assoc]
          · intro sN T V E nf hE hg hc
            obtain ⟨n0, nf⟩ := nf_app nf p54
            obtain ⟨n0, -⟩ := nf_app n0 (sEv_st s0)
            obtain ⟨-, nf⟩ := nf_app nf s60
            rw [flt_app] at nf
            obtain ⟨b1, b2, b3⟩ := hB sN T V E (fun z => nf (Or.inl z)) hg hc
            have ex : exs ((N0 ++ [(54, 0, 0)]) ++ ([(60, i, 0)] ++ (B ++ [(63, 0, 0)]))) E = (E.1, E.2.1, r1.1) := by
              rw [exs_app, exs_still p54, exs_app, exs_still s60, exs_app, b2, exs_still (st_k (by decide))]
            rw [ex]
            refine ⟨⟨rfl, List.suffix_refl _, b1, rfl, fun _ => rfl⟩, fun S k w => ?_⟩
            have g0 := SG_test (i := i) (S := S) hg (sOo_so s0 w0 (by omega) n0)
            obtain ⟨S2, e2, g2⟩ := b3 (S ++ [(17, i, knw E, none, none, false, none, some N0, none)]) (S.length :: k) w
            rw [cCl_no (Or.inl rfl)] at e2
            have g3 := SGx_tr g0 g2
            have lS1 : (S ++ [((17, i, knw E, none, none, false, none, some N0, none) : gSt)]).length = S.length + 1 := by rw [List.length_append]; rfl
            have at1 : S2[S.length]? = some (17, i, knw E, none, none, false, none, some N0, none) := by
              rw [g2.1.2 S.length (by omega)]; exact snA
            have n1 := g2.2.1
            rw [lS1] at n1
            have g8 : SG sN K E S (E.1, E.2.1, r1.1) (cTo S2 S.length S2.length) := SGx_cl g3 (Nat.le_refl _) at1 (Or.inl rfl) (Or.inr ⟨rfl, List.suffix_refl _⟩) (fun _ => n1) (fun j z => Or.inl z)
            refine ⟨_, ?_, g8⟩
            rw [cds_app, cds_x s0 hE, cds_app, cds_one, cd_60]
            show cds sN K (B ++ [(63, 0, 0)]) (E, S ++ [(17, i, knw E, none, none, false, none, some N0, none)], S.length :: k, rg0, w) = _
            rw [cds_app, e2, cds_one, cd_63]
            rfl
      · next n24 =>
        split at h
        · -- while
          obtain ⟨r0, hr0, h0⟩ := Option.bind_eq_some_iff.mp h
          obtain ⟨N0, a0, s0, w0⟩ := pX_sW hr0
          obtain ⟨B, eB, hB⟩ := pBk_f ih h0
          have p54 : still (N0 ++ [(54, 0, 0)]) := still_app (sEv_st s0) (st_k (by decide))
          have s61 : still [(61, i, 0)] := st_k (by decide)
          refine ⟨(N0 ++ [(54, 0, 0)]) ++ ([(61, i, 0)] ++ B), ?_, ?_⟩
          · rw [eB, a0]
            simp only [List.append_assoc]
          · intro sN T V E nf hE hg hc
            obtain ⟨n0, nf⟩ := nf_app nf p54
            obtain ⟨n0, -⟩ := nf_app n0 (sEv_st s0)
            obtain ⟨-, nf⟩ := nf_app nf s61
            obtain ⟨b1, b2, b3⟩ := hB sN T V E nf hg hc
            have ex : exs ((N0 ++ [(54, 0, 0)]) ++ ([(61, i, 0)] ++ B)) E = (E.1, E.2.1, q.1) := by
              rw [exs_app, exs_still p54, exs_app, exs_still s61, b2]
            rw [ex]
            refine ⟨⟨rfl, List.suffix_refl _, b1, rfl, fun _ => rfl⟩, fun S k w => ?_⟩
            have g0 := SG_test (i := i) (S := S) hg (sOo_so s0 w0 (by omega) n0)
            obtain ⟨S2, e2, g2⟩ := b3 (S ++ [(17, i, knw E, none, none, false, none, some N0, none)]) (S.length :: k) w
            have g3 := SGx_tr g0 g2
            have lS1 : (S ++ [((17, i, knw E, none, none, false, none, some N0, none) : gSt)]).length = S.length + 1 := by rw [List.length_append]; rfl
            have at1 : S2[S.length]? = some (17, i, knw E, none, none, false, none, some N0, none) := by
              rw [g2.1.2 S.length (by omega)]; exact snA
            have lt2 : S.length < S2.length := gt_lt at1
            have n1 := g2.2.1
            rw [lS1] at n1
            have lJ : (S2 ++ [((20, 0, knw (E.1, E.2.1, q.1), some S.length, none, false, none, none, none) : gSt)]).length = S2.length + 1 := by rw [List.length_append]; rfl
            have at2 : (S2 ++ [((20, 0, knw (E.1, E.2.1, q.1), some S.length, none, false, none, none, none) : gSt)])[S.length]? = some (17, i, knw E, none, none, false, none, some N0, none) := by
              rw [List.getElem?_append_left lt2]; exact at1
            have g4 : SGx sN K (fun j => j = S.length) E S (E.1, E.2.1, q.1) (S2 ++ [(20, 0, knw (E.1, E.2.1, q.1), some S.length, none, false, none, none, none)]) := SGx_add g3 (fun j z => z) (List.suffix_refl _) (fun _ => ⟨fun z => absurd (Or.inl rfl) z, fun _ => ⟨S.length, rfl, Or.inl ⟨_, at2, List.suffix_refl _⟩⟩⟩) ⟨_, stLk_p (by decide) (fun z => absurd rfl z), b1⟩
            have ent : nxO (S2 ++ [(20, 0, knw (E.1, E.2.1, q.1), some S.length, none, false, none, none, none)]) (E.1, E.2.1, q.1) S2.length (slK E.1) := Or.inl ⟨_, snA, List.suffix_refl _⟩
            have g8 : SG sN K E S (E.1, E.2.1, q.1) (cTo (S2 ++ [(20, 0, knw (E.1, E.2.1, q.1), some S.length, none, false, none, none, none)]) S.length (S2.length + 1)) :=
              SGx_cl g4 (Nat.le_refl _) at2 (Or.inl rfl) (Or.inr ⟨lJ.symm, List.suffix_refl _⟩) (fun _ => nxO_up n1 xtS_sn ent) (fun j z => Or.inl z)
            refine ⟨_, ?_, g8⟩
            rw [cds_app, cds_x s0 hE, cds_app, cds_one, cd_61]
            show cds sN K B (E, S ++ [(17, i, knw E, none, none, false, none, some N0, none)], S.length :: k, rg0, w) = _
            rw [e2]
            rfl
        · split at h
          · split at h
            · next kk =>
              obtain ⟨B, eB, hB⟩ := pBk_f ih h
              have s65 : still [(65, i, i + 1)] := st_k (by decide)
              refine ⟨[(65, i, i + 1)] ++ B, by rw [eB, List.append_assoc], ?_⟩
              intro sN T V E nf hE hg hc
              obtain ⟨-, nf⟩ := nf_app nf s65
              obtain ⟨b1, b2, b3⟩ := hB sN T V E nf hg hc
              rw [exs_app, exs_still s65, b2]
              refine ⟨⟨rfl, List.suffix_refl _, b1, rfl, fun _ => rfl⟩, fun S k w => ?_⟩
              have hL : stLk sN K E (5, i, knw E, none, some (i + 1), false, none, none, none) := stLk_w (by decide) kk.1
              have g0 : SG sN K E S E (S ++ [(5, i, knw E, none, some (i + 1), false, none, none, none)]) := SG_one hL hg (show ¬ (5 = 17 ∨ 5 = 20) by decide) (aft_suf (st := (5, i, knw E, none, some (i + 1), false, none, none, none)))
              obtain ⟨S2, e2, g2⟩ := b3 (S ++ [(5, i, knw E, none, some (i + 1), false, none, none, none)]) (S.length :: k) w
              have g3 := SGx_tr g0 g2
              have at1 : S2[S.length]? = some (5, i, knw E, none, some (i + 1), false, none, none, none) := by
                rw [g2.1.2 S.length (by rw [List.length_append]; exact Nat.lt_succ_self _)]; exact snA
              have lJ : (S2 ++ [((6, i, knw (E.1, E.2.1, q.1), none, some (i + 1), false, none, none, none) : gSt)]).length = S2.length + 1 := by rw [List.length_append]; rfl
              have g4 : SG sN K E S (E.1, E.2.1, q.1) (S2 ++ [(6, i, knw (E.1, E.2.1, q.1), none, some (i + 1), false, none, none, none)]) := SGx_add g3 (fun j z => z) (List.suffix_refl _) (fun _ => ⟨fun _ => Or.inr ⟨lJ.symm, aft_suf (st := (6, i, knw (E.1, E.2.1, q.1), none, some (i + 1), false, none, none, none))⟩, fun z => absurd z (show ¬ (6 = 17 ∨ 6 = 20) by decide)⟩) ⟨_, stLk_w (by decide) kk.1, b1⟩
              refine ⟨_, ?_, g4⟩
              rw [cds_app, cds_one, cd_65, e2]
              show (_, S2 ++ [(6, (gtS S2 S.length).2.1, knw (E.1, E.2.1, q.1), none, (gtS S2 S.length).2.2.2.2.1, false, none, none, none)], k, rg0, w) = _
              unfold gtS
              rw [at1]
              rfl
            · exact absurd h (by simp)
          · exact pS1_f (by omega) h
end PSS
end
section
/-! the code of the whole text: where its steps go, where its threads begin, what its claims are like -/
def flR (S : List gSt) (j : Nat) (st : gSt) : Prop := (¬ (st.1 = 20 ∨ st.1 = 21) → ∃ st', S[j + 1]? = some st' ∧ slK st'.2.2.1.1 <:+ aft st) ∧ (st.1 = 17 ∨ st.1 = 20 → ∃ n st', st.2.2.2.1 = some n ∧ S[n]? = some st' ∧ slK st'.2.2.1.1 <:+ slK st.2.2.1.1)
def clO (K : Nat → Int32) (N : gU) : Prop := sEv true N ∧ (∀ v ∈ N, sVv K v) ∧ okE N 0 ∧ ajE N
def WS (sN : Nat → Nat → Bool) (K : Nat → Int32) (S : List gSt) (b : List (Nat × Nat)) (l : List (Nat × gU)) (P : Nat × Nat × Nat → Prop) : Prop := (∀ j st, S[j]? = some st → flR S j st ∧ ∃ E0, stLk sN K E0 st ∧ gEe E0) ∧ (∀ q ∈ b, (∃ st, S[q.1]? = some st ∧ st.2.2.1.1 = []) ∧ q.2 ≤ 1) ∧ ∀ q ∈ l, clO K q.2 ∧ ∀ v ∈ q.2, P v
def WC (sN : Nat → Nat → Bool) (K : Nat → Int32) (P : Nat × Nat × Nat → Prop) (c : gCd) : Prop := ∃ E S r b l, c = (E, S, [], r, b, l) ∧ E.2.1 = [] ∧ r.1 = [] ∧ WS sN K S b l P
section WCL
variable {K V V' : Nat → Int32} {sN : Nat → Nat → Bool} {T : gTd} {E : gV} {L M N : gU} {c : gCd} {S S' : List gSt} {st : gSt} {b : List (Nat × Nat)} {l : List (Nat × gU)} {i j t n : Nat} {k : List Nat} {w : List (Nat × Nat) × List (Nat × gU)} {P : Nat × Nat × Nat → Prop}
theorem flR_up (h : flR S j st) (x : xtS S S') : flR S' j st := ⟨fun c => by
  obtain ⟨s, h1, h2⟩ := h.1 c
  exact ⟨s, by rw [x.2 _ (gt_lt h1)]; exact h1, h2⟩, fun c => by
  obtain ⟨n, s, h0, h1, h2⟩ := h.2 c
  exact ⟨n, s, h0, by rw [x.2 _ (gt_lt h1)]; exact h1, h2⟩⟩
theorem cd_34 {r : gRg} : cdV sN K (E, S, k, r, b, l) (34, i, j) = (E0v, S, k, rg0, b ++ [(S.length, j)], l) := rfl
theorem cd_35 {cu : gU} {su : List gU} {pl tk : Nat} {ro : Bool} {tg : Option Nat} : cdV sN K (E, S, k, (cu, su, pl, ro, tg, tk), w) (35, i, j) = (E, S, k, (cu, su, 35, ro, tg, tk), w) := rfl
theorem cd_36 {cu : gU} {su : List gU} {pl tk : Nat} {ro : Bool} {tg : Option Nat} : cdV sN K (E, S, k, (cu, su, pl, ro, tg, tk), w) (36, i, j) = (E, S, k, (cu, su, 36, ro, tg, tk), w) := rfl
theorem gEe_0 : gEe E0v := ⟨List.Pairwise.nil, fun s hs => (by cases hs), by decide⟩
/-- one thread more -/
theorem WC_th {q : Nat} (h : WC sN K P c) (hB : PBt K 0 0 q N) (nf : ¬ flt sN T V N E0v) (hj : j ≤ 1) : WC sN K P (cds sN K ([(34, i, j)] ++ N) c) ∧ eqE (exs N E0v) E0v := by
  obtain ⟨E, S, r, b, l, rfl, hE, hr, h1, h2, h3⟩ := h
  obtain ⟨b1, b2, b3⟩ := hB sN T V E0v nf gEe_0 rfl
  obtain ⟨S', e, g⟩ := b3 S [] (b ++ [(S.length, j)], l)
  have b2 : exs N E0v = ([], [], q) := b2
  have b1 : gEe ([], [], q) := b1
  have g : SG sN K E0v S ([], [], q) S' := g
  refine ⟨⟨([], [], q), S' ++ [(21, 0, knw ([], [], q), none, none, false, none, none, none)], rg0, b ++ [(S.length, j)], l, ?_, rfl, rfl, ?_, ?_, h3⟩, by rw [b2]; exact ⟨rfl, rfl⟩⟩
  · rw [cds_app, cds_one, cd_34, e]
    rfl
  · have x1 : xtS S' (S' ++ [(21, 0, knw ([], [], q), none, none, false, none, none, none)]) := xtS_sn
    have re : ∀ {n : Nat} {a : List Nat}, nxO S' ([], [], q) n a → ∃ st', (S' ++ [((21, 0, knw ([], [], q), none, none, false, none, none, none) : gSt)])[n]? = some st' ∧ slK st'.2.2.1.1 <:+ a := fun {n a} hn => by
      rcases hn with ⟨s, s1, s2⟩ | ⟨s1, s2⟩
      · exact ⟨s, by rw [x1.2 _ (gt_lt s1)]; exact s1, s2⟩
      · exact ⟨_, by rw [s1]; exact snA, s2⟩
    intro j st hs
    by_cases c0 : j < S.length
    · rw [x1.2 j (by have := g.1.1; omega), g.1.2 j c0] at hs
      obtain ⟨p, pq⟩ := h1 j st hs
      exact ⟨flR_up p (xtS_tr g.1 x1), pq⟩
    · by_cases c1 : j < S'.length
      · rw [x1.2 j c1] at hs
        obtain ⟨p, pq⟩ := g.2.2 j st (by omega) hs
        obtain ⟨p1, p2⟩ := p (fun z => z)
        refine ⟨⟨fun z => re (p1 z), fun z => ?_⟩, pq⟩
        obtain ⟨n, n1, n2⟩ := p2 z
        obtain ⟨s, s1, s2⟩ := re n2
        exact ⟨n, s, n1, s1, s2⟩
      · have hl := gt_lt hs
        rw [List.length_append] at hl
        have hl : j < S'.length + 1 := hl
        have ej : j = S'.length := by omega
        rw [ej, snA] at hs
        cases Option.some.inj hs
        exact ⟨⟨fun z => absurd (Or.inr rfl) z, fun z => absurd z (show ¬ (21 = 17 ∨ 21 = 20) by decide)⟩, _, stLk_p (by decide) (fun _ => rfl), b1⟩
  · intro p hp
    rcases List.mem_append.mp hp with hp | hp
    · obtain ⟨⟨s, s1, s2⟩, p2⟩ := h2 p hp
      exact ⟨⟨s, by rw [(xtS_tr g.1 xtS_sn).2 _ (gt_lt s1)]; exact s1, s2⟩, p2⟩
    · rw [List.mem_singleton.mp hp]
      refine ⟨?_, hj⟩
      rcases g.2.1 with ⟨s, s1, s2⟩ | ⟨s1, s2⟩
      · refine ⟨s, by rw [xtS_sn.2 _ (gt_lt s1)]; exact s1, ?_⟩
        have := List.suffix_nil.mp s2
        exact List.map_eq_nil_iff.mp this
      · exact ⟨_, by show (S' ++ [_])[S.length]? = _; rw [s1]; exact snA, rfl⟩
/-- one claim more -/
theorem WC_cl {u : Nat} (hu : u = 35 ∨ u = 36) (h : WC sN K P c) (hs : sEv true N) (hw : sW K 16 N) (hP : ∀ v ∈ N, P v) : WC sN K P (cds sN K ([(u, i, 0)] ++ (N ++ [(54, 0, 0)])) c) := by
  obtain ⟨E, S, ⟨cu, su, pl, ro, tg, tk⟩, b, l, rfl, hE, hr, h1, h2, h3⟩ := h
  have hr : cu = [] := hr
  subst hr
  have e1 : cdV sN K (E, S, [], ([], su, pl, ro, tg, tk), b, l) (u, i, 0) = (E, S, [], ([], su, u, ro, tg, tk), b, l) := by
    rcases hu with rfl | rfl
    · exact cd_35
    · exact cd_36
  have e2 : cds sN K ([(u, i, 0)] ++ (N ++ [(54, 0, 0)])) (E, S, [], ([], su, pl, ro, tg, tk), b, l) = (E, S, [], ([], su, u, ro, tg, tk), b, l ++ [(u, N)]) := by
    rw [cds_app, cds_one, e1, cds_app, cds_sum (r := ([], su, u, ro, tg, tk)) hs (fun _ => hE), cds_one]
    show cdV sN K (E, S, [], ([] ++ N, su, u, ro, tg, tk), b, l) (54, 0, 0) = _
    rw [List.nil_append]
    unfold cdV
    rw [if_neg (by decide), if_neg (by decide), if_pos rfl, if_pos hE]
  rw [e2]
  refine ⟨_, _, _, _, _, rfl, hE, rfl, h1, h2, fun q hq => ?_⟩
  rcases List.mem_append.mp hq with hq | hq
  · exact h3 q hq
  · rw [List.mem_singleton.mp hq]
    exact ⟨⟨hs, hw.1, sW_ok hw (by decide), hw.2.2⟩, hP⟩
def dul (N : gU) : Prop := ∀ v ∈ N, v.1 = 31 ∨ v.1 = 32 ∨ v.1 = 33 ∨ 80 ≤ v.1
theorem dul_app (h : dul M) (g : dul N) : dul (M ++ N) := fun v hv => (List.mem_append.mp hv).elim (h v) (g v)
theorem dul_one {a b c : Nat} (h : a = 31 ∨ a = 32 ∨ a = 33 ∨ 80 ≤ a) : dul [(a, b, c)] := fun v hv => by rw [List.mem_singleton.mp hv]; exact h
theorem pCv_f {q r : Nat × gU} (h : pCv K q = some r) : ∃ N, r.2 = q.2 ++ N ∧ dul N := by
  unfold pCv at h
  split at h
  · split at h
    · split at h
      · split at h
        · cases Option.some.inj h; exact ⟨_, rfl, dul_one (by decide)⟩
        · exact absurd h (by simp)
      · split at h
        · cases Option.some.inj h; exact ⟨_, rfl, dul_one (by decide)⟩
        · exact absurd h (by simp)
    · exact absurd h (by simp)
  · cases Option.some.inj h; exact ⟨_, rfl, dul_one (by decide)⟩
theorem pCl_f {q : Nat × Nat × gU} (h : pCl K V n i t L = some q) : ∃ N, q.2.2 = L ++ N ∧ dul N := by
  have fin : ∀ {v : Nat × Nat × Nat} {p m : Nat}, dul [v] → ((pCv K (p, L ++ [v])).bind (pt K 67)).bind (fun q => some (m, q.1, q.2 ++ [(83, i, t)])) = some q → ∃ N, q.2.2 = L ++ N ∧ dul N := fun {v p m} hv h => by
    obtain ⟨z, hz, e⟩ := Option.bind_eq_some_iff.mp h
    obtain ⟨y, hy, h2⟩ := Option.bind_eq_some_iff.mp hz
    obtain ⟨N, eN, hN⟩ := pCv_f hy
    obtain ⟨-, -, e2⟩ := pt_is h2
    cases Option.some.inj e
    refine ⟨[v] ++ (N ++ [(83, i, t)]), ?_, dul_app hv (dul_app hN (dul_one (by decide)))⟩
    show z.2 ++ [(83, i, t)] = _
    rw [e2]
    show y.2 ++ [(83, i, t)] = _
    rw [eN]
    simp only [List.append_assoc]
  unfold pCl at h
  split at h
  · split at h
    · split at h
      · exact fin (dul_one (by decide)) h
      · exact absurd h (by simp)
    · exact fin (dul_one (by decide)) h
  · exact absurd h (by simp)
theorem WC_no (h : WC sN K P c) (hN : dul N) (hE : eqE E E0v) : WC sN K P (cds sN K N c) ∧ eqE (exs N E) E0v := by
  rw [cds_no hN]
  refine ⟨h, ?_⟩
  rw [exs_still (fun v hv => by have := hN v hv; omega)]
  exact hE
theorem exs_q : ∀ {L : gU} {E E' : gV}, eqE E E' → eqE (exs L E) (exs L E') := by
  intro L
  induction L with
  | nil => intro E E' h; exact h
  | cons v L ih => intro E E' h; exact ih (exV_q h)
theorem eqE_tr {E1 E2 E3 : gV} (a : eqE E1 E2) (b : eqE E2 E3) : eqE E1 E3 := ⟨a.1.trans b.1, a.2.trans b.2⟩
theorem pD_f {n : gN} {q : gN × Nat × gU} (h : pD K V n i L = some q) : ∃ N, q.2.2 = L ++ N ∧ ∀ sN T V' E c P, (∀ v ∈ N, P v) → WC sN K P c → eqE E E0v → ¬ flt sN T V' N E → WC sN K P (cds sN K N c) ∧ eqE (exs N E) E0v := by
  have cell : ∀ t, (pCl K V n.1 i t L).bind (fun q => some ((q.1, n.2), q.2)) = some q → ∃ N, q.2.2 = L ++ N ∧ ∀ sN T V' E c P, (∀ v ∈ N, P v) → WC sN K P c → eqE E E0v → ¬ flt sN T V' N E → WC sN K P (cds sN K N c) ∧ eqE (exs N E) E0v := fun t h => by
    obtain ⟨z, hz, e⟩ := Option.bind_eq_some_iff.mp h
    obtain ⟨N, eN, hN⟩ := pCl_f hz
    cases Option.some.inj e
    exact ⟨N, eN, fun sN T V' E c P _ hc hE _ => WC_no hc hN hE⟩
  have blk : ∀ (t a j : Nat) (v : gN), j ≤ 1 → (pBk (pS K 16) K 0 0 t (L ++ [(34, a, j)])).bind (fun q => some (v, q.2)) = some q → ∃ N, q.2.2 = L ++ N ∧ ∀ sN T V' E c P, (∀ v ∈ N, P v) → WC sN K P c → eqE E E0v → ¬ flt sN T V' N E → WC sN K P (cds sN K N c) ∧ eqE (exs N E) E0v := fun t a j v hj h => by
    obtain ⟨z, hz, e⟩ := Option.bind_eq_some_iff.mp h
    obtain ⟨N, eN, hN⟩ := pBk_f (pS_f 16 (Nat.le_refl _)) hz
    cases Option.some.inj e
    refine ⟨[(34, a, j)] ++ N, by show z.2.2 = _; rw [eN, List.append_assoc], fun sN T V' E c P hP hc hE nf => ?_⟩
    have s34 : still [(34, a, j)] := st_k (by decide)
    obtain ⟨-, nf⟩ := nf_app nf s34
    obtain ⟨r1, r2⟩ := WC_th (i := a) hc hN (fun y => nf ((flt_q hE).mpr y)) hj
    refine ⟨r1, ?_⟩
    rw [exs_app, exs_still s34]
    exact eqE_tr (exs_q hE) r2
  have clm : ∀ (u : Nat) (v : gN), u = 35 ∨ u = 36 → ((pX K true 16 (i + 1) (L ++ [(u, i, 0)])).bind (pt K 67)).bind (fun q => some (v, q)) = some q → ∃ N, q.2.2 = L ++ N ∧ ∀ sN T V' E c P, (∀ v ∈ N, P v) → WC sN K P c → eqE E E0v → ¬ flt sN T V' N E → WC sN K P (cds sN K N c) ∧ eqE (exs N E) E0v := fun u v hu h => by
    obtain ⟨z, hz, e⟩ := Option.bind_eq_some_iff.mp h
    obtain ⟨y, hy, h2⟩ := Option.bind_eq_some_iff.mp hz
    obtain ⟨N, eN, hs, hw⟩ := pX_sW hy
    obtain ⟨-, -, e2⟩ := pt_is h2
    cases Option.some.inj e
    refine ⟨[(u, i, 0)] ++ (N ++ [(54, 0, 0)]), ?_, fun sN T V' E c P hP hc hE _ => ⟨WC_cl hu hc hs hw (fun v hv => hP v (List.mem_append_right _ (List.mem_append_left _ hv))), ?_⟩⟩
    · show z.2 = _
      rw [e2]
      show y.2 = _
      rw [eN, List.append_assoc]
    · rw [exs_still (still_app (st_k (by omega)) (still_app (sEv_st hs) (st_k (by decide))))]
      exact hE
  unfold pD at h
  split at h
  · split at h
    · exact cell _ h
    · exact absurd h (by simp)
  · split at h
    · exact cell _ h
    · split at h
      · split at h
        · cases Option.some.inj h
          exact ⟨[(33, i + 1, 0)], rfl, fun sN T V' E c P _ hc hE _ => WC_no hc (dul_one (by decide)) hE⟩
        · exact absurd h (by simp)
      · split at h
        · split at h
          · exact blk _ _ 1 _ (Nat.le_refl _) h
          · exact absurd h (by simp)
        · split at h
          · split at h
            · exact blk _ _ 0 _ (Nat.zero_le _) h
            · exact absurd h (by simp)
          · split at h
            · split at h
              · exact clm 35 _ (Or.inl rfl) h
              · exact absurd h (by simp)
            · split at h
              · split at h
                · exact clm 36 _ (Or.inr rfl) h
                · exact absurd h (by simp)
              · exact absurd h (by simp)
theorem pAl_f : ∀ (m : Nat) (n : gN) (i : Nat) (L : gU) (q : gN × Nat × gU), pAl K V m n i L = some q → ∃ N, q.2.2 = L ++ N ∧ ∀ sN T V' E c P, (∀ v ∈ N, P v) → WC sN K P c → eqE E E0v → ¬ flt sN T V' N E → WC sN K P (cds sN K N c) := by
  intro m
  induction m with
  | zero => intro n i L q h; exact absurd h (by simp [pAl])
  | succ m ih =>
    intro n i L q h
    rw [pAl] at h
    split at h
    · cases Option.some.inj h
      exact ⟨[], by rw [List.append_nil], fun sN T V' E c P _ hc _ _ => hc⟩
    · obtain ⟨z, hz, h2⟩ := Option.bind_eq_some_iff.mp h
      obtain ⟨M, eM, hM⟩ := pD_f hz
      obtain ⟨N, eN, hN⟩ := ih _ _ _ _ h2
      refine ⟨M ++ N, by rw [eN, eM, List.append_assoc], fun sN T V' E c P hP hc hE nf => ?_⟩
      rw [flt_app] at nf
      obtain ⟨r1, r2⟩ := hM sN T V' E c P (fun v hv => hP v (List.mem_append_left _ hv)) hc hE (fun y => nf (Or.inl y))
      rw [cds_app]
      exact hN sN T V' _ _ P (fun v hv => hP v (List.mem_append_right _ hv)) r1 r2 (fun y => nf (Or.inr y))
theorem cod_ok {n : gN} (h : pAl K V 701 (0, 0, 0, 0, 0) 0 [] = some (n, j, L)) (nf : ¬ jFl sN K V L) : WC sN K (fun v => v ∈ L) (cds sN K L cd0) := by
  obtain ⟨N, eN, hN⟩ := pAl_f _ _ _ _ _ h
  have eN : L = N := eN
  rw [← eN] at hN
  exact hN sN _ V E0v cd0 _ (fun v hv => hv) ⟨E0v, [], rg0, [], [], rfl, rfl, rfl, ⟨fun j st hs => (by cases hs), fun q hq => (by cases hq), fun q hq => (by cases hq)⟩⟩ ⟨rfl, rfl⟩ (fun y => nf (Or.inr y))
end WCL
end
section
/-! the code in numbers, as both sides hold it: the model's side -/
abbrev gQ := Nat × Nat × Int32
/-- op, slots known, next slot, where to, object, row, flag, index, first, second sum -/
abbrev gNs := Nat × List Nat × Nat × Option Nat × Int32 × Int32 × Bool × Option (List gQ) × Option (List gQ) × Option (List gQ)
/-- steps, threads, cells, always, finally -/
abbrev gCo := List gNs × List (Nat × Nat) × List (Int32 × Bool) × List (List gQ) × List (List gQ)
def nQt (sN : Nat → Nat → Bool) (T : gTd) (V K : Nat → Int32) (ks : gK) (v : Nat × Nat × Nat) : Option gQ :=
  if v.1 = 52 then some (1, 0, V v.2.1)
  else if v.1 = 53 then some (3, 0, 0)
  else if v.1 = 3 then some (2, (kfi sN ks v.2.1).getD 0, 0)
  else if v.1 = 6 then some (4, 0, Int32.ofNat (nmT sN 0 v.2.1 T))
  else if v.1 = 12 then some (4, 0, Int32.ofNat (nmT sN 0 v.2.2 T) + V v.2.1)
  else if v.1 = 50 then some (5, 0, K v.2.1)
  else if v.1 = 51 then some (6, 0, K v.2.1)
  else none
def nQs (sN : Nat → Nat → Bool) (T : gTd) (V K : Nat → Int32) (ks : gK) (N : gU) : List gQ := N.filterMap (nQt sN T V K ks)
def nStp (sN : Nat → Nat → Bool) (T : gTd) (V K : Nat → Int32) (st : gSt) : gNs := (st.1, slK st.2.2.1.1, st.2.2.1.2, st.2.2.2.1, mOf sN T V st, mSz sN T st, st.2.2.2.2.2.1, st.2.2.2.2.2.2.1.map (nQs sN T V K st.2.2.1.1), st.2.2.2.2.2.2.2.1.map (nQs sN T V K st.2.2.1.1), st.2.2.2.2.2.2.2.2.map (nQs sN T V K st.2.2.1.1))
def codN (sN : Nat → Nat → Bool) (V K : Nat → Int32) (L : gU) : gCo := ((cds sN K L cd0).2.1.map (nStp sN (L.filterMap (te1 K V)) V K), (cds sN K L cd0).2.2.2.2.1, cel K V L, (clF 35 (cds sN K L cd0).2.2.2.2.2).map (nQs sN (L.filterMap (te1 K V)) V K []), (clF 36 (cds sN K L cd0).2.2.2.2.2).map (nQs sN (L.filterMap (te1 K V)) V K []))
/-- the slot of the local at a place -/
def slN : List Nat → Nat → Nat
  | [], _ => 0
  | s :: r, p => if p = r.length then s else slN r p
def kmN : List Nat → Int32
  | [] => 0
  | s :: r => kmN r ||| (1 <<< (Int32.ofNat s &&& 31))
def mQp (sl : List Nat) (q : gQ) : Int32 × Int32 := if q.1 = 2 then (2, Int32.ofNat (slN sl q.2.1)) else (Int32.ofNat q.1, q.2.2)
def mNs (w : gd) (sl : List Nat) (v : Int32) : Option (List gQ) → Prop
  | none => v = -1
  | some Q => SUm w v (Q.map (mQp sl))
def mNt (st : gNs) : Int32 := match st.2.2.2.1 with
  | none => -1
  | some n => if st.1 = 17 ∨ st.1 = 20 then Int32.ofNat n else Int32.ofNat (if n = st.2.1.length then st.2.2.1 else slN st.2.1 n)
def mN (w : gd) (j : Nat) (st : gNs) : Prop := w.1 54 j = mWh st.1 ∧ (st.1 < 16 → w.1 55 j = Int32.ofNat st.1) ∧ w.1 56 j = st.2.2.2.2.1 ∧ w.1 57 j = st.2.2.2.2.2.1 ∧ mNs w st.2.1 (w.1 58 j) st.2.2.2.2.2.2.2.1 ∧ mNs w st.2.1 (w.1 59 j) st.2.2.2.2.2.2.2.2.1 ∧ mNs w st.2.1 (w.1 60 j) st.2.2.2.2.2.2.2.2.2 ∧ w.1 61 j = mNt st ∧ w.1 62 j = kmN st.2.1
def MK (w : gd) (C : gCo) : Prop := ((w.1 0 52).toInt = C.1.length ∧ ∀ j st, C.1[j]? = some st → mN w j st) ∧ ((w.1 0 25).toInt = C.2.1.length ∧ ∀ (t : Nat) (q : Nat × Nat), C.2.1[t]? = some q → (w.1 64 t).toInt = q.1 ∧ w.1 38 t = Int32.ofNat q.2) ∧ ((w.1 0 23).toInt = C.2.2.1.length ∧ ∀ j q, C.2.2.1[j]? = some q → w.1 36 j = q.1 ∧ w.1 37 j = if q.2 = true then 1 else 0) ∧ (∀ k Q, C.2.2.2.1[k]? = some Q → SUm w (w.1 65 k) (Q.map (mQp []))) ∧ ∀ k Q, C.2.2.2.2[k]? = some Q → SUm w (w.1 66 k) (Q.map (mQp []))
section CNM
variable {sN : Nat → Nat → Bool} {T : gTd} {V K : Nat → Int32} {w : gd} {L N : gU} {ks : gK} {v : Nat × Nat × Nat} {st : gSt}
theorem slt_N : ∀ {ks : gK} {p : Nat}, slt ks p = slN (slK ks) p := by
  intro ks
  induction ks with
  | nil => intro p; rfl
  | cons k ks ih =>
    intro p
    show (if p = ks.length then k.2 else slt ks p) = if p = (slK ks).length then k.2 else slN (slK ks) p
    rw [ih, show (slK ks).length = ks.length from List.length_map _]
theorem kms_N : ∀ {ks : gK}, kms ks = kmN (slK ks) := by
  intro ks
  induction ks with
  | nil => rfl
  | cons k ks ih =>
    show kms ks ||| _ = kmN (slK ks) ||| _
    rw [ih]
theorem nPt_N : nPt sN T V K ks v = (nQt sN T V K ks v).map (mQp (slK ks)) := by
  unfold nPt nQt
  split
  · rfl
  · split
    · rfl
    · split
      · show some (2, Int32.ofNat (slt ks _)) = some (2, Int32.ofNat (slN (slK ks) _))
        rw [slt_N]
      · split
        · rfl
        · split
          · rfl
          · split
            · rfl
            · split
              · rfl
              · rfl
theorem nPs_N : nPs sN T V K ks N = (nQs sN T V K ks N).map (mQp (slK ks)) := by
  unfold nPs nQs
  rw [List.map_filterMap]
  congr 1
  funext v
  exact nPt_N
theorem mSu_N {r : Int32} {o : Option gU} (h : mSu sN T V K w ks r o) : mNs w (slK ks) r (o.map (nQs sN T V K ks)) := by
  cases o with
  | none => exact h
  | some N =>
    have h : SUm w r (nPs sN T V K ks N) := h
    rw [nPs_N] at h
    exact h
theorem mTo_N : mTo st = mNt (nStp sN T V K st) := by
  unfold mTo mNt
  show (match st.2.2.2.1 with | none => (-1 : Int32) | some n => if st.1 = 17 ∨ st.1 = 20 then Int32.ofNat n else Int32.ofNat (slP st.2.2.1 n)) = match st.2.2.2.1 with | none => (-1 : Int32) | some n => if st.1 = 17 ∨ st.1 = 20 then Int32.ofNat n else Int32.ofNat (if n = (slK st.2.2.1.1).length then st.2.2.1.2 else slN (slK st.2.2.1.1) n)
  cases st.2.2.2.1 with
  | none => rfl
  | some n =>
    show (if st.1 = 17 ∨ st.1 = 20 then Int32.ofNat n else Int32.ofNat (if n = st.2.2.1.1.length then st.2.2.1.2 else slt st.2.2.1.1 n)) = if st.1 = 17 ∨ st.1 = 20 then Int32.ofNat n else Int32.ofNat (if n = (slK st.2.2.1.1).length then st.2.2.1.2 else slN (slK st.2.2.1.1) n)
    rw [slt_N, show (slK st.2.2.1.1).length = st.2.2.1.1.length from List.length_map _]
theorem MCo_MK (h : MCo sN V K L w) : MK w (codN sN V K L) := by
  obtain ⟨⟨h1, h1'⟩, h2, h3, h4, h5⟩ := h
  refine ⟨⟨by rw [h1]; show _ = (((cds sN K L cd0).2.1.map _).length : Int); rw [List.length_map], fun j st hj => ?_⟩, h2, h3, fun k Q hQ => ?_, fun k Q hQ => ?_⟩
  · have hj : ((cds sN K L cd0).2.1.map (nStp sN (L.filterMap (te1 K V)) V K))[j]? = some st := hj
    rw [List.getElem?_map] at hj
    obtain ⟨s0, g0, e⟩ := Option.map_eq_some_iff.mp hj
    subst e
    obtain ⟨a1, a2, a3, a4, a5, a6, a7, a8, a9⟩ := h1' j s0 g0
    exact ⟨a1, a2, a3, a4, mSu_N a5, mSu_N a6, mSu_N a7, by rw [a8]; exact mTo_N, by rw [a9]; exact kms_N⟩
  · have hQ : ((clF 35 (cds sN K L cd0).2.2.2.2.2).map (nQs sN (L.filterMap (te1 K V)) V K []))[k]? = some Q := hQ
    rw [List.getElem?_map] at hQ
    obtain ⟨N, g0, e⟩ := Option.map_eq_some_iff.mp hQ
    subst e
    have a := h4 k N g0
    rw [nPs_N] at a
    exact a
  · have hQ : ((clF 36 (cds sN K L cd0).2.2.2.2.2).map (nQs sN (L.filterMap (te1 K V)) V K []))[k]? = some Q := hQ
    rw [List.getElem?_map] at hQ
    obtain ⟨N, g0, e⟩ := Option.map_eq_some_iff.mp hQ
    subst e
    have a := h5 k N g0
    rw [nPs_N] at a
    exact a
end CNM
end
section
/-! the class: names are put in, the code is well -/
/-- a compiled step -/
def CSa (x : gd) (i : Nat) : Prop := (sop x i ≤ 4 → 0 ≤ (x.1 85 i).toInt ∧ (x.1 85 i).toInt + 1 ≤ (x.1 60 6).toInt ∧ (x.1 85 i).toInt + (x.1 86 i).toInt ≤ (x.1 60 6).toInt) ∧ (5 ≤ sop x i → sop x i ≤ 8 → 0 ≤ (x.1 85 i).toInt ∧ (x.1 85 i).toInt < (x.1 60 9).toInt) ∧ (9 ≤ sop x i → sop x i ≤ 10 → 0 ≤ (x.1 85 i).toInt ∧ (x.1 85 i).toInt < (x.1 60 10).toInt)
def CSb (x : gd) (i : Nat) : Prop := (0 ≤ sop x i ∧ ¬ sop x i = 15) ∧ (0 ≤ (x.1 83 i).toInt ∧ (x.1 83 i).toInt ≤ 8) ∧ ((sop x i = 0 ∨ (2 ≤ sop x i ∧ sop x i ≤ 4) ∨ sop x i = 16) → 0 ≤ stg x i ∧ stg x i < (x.1 60 13).toInt) ∧ ((sop x i = 17 ∨ sop x i = 20) → 0 ≤ stg x i ∧ stg x i < ssm x ∧ (sop x i = 20 → (i : Int) < stg x i ∨ sop x (stg x i).toNat = 17)) ∧ (¬ sop x i = 21 → (i : Int) + 1 < ssm x)
def CO (x : gd) : Prop := ((0 ≤ (x.1 60 6).toInt ∧ (x.1 60 6).toInt ≤ 24) ∧ (0 ≤ (x.1 60 9).toInt ∧ (x.1 60 9).toInt ≤ 6) ∧ (0 ≤ (x.1 60 10).toInt ∧ (x.1 60 10).toInt ≤ 6) ∧ (0 ≤ (x.1 60 13).toInt ∧ (x.1 60 13).toInt ≤ 8) ∧ (0 ≤ (x.1 60 14).toInt ∧ (x.1 60 14).toInt ≤ 4) ∧ (0 ≤ (x.1 60 16).toInt ∧ (x.1 60 16).toInt ≤ 4)) ∧ ((0 ≤ (x.1 60 3).toInt ∧ (x.1 60 3).toInt ≤ 800) ∧ ∀ i : Nat, (i : Int) < (x.1 60 3).toInt → x.1 62 i = 2 → 0 ≤ (x.1 63 i).toInt ∧ (x.1 63 i).toInt < 24) ∧ (0 ≤ ssm x ∧ ssm x ≤ 350) ∧ (∀ i : Nat, (i : Int) < ssm x → CSa x i ∧ CSb x i) ∧ ∀ t : Nat, (t : Int) < (x.1 60 10).toInt → 0 ≤ (x.1 72 t).toInt ∧ (x.1 72 t).toInt < ssm x
section KLK
variable {G : kG} {q : kP} {d : Nat} {x x0 y z : gd} {F : Int32 → gd → Prop} {Fv : gd → Prop}
end KLK
end
section
/-! the class: what link does -/
/-- a step's name becomes its cell (and its row's size), lock, thread -/
def LK1 (x y : gd) (j : Nat) : Prop := (sop x j ≤ 10 → ∃ t : Nat, (x.1 85 j).toInt = (t : Nat) ∧ (t : Int) < mt x ∧ ((sop x j ≤ 4 → x.1 42 t = 6 ∨ x.1 42 t = 7) ∧ (5 ≤ sop x j → sop x j ≤ 8 → x.1 42 t = 4) ∧ (9 ≤ sop x j → x.1 42 t = 5)) ∧ (sop x j ≤ 4 → y.1 85 j = x.1 45 (x.1 43 t).toNatClampNeg ∧ y.1 86 j = x.1 46 (x.1 43 t).toNatClampNeg) ∧ (¬ sop x j ≤ 4 → y.1 85 j = x.1 43 t)) ∧ (¬ sop x j ≤ 10 → y.1 85 j = x.1 85 j)
/-- a cell in a claim becomes its number -/
def LK2 (x y : gd) (i : Nat) : Prop := (x.1 62 i = 6 → ∃ t : Nat, (x.1 63 i).toInt = (t : Nat) ∧ (t : Int) < mt x ∧ (x.1 42 t = 6 ∨ x.1 42 t = 7) ∧ (x.1 42 t = 7 → x.1 23 (t + 2) = 3 ∧ (t : Int) + 2 < mt x) ∧ y.1 62 i = 2 ∧ y.1 63 i = x.1 45 (x.1 43 t).toNatClampNeg + (if x.1 42 t = 7 then x.1 27 (t + 2) else 0)) ∧ (¬ x.1 62 i = 6 → y.1 62 i = x.1 62 i ∧ y.1 63 i = x.1 63 i)
section KLKF
variable {G : kG} {q : kP} {d : Nat} {x x0 y z : gd} {F : Int32 → gd → Prop} {Fv : gd → Prop}
theorem kf_link (hq : kV q) (hB : OT x0 x) (hJ : ∀ j : Nat, (j : Int) < mt x → JM x j) (h : ∀ y, CO y → fm (fun c k => c = 85 ∨ c = 86 ∨ c = 62 ∨ c = 63) x y → (∀ j : Nat, (j : Int) < ssm x → LK1 x y j) → (∀ i : Nat, (i : Int) < (x.1 60 3).toInt → LK2 x y i) → Fv y) : KT G q d zk_X7_link 0 [(0, vr 100)] [] x (rv Fv) := by
  obtain ⟨⟨hR, hU, hsp, hP⟩, hF, ⟨-, hN, hC, ⟨s0, hA⟩, hTS⟩, hSC, h5, -, acc⟩ := hB
  obtain ⟨hT, b1, b2, b3⟩ := hR
  have b4 : mt x ≤ 701 := by obtain ⟨-, n, en, hn, -⟩ := hT; unfold mt; omega
  have k10 : (10 : Int32).toInt = 10 := rfl
  have k4 : (4 : Int32).toInt = 4 := rfl
  have k2 : (2 : Int32).toInt = 2 := rfl
  have nbu : ¬ BU x := by
    rintro ⟨j, j1, j2⟩
    have := (hJ j (by omega)).1
    rcases j2 with e | e | e | e <;> rw [e] at this <;> revert this <;> decide
  have sm350 : ssm x ≤ 350 := by omega
  -- the steps that hold names still
  have step : ∀ i : Nat, (i : Int) < ssm x → sop x i ≤ 10 → ∃ t : Nat, (x.1 85 i).toInt = t ∧ (t : Int) < mt x ∧ (sop x i ≤ 4 → 0 ≤ (x.1 43 t).toInt ∧ (x.1 43 t).toInt < (x.1 40 6).toInt) ∧ (5 ≤ sop x i → sop x i ≤ 8 → 0 ≤ (x.1 43 t).toInt ∧ (x.1 43 t).toInt < (x.1 60 9).toInt) ∧ (9 ≤ sop x i → 0 ≤ (x.1 43 t).toInt ∧ (x.1 43 t).toInt < (x.1 60 10).toInt) ∧ ((sop x i ≤ 4 → x.1 42 t = 6 ∨ x.1 42 t = 7) ∧ (5 ≤ sop x i → sop x i ≤ 8 → x.1 42 t = 4) ∧ (9 ≤ sop x i → x.1 42 t = 5)) := by
    intro i hi ho
    obtain ⟨-, -, hs, -⟩ := hA i hi
    obtain ⟨t, t1, t2, t3, t4, t5⟩ := hs ho
    obtain ⟨j1, j2, j3, j4, -⟩ := hJ t (by omega)
    refine ⟨t, t1, by omega, fun c => j4 ?_, fun c1 c2 => ?_, fun c => ?_, fun c => ?_, t4, t5⟩
    · rcases t3 c with e | e | e | e
      · exact Or.inl e
      · exact Or.inr e
      · exfalso; rw [e] at j1; revert j1; decide
      · exfalso; rw [e] at j1; revert j1; decide
    · rw [hC.2.1]; exact j2 (t4 c1 c2)
    · rw [hC.2.2.1]; exact j3 (t5 c)
    · rcases t3 c with e | e | e | e
      · exact Or.inl e
      · exact Or.inr e
      · exfalso; rw [e] at j1; revert j1; decide
      · exfalso; rw [e] at j1; revert j1; decide
  -- sums
  have part : ∀ i : Nat, (i : Int) < (x.1 60 3).toInt → x.1 62 i = 6 → ∃ t : Nat, (x.1 63 i).toInt = t ∧ (t : Int) < mt x ∧ (0 ≤ (x.1 43 t).toInt ∧ (x.1 43 t).toInt < (x.1 40 6).toInt) ∧ (x.1 42 t = 7 → (t : Int) + 2 < mt x ∧ 0 ≤ (x.1 27 (t + 2)).toInt ∧ (x.1 27 (t + 2)).toInt < (x.1 46 (x.1 43 t).toNatClampNeg).toInt) ∧ (x.1 42 t = 6 ∨ x.1 42 t = 7) ∧ (x.1 42 t = 7 → x.1 23 (t + 2) = 3) := by
    intro i hi c
    obtain ⟨t, t1, t2, t3⟩ := (hP i hi).2 c
    obtain ⟨-, -, -, j4, -⟩ := hJ t (by omega)
    refine ⟨t, t1, by omega, j4 (t3.imp id (fun e => e.1)), fun c7 => ?_, t3.imp id (fun e => e.1), fun c7 => ?_⟩
    rotate_left 1
    · rcases t3 with e | ⟨-, e2, e3, e4⟩
      · rw [c7] at e; exact absurd e (by decide)
      · exact e4
    rcases t3 with e | ⟨-, e2, e3, e4⟩
    · rw [c7] at e; exact absurd e (by decide)
    · obtain ⟨-, -, -, -, j5⟩ := hJ (t + 2) (by push_cast; omega)
      have := j5 e3
      rw [Nat.add_sub_cancel] at this
      obtain ⟨-, n, en, hn, hw, -⟩ := hT
      exact ⟨by omega, (hw (t + 2) (by unfold mt at *; omega)).2.2 e4, this⟩
  have cell : ∀ m : Int32, 0 ≤ m.toInt → m.toInt < (x.1 40 6).toInt → vp_in m 24 ∧ 0 ≤ (x.1 45 m.toNatClampNeg).toInt ∧ (x.1 45 m.toNatClampNeg).toInt + 1 ≤ (x.1 60 6).toInt ∧ 0 ≤ (x.1 46 m.toNatClampNeg).toInt ∧ (x.1 45 m.toNatClampNeg).toInt + (x.1 46 m.toNatClampNeg).toInt ≤ (x.1 60 6).toInt := by
    intro m m0 m1
    have := hN.1.2
    obtain ⟨-, p2, p3, p4, p5, p6⟩ := hN.2.2.2.1 m.toNatClampNeg (by rw [t_cl]; omega)
    exact ⟨by rw [vp_in_iff]; omega, p2, p5, p3, p6⟩
  have c24 := hC.1
  -- the second loop
  have loop2 : ∀ (n k : Nat) (i : Int32) (y : gd), i.toInt = k → (k : Int) + n = (x.1 60 3).toInt → fm (fun c j => c = 85 ∨ c = 86 ∨ ((c = 62 ∨ c = 63) ∧ j < k)) x y → (∀ j : Nat, (j : Int) < ssm x → CSa y j) → (∀ j : Nat, j < k → y.1 62 j = 2 → 0 ≤ (y.1 63 j).toInt ∧ (y.1 63 j).toInt < 24) → (∀ j : Nat, (j : Int) < ssm x → LK1 x y j) → (∀ j : Nat, j < k → LK2 x y j) → KT G q d zk_X7_link 134 [(0, vr 100), (1, vi i)] [] y (rv Fv) := by
    have fin : ∀ (k : Nat) (y : gd), (k : Int) = (x.1 60 3).toInt → fm (fun c j => c = 85 ∨ c = 86 ∨ ((c = 62 ∨ c = 63) ∧ j < k)) x y → (∀ j : Nat, (j : Int) < ssm x → CSa y j) → (∀ j : Nat, j < k → y.1 62 j = 2 → 0 ≤ (y.1 63 j).toInt ∧ (y.1 63 j).toInt < 24) → (∀ j : Nat, (j : Int) < ssm x → LK1 x y j) → (∀ j : Nat, j < k → LK2 x y j) → Fv y := by
      intro k y ek fy hy1 hy2 hl1 hl2
      have e60 : ∀ j, y.1 60 j = x.1 60 j := fun j => fy _ _ (by omega)
      have es : ssm y = ssm x := by unfold ssm; rw [fy 80 9 (by omega)]
      have ep : ∀ j, sop y j = sop x j := fun j => by unfold sop; rw [fy 81 j (by omega)]
      have et : ∀ j, stg y j = stg x j := fun j => by unfold stg; rw [fy 84 j (by omega)]
      refine h y ⟨?_, ?_, by omega, fun i hi => ⟨hy1 i (by omega), ?_⟩, fun t ht => ?_⟩ (fm_w fy (fun c j q => by omega)) hl1 (fun i hi => hl2 i (by omega))
      · rw [e60, e60, e60, e60, e60, e60]
        refine ⟨hC.1, ?_, ?_, hC.2.2.2.2.2.1, hC.2.2.2.1, hC.2.2.2.2.1⟩
        · rw [hC.2.1]; exact hN.2.1
        · rw [hC.2.2.1]; exact hN.2.2.1
      · rw [e60]
        exact ⟨hsp, fun i hi c => hy2 i (by omega) c⟩
      · unfold CSb
        rw [ep, et, es, e60, ep, fy 83 i (by omega)]
        obtain ⟨a1, a2, -, a4⟩ := hA i (by omega)
        refine ⟨a1, a2, fun c => ?_, fun c => ?_, fun c => ?_⟩
        · rcases a4 c with g | g
          · exact g
          · exact absurd g nbu
        · rcases hSC i (by omega) (fun e => e) c with ⟨-, g, -⟩ | ⟨g1, g2, g3, g4⟩
          · exact absurd h5 g
          · exact ⟨g1, g3 h5, g4⟩
        · rcases hTS.2 h5 with g | g
          · omega
          · by_cases hl : (i : Int) + 1 < ssm x
            · exact hl
            · exfalso
              have : i = (ssm x).toNat - 1 := by omega
              apply c
              unfold sop
              rw [this, g]; rfl
      · rw [e60] at ht
        rw [fy 72 t (by omega), es]
        obtain ⟨p1, -, p3⟩ := hTS.1 t ht
        exact ⟨p1, p3 h5⟩
    intro n
    induction n with
    | zero =>
      intro k i y ei hk fy hy1 hy2 hl1 hl2
      refine kg_X7_link_134 hq _ ⟨fun _ => rv_i (fin k y (by omega) fy hy1 hy2 hl1 hl2), fun c => ?_⟩
      exfalso; rw [fy 60 3 (by omega), t_le] at c; omega
    | succ n ih =>
      intro k i y ei hk fy hy1 hy2 hl1 hl2
      have eN : i.toNatClampNeg = k := by rw [t_cl, ei]; rfl
      have e1 : (i + 1).toInt = ((k + 1 : Nat) : Int) := by rw [t_add (by show _ ≤ _ + (1 : Int); omega) (by show _ + (1 : Int) ≤ _; omega), ei]; rfl
      have vi9 : vp_in i 800 := by rw [vp_in_iff]; omega
      refine kg_X7_link_134 hq _ ⟨fun c => ?_, fun c => ⟨vi9, vi9, ?_⟩⟩
      · exfalso; rw [fy 60 3 (by omega), t_le] at c; omega
      rw [eN, fy 62 k (by omega), fy 63 k (by omega)]
      refine ⟨fun c6 => ih (k + 1) (i + 1) y e1 (by push_cast; omega) (fm_w fy (fun c j q => by omega)) hy1 (fun j hj c2 => ?_) hl1 (fun j hj => (by
        by_cases hjk : j = k
        · rw [hjk]; exact ⟨fun c => absurd c c6, fun _ => ⟨fy 62 k (by omega), fy 63 k (by omega)⟩⟩
        · exact hl2 j (by omega))), fun c6 => ?_⟩
      · by_cases hjk : j = k
        · rw [hjk] at c2 ⊢
          rw [fy 62 k (by omega)] at c2
          rw [fy 63 k (by omega)]
          rcases (hP k (by omega)).1 c2 with g | g
          · exact g
          · exact absurd g nbu
        · exact hy2 j (by omega) c2
      obtain ⟨t, t1, t2, ⟨m0, m1⟩, t3, t46, t47⟩ := part k (by omega) c6
      have tN : (x.1 63 k).toNatClampNeg = t := by rw [t_cl, t1]; rfl
      have vt : vp_in (x.1 63 k) 702 := by rw [vp_in_iff]; omega
      obtain ⟨q1, q2, q3, q4, q5⟩ := cell _ m0 m1
      have p198 : ∀ s : Int32, s = (if x.1 42 t = 7 then x.1 27 (t + 2) else 0) → 0 ≤ s.toInt → (x.1 45 (x.1 43 t).toNatClampNeg).toInt + s.toInt < 24 → KT G q d zk_X7_link 198 [(0, vr 100), (1, vi i), (2, vi (x.1 63 k))] [vi s] y (rv Fv) := by
        intro s hs s0' s1
        refine kg_X7_link_198 hq _ _ _ ⟨vi9, fun x2 e2 => ⟨vt, ?_⟩⟩
        rw [tN, eN]
        have f2 : ∀ c j, c ≠ 62 → x2.1 c j = y.1 c j := fun c j hc => by rw [e2, si_cell hc]
        rw [f2 43 t (by decide), fy 43 t (by omega), f2 45 _ (by decide), fy 45 _ (by omega)]
        refine ⟨q1, vi9, fun x6 e6 => ?_⟩
        rw [eN] at e2
        have es : (x.1 45 (x.1 43 t).toNatClampNeg + s).toInt = (x.1 45 (x.1 43 t).toNatClampNeg).toInt + s.toInt := t_add (by omega) (by omega)
        refine ih (k + 1) (i + 1) x6 e1 (by push_cast; omega) ?_ (fun j hj => ?_) (fun j hj c2 => ?_) (fun j hj => ?_) (fun j hj => ?_)
        · rw [e6, e2]; exact fm_si (fm_si (fm_w fy (fun c j q => by omega)) (by omega)) (by omega)
        · have := hy1 j hj
          unfold CSa sop at this ⊢
          have g : ∀ c j, c ≠ 62 → c ≠ 63 → x6.1 c j = y.1 c j := fun c j h1 h2 => by rw [e6, si_cell h2, f2 c j h1]
          rw [g 81 j (by decide) (by decide), g 85 j (by decide) (by decide), g 86 j (by decide) (by decide), g 60 6 (by decide) (by decide), g 60 9 (by decide) (by decide), g 60 10 (by decide) (by decide)]
          exact this
        · by_cases hjk : j = k
          · have : x6.1 63 j = x.1 45 (x.1 43 t).toNatClampNeg + s := by rw [hjk, e6]; (simp only [si_get, sfl_get, Nat.reduceEqDiff, eq_self, and_false, false_and, and_true, true_and, if_true, if_false, reduceIte, reduceCtorEq])
            rw [this, es]; omega
          · have a1 : x6.1 63 j = y.1 63 j := by rw [e6, si_get, if_neg (fun q => hjk q.2), f2 63 j (by decide)]
            have a2 : x6.1 62 j = y.1 62 j := by rw [e6, si_cell (by decide), e2, si_get, if_neg (fun q => hjk q.2)]
            rw [a1]; rw [a2] at c2
            exact hy2 j (by omega) c2
        · have := hl1 j hj
          have g : ∀ c j, c ≠ 62 → c ≠ 63 → x6.1 c j = y.1 c j := fun c j h1 h2 => by rw [e6, si_cell h2, f2 c j h1]
          unfold LK1 at this ⊢
          rw [g 85 j (by decide) (by decide), g 86 j (by decide) (by decide)]
          exact this
        · by_cases hjk : j = k
          · rw [hjk]
            refine ⟨fun _ => ⟨t, t1, t2, t46, fun c7 => ⟨t47 c7, (t3 c7).1⟩, ?_, ?_⟩, fun c => absurd c6 c⟩
            · rw [e6, si_cell (by decide), e2]; (simp only [si_get, sfl_get, Nat.reduceEqDiff, eq_self, and_false, false_and, and_true, true_and, if_true, if_false, reduceIte, reduceCtorEq])
            · rw [e6, hs]; (simp only [si_get, sfl_get, Nat.reduceEqDiff, eq_self, and_false, false_and, and_true, true_and, if_true, if_false, reduceIte, reduceCtorEq])
          · have a1 : x6.1 63 j = y.1 63 j := by rw [e6, si_get, if_neg (fun q => hjk q.2), f2 63 j (by decide)]
            have a2 : x6.1 62 j = y.1 62 j := by rw [e6, si_cell (by decide), e2, si_get, if_neg (fun q => hjk q.2)]
            have := hl2 j (by omega)
            unfold LK2 at this ⊢
            rw [a1, a2]
            exact this
      rw [tN, fy 42 t (by omega)]
      refine ⟨vt, fun c7 => p198 0 (by rw [if_neg c7]) (by decide) (by show _ + (0 : Int) < _; omega), fun c7 => ?_⟩
      obtain ⟨g1, g2, g3⟩ := t3 c7
      have e2 : (x.1 63 k + 2).toInt = t + 2 := by rw [t_add (by rw [k2]; omega) (by rw [k2]; omega), k2, t1]
      have e3 : (x.1 63 k + 2).toNatClampNeg = t + 2 := by rw [t_cl, e2]; omega
      rw [e3, fy 27 (t + 2) (by omega)]
      exact ⟨by rw [vp_in_iff]; omega, p198 _ (by rw [if_pos c7]) g2 (by omega)⟩
  -- the first loop
  have loop1 : ∀ (n k : Nat) (i : Int32) (y : gd), i.toInt = k → (k : Int) + n = ssm x → fm (fun c j => (c = 85 ∨ c = 86) ∧ j < k) x y → (∀ j : Nat, j < k → CSa y j) → (∀ j : Nat, j < k → LK1 x y j) → KT G q d zk_X7_link 2 [(0, vr 100), (1, vi i)] [] y (rv Fv) := by
    intro n
    induction n with
    | zero =>
      intro k i y ei hk fy hy1 hl1
      refine kg_X7_link_2 hq _ ⟨fun _ => loop2 (x.1 60 3).toInt.toNat 0 _ y rfl (by omega) (fm_w fy (fun c j q => by omega)) (fun j hj => hy1 j (by omega)) (fun j hj => by omega) (fun j hj => hl1 j (by omega)) (fun j hj => by omega), fun c => ?_⟩
      exfalso; rw [fy 80 9 (by omega), t_le] at c; unfold ssm at hk; omega
    | succ n ih =>
      intro k i y ei hk fy hy1 hl1
      have eN : i.toNatClampNeg = k := by rw [t_cl, ei]; rfl
      have e1 : (i + 1).toInt = ((k + 1 : Nat) : Int) := by rw [t_add (by show _ ≤ _ + (1 : Int); omega) (by show _ + (1 : Int) ≤ _; omega), ei]; rfl
      have vi9 : vp_in i 400 := by rw [vp_in_iff]; omega
      refine kg_X7_link_2 hq _ ⟨fun c => ?_, fun c => ⟨vi9, ?_⟩⟩
      · exfalso; rw [fy 80 9 (by omega), t_le] at c; unfold ssm at hk; omega
      rw [eN, fy 85 k (by omega), fy 81 k (by omega)]
      have keep : ¬ sop x k ≤ 10 → ∀ j : Nat, j < k + 1 → CSa y j := by
        intro hno j hj
        by_cases hjk : j = k
        · unfold CSa
          have : sop y j = sop x k := by unfold sop; rw [hjk, fy 81 k (by omega)]
          rw [this]
          exact ⟨fun c => by omega, fun c1 c2 => by omega, fun c1 c2 => by omega⟩
        · exact hy1 j (by omega)
      have keepL : ¬ sop x k ≤ 10 → ∀ j : Nat, j < k + 1 → LK1 x y j := by
        intro hno j hj
        by_cases hjk : j = k
        · rw [hjk]
          exact ⟨fun c => absurd c hno, fun _ => fy 85 k (by omega)⟩
        · exact hl1 j (by omega)
      have nm : x.1 85 k = -1 → ¬ sop x k ≤ 10 := fun cm ho => by
        obtain ⟨t, t1, -⟩ := step k (by omega) ho
        rw [cm, tm1] at t1; omega
      have nc : (10 : Int32) < x.1 81 k → ¬ sop x k ≤ 10 := fun c10 ho => by
        rw [t_lt, k10] at c10; unfold sop at ho; omega
      refine ⟨fun cm => ih (k + 1) (i + 1) y e1 (by push_cast; omega) (fm_w fy (fun c j q => by omega)) (keep (nm cm)) (keepL (nm cm)), fun cm => ⟨vi9, fun c10 => ih (k + 1) (i + 1) y e1 (by push_cast; omega) (fm_w fy (fun c j q => by omega)) (keep (nc c10)) (keepL (nc c10)), fun c10 => ?_⟩⟩
      rw [t_lt, k10] at c10
      have ho : sop x k ≤ 10 := by unfold sop; omega
      obtain ⟨t, t1, t2, t3, t4, t5, t6⟩ := step k (by omega) ho
      have tN : (x.1 85 k).toNatClampNeg = t := by rw [t_cl, t1]; rfl
      rw [tN, fy 43 t (by omega)]
      have p98 : ∀ (a s r : Int32) (hsv : (sop x k ≤ 4 → s = x.1 45 (x.1 43 t).toNatClampNeg ∧ r = x.1 46 (x.1 43 t).toNatClampNeg) ∧ (¬ sop x k ≤ 4 → s = x.1 43 t)) (hv : (a = 0 → r = 0) ∧ (¬ a = 0 → vp_in (x.1 43 t) 24 ∧ r = x.1 46 (x.1 43 t).toNatClampNeg)), ((sop x k ≤ 4 → 0 ≤ s.toInt ∧ s.toInt + 1 ≤ (x.1 60 6).toInt ∧ s.toInt + r.toInt ≤ (x.1 60 6).toInt) ∧ (5 ≤ sop x k → sop x k ≤ 8 → 0 ≤ s.toInt ∧ s.toInt < (x.1 60 9).toInt) ∧ (9 ≤ sop x k → sop x k ≤ 10 → 0 ≤ s.toInt ∧ s.toInt < (x.1 60 10).toInt)) → KT G q d zk_X7_link 98 [(0, vr 100), (1, vi i), (3, vi (x.1 43 t)), (4, vi a)] [vi s, vi i, vr 85] y (rv Fv) := by
        intro a s r hsv hv hcs
        refine kg_X7_link_98 hq _ _ _ _ _ ⟨vi9, fun x2 e2 => ?_⟩
        rw [eN] at e2 ⊢
        have go : ∀ z, z = si x2 86 k r → KT G q d zk_X7_link 2 [(0, vr 100), (1, vi (i + 1))] [] z (rv Fv) := by
          intro z ez
          refine ih (k + 1) (i + 1) z e1 (by push_cast; omega) ?_ (fun j hj => ?_) (fun j hj => ?_)
          · rw [ez, e2]; exact fm_si (fm_si (fm_w fy (fun c j q => by omega)) (by omega)) (by omega)
          · have g : ∀ c j, c ≠ 85 → c ≠ 86 → z.1 c j = y.1 c j := fun c j h1 h2 => by rw [ez, si_cell h2, e2, si_cell h1]
            by_cases hjk : j = k
            · have z5 : z.1 85 j = s := by rw [hjk, ez, e2]; (simp only [si_get, sfl_get, Nat.reduceEqDiff, eq_self, and_false, false_and, and_true, true_and, if_true, if_false, reduceIte, reduceCtorEq])
              have z6 : z.1 86 j = r := by rw [hjk, ez]; (simp only [si_get, sfl_get, Nat.reduceEqDiff, eq_self, and_false, false_and, and_true, true_and, if_true, if_false, reduceIte, reduceCtorEq])
              unfold CSa
              have : sop z j = sop x k := by unfold sop; rw [hjk, g 81 k (by decide) (by decide), fy 81 k (by omega)]
              rw [this, z5, z6, g 60 6 (by decide) (by decide), g 60 9 (by decide) (by decide), g 60 10 (by decide) (by decide), fy 60 6 (by omega), fy 60 9 (by omega), fy 60 10 (by omega)]
              exact hcs
            · have := hy1 j (by omega)
              unfold CSa sop at this ⊢
              have z5 : z.1 85 j = y.1 85 j := by rw [ez, si_cell (by decide), e2, si_get, if_neg (fun q => hjk q.2)]
              have z6 : z.1 86 j = y.1 86 j := by rw [ez, si_get, if_neg (fun q => hjk q.2), e2, si_cell (by decide)]
              rw [z5, z6, g 81 j (by decide) (by decide), g 60 6 (by decide) (by decide), g 60 9 (by decide) (by decide), g 60 10 (by decide) (by decide)]
              exact this
          · by_cases hjk : j = k
            · have z5 : z.1 85 j = s := by rw [hjk, ez, e2]; (simp only [si_get, sfl_get, Nat.reduceEqDiff, eq_self, and_false, false_and, and_true, true_and, if_true, if_false, reduceIte, reduceCtorEq])
              have z6 : z.1 86 j = r := by rw [hjk, ez]; (simp only [si_get, sfl_get, Nat.reduceEqDiff, eq_self, and_false, false_and, and_true, true_and, if_true, if_false, reduceIte, reduceCtorEq])
              rw [hjk] at z5 z6 ⊢
              unfold LK1
              rw [z5, z6]
              exact ⟨fun _ => ⟨t, t1, t2, t6, hsv.1, hsv.2⟩, fun c => absurd ho c⟩
            · have := hl1 j (by omega)
              unfold LK1 at this ⊢
              have z5 : z.1 85 j = y.1 85 j := by rw [ez, si_cell (by decide), e2, si_get, if_neg (fun q => hjk q.2)]
              have z6 : z.1 86 j = y.1 86 j := by rw [ez, si_get, if_neg (fun q => hjk q.2), e2, si_cell (by decide)]
              rw [z5, z6]
              exact this
        refine ⟨fun c0 => ⟨vi9, fun z ez => go z (by rw [ez, hv.1 c0])⟩, fun c0 => ⟨(hv.2 c0).1, vi9, fun z ez => go z ?_⟩⟩
        rw [ez, (hv.2 c0).2, e2, si_cell (by decide), fy 46 _ (by omega)]
      refine ⟨by rw [vp_in_iff]; omega, vi9, fun c4 => ?_, fun c4 => ?_⟩
      · rw [t_lt, k4] at c4
        refine kg_X7_link_70 hq _ _ _ ⟨fun _ => p98 0 _ 0 ⟨fun c => absurd c (by unfold sop; omega), fun _ => rfl⟩ ⟨fun _ => rfl, fun q => absurd rfl q⟩ ⟨fun c => ?_, t4, fun c1 _ => t5 c1⟩, fun q => absurd rfl q⟩
        unfold sop at c; omega
      · rw [t_lt, k4] at c4
        have h4 : sop x k ≤ 4 := by unfold sop; omega
        obtain ⟨m0, m1⟩ := t3 h4
        obtain ⟨q1, q2, q3, q4, q5⟩ := cell _ m0 m1
        refine kg_X7_link_70 hq _ _ _ ⟨fun q => absurd q (by decide), fun _ => ⟨q1, ?_⟩⟩
        rw [fy 45 _ (by omega)]
        exact p98 1 _ _ ⟨fun _ => ⟨rfl, rfl⟩, fun c => absurd h4 c⟩ ⟨fun q => absurd q (by decide), fun _ => ⟨q1, rfl⟩⟩ ⟨fun _ => ⟨q2, q3, q5⟩, fun c1 _ => by omega, fun c1 _ => by omega⟩
  exact kg_X7_link_0 hq (loop1 (ssm x).toNat 0 _ x rfl (by omega) (fm_rf _ _) (fun j hj => by omega) (fun j hj => by omega))
end KLKF
end
