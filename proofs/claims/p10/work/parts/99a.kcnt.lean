/-! how many parts the events of a text may make: no more than it has tokens -/
def ubv (v : Nat × Nat × Nat) : Nat := if v.1 = 24 ∨ v.1 = 27 then 2 else if v.1 = 50 ∨ v.1 = 51 ∨ v.1 = 52 ∨ v.1 = 53 ∨ v.1 = 3 ∨ v.1 = 6 ∨ v.1 = 7 ∨ v.1 = 54 then 1 else 0
def cnt (L : gU) : Nat := (L.map ubv).sum
section CNTL
variable {K V : Nat → Int32} {L L' : gU} {o : Bool} {sN : Nat → Nat → Bool}
theorem cnt_app {M : gU} : cnt (L ++ M) = cnt L + cnt M := by
  unfold cnt
  rw [List.map_append, List.sum_append]
theorem cnt_one {v : Nat × Nat × Nat} : cnt [v] = ubv v := rfl
theorem cnt_two {v w : Nat × Nat × Nat} : cnt [v, w] = ubv v + ubv w := rfl
theorem ub_3 {a b : Nat} : ubv (3, a, b) = 1 := rfl
theorem ub_6 {a b : Nat} : ubv (6, a, b) = 1 := rfl
theorem ub_7 {a b : Nat} : ubv (7, a, b) = 1 := rfl
theorem ub_12 {a b : Nat} : ubv (12, a, b) = 0 := rfl
theorem ub_20 {a b : Nat} : ubv (20, a, b) = 0 := rfl
theorem ub_21 {a b : Nat} : ubv (21, a, b) = 0 := rfl
theorem ub_22 {a b : Nat} : ubv (22, a, b) = 0 := rfl
theorem ub_23 {a b : Nat} : ubv (23, a, b) = 0 := rfl
theorem ub_24 {a b : Nat} : ubv (24, a, b) = 2 := rfl
theorem ub_25 {a b : Nat} : ubv (25, a, b) = 0 := rfl
theorem ub_26 {a b : Nat} : ubv (26, a, b) = 0 := rfl
theorem ub_27 {a b : Nat} : ubv (27, a, b) = 2 := rfl
theorem ub_31 {a b : Nat} : ubv (31, a, b) = 0 := rfl
theorem ub_32 {a b : Nat} : ubv (32, a, b) = 0 := rfl
theorem ub_33 {a b : Nat} : ubv (33, a, b) = 0 := rfl
theorem ub_34 {a b : Nat} : ubv (34, a, b) = 0 := rfl
theorem ub_35 {a b : Nat} : ubv (35, a, b) = 0 := rfl
theorem ub_36 {a b : Nat} : ubv (36, a, b) = 0 := rfl
theorem ub_50 {a b : Nat} : ubv (50, a, b) = 1 := rfl
theorem ub_51 {a b : Nat} : ubv (51, a, b) = 1 := rfl
theorem ub_52 {a b : Nat} : ubv (52, a, b) = 1 := rfl
theorem ub_53 {a b : Nat} : ubv (53, a, b) = 1 := rfl
theorem ub_54 {a b : Nat} : ubv (54, a, b) = 1 := rfl
theorem ub_60 {a b : Nat} : ubv (60, a, b) = 0 := rfl
theorem ub_61 {a b : Nat} : ubv (61, a, b) = 0 := rfl
theorem ub_62 {a b : Nat} : ubv (62, a, b) = 0 := rfl
theorem ub_63 {a b : Nat} : ubv (63, a, b) = 0 := rfl
theorem ub_65 {a b : Nat} : ubv (65, a, b) = 0 := rfl
theorem ub_66 {a b : Nat} : ubv (66, a, b) = 0 := rfl
theorem ub_67 {a b : Nat} : ubv (67, a, b) = 0 := rfl
theorem ub_68 {a b : Nat} : ubv (68, a, b) = 0 := rfl
theorem ub_69 {a b : Nat} : ubv (69, a, b) = 0 := rfl
theorem ub_70 {a b : Nat} : ubv (70, a, b) = 0 := rfl
theorem ub_74 {a b : Nat} : ubv (74, a, b) = 0 := rfl
theorem ub_75 {a b : Nat} : ubv (75, a, b) = 0 := rfl
theorem ub_76 {a b : Nat} : ubv (76, a, b) = 0 := rfl
theorem ub_77 {a b : Nat} : ubv (77, a, b) = 0 := rfl
theorem ub_78 {a b : Nat} : ubv (78, a, b) = 0 := rfl
theorem ub_80 {a b : Nat} : ubv (80, a, b) = 0 := rfl
theorem ub_81 {a b : Nat} : ubv (81, a, b) = 0 := rfl
theorem ub_82 {a b : Nat} : ubv (82, a, b) = 0 := rfl
theorem ub_83 {a b : Nat} : ubv (83, a, b) = 0 := rfl
/-- the parts are no more -/
theorem tPs_cnt : ∀ {L : gU} {E : gV}, (tPs sN V K L E).length ≤ cnt L := by
  intro L
  induction L with
  | nil => intro E; exact Nat.le_refl _
  | cons v L ih =>
    intro E
    show (tPv sN V K E v ++ tPs sN V K L (exV E v)).length ≤ ubv v + cnt L
    rw [List.length_append]
    have a : (tPv sN V K E v).length ≤ ubv v := by
      unfold tPv ubv
      by_cases c1 : v.1 = 24
      · rw [if_pos c1, if_pos (Or.inl c1)]
        unfold alP
        cases kfi sN E.1 v.2.1 with
        | none => exact Nat.zero_le _
        | some p => exact Nat.le_refl _
      · rw [if_neg c1]
        by_cases c2 : v.1 = 27
        · rw [if_pos c2, if_pos (Or.inr c2)]
          unfold alP
          cases kfi sN E.1 v.2.2 with
          | none => exact Nat.zero_le _
          | some p => exact Nat.le_refl _
        · rw [if_neg c2, if_neg (fun z => z.elim c1 c2)]
          by_cases c3 : v.1 = 50 ∨ v.1 = 51 ∨ v.1 = 52 ∨ v.1 = 53 ∨ v.1 = 3 ∨ v.1 = 6 ∨ v.1 = 7 ∨ v.1 = 54
          · rw [if_pos c3]
            cases cPt sN V K E v with
            | none => exact Nat.zero_le _
            | some p => exact Nat.le_refl _
          · rw [if_neg c3]
            have e : cPt sN V K E v = none := by
              unfold cPt
              rw [if_neg (by omega), if_neg (by omega), if_neg (by omega), if_neg (by omega), if_neg (by omega), if_neg (by omega)]
            rw [e]
            exact Nat.le_refl _
    have := ih (E := exV E v)
    omega
theorem pt_cn {w : Int32} {q r : Nat × gU} (h : pt K w q = some r) : cnt r.2 = cnt q.2 ∧ r.1 = q.1 + 1 := by
  obtain ⟨-, -, e⟩ := pt_is h
  rw [e]; exact ⟨rfl, rfl⟩
abbrev cgoN (rE : Nat → Nat → gU → gOp) : Prop := ∀ s i L q, rE s i L = some q → cnt q.2 + i ≤ cnt L + q.1
theorem pW_cn {rE : Nat → Nat → gU → gOp} {th : Nat} (hr : cgoN rE) : ∀ (f j : Nat) (L : gU) (q : Nat × gU), pW rE K th f j L = some q → cnt q.2 + j ≤ cnt L + q.1 := by
  intro f
  induction f with
  | zero => intro j L q h; exact absurd h (by simp [pW])
  | succ f ih =>
    intro j L q h
    rw [pW] at h
    split at h
    · split at h
      · obtain ⟨z, hz, h2⟩ := Option.bind_eq_some_iff.mp h
        have a := hr _ _ _ _ hz
        have b := ih _ _ _ h2
        ((try simp only [cnt_app, cnt_one, cnt_two, ub_3, ub_6, ub_7, ub_12, ub_20, ub_21, ub_22, ub_23, ub_24, ub_25, ub_26, ub_27, ub_31, ub_32, ub_33, ub_34, ub_35, ub_36, ub_50, ub_51, ub_52, ub_53, ub_54, ub_60, ub_61, ub_62, ub_63, ub_65, ub_66, ub_67, ub_68, ub_69, ub_70, ub_74, ub_75, ub_76, ub_77, ub_78, ub_80, ub_81, ub_82, ub_83] at *); omega)
      · exact absurd h (by simp)
    · cases Option.some.inj h; exact Nat.le_refl _
theorem pO_cn {rE : Nat → Nat → gU → gOp} (hr : cgoN rE) {i : Nat} {q : Nat × gU} (h : pO rE K o i L = some q) : cnt q.2 + i ≤ cnt L + q.1 := by
  unfold pO at h
  split at h
  · exact absurd h (by simp)
  · split at h
    · cases Option.some.inj h; ((try simp only [cnt_app, cnt_one, cnt_two, ub_3, ub_6, ub_7, ub_12, ub_20, ub_21, ub_22, ub_23, ub_24, ub_25, ub_26, ub_27, ub_31, ub_32, ub_33, ub_34, ub_35, ub_36, ub_50, ub_51, ub_52, ub_53, ub_54, ub_60, ub_61, ub_62, ub_63, ub_65, ub_66, ub_67, ub_68, ub_69, ub_70, ub_74, ub_75, ub_76, ub_77, ub_78, ub_80, ub_81, ub_82, ub_83] at *); omega)
    · split at h
      · cases Option.some.inj h; ((try simp only [cnt_app, cnt_one, cnt_two, ub_3, ub_6, ub_7, ub_12, ub_20, ub_21, ub_22, ub_23, ub_24, ub_25, ub_26, ub_27, ub_31, ub_32, ub_33, ub_34, ub_35, ub_36, ub_50, ub_51, ub_52, ub_53, ub_54, ub_60, ub_61, ub_62, ub_63, ub_65, ub_66, ub_67, ub_68, ub_69, ub_70, ub_74, ub_75, ub_76, ub_77, ub_78, ub_80, ub_81, ub_82, ub_83] at *); omega)
      · split at h
        · obtain ⟨z, hz, h2⟩ := Option.bind_eq_some_iff.mp h
          have a := hr _ _ _ _ hz
          have b := pt_cn h2
          ((try simp only [cnt_app, cnt_one, cnt_two, ub_3, ub_6, ub_7, ub_12, ub_20, ub_21, ub_22, ub_23, ub_24, ub_25, ub_26, ub_27, ub_31, ub_32, ub_33, ub_34, ub_35, ub_36, ub_50, ub_51, ub_52, ub_53, ub_54, ub_60, ub_61, ub_62, ub_63, ub_65, ub_66, ub_67, ub_68, ub_69, ub_70, ub_74, ub_75, ub_76, ub_77, ub_78, ub_80, ub_81, ub_82, ub_83] at *); omega)
        · split at h
          · split at h
            · split at h
              · split at h
                · cases Option.some.inj h; ((try simp only [cnt_app, cnt_one, cnt_two, ub_3, ub_6, ub_7, ub_12, ub_20, ub_21, ub_22, ub_23, ub_24, ub_25, ub_26, ub_27, ub_31, ub_32, ub_33, ub_34, ub_35, ub_36, ub_50, ub_51, ub_52, ub_53, ub_54, ub_60, ub_61, ub_62, ub_63, ub_65, ub_66, ub_67, ub_68, ub_69, ub_70, ub_74, ub_75, ub_76, ub_77, ub_78, ub_80, ub_81, ub_82, ub_83] at *); omega)
                · exact absurd h (by simp)
              · cases Option.some.inj h; ((try simp only [cnt_app, cnt_one, cnt_two, ub_3, ub_6, ub_7, ub_12, ub_20, ub_21, ub_22, ub_23, ub_24, ub_25, ub_26, ub_27, ub_31, ub_32, ub_33, ub_34, ub_35, ub_36, ub_50, ub_51, ub_52, ub_53, ub_54, ub_60, ub_61, ub_62, ub_63, ub_65, ub_66, ub_67, ub_68, ub_69, ub_70, ub_74, ub_75, ub_76, ub_77, ub_78, ub_80, ub_81, ub_82, ub_83] at *); omega)
            · cases Option.some.inj h; ((try simp only [cnt_app, cnt_one, cnt_two, ub_3, ub_6, ub_7, ub_12, ub_20, ub_21, ub_22, ub_23, ub_24, ub_25, ub_26, ub_27, ub_31, ub_32, ub_33, ub_34, ub_35, ub_36, ub_50, ub_51, ub_52, ub_53, ub_54, ub_60, ub_61, ub_62, ub_63, ub_65, ub_66, ub_67, ub_68, ub_69, ub_70, ub_74, ub_75, ub_76, ub_77, ub_78, ub_80, ub_81, ub_82, ub_83] at *); omega)
          · exact absurd h (by simp)
theorem pE_cn : ∀ f : Nat, cgoN (pE K o f) := by
  intro f
  induction f with
  | zero => intro s i L q h; exact absurd h (by simp [pE])
  | succ f ih =>
    intro s i L q h
    rw [pE] at h
    split at h
    · obtain ⟨z, hz, h2⟩ := Option.bind_eq_some_iff.mp h
      have b := pW_cn ih _ _ _ _ h2
      have a : cnt z.2 + i ≤ cnt L + z.1 := by
        split at hz
        · split at hz
          · obtain ⟨y, hy, h3⟩ := Option.bind_eq_some_iff.mp hz
            cases Option.some.inj h3
            have a := ih _ _ _ _ hy
            ((try simp only [cnt_app, cnt_one, cnt_two, ub_3, ub_6, ub_7, ub_12, ub_20, ub_21, ub_22, ub_23, ub_24, ub_25, ub_26, ub_27, ub_31, ub_32, ub_33, ub_34, ub_35, ub_36, ub_50, ub_51, ub_52, ub_53, ub_54, ub_60, ub_61, ub_62, ub_63, ub_65, ub_66, ub_67, ub_68, ub_69, ub_70, ub_74, ub_75, ub_76, ub_77, ub_78, ub_80, ub_81, ub_82, ub_83] at *); omega)
          · exact absurd hz (by simp)
        · exact pO_cn ih hz
      omega
    · exact absurd h (by simp)
theorem pX_cn {f i : Nat} {q : Nat × gU} (h : pX K o f i L = some q) : cnt q.2 + i ≤ cnt L + q.1 + 1 := by
  obtain ⟨z, hz, h2⟩ := Option.bind_eq_some_iff.mp h
  have a := pE_cn f _ _ _ _ hz
  unfold pan at h2
  cases Option.some.inj h2
  ((try simp only [cnt_app, cnt_one, cnt_two, ub_3, ub_6, ub_7, ub_12, ub_20, ub_21, ub_22, ub_23, ub_24, ub_25, ub_26, ub_27, ub_31, ub_32, ub_33, ub_34, ub_35, ub_36, ub_50, ub_51, ub_52, ub_53, ub_54, ub_60, ub_61, ub_62, ub_63, ub_65, ub_66, ub_67, ub_68, ub_69, ub_70, ub_74, ub_75, ub_76, ub_77, ub_78, ub_80, ub_81, ub_82, ub_83] at *); omega)
theorem pXq_cn {f : Nat} {r q : Nat × gU} (h : pXq K f r = some q) : cnt q.2 + r.1 ≤ cnt r.2 + q.1 + 1 := pX_cn h
theorem pP_cn {f i : Nat} {q : Nat × gU} (h : pP K f i L = some q) : cnt q.2 + i ≤ cnt L + q.1 := by
  unfold pP at h
  split at h
  · split at h
    · split at h
      · obtain ⟨z, hz, h2⟩ := Option.bind_eq_some_iff.mp h
        have a := pX_cn hz
        have b := pt_cn h2
        ((try simp only [cnt_app, cnt_one, cnt_two, ub_3, ub_6, ub_7, ub_12, ub_20, ub_21, ub_22, ub_23, ub_24, ub_25, ub_26, ub_27, ub_31, ub_32, ub_33, ub_34, ub_35, ub_36, ub_50, ub_51, ub_52, ub_53, ub_54, ub_60, ub_61, ub_62, ub_63, ub_65, ub_66, ub_67, ub_68, ub_69, ub_70, ub_74, ub_75, ub_76, ub_77, ub_78, ub_80, ub_81, ub_82, ub_83] at *); omega)
      · exact absurd h (by simp)
    · cases Option.some.inj h; ((try simp only [cnt_app, cnt_one, cnt_two, ub_3, ub_6, ub_7, ub_12, ub_20, ub_21, ub_22, ub_23, ub_24, ub_25, ub_26, ub_27, ub_31, ub_32, ub_33, ub_34, ub_35, ub_36, ub_50, ub_51, ub_52, ub_53, ub_54, ub_60, ub_61, ub_62, ub_63, ub_65, ub_66, ub_67, ub_68, ub_69, ub_70, ub_74, ub_75, ub_76, ub_77, ub_78, ub_80, ub_81, ub_82, ub_83] at *); omega)
  · exact absurd h (by simp)
theorem pme_cn {t : Option Nat} : cnt (pme t) = 0 := by
  cases t <;> rfl
theorem pma_cn {t : Option Nat} : cnt (pma t) = 0 := by
  cases t <;> rfl
theorem pal_cn {t : Option Nat} {i : Nat} : cnt [pal t i] = 2 := by
  cases t <;> rfl
theorem pan_cn {k a b : Nat} {q r : Nat × gU} (h : pan (k, a, b) q = some r) : cnt r.2 = cnt q.2 + ubv (k, a, b) ∧ r.1 = q.1 := by
  unfold pan at h
  cases Option.some.inj h
  exact ⟨cnt_app, rfl⟩
theorem pR_cn {f i : Nat} {t : Option Nat} {q : Nat × gU} (h : pR K f t i L = some q) : cnt q.2 + i ≤ cnt L + q.1 + 1 := by
  unfold pR at h
  split at h
  · split at h
    · obtain ⟨z4, hz4, h4⟩ := Option.bind_eq_some_iff.mp h
      obtain ⟨z3, hz3, h3⟩ := Option.bind_eq_some_iff.mp hz4
      obtain ⟨z2, hz2, h2⟩ := Option.bind_eq_some_iff.mp hz3
      obtain ⟨z5, hz5, h5⟩ := Option.bind_eq_some_iff.mp h4
      have d := pan_cn h5
      have a1 := pP_cn hz2
      have a2 := pt_cn h2
      have a3 := pXq_cn h3
      rw [cnt_app, pme_cn] at a1
      split at hz5
      · obtain ⟨z6, hz6, h6⟩ := Option.bind_eq_some_iff.mp hz5
        have b1 := pt_cn hz6
        have b2 := pXq_cn h6
        ((try simp only [cnt_app, cnt_one, cnt_two, ub_3, ub_6, ub_7, ub_12, ub_20, ub_21, ub_22, ub_23, ub_24, ub_25, ub_26, ub_27, ub_31, ub_32, ub_33, ub_34, ub_35, ub_36, ub_50, ub_51, ub_52, ub_53, ub_54, ub_60, ub_61, ub_62, ub_63, ub_65, ub_66, ub_67, ub_68, ub_69, ub_70, ub_74, ub_75, ub_76, ub_77, ub_78, ub_80, ub_81, ub_82, ub_83] at *); omega)
      · cases Option.some.inj hz5
        ((try simp only [cnt_app, cnt_one, cnt_two, ub_3, ub_6, ub_7, ub_12, ub_20, ub_21, ub_22, ub_23, ub_24, ub_25, ub_26, ub_27, ub_31, ub_32, ub_33, ub_34, ub_35, ub_36, ub_50, ub_51, ub_52, ub_53, ub_54, ub_60, ub_61, ub_62, ub_63, ub_65, ub_66, ub_67, ub_68, ub_69, ub_70, ub_74, ub_75, ub_76, ub_77, ub_78, ub_80, ub_81, ub_82, ub_83] at *); omega)
    · exact absurd h (by simp)
  · split at h
    · obtain ⟨z, hz, h2⟩ := Option.bind_eq_some_iff.mp h
      have a1 := pP_cn hz
      have d := pan_cn h2
      rw [cnt_app, pme_cn] at a1
      ((try simp only [cnt_app, cnt_one, cnt_two, ub_3, ub_6, ub_7, ub_12, ub_20, ub_21, ub_22, ub_23, ub_24, ub_25, ub_26, ub_27, ub_31, ub_32, ub_33, ub_34, ub_35, ub_36, ub_50, ub_51, ub_52, ub_53, ub_54, ub_60, ub_61, ub_62, ub_63, ub_65, ub_66, ub_67, ub_68, ub_69, ub_70, ub_74, ub_75, ub_76, ub_77, ub_78, ub_80, ub_81, ub_82, ub_83] at *); omega)
    · split at h
      · split at h
        · cases Option.some.inj h
          show cnt (L ++ [pal t i]) + i ≤ cnt L + (i + 1) + 1
          rw [cnt_app, pal_cn]
          omega
        · exact absurd h (by simp)
      · obtain ⟨z, hz, h2⟩ := Option.bind_eq_some_iff.mp h
        have a1 := pX_cn hz
        have d := pan_cn h2
        rw [cnt_app, pma_cn] at a1
        ((try simp only [cnt_app, cnt_one, cnt_two, ub_3, ub_6, ub_7, ub_12, ub_20, ub_21, ub_22, ub_23, ub_24, ub_25, ub_26, ub_27, ub_31, ub_32, ub_33, ub_34, ub_35, ub_36, ub_50, ub_51, ub_52, ub_53, ub_54, ub_60, ub_61, ub_62, ub_63, ub_65, ub_66, ub_67, ub_68, ub_69, ub_70, ub_74, ub_75, ub_76, ub_77, ub_78, ub_80, ub_81, ub_82, ub_83] at *); omega)
abbrev cgsN (rS : Nat → Nat → gU → gTs) : Prop := ∀ c i L q, rS c i L = some q → cnt q.2.2 + i ≤ cnt L + q.2.1
theorem pBl_cn {rS : Nat → Nat → gU → gTs} {z : Nat} (hr : cgsN rS) : ∀ (n c i : Nat) (L : gU) (q : Nat × Nat × gU), pBl rS K z n c i L = some q → cnt q.2.2 + i ≤ cnt L + q.2.1 := by
  intro n
  induction n with
  | zero => intro c i L q h; exact absurd h (by simp [pBl])
  | succ n ih =>
    intro c i L q h
    rw [pBl] at h
    split at h
    · split at h
      · cases Option.some.inj h; ((try simp only [cnt_app, cnt_one, cnt_two, ub_3, ub_6, ub_7, ub_12, ub_20, ub_21, ub_22, ub_23, ub_24, ub_25, ub_26, ub_27, ub_31, ub_32, ub_33, ub_34, ub_35, ub_36, ub_50, ub_51, ub_52, ub_53, ub_54, ub_60, ub_61, ub_62, ub_63, ub_65, ub_66, ub_67, ub_68, ub_69, ub_70, ub_74, ub_75, ub_76, ub_77, ub_78, ub_80, ub_81, ub_82, ub_83] at *); omega)
      · exact absurd h (by simp)
    · obtain ⟨y, hy, h2⟩ := Option.bind_eq_some_iff.mp h
      have a := hr _ _ _ _ hy
      have b := ih _ _ _ _ h2
      omega
theorem pBk_cn {rS : Nat → Nat → gU → gTs} {z : Nat} (hr : cgsN rS) {c i : Nat} {q : Nat × Nat × gU} (h : pBk rS K z c i L = some q) : cnt q.2.2 + i ≤ cnt L + q.2.1 := by
  unfold pBk at h
  split at h
  · have b := pBl_cn hr _ _ _ _ _ h
    ((try simp only [cnt_app, cnt_one, cnt_two, ub_3, ub_6, ub_7, ub_12, ub_20, ub_21, ub_22, ub_23, ub_24, ub_25, ub_26, ub_27, ub_31, ub_32, ub_33, ub_34, ub_35, ub_36, ub_50, ub_51, ub_52, ub_53, ub_54, ub_60, ub_61, ub_62, ub_63, ub_65, ub_66, ub_67, ub_68, ub_69, ub_70, ub_74, ub_75, ub_76, ub_77, ub_78, ub_80, ub_81, ub_82, ub_83] at *); omega)
  · exact absurd h (by simp)
theorem pEl_cn {rS : Nat → Nat → gU → gTs} (hr : cgsN rS) {q r : Nat × Nat × gU} (h : pEl rS K q = some r) : cnt r.2.2 + q.2.1 ≤ cnt q.2.2 + r.2.1 := by
  unfold pEl at h
  split at h
  · split at h
    · split at h
      · have b := hr _ _ _ _ h
        ((try simp only [cnt_app, cnt_one, cnt_two, ub_3, ub_6, ub_7, ub_12, ub_20, ub_21, ub_22, ub_23, ub_24, ub_25, ub_26, ub_27, ub_31, ub_32, ub_33, ub_34, ub_35, ub_36, ub_50, ub_51, ub_52, ub_53, ub_54, ub_60, ub_61, ub_62, ub_63, ub_65, ub_66, ub_67, ub_68, ub_69, ub_70, ub_74, ub_75, ub_76, ub_77, ub_78, ub_80, ub_81, ub_82, ub_83] at *); omega)
      · have b := pBk_cn hr h
        ((try simp only [cnt_app, cnt_one, cnt_two, ub_3, ub_6, ub_7, ub_12, ub_20, ub_21, ub_22, ub_23, ub_24, ub_25, ub_26, ub_27, ub_31, ub_32, ub_33, ub_34, ub_35, ub_36, ub_50, ub_51, ub_52, ub_53, ub_54, ub_60, ub_61, ub_62, ub_63, ub_65, ub_66, ub_67, ub_68, ub_69, ub_70, ub_74, ub_75, ub_76, ub_77, ub_78, ub_80, ub_81, ub_82, ub_83] at *); omega)
    · exact absurd h (by simp)
  · cases Option.some.inj h; exact Nat.le_refl _
theorem pup_cn {c k a b : Nat} {r : gOp} {q : Nat × Nat × gU} (h : pup c (k, a, b) r = some q) : ∃ z, r = some z ∧ cnt q.2.2 = cnt z.2 + ubv (k, a, b) ∧ q.2.1 = z.1 := by
  unfold pup at h
  obtain ⟨z, hz, e⟩ := Option.bind_eq_some_iff.mp h
  cases Option.some.inj e
  exact ⟨z, hz, cnt_app, rfl⟩
theorem pS1_cn {f c i : Nat} {q : Nat × Nat × gU} (h : pS1 K f c i L = some q) : cnt q.2.2 + i ≤ cnt L + q.2.1 := by
  unfold pS1 at h
  split at h
  · split at h
    · obtain ⟨z, h, g⟩ := pup_cn h
      obtain ⟨y, hy, h2⟩ := Option.bind_eq_some_iff.mp h
      have a := pR_cn hy
      have b := pt_cn h2
      ((try simp only [cnt_app, cnt_one, cnt_two, ub_3, ub_6, ub_7, ub_12, ub_20, ub_21, ub_22, ub_23, ub_24, ub_25, ub_26, ub_27, ub_31, ub_32, ub_33, ub_34, ub_35, ub_36, ub_50, ub_51, ub_52, ub_53, ub_54, ub_60, ub_61, ub_62, ub_63, ub_65, ub_66, ub_67, ub_68, ub_69, ub_70, ub_74, ub_75, ub_76, ub_77, ub_78, ub_80, ub_81, ub_82, ub_83] at *); omega)
    · exact absurd h (by simp)
  · split at h
    · split at h
      · split at h
        · obtain ⟨z, h, g⟩ := pup_cn h
          obtain ⟨y5, hy5, h5⟩ := Option.bind_eq_some_iff.mp h
          obtain ⟨y4, hy4, h4⟩ := Option.bind_eq_some_iff.mp hy5
          obtain ⟨y3, hy3, h3⟩ := Option.bind_eq_some_iff.mp hy4
          obtain ⟨y2, hy2, h2⟩ := Option.bind_eq_some_iff.mp hy3
          have a1 := pX_cn hy2
          have a2 := pt_cn h2
          have a3 := pt_cn h3
          have a4 := pXq_cn h4
          have a5 := pt_cn h5
          ((try simp only [cnt_app, cnt_one, cnt_two, ub_3, ub_6, ub_7, ub_12, ub_20, ub_21, ub_22, ub_23, ub_24, ub_25, ub_26, ub_27, ub_31, ub_32, ub_33, ub_34, ub_35, ub_36, ub_50, ub_51, ub_52, ub_53, ub_54, ub_60, ub_61, ub_62, ub_63, ub_65, ub_66, ub_67, ub_68, ub_69, ub_70, ub_74, ub_75, ub_76, ub_77, ub_78, ub_80, ub_81, ub_82, ub_83] at *); omega)
        · exact absurd h (by simp)
      · split at h
        · obtain ⟨z, h, g⟩ := pup_cn h
          obtain ⟨y2, hy2, h2⟩ := Option.bind_eq_some_iff.mp h
          have a := pR_cn hy2
          have b := pt_cn h2
          ((try simp only [cnt_app, cnt_one, cnt_two, ub_3, ub_6, ub_7, ub_12, ub_20, ub_21, ub_22, ub_23, ub_24, ub_25, ub_26, ub_27, ub_31, ub_32, ub_33, ub_34, ub_35, ub_36, ub_50, ub_51, ub_52, ub_53, ub_54, ub_60, ub_61, ub_62, ub_63, ub_65, ub_66, ub_67, ub_68, ub_69, ub_70, ub_74, ub_75, ub_76, ub_77, ub_78, ub_80, ub_81, ub_82, ub_83] at *); omega)
        · exact absurd h (by simp)
    · split at h
      · obtain ⟨z, h, g⟩ := pup_cn h
        have b := pt_cn h
        ((try simp only [cnt_app, cnt_one, cnt_two, ub_3, ub_6, ub_7, ub_12, ub_20, ub_21, ub_22, ub_23, ub_24, ub_25, ub_26, ub_27, ub_31, ub_32, ub_33, ub_34, ub_35, ub_36, ub_50, ub_51, ub_52, ub_53, ub_54, ub_60, ub_61, ub_62, ub_63, ub_65, ub_66, ub_67, ub_68, ub_69, ub_70, ub_74, ub_75, ub_76, ub_77, ub_78, ub_80, ub_81, ub_82, ub_83] at *); omega)
      · split at h
        · obtain ⟨z, h, g⟩ := pup_cn h
          obtain ⟨y2, hy2, h2⟩ := Option.bind_eq_some_iff.mp h
          have a := pX_cn hy2
          have b := pt_cn h2
          ((try simp only [cnt_app, cnt_one, cnt_two, ub_3, ub_6, ub_7, ub_12, ub_20, ub_21, ub_22, ub_23, ub_24, ub_25, ub_26, ub_27, ub_31, ub_32, ub_33, ub_34, ub_35, ub_36, ub_50, ub_51, ub_52, ub_53, ub_54, ub_60, ub_61, ub_62, ub_63, ub_65, ub_66, ub_67, ub_68, ub_69, ub_70, ub_74, ub_75, ub_76, ub_77, ub_78, ub_80, ub_81, ub_82, ub_83] at *); omega)
        · split at h
          · split at h
            · obtain ⟨z, h, g⟩ := pup_cn h
              obtain ⟨y2, hy2, h2⟩ := Option.bind_eq_some_iff.mp h
              have a := pX_cn hy2
              have b := pt_cn h2
              ((try simp only [cnt_app, cnt_one, cnt_two, ub_3, ub_6, ub_7, ub_12, ub_20, ub_21, ub_22, ub_23, ub_24, ub_25, ub_26, ub_27, ub_31, ub_32, ub_33, ub_34, ub_35, ub_36, ub_50, ub_51, ub_52, ub_53, ub_54, ub_60, ub_61, ub_62, ub_63, ub_65, ub_66, ub_67, ub_68, ub_69, ub_70, ub_74, ub_75, ub_76, ub_77, ub_78, ub_80, ub_81, ub_82, ub_83] at *); omega)
            · exact absurd h (by simp)
          · split at h
            · split at h
              · obtain ⟨z, h, g⟩ := pup_cn h
                have b := pt_cn h
                ((try simp only [cnt_app, cnt_one, cnt_two, ub_3, ub_6, ub_7, ub_12, ub_20, ub_21, ub_22, ub_23, ub_24, ub_25, ub_26, ub_27, ub_31, ub_32, ub_33, ub_34, ub_35, ub_36, ub_50, ub_51, ub_52, ub_53, ub_54, ub_60, ub_61, ub_62, ub_63, ub_65, ub_66, ub_67, ub_68, ub_69, ub_70, ub_74, ub_75, ub_76, ub_77, ub_78, ub_80, ub_81, ub_82, ub_83] at *); omega)
              · exact absurd h (by simp)
            · split at h
              · split at h
                · obtain ⟨z, h, g⟩ := pup_cn h
                  have b := pt_cn h
                  ((try simp only [cnt_app, cnt_one, cnt_two, ub_3, ub_6, ub_7, ub_12, ub_20, ub_21, ub_22, ub_23, ub_24, ub_25, ub_26, ub_27, ub_31, ub_32, ub_33, ub_34, ub_35, ub_36, ub_50, ub_51, ub_52, ub_53, ub_54, ub_60, ub_61, ub_62, ub_63, ub_65, ub_66, ub_67, ub_68, ub_69, ub_70, ub_74, ub_75, ub_76, ub_77, ub_78, ub_80, ub_81, ub_82, ub_83] at *); omega)
                · exact absurd h (by simp)
              · exact absurd h (by simp)
theorem pfi_cn {q r : Nat × Nat × gU} (h : pfi q = some r) : cnt r.2.2 = cnt q.2.2 ∧ r.2.1 = q.2.1 := by
  unfold pfi at h
  cases Option.some.inj h
  exact ⟨cnt_app, rfl⟩
theorem pS_cn : ∀ f : Nat, cgsN (pS K f) := by
  intro f
  induction f with
  | zero => intro c i L q h; exact absurd h (by simp [pS])
  | succ f ih =>
    intro c i L q h
    rw [pS] at h
    split at h
    · exact absurd h (by simp)
    · split at h
      · obtain ⟨z, hz, h2⟩ := Option.bind_eq_some_iff.mp h
        obtain ⟨x, hx, h4⟩ := Option.bind_eq_some_iff.mp h2
        obtain ⟨y, hy, h3⟩ := Option.bind_eq_some_iff.mp hx
        have a := pX_cn hz
        have b := pBk_cn ih hy
        have c := pEl_cn ih h3
        have d := pfi_cn h4
        ((try simp only [cnt_app, cnt_one, cnt_two, ub_3, ub_6, ub_7, ub_12, ub_20, ub_21, ub_22, ub_23, ub_24, ub_25, ub_26, ub_27, ub_31, ub_32, ub_33, ub_34, ub_35, ub_36, ub_50, ub_51, ub_52, ub_53, ub_54, ub_60, ub_61, ub_62, ub_63, ub_65, ub_66, ub_67, ub_68, ub_69, ub_70, ub_74, ub_75, ub_76, ub_77, ub_78, ub_80, ub_81, ub_82, ub_83] at *); omega)
      · split at h
        · obtain ⟨z, hz, h2⟩ := Option.bind_eq_some_iff.mp h
          have a := pX_cn hz
          have b := pBk_cn ih h2
          ((try simp only [cnt_app, cnt_one, cnt_two, ub_3, ub_6, ub_7, ub_12, ub_20, ub_21, ub_22, ub_23, ub_24, ub_25, ub_26, ub_27, ub_31, ub_32, ub_33, ub_34, ub_35, ub_36, ub_50, ub_51, ub_52, ub_53, ub_54, ub_60, ub_61, ub_62, ub_63, ub_65, ub_66, ub_67, ub_68, ub_69, ub_70, ub_74, ub_75, ub_76, ub_77, ub_78, ub_80, ub_81, ub_82, ub_83] at *); omega)
        · split at h
          · split at h
            · have b := pBk_cn ih h
              ((try simp only [cnt_app, cnt_one, cnt_two, ub_3, ub_6, ub_7, ub_12, ub_20, ub_21, ub_22, ub_23, ub_24, ub_25, ub_26, ub_27, ub_31, ub_32, ub_33, ub_34, ub_35, ub_36, ub_50, ub_51, ub_52, ub_53, ub_54, ub_60, ub_61, ub_62, ub_63, ub_65, ub_66, ub_67, ub_68, ub_69, ub_70, ub_74, ub_75, ub_76, ub_77, ub_78, ub_80, ub_81, ub_82, ub_83] at *); omega)
            · exact absurd h (by simp)
          · exact pS1_cn h
theorem pCv_cn {q r : Nat × gU} (h : pCv K q = some r) : cnt r.2 = cnt q.2 ∧ q.1 ≤ r.1 := by
  unfold pCv at h
  split at h
  · split at h
    · split at h
      · split at h
        · cases Option.some.inj h; exact ⟨cnt_app, by show q.1 ≤ q.1 + 3; omega⟩
        · exact absurd h (by simp)
      · split at h
        · cases Option.some.inj h; exact ⟨cnt_app, by show q.1 ≤ q.1 + 2; omega⟩
        · exact absurd h (by simp)
    · exact absurd h (by simp)
  · cases Option.some.inj h; exact ⟨cnt_app, Nat.le_refl _⟩
theorem pCl_cn {n i t : Nat} {q : Nat × Nat × gU} (h : pCl K V n i t L = some q) : cnt q.2.2 + t ≤ cnt L + q.2.1 := by
  unfold pCl at h
  split at h
  · split at h
    · split at h
      · obtain ⟨z, hz, h2⟩ := Option.bind_eq_some_iff.mp h
        obtain ⟨y, hy, h3⟩ := Option.bind_eq_some_iff.mp hz
        have a := pCv_cn hy
        have b := pt_cn h3
        cases Option.some.inj h2
        ((try simp only [cnt_app, cnt_one, cnt_two, ub_3, ub_6, ub_7, ub_12, ub_20, ub_21, ub_22, ub_23, ub_24, ub_25, ub_26, ub_27, ub_31, ub_32, ub_33, ub_34, ub_35, ub_36, ub_50, ub_51, ub_52, ub_53, ub_54, ub_60, ub_61, ub_62, ub_63, ub_65, ub_66, ub_67, ub_68, ub_69, ub_70, ub_74, ub_75, ub_76, ub_77, ub_78, ub_80, ub_81, ub_82, ub_83] at *); omega)
      · exact absurd h (by simp)
    · obtain ⟨z, hz, h2⟩ := Option.bind_eq_some_iff.mp h
      obtain ⟨y, hy, h3⟩ := Option.bind_eq_some_iff.mp hz
      have a := pCv_cn hy
      have b := pt_cn h3
      cases Option.some.inj h2
      ((try simp only [cnt_app, cnt_one, cnt_two, ub_3, ub_6, ub_7, ub_12, ub_20, ub_21, ub_22, ub_23, ub_24, ub_25, ub_26, ub_27, ub_31, ub_32, ub_33, ub_34, ub_35, ub_36, ub_50, ub_51, ub_52, ub_53, ub_54, ub_60, ub_61, ub_62, ub_63, ub_65, ub_66, ub_67, ub_68, ub_69, ub_70, ub_74, ub_75, ub_76, ub_77, ub_78, ub_80, ub_81, ub_82, ub_83] at *); omega)
  · exact absurd h (by simp)
theorem pD_cn {n : gN} {i : Nat} {q : gN × Nat × gU} (h : pD K V n i L = some q) : cnt q.2.2 + i ≤ cnt L + q.2.1 := by
  unfold pD at h
  split at h
  · split at h
    · obtain ⟨z, hz, h2⟩ := Option.bind_eq_some_iff.mp h
      have a := pCl_cn hz
      cases Option.some.inj h2
      ((try simp only [cnt_app, cnt_one, cnt_two, ub_3, ub_6, ub_7, ub_12, ub_20, ub_21, ub_22, ub_23, ub_24, ub_25, ub_26, ub_27, ub_31, ub_32, ub_33, ub_34, ub_35, ub_36, ub_50, ub_51, ub_52, ub_53, ub_54, ub_60, ub_61, ub_62, ub_63, ub_65, ub_66, ub_67, ub_68, ub_69, ub_70, ub_74, ub_75, ub_76, ub_77, ub_78, ub_80, ub_81, ub_82, ub_83] at *); omega)
    · exact absurd h (by simp)
  · split at h
    · obtain ⟨z, hz, h2⟩ := Option.bind_eq_some_iff.mp h
      have a := pCl_cn hz
      cases Option.some.inj h2
      ((try simp only [cnt_app, cnt_one, cnt_two, ub_3, ub_6, ub_7, ub_12, ub_20, ub_21, ub_22, ub_23, ub_24, ub_25, ub_26, ub_27, ub_31, ub_32, ub_33, ub_34, ub_35, ub_36, ub_50, ub_51, ub_52, ub_53, ub_54, ub_60, ub_61, ub_62, ub_63, ub_65, ub_66, ub_67, ub_68, ub_69, ub_70, ub_74, ub_75, ub_76, ub_77, ub_78, ub_80, ub_81, ub_82, ub_83] at *); omega)
    · split at h
      · split at h
        · cases Option.some.inj h; ((try simp only [cnt_app, cnt_one, cnt_two, ub_3, ub_6, ub_7, ub_12, ub_20, ub_21, ub_22, ub_23, ub_24, ub_25, ub_26, ub_27, ub_31, ub_32, ub_33, ub_34, ub_35, ub_36, ub_50, ub_51, ub_52, ub_53, ub_54, ub_60, ub_61, ub_62, ub_63, ub_65, ub_66, ub_67, ub_68, ub_69, ub_70, ub_74, ub_75, ub_76, ub_77, ub_78, ub_80, ub_81, ub_82, ub_83] at *); omega)
        · exact absurd h (by simp)
      · split at h
        · split at h
          · obtain ⟨z, hz, h2⟩ := Option.bind_eq_some_iff.mp h
            have a := pBk_cn (pS_cn 16) hz
            cases Option.some.inj h2
            ((try simp only [cnt_app, cnt_one, cnt_two, ub_3, ub_6, ub_7, ub_12, ub_20, ub_21, ub_22, ub_23, ub_24, ub_25, ub_26, ub_27, ub_31, ub_32, ub_33, ub_34, ub_35, ub_36, ub_50, ub_51, ub_52, ub_53, ub_54, ub_60, ub_61, ub_62, ub_63, ub_65, ub_66, ub_67, ub_68, ub_69, ub_70, ub_74, ub_75, ub_76, ub_77, ub_78, ub_80, ub_81, ub_82, ub_83] at *); omega)
          · exact absurd h (by simp)
        · split at h
          · split at h
            · obtain ⟨z, hz, h2⟩ := Option.bind_eq_some_iff.mp h
              have a := pBk_cn (pS_cn 16) hz
              cases Option.some.inj h2
              ((try simp only [cnt_app, cnt_one, cnt_two, ub_3, ub_6, ub_7, ub_12, ub_20, ub_21, ub_22, ub_23, ub_24, ub_25, ub_26, ub_27, ub_31, ub_32, ub_33, ub_34, ub_35, ub_36, ub_50, ub_51, ub_52, ub_53, ub_54, ub_60, ub_61, ub_62, ub_63, ub_65, ub_66, ub_67, ub_68, ub_69, ub_70, ub_74, ub_75, ub_76, ub_77, ub_78, ub_80, ub_81, ub_82, ub_83] at *); omega)
            · exact absurd h (by simp)
          · split at h
            · split at h
              · obtain ⟨z, hz, h2⟩ := Option.bind_eq_some_iff.mp h
                obtain ⟨y, hy, h3⟩ := Option.bind_eq_some_iff.mp hz
                have a := pX_cn hy
                have b := pt_cn h3
                cases Option.some.inj h2
                ((try simp only [cnt_app, cnt_one, cnt_two, ub_3, ub_6, ub_7, ub_12, ub_20, ub_21, ub_22, ub_23, ub_24, ub_25, ub_26, ub_27, ub_31, ub_32, ub_33, ub_34, ub_35, ub_36, ub_50, ub_51, ub_52, ub_53, ub_54, ub_60, ub_61, ub_62, ub_63, ub_65, ub_66, ub_67, ub_68, ub_69, ub_70, ub_74, ub_75, ub_76, ub_77, ub_78, ub_80, ub_81, ub_82, ub_83] at *); omega)
              · exact absurd h (by simp)
            · split at h
              · split at h
                · obtain ⟨z, hz, h2⟩ := Option.bind_eq_some_iff.mp h
                  obtain ⟨y, hy, h3⟩ := Option.bind_eq_some_iff.mp hz
                  have a := pX_cn hy
                  have b := pt_cn h3
                  cases Option.some.inj h2
                  ((try simp only [cnt_app, cnt_one, cnt_two, ub_3, ub_6, ub_7, ub_12, ub_20, ub_21, ub_22, ub_23, ub_24, ub_25, ub_26, ub_27, ub_31, ub_32, ub_33, ub_34, ub_35, ub_36, ub_50, ub_51, ub_52, ub_53, ub_54, ub_60, ub_61, ub_62, ub_63, ub_65, ub_66, ub_67, ub_68, ub_69, ub_70, ub_74, ub_75, ub_76, ub_77, ub_78, ub_80, ub_81, ub_82, ub_83] at *); omega)
                · exact absurd h (by simp)
              · exact absurd h (by simp)
theorem pAl_cn : ∀ (m : Nat) (n : gN) (i : Nat) (L : gU) (q : gN × Nat × gU), pAl K V m n i L = some q → cnt q.2.2 + i ≤ cnt L + q.2.1 := by
  intro m
  induction m with
  | zero => intro n i L q h; exact absurd h (by simp [pAl])
  | succ m ih =>
    intro n i L q h
    rw [pAl] at h
    split at h
    · cases Option.some.inj h; exact Nat.le_refl _
    · obtain ⟨z, hz, h2⟩ := Option.bind_eq_some_iff.mp h
      have a := pD_cn hz
      have b := ih _ _ _ _ h2
      omega
/-- so all parts have room -/
theorem tPs_800 {n : gN} {j : Nat} {E : gV} (h : pAl K V 701 (0, 0, 0, 0, 0) 0 [] = some (n, j, L)) : (tPs sN V K L E).length ≤ j := by
  have a := pAl_cn _ _ _ _ _ h
  have b : (tPs sN V K L E).length ≤ cnt L := tPs_cnt
  have a : cnt L + 0 ≤ 0 + j := a
  omega
end CNTL
