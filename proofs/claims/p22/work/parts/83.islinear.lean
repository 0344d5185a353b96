/-! fits, mayCome, isLinear, linear -/
section LIS
variable {G : mG} {d D : Nat} {x y z a : gd} {F : Int32 → gd → Prop} {Fv : gd → Prop}
theorem MI_o {L A : List Nat} {z z' : gd} (m : mi L A z z') (hL : stL.all (fun k => !L.elem k) = true) (hA : [2, 6, 7, 8, 36, 37, 38, 51, 52, 54, 55, 56, 57, 58, 59, 60, 61, 62, 64, 65, 66, 70, 71, 72, 73, 74, 75, 76, 77, 78, 79, 80, 81, 82, 86, 87, 88, 96, 98, 99, 100, 103, 106, 107, 119, 120, 123, 126, 130, 131, 132].all (fun k => !A.elem k) = true) (o : oA z') (q : MI z) : PM z z' := by
  have f := fun k hk => m.1 k (all_no hL k hk)
  obtain ⟨q1, q2, q3, q4⟩ := q
  have g119 : z'.1 119 = z.1 119 := m.2 119 (by decide) (all_no hA 119 (by decide))
  refine ⟨⟨?_, fun h => CP_mi m (all_sub hL rfl) (all_sub hA rfl) (q2 (by rw [f 66 (by decide)] at h; exact h)), fun h => ?_, fun w hw h => ?_⟩, f 2 (by decide), fun k hk => m.1 k (all_no (M := mfL) (all_sub hL rfl) k hk), fun c hc => m.2 c (mfA_0 c hc) (all_no (M := mfA) (all_sub hA rfl) c hc)⟩
  · unfold G0
    rw [f 2 (by decide), f 10 (by decide), f 42 (by decide)]
    exact ⟨q1.1, q1.2.1, TK_mi m (all_no hA 6 (by decide)) (all_no hA 8 (by decide)) (all_no hA 7 (by decide)) q1.2.2.1, q1.2.2.2.1, q1.2.2.2.2.1, o⟩
  · rw [f 67 (by decide)] at h
    rw [f 66 (by decide)]
    exact ⟨(q3 h).1, Hist_mi m (all_sub hL rfl) (all_sub hA rfl) (q3 h).2⟩
  · rw [g119] at h
    rw [f 66 (by decide)]
    exact ⟨(q4 w hw h).1, TY_mi m (all_sub hL rfl) (all_sub hA rfl) (q4 w hw h).2⟩
end LIS
