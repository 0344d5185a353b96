/-! which acts there are -/
theorem vt {t : Int32} (h : vp_in t 6) : t.toNatClampNeg < 6 := vp_lt h
/-- the step at which a going thread stands -/
theorem RI_step {x : gd} {S : gS} (ri : RI x S) {t : Nat} (ht : t < 6) (h : x.1 73 t = 1) : vp_in (x.1 74 t) 1500 ∧ (x.1 74 t).toInt + 1 < (x.1 0 52).toInt ∧ sO x (x.1 74 t).toNatClampNeg ∧ aV (x.1 0 25).toInt (x.1 55 (x.1 74 t).toNatClampNeg) (x.1 56 (x.1 74 t).toNatClampNeg) (x.1 57 (x.1 74 t).toNatClampNeg) (x.1 58 (x.1 74 t).toNatClampNeg) (x.1 61 (x.1 74 t).toNatClampNeg) := by
  obtain ⟨a1, a2, a3⟩ := (ri.2 t ht).1
  obtain ⟨b1, b2⟩ := a3 h
  have c := cl_i a1
  obtain ⟨so, s2, s3⟩ := ri.1.2.1.2.2.2.2.1 (x.1 74 t).toNatClampNeg (by omega)
  refine ⟨by rw [vp_in_iff]; omega, ?_, so, ?_⟩
  · have := s3.resolve_left (by rw [b2]; decide)
    omega
  · rcases so.2.2.2.1 with ⟨s, _⟩ | s | ⟨s, _⟩ | s | s | ⟨_, s⟩
    · rw [b2] at s; exact absurd s (by decide)
    · rw [b2] at s; exact absurd s (by decide)
    · rw [b2] at s; exact absurd s (by decide)
    · rw [b2] at s; exact absurd s (by decide)
    · rw [b2] at s; exact absurd s (by decide)
    · exact s
theorem aV_acc {t : Int} {s o z a to : Int32} (h : aV t s o z a to) (h1 : 0 ≤ s.toInt) (h2 : s.toInt ≤ 4) : 0 ≤ o.toInt ∧ o.toInt < 24 ∧ 0 ≤ z.toInt ∧ (a = -1 ∨ o.toInt + z.toInt ≤ 24) := by
  rcases h.2 with q | q | q
  · exact ⟨q.2.2.1, q.2.2.2.1, q.2.2.2.2.1, q.2.2.2.2.2⟩
  · omega
  · omega
theorem aV_lck {t : Int} {s o z a to : Int32} (h : aV t s o z a to) (h1 : 5 ≤ s.toInt) (h2 : s.toInt ≤ 10) : 0 ≤ o.toInt ∧ o.toInt < 6 ∧ (s = 9 → o.toInt < t) ∧ a = -1 := by
  rcases h.2 with q | q | q
  · omega
  · exact ⟨q.2.2.1, q.2.2.2.1, q.2.2.2.2⟩
  · omega
/-- which sort of act a thread has next -/
def srt (x : gd) (t : Nat) : Int32 := if x.1 77 t = 2 then 15 else x.1 55 (x.1 74 t).toNatClampNeg
section DSA
variable {d : Nat} {S : gS} {x : gd} {F : Int32 → gd → gS → Prop} {Fv : gd → gS → Prop}
theorem ds_sortOf (t : Int32) (ht : vp_in t 6) (ha : vp_in (x.1 74 t.toNatClampNeg) 1500) (h : F (srt x t.toNatClampNeg) x S) : MD d z_sortOf 0 [(0, vr 0), (1, vi t)] [] S x (Di F) := by
  refine sd_sortOf_0 _ ⟨ht, fun c => ⟨ht, ha, Di_i ?_⟩, fun c => Di_i ?_⟩
  · rwa [srt, if_neg c] at h
  · rwa [srt, if_pos c] at h
theorem ds_isAccess (s : Int32) (h0 : ¬ (0 ≤ s.toInt ∧ s.toInt ≤ 4) → F 0 x S) (h1 : 0 ≤ s.toInt ∧ s.toInt ≤ 4 → F 1 x S) : MD d z_isAccess 0 [(0, vr 0), (1, vi s)] [] S x (Di F) := by
  have y : ∀ k : Int32, s = k → 0 ≤ k.toInt → k.toInt ≤ 4 → Di F (some (vi 1)) x S := fun k e a b => Di_i (h1 (by rw [e]; exact ⟨a, b⟩))
  refine sd_isAccess_0 _ ⟨fun e => y _ e (by decide) (by decide), fun n0 => ⟨fun e => y _ e (by decide) (by decide), fun n1 => ⟨fun e => y _ e (by decide) (by decide), fun n2 => ⟨fun e => y _ e (by decide) (by decide), fun n3 => ⟨fun n4 => Di_i (h0 (fun q => ?_)), fun e => y _ e (by decide) (by decide)⟩⟩⟩⟩⟩
  rw [t_eq] at n0 n1 n2 n3 n4
  have a0 : (0 : Int32).toInt = 0 := rfl
  have a1 : (1 : Int32).toInt = 1 := rfl
  have a2 : (2 : Int32).toInt = 2 := rfl
  have a3 : (3 : Int32).toInt = 3 := rfl
  have a4 : (4 : Int32).toInt = 4 := rfl
  omega
/-- what the next act's place is, by its sort -/
theorem srt_of {t : Nat} (ri : RI x S) (ht : t < 6) (h : x.1 73 t = 1) : ((0 ≤ (srt x t).toInt ∧ (srt x t).toInt ≤ 4) → srt x t = x.1 55 (x.1 74 t).toNatClampNeg ∧ 0 ≤ (x.1 56 (x.1 74 t).toNatClampNeg).toInt ∧ (x.1 56 (x.1 74 t).toNatClampNeg).toInt < 24) ∧ ((5 ≤ (srt x t).toInt ∧ (srt x t).toInt ≤ 10) ∨ srt x t = 15 → 0 ≤ (x.1 56 (x.1 74 t).toNatClampNeg).toInt ∧ (x.1 56 (x.1 74 t).toNatClampNeg).toInt < 6 ∧ x.1 58 (x.1 74 t).toNatClampNeg = -1) ∧ (srt x t = 9 → (x.1 56 (x.1 74 t).toNatClampNeg).toInt < (x.1 0 25).toInt) := by
  obtain ⟨_, _, _, av⟩ := RI_step ri ht h
  have w := (ri.2 t ht).2.1
  have k15 : (15 : Int32).toInt = 15 := rfl
  by_cases c : x.1 77 t = 2
  · have e : srt x t = 15 := by rw [srt, if_pos c]
    rw [e]
    refine ⟨fun q => absurd q.2 (by decide), fun _ => ?_, fun q => absurd q (by decide)⟩
    rcases w with w | ⟨_, _, w⟩
    · rw [c] at w; exact absurd w (by decide)
    · have := aV_lck av (by rw [w]; decide) (by rw [w]; decide)
      exact ⟨this.1, this.2.1, this.2.2.2⟩
  · have e : srt x t = x.1 55 (x.1 74 t).toNatClampNeg := by rw [srt, if_neg c]
    rw [e]
    refine ⟨fun q => ⟨rfl, (aV_acc av q.1 q.2).1, (aV_acc av q.1 q.2).2.1⟩, fun q => ?_, fun q => ?_⟩
    · rcases q with q | q
      · have := aV_lck av q.1 q.2
        exact ⟨this.1, this.2.1, this.2.2.2⟩
      · rcases av.2 with z | z | z
        · rw [q] at z; exact absurd z.2.1 (by decide)
        · rw [q] at z; exact absurd z.2.1 (by decide)
        · rw [q] at z; exact absurd z.2 (by decide)
    · exact (aV_lck av (by rw [q]; decide) (by rw [q]; decide)).2.2.1 q
theorem ds_hasAct (t : Int32) (ht : vp_in t 6) (ri : RI x S) (h0 : F 0 x S) (h1 : x.1 73 t.toNatClampNeg = 1 → ¬ x.1 77 t.toNatClampNeg = 1 → F 1 x S) : MD (d + 1) z_hasAct 0 [(0, vr 0), (1, vi t)] [] S x (Di F) := by
  refine sd_hasAct_0 _ ⟨ht, fun _ => Di_i h0, fun c1 => ⟨ht, fun c2 => ⟨ht, ?_⟩, fun _ => Di_i h0⟩⟩
  have h1 := h1 c1 c2
  obtain ⟨kv, _, _, av⟩ := RI_step ri (vt ht) c1
  obtain ⟨s1, s2, s3⟩ := srt_of ri (vt ht) c1
  obtain ⟨k, ek⟩ : ∃ k, k = x.1 74 t.toNatClampNeg := ⟨_, rfl⟩
  rw [← ek] at kv av s1 s2 s3
  obtain ⟨s, es⟩ : ∃ s, s = srt x t.toNatClampNeg := ⟨_, rfl⟩
  rw [← es] at s1 s2 s3
  have p149 : (5 ≤ s.toInt ∧ s.toInt ≤ 10) ∨ s = 15 → MD (d + 1) z_hasAct 149 [(0, vr 0), (1, vi t), (2, vi k)] [] S x (Di F) := by
    intro q
    have o := s2 q
    have ov : vp_in (x.1 56 k.toNatClampNeg) 6 := by rw [vp_in_iff]; omega
    exact sd_hasAct_149 _ _ ⟨kv, ov, fun _ => Di_i h1, fun _ => ⟨kv, ov, fun _ => Di_i h0, fun _ => Di_i h1⟩⟩
  have p138 : MD (d + 1) z_hasAct 138 [(0, vr 0), (1, vi t), (2, vi k), (3, vi s)] [] S x (Di F) := by
    refine sd_hasAct_138 _ _ _ ⟨fun e => p149 (Or.inl (by rw [e]; decide)), fun _ => ⟨fun _ => ⟨fun _ => Di_i h1, fun e => ⟨kv, fun _ => Di_i h0, fun _ => ?_⟩⟩, fun e => p149 (Or.inr e)⟩⟩
    have o := s2 (Or.inl (by rw [e]; decide))
    have ov : vp_in (x.1 56 k.toNatClampNeg) 6 := by rw [vp_in_iff]; omega
    exact ⟨ov, fun _ => Di_i h0, fun _ => ⟨ov, fun _ => Di_i h0, fun _ => Di_i h1⟩⟩
  have p124 : ∀ b q : Int32, MD (d + 1) z_hasAct 124 [(0, vr 0), (1, vi t), (2, vi k), (3, vi s), (5, vi b)] [vi q] S x (Di F) := fun b q => sd_hasAct_124 _ _ _ _ _ ⟨fun _ => p138, fun _ => ⟨fun _ => p138, fun _ => Di_i h0⟩⟩
  have p85 : ∀ a b : Int32, MD (d + 1) z_hasAct 85 [(0, vr 0), (1, vi t), (2, vi k), (3, vi s), (4, vi a)] [vi b] S x (Di F) := fun a b => sd_hasAct_85 _ _ _ _ _ ⟨fun _ => p124 _ _, fun _ => ⟨fun _ => p124 _ _, fun _ => ⟨fun _ => p124 _ _, fun _ => ⟨fun _ => p124 _ _, fun _ => ⟨fun _ => p124 _ _, fun _ => ⟨fun _ => p124 _ _, fun _ => p124 _ _⟩⟩⟩⟩⟩⟩
  have p62 : ∀ a : Int32, MD (d + 1) z_hasAct 62 [(0, vr 0), (1, vi t), (2, vi k), (3, vi s)] [vi a] S x (Di F) := fun a => sd_hasAct_62 _ _ _ _ ⟨fun _ => p85 _ _, fun _ => ⟨ht, fun _ => p85 _ _, fun _ => p85 _ _⟩⟩
  rw [← ek]
  refine ds_sortOf t ht (by rw [← ek]; exact kv) ?_
  rw [← es]
  refine ds_isAccess s (fun _ => ⟨fun _ => p62 0, fun q => absurd rfl q⟩) (fun q => ⟨fun q => absurd q (by decide), fun _ => ⟨kv, ?_, fun _ => p62 0, fun _ => p62 1⟩⟩)
  have o := s1 q
  rw [vp_in_iff]; omega
theorem t10 {t : Int32} (ht : vp_in t 6) {i : Int32} (h0 : 0 ≤ i.toInt) (h1 : i.toInt < 10) : vp_in (10 * t + i) 60 ∧ (10 * t + i).toNatClampNeg = 10 * t.toNatClampNeg + i.toNatClampNeg := by
  have k10 : (10 : Int32).toInt = 10 := rfl
  have tv := vp_in_iff.mp ht
  have m : (10 * t).toInt = 10 * t.toInt := by rw [t_mul (by rw [k10]; omega) (by rw [k10]; omega), k10]
  have e : (10 * t + i).toInt = 10 * t.toInt + i.toInt := by rw [t_add (by omega) (by omega), m]
  refine ⟨by rw [vp_in_iff]; omega, ?_⟩
  have := t_cl (10 * t + i)
  have := t_cl t
  have := t_cl i
  omega
/-- a late write's place -/
theorem rl_at {t : Int32} (ht : vp_in t 6) (q : rl x S t.toNatClampNeg) {i : Int32} (h0 : 0 ≤ i.toInt) (h1 : i.toInt < (x.1 80 t.toNatClampNeg).toInt) : vp_in (10 * t + i) 60 ∧ S 81 (10 * t + i).toNatClampNeg ∧ S 82 (10 * t + i).toNatClampNeg ∧ vp_in (x.1 81 (10 * t + i).toNatClampNeg) 24 := by
  obtain ⟨q1, q2, q3⟩ := q
  obtain ⟨v, e⟩ := t10 ht (i := i) h0 (by omega)
  rw [e]
  obtain ⟨a, b, c⟩ := q3 i.toNatClampNeg (by have := cl_i h0; omega)
  exact ⟨v, a, b, by rw [vp_in_iff]; exact c⟩
theorem ds_see (t c : Int32) (ht : vp_in t 6) (hc : vp_in c 24) (q : rl x S t.toNatClampNeg) (h : ∀ r, F r x S) : MD d z_see 0 [(0, vr 0), (1, vi t), (2, vi c)] [] S x (Di F) := by
  have k1 : (1 : Int32).toInt = 1 := rfl
  have loop : ∀ (n : Nat) (v i : Int32), 0 ≤ i.toInt → (x.1 80 t.toNatClampNeg).toInt - i.toInt ≤ n → MD d z_see 10 [(0, vr 0), (1, vi t), (2, vi c), (3, vi v), (4, vi i)] [] S x (Di F) := by
    intro n
    induction n with
    | zero =>
      intro v i i0 hi
      exact sd_see_10 _ _ _ _ ⟨ht, fun _ => Di_i (h _), fun c => absurd (t_le.mpr (by omega)) c⟩
    | succ n ih =>
      intro v i i0 hi
      refine sd_see_10 _ _ _ _ ⟨ht, fun _ => Di_i (h _), fun c => ?_⟩
      rw [t_le] at c
      obtain ⟨a1, a2, a3, a4⟩ := rl_at ht q (i := i) i0 (by omega)
      have q8 := q.2.1
      have i1 : (i + 1).toInt = i.toInt + 1 := by rw [t_add (by omega) (by omega), k1]
      exact ⟨a1, a2, fun _ => ih _ _ (by omega) (by omega), fun _ => ⟨a1, a3, ih _ _ (by omega) (by omega)⟩⟩
  exact sd_see_0 _ _ ⟨hc, loop _ _ 0 (by decide) (Int.self_le_toNat _)⟩
end DSA
