section
/-! the run's small methods, from memories that are alike -/
theorem t_m1 {a : Int32} (h : 1 ≤ a.toInt) : (a + -1).toInt = a.toInt - 1 ∧ (a + -1).toNatClampNeg = a.toNatClampNeg - 1 := by
  have km : (-1 : Int32).toInt = -1 := rfl
  have r := t_rg a
  have e : (a + -1).toInt = a.toInt - 1 := by rw [t_add (by rw [km]; omega) (by rw [km]; omega), km]; omega
  refine ⟨e, ?_⟩
  rw [t_cl, t_cl, e]
  omega
theorem t_s1 {a : Int32} (h : 1 ≤ a.toInt) : (a - 1).toInt = a.toInt - 1 ∧ (a - 1).toNatClampNeg = a.toNatClampNeg - 1 := by
  have km : (1 : Int32).toInt = 1 := rfl
  have r := t_rg a
  have e : (a - 1).toInt = a.toInt - 1 := by rw [t_sub (by rw [km]; omega) (by rw [km]; omega), km]
  refine ⟨e, ?_⟩
  rw [t_cl, t_cl, e]
  omega
theorem cl_i {a : Int32} (h : 0 ≤ a.toInt) : ((a.toNatClampNeg : Nat) : Int) = a.toInt := by rw [t_cl]; omega
section DSW
variable {d : Nat} {S : gS} {x : gd} {F : Int32 → gd → gS → Prop} {Fv : gd → gS → Prop}
end DSW
end
section
/-! a thread's own steps. state 73, at 74, waits 77, lateMany 80, lateCell 81, lateValue 82 -/
/-- the late writes of a thread -/
def rl (x : gd) (S : gS) (t : Nat) : Prop := 0 ≤ (x.1 80 t).toInt ∧ (x.1 80 t).toInt ≤ 8 ∧ ∀ k : Nat, (k : Int) < (x.1 80 t).toInt → S 81 (10 * t + k) ∧ S 82 (10 * t + k) ∧ 0 ≤ (x.1 81 (10 * t + k)).toInt ∧ (x.1 81 (10 * t + k)).toInt < 24
/-- where a thread is; that it is at an act -/
def ra (x : gd) (t : Nat) : Prop := 0 ≤ (x.1 74 t).toInt ∧ (x.1 74 t).toInt < 1500 ∧ (x.1 73 t = 1 → (x.1 74 t).toInt < (x.1 0 52).toInt ∧ x.1 54 (x.1 74 t).toNatClampNeg = 6)
def rw' (x : gd) (t : Nat) : Prop := x.1 77 t = 0 ∨ ((x.1 77 t = 1 ∨ x.1 77 t = 2) ∧ x.1 73 t = 1 ∧ x.1 55 (x.1 74 t).toNatClampNeg = 7)
def rT (x : gd) (S : gS) (t : Nat) : Prop := ra x t ∧ rw' x t ∧ rl x S t
def RI (x : gd) (S : gS) : Prop := CP x ∧ ∀ t : Nat, t < 6 → rT x S t
abbrev hL : List Nat := [82]
abbrev hA : List Nat := [73, 74, 75, 76, 77, 78, 84]
/-- what a thread's own steps change -/
def th (t : Nat) (x x' : gd) : Prop := md hL hA x x' ∧ ∀ c j : Nat, (c = 73 ∨ c = 74 ∨ c = 77) → ¬ j = t → x'.1 c j = x.1 c j
theorem th_si {t c : Nat} (h : c ∈ [73, 74, 75, 77, 78]) (x : gd) (v : Int32) : th t x (si x c t v) := by
  have h0 : c ≠ 0 := fun e => by rw [e] at h; exact absurd h (by decide)
  refine ⟨md_w (md_a x c t v h0) (fun i hi => nomatch hi) (fun i hi => ?_), fun c' j _ hj => si_ne c' j hj⟩
  rw [List.mem_singleton.mp hi]
  simp at h ⊢
  omega
theorem CP_th {t : Nat} {x x' : gd} (h : th t x x') (q : CP x) : CP x' := CP_md h.1 rfl rfl q
theorem rl_th {t t' : Nat} {x x' : gd} {S S' : gS} (h : th t x x') (s : ssub S S') (q : rl x S t') : rl x' S' t' := by
  unfold rl
  rw [h.1.2.1 80 (by decide) (by decide), h.1.2.1 81 (by decide) (by decide)]
  exact ⟨q.1, q.2.1, fun k hk => ⟨s _ _ (q.2.2 k hk).1, s _ _ (q.2.2 k hk).2.1, (q.2.2 k hk).2.2⟩⟩
theorem rT_th {t t' : Nat} {x x' : gd} {S S' : gS} (h : th t x x') (s : ssub S S') (ne : ¬ t' = t) (q : rT x S t') : rT x' S' t' := by
  have e73 := h.2 73 t' (by simp) ne
  have e74 := h.2 74 t' (by simp) ne
  have e77 := h.2 77 t' (by simp) ne
  refine ⟨?_, ?_, rl_th h s q.2.2⟩
  · unfold ra
    rw [e73, e74, h.1.1 52 (by decide), h.1.2.1 54 (by decide) (by decide)]
    exact q.1
  · unfold rw'
    rw [e73, e74, e77, h.1.2.1 55 (by decide) (by decide)]
    exact q.2.1
section DSO
variable {d : Nat} {S : gS} {x : gd} {F : Int32 → gd → gS → Prop} {Fv : gd → gS → Prop}
/-- how far a thread's step is from a step that counts -/
def gg (x : gd) (a : Int32) : Int := if x.1 54 a.toNatClampNeg = 3 then 1501 - a.toInt else 0
end DSO
end
section
/-! which acts there are -/
theorem vt {t : Int32} (h : vp_in t 6) : t.toNatClampNeg < 6 := vp_lt h
/-- the step at which a going thread stands -/
theorem RI_step {x : gd} {S : gS} (ri : RI x S) {t : Nat} (ht : t < 6) (h : x.1 73 t = 1) : vp_in (x.1 74 t) 1500 ∧ (x.1 74 t).toInt + 1 < (x.1 0 52).toInt ∧ sO x (x.1 74 t).toNatClampNeg ∧ aV (x.1 0 25).toInt (x.1 55 (x.1 74 t).toNatClampNeg) (x.1 56 (x.1 74 t).toNatClampNeg) (x.1 57 (x.1 74 t).toNatClampNeg) (x.1 58 (x.1 74 t).toNatClampNeg) (x.1 61 (x.1 74 t).toNatClampNeg) := by
  obtain ⟨a1, a2, a3⟩ := (ri.2 t ht).1
  obtain ⟨b1, b2⟩ := a3 h
  have c := cl_i a1
  obtain ⟨so, s2, s3⟩ := ri.1.2.1.2.2.2.2.1 (x.1 74 t).toNatClampNeg (by omega)
  refine ⟨by rw [vp_in_iff]; omega, ?_, so, ?_⟩
  · have := s3.resolve_left (by rw [b2]; decide)
    omega
  · rcases so.2.2.2.1 with ⟨s, _⟩ | s | ⟨s, _⟩ | s | s | ⟨_, s⟩
    · rw [b2] at s; exact absurd s (by decide)
    · rw [b2] at s; exact absurd s (by decide)
    · rw [b2] at s; exact absurd s (by decide)
    · rw [b2] at s; exact absurd s (by decide)
    · rw [b2] at s; exact absurd s (by decide)
    · exact s
theorem aV_acc {t : Int} {s o z a to : Int32} (h : aV t s o z a to) (h1 : 0 ≤ s.toInt) (h2 : s.toInt ≤ 4) : 0 ≤ o.toInt ∧ o.toInt < 24 ∧ 0 ≤ z.toInt ∧ (a = -1 ∨ o.toInt + z.toInt ≤ 24) := by
  rcases h.2 with q | q | q
  · exact ⟨q.2.2.1, q.2.2.2.1, q.2.2.2.2.1, q.2.2.2.2.2⟩
  · omega
  · omega
theorem aV_lck {t : Int} {s o z a to : Int32} (h : aV t s o z a to) (h1 : 5 ≤ s.toInt) (h2 : s.toInt ≤ 10) : 0 ≤ o.toInt ∧ o.toInt < 6 ∧ (s = 9 → o.toInt < t) ∧ a = -1 := by
  rcases h.2 with q | q | q
  · omega
  · exact ⟨q.2.2.1, q.2.2.2.1, q.2.2.2.2⟩
  · omega
/-- which sort of act a thread has next -/
def srt (x : gd) (t : Nat) : Int32 := if x.1 77 t = 2 then 15 else x.1 55 (x.1 74 t).toNatClampNeg
section DSA
variable {d : Nat} {S : gS} {x : gd} {F : Int32 → gd → gS → Prop} {Fv : gd → gS → Prop}
theorem ds_sortOf (t : Int32) (ht : vp_in t 6) (ha : vp_in (x.1 74 t.toNatClampNeg) 1500) (h : F (srt x t.toNatClampNeg) x S) : MD d z_sortOf 0 [(0, vr 0), (1, vi t)] [] S x (Di F) := by
  refine sd_sortOf_0 _ ⟨ht, fun c => ⟨ht, ha, Di_i ?_⟩, fun c => Di_i ?_⟩
  · rwa [srt, if_neg c] at h
  · rwa [srt, if_pos c] at h
theorem ds_isAccess (s : Int32) (h0 : ¬ (0 ≤ s.toInt ∧ s.toInt ≤ 4) → F 0 x S) (h1 : 0 ≤ s.toInt ∧ s.toInt ≤ 4 → F 1 x S) : MD d z_isAccess 0 [(0, vr 0), (1, vi s)] [] S x (Di F) := by
  have y : ∀ k : Int32, s = k → 0 ≤ k.toInt → k.toInt ≤ 4 → Di F (some (vi 1)) x S := fun k e a b => Di_i (h1 (by rw [e]; exact ⟨a, b⟩))
  refine sd_isAccess_0 _ ⟨fun e => y _ e (by decide) (by decide), fun n0 => ⟨fun e => y _ e (by decide) (by decide), fun n1 => ⟨fun e => y _ e (by decide) (by decide), fun n2 => ⟨fun e => y _ e (by decide) (by decide), fun n3 => ⟨fun n4 => Di_i (h0 (fun q => ?_)), fun e => y _ e (by decide) (by decide)⟩⟩⟩⟩⟩
  rw [t_eq] at n0 n1 n2 n3 n4
  have a0 : (0 : Int32).toInt = 0 := rfl
  have a1 : (1 : Int32).toInt = 1 := rfl
  have a2 : (2 : Int32).toInt = 2 := rfl
  have a3 : (3 : Int32).toInt = 3 := rfl
  have a4 : (4 : Int32).toInt = 4 := rfl
  omega
/-- what the next act's place is, by its sort -/
theorem srt_of {t : Nat} (ri : RI x S) (ht : t < 6) (h : x.1 73 t = 1) : ((0 ≤ (srt x t).toInt ∧ (srt x t).toInt ≤ 4) → srt x t = x.1 55 (x.1 74 t).toNatClampNeg ∧ 0 ≤ (x.1 56 (x.1 74 t).toNatClampNeg).toInt ∧ (x.1 56 (x.1 74 t).toNatClampNeg).toInt < 24) ∧ ((5 ≤ (srt x t).toInt ∧ (srt x t).toInt ≤ 10) ∨ srt x t = 15 → 0 ≤ (x.1 56 (x.1 74 t).toNatClampNeg).toInt ∧ (x.1 56 (x.1 74 t).toNatClampNeg).toInt < 6 ∧ x.1 58 (x.1 74 t).toNatClampNeg = -1) ∧ (srt x t = 9 → (x.1 56 (x.1 74 t).toNatClampNeg).toInt < (x.1 0 25).toInt) := by
  obtain ⟨_, _, _, av⟩ := RI_step ri ht h
  have w := (ri.2 t ht).2.1
  have k15 : (15 : Int32).toInt = 15 := rfl
  by_cases c : x.1 77 t = 2
  · have e : srt x t = 15 := by rw [srt, if_pos c]
    rw [e]
    refine ⟨fun q => absurd q.2 (by decide), fun _ => ?_, fun q => absurd q (by decide)⟩
    rcases w with w | ⟨_, _, w⟩
    · rw [c] at w; exact absurd w (by decide)
    · have := aV_lck av (by rw [w]; decide) (by rw [w]; decide)
      exact ⟨this.1, this.2.1, this.2.2.2⟩
  · have e : srt x t = x.1 55 (x.1 74 t).toNatClampNeg := by rw [srt, if_neg c]
    rw [e]
    refine ⟨fun q => ⟨rfl, (aV_acc av q.1 q.2).1, (aV_acc av q.1 q.2).2.1⟩, fun q => ?_, fun q => ?_⟩
    · rcases q with q | q
      · have := aV_lck av q.1 q.2
        exact ⟨this.1, this.2.1, this.2.2.2⟩
      · rcases av.2 with z | z | z
        · rw [q] at z; exact absurd z.2.1 (by decide)
        · rw [q] at z; exact absurd z.2.1 (by decide)
        · rw [q] at z; exact absurd z.2 (by decide)
    · exact (aV_lck av (by rw [q]; decide) (by rw [q]; decide)).2.2.1 q
theorem ds_hasAct (t : Int32) (ht : vp_in t 6) (ri : RI x S) (h0 : F 0 x S) (h1 : x.1 73 t.toNatClampNeg = 1 → ¬ x.1 77 t.toNatClampNeg = 1 → F 1 x S) : MD (d + 1) z_hasAct 0 [(0, vr 0), (1, vi t)] [] S x (Di F) := by
  refine sd_hasAct_0 _ ⟨ht, fun _ => Di_i h0, fun c1 => ⟨ht, fun c2 => ⟨ht, ?_⟩, fun _ => Di_i h0⟩⟩
  have h1 := h1 c1 c2
  obtain ⟨kv, _, _, av⟩ := RI_step ri (vt ht) c1
  obtain ⟨s1, s2, s3⟩ := srt_of ri (vt ht) c1
  obtain ⟨k, ek⟩ : ∃ k, k = x.1 74 t.toNatClampNeg := ⟨_, rfl⟩
  rw [← ek] at kv av s1 s2 s3
  obtain ⟨s, es⟩ : ∃ s, s = srt x t.toNatClampNeg := ⟨_, rfl⟩
  rw [← es] at s1 s2 s3
  have p149 : (5 ≤ s.toInt ∧ s.toInt ≤ 10) ∨ s = 15 → MD (d + 1) z_hasAct 149 [(0, vr 0), (1, vi t), (2, vi k)] [] S x (Di F) := by
    intro q
    have o := s2 q
    have ov : vp_in (x.1 56 k.toNatClampNeg) 6 := by rw [vp_in_iff]; omega
    exact sd_hasAct_149 _ _ ⟨kv, ov, fun _ => Di_i h1, fun _ => ⟨kv, ov, fun _ => Di_i h0, fun _ => Di_i h1⟩⟩
  have p138 : MD (d + 1) z_hasAct 138 [(0, vr 0), (1, vi t), (2, vi k), (3, vi s)] [] S x (Di F) := by
    refine sd_hasAct_138 _ _ _ ⟨fun e => p149 (Or.inl (by rw [e]; decide)), fun _ => ⟨fun _ => ⟨fun _ => Di_i h1, fun e => ⟨kv, fun _ => Di_i h0, fun _ => ?_⟩⟩, fun e => p149 (Or.inr e)⟩⟩
    have o := s2 (Or.inl (by rw [e]; decide))
    have ov : vp_in (x.1 56 k.toNatClampNeg) 6 := by rw [vp_in_iff]; omega
    exact ⟨ov, fun _ => Di_i h0, fun _ => ⟨ov, fun _ => Di_i h0, fun _ => Di_i h1⟩⟩
  have p124 : ∀ b q : Int32, MD (d + 1) z_hasAct 124 [(0, vr 0), (1, vi t), (2, vi k), (3, vi s), (5, vi b)] [vi q] S x (Di F) := fun b q => sd_hasAct_124 _ _ _ _ _ ⟨fun _ => p138, fun _ => ⟨fun _ => p138, fun _ => Di_i h0⟩⟩
  have p85 : ∀ a b : Int32, MD (d + 1) z_hasAct 85 [(0, vr 0), (1, vi t), (2, vi k), (3, vi s), (4, vi a)] [vi b] S x (Di F) := fun a b => sd_hasAct_85 _ _ _ _ _ ⟨fun _ => p124 _ _, fun _ => ⟨fun _ => p124 _ _, fun _ => ⟨fun _ => p124 _ _, fun _ => ⟨fun _ => p124 _ _, fun _ => ⟨fun _ => p124 _ _, fun _ => ⟨fun _ => p124 _ _, fun _ => p124 _ _⟩⟩⟩⟩⟩⟩
  have p62 : ∀ a : Int32, MD (d + 1) z_hasAct 62 [(0, vr 0), (1, vi t), (2, vi k), (3, vi s)] [vi a] S x (Di F) := fun a => sd_hasAct_62 _ _ _ _ ⟨fun _ => p85 _ _, fun _ => ⟨ht, fun _ => p85 _ _, fun _ => p85 _ _⟩⟩
  rw [← ek]
  refine ds_sortOf t ht (by rw [← ek]; exact kv) ?_
  rw [← es]
  refine ds_isAccess s (fun _ => ⟨fun _ => p62 0, fun q => absurd rfl q⟩) (fun q => ⟨fun q => absurd q (by decide), fun _ => ⟨kv, ?_, fun _ => p62 0, fun _ => p62 1⟩⟩)
  have o := s1 q
  rw [vp_in_iff]; omega
theorem t10 {t : Int32} (ht : vp_in t 6) {i : Int32} (h0 : 0 ≤ i.toInt) (h1 : i.toInt < 10) : vp_in (10 * t + i) 60 ∧ (10 * t + i).toNatClampNeg = 10 * t.toNatClampNeg + i.toNatClampNeg := by
  have k10 : (10 : Int32).toInt = 10 := rfl
  have tv := vp_in_iff.mp ht
  have m : (10 * t).toInt = 10 * t.toInt := by rw [t_mul (by rw [k10]; omega) (by rw [k10]; omega), k10]
  have e : (10 * t + i).toInt = 10 * t.toInt + i.toInt := by rw [t_add (by omega) (by omega), m]
  refine ⟨by rw [vp_in_iff]; omega, ?_⟩
  have := t_cl (10 * t + i)
  have := t_cl t
  have := t_cl i
  omega
/-- a late write's place -/
theorem rl_at {t : Int32} (ht : vp_in t 6) (q : rl x S t.toNatClampNeg) {i : Int32} (h0 : 0 ≤ i.toInt) (h1 : i.toInt < (x.1 80 t.toNatClampNeg).toInt) : vp_in (10 * t + i) 60 ∧ S 81 (10 * t + i).toNatClampNeg ∧ S 82 (10 * t + i).toNatClampNeg ∧ vp_in (x.1 81 (10 * t + i).toNatClampNeg) 24 := by
  obtain ⟨q1, q2, q3⟩ := q
  obtain ⟨v, e⟩ := t10 ht (i := i) h0 (by omega)
  rw [e]
  obtain ⟨a, b, c⟩ := q3 i.toNatClampNeg (by have := cl_i h0; omega)
  exact ⟨v, a, b, by rw [vp_in_iff]; exact c⟩
end DSA
end
section
/-! the choices: choices 84, 86 thread, 87 late, 88 wakes -/
theorem RI_md {L A : List Nat} {x x' : gd} {S S' : gS} (h : md L A x x') (hL : [23, 24, 25, 26, 27, 28, 49, 52].all (fun k => !L.elem k) = true) (hA : [51, 52, 54, 55, 56, 57, 58, 59, 60, 61, 64, 65, 66, 73, 74, 77, 80, 81].all (fun k => !A.elem k) = true) (s : ssub S S') (q : RI x S) : RI x' S' := by
  have g := fun k (h0 : k ≠ 0) hk => h.2.1 k h0 (all_no hA k hk)
  have hA2 : [51, 52, 54, 55, 56, 57, 58, 59, 60, 61, 64, 65, 66].all (fun k => !A.elem k) = true := List.all_eq_true.mpr (fun k hk => List.all_eq_true.mp hA k (by simp at hk ⊢; omega))
  refine ⟨CP_md h hL hA2 q.1, fun t ht => ?_⟩
  obtain ⟨q1, q2, q3⟩ := q.2 t ht
  refine ⟨?_, ?_, ?_⟩
  · unfold ra
    rw [g 73 (by decide) (by decide), g 74 (by decide) (by decide), g 54 (by decide) (by decide), h.1 52 (all_no hL 52 (by decide))]
    exact q1
  · unfold rw'
    rw [g 73 (by decide) (by decide), g 74 (by decide) (by decide), g 55 (by decide) (by decide), g 77 (by decide) (by decide)]
    exact q2
  · unfold rl
    rw [g 80 (by decide) (by decide), g 81 (by decide) (by decide)]
    exact ⟨q3.1, q3.2.1, fun k hk => ⟨s _ _ (q3.2.2 k hk).1, s _ _ (q3.2.2 k hk).2.1, (q3.2.2 k hk).2.2⟩⟩
/-- a choice that there is: an act of a going thread, or a late write -/
def chO (x : gd) (t l : Int32) : Prop := (0 ≤ t.toInt ∧ t.toInt < 6) ∧ ((l = -1 ∧ x.1 73 t.toNatClampNeg = 1 ∧ ¬ x.1 77 t.toNatClampNeg = 1) ∨ (0 ≤ l.toInt ∧ l.toInt < (x.1 80 t.toNatClampNeg).toInt))
def chV (x : gd) (S : gS) : Prop := ∀ i : Nat, (i : Int) < (x.1 0 84).toInt → S 86 i ∧ S 87 i ∧ S 88 i ∧ chO x (x.1 86 i) (x.1 87 i)
/-- what findChoices leaves -/
def fC (x : gd) (S : gS) (b : Int) (y : gd) (S1 : gS) : Prop := md [84] [86, 87, 88] x y ∧ ssub S S1 ∧ S1 0 84 ∧ 0 ≤ (y.1 0 84).toInt ∧ (y.1 0 84).toInt ≤ b ∧ chV y S1
section DSC
variable {d : Nat} {S : gS} {x : gd} {F : Int32 → gd → gS → Prop} {Fv : gd → gS → Prop}
theorem fC_mono {y : gd} {S1 : gS} {b b' : Int} (h : b ≤ b') (q : fC x S b y S1) : fC x S b' y S1 := ⟨q.1, q.2.1, q.2.2.1, q.2.2.2.1, by have := q.2.2.2.2.1; omega, q.2.2.2.2.2⟩
end DSC
end
section
/-! an act looked at: actCell 88, actFails 89, actE 90, actF 91 -/
def lkP (x x' : gd) (T : Nat) : Prop := ((0 ≤ (srt x T).toInt ∧ (srt x T).toInt ≤ 4) → x'.1 0 88 = -1 ∨ (0 ≤ (x'.1 0 88).toInt ∧ (x'.1 0 88).toInt < 24)) ∧ ((5 ≤ (srt x T).toInt ∧ (srt x T).toInt ≤ 10) ∨ srt x T = 15 → x'.1 0 88 = x.1 56 (x.1 74 T).toNatClampNeg) ∧ ((x'.1 0 89).toInt ≤ 0 → ((0 ≤ (srt x T).toInt ∧ (srt x T).toInt ≤ 4) → 0 ≤ (x'.1 0 88).toInt ∧ (x'.1 0 88).toInt < 24) ∧ (srt x T = 9 → x.1 73 (x.1 56 (x.1 74 T).toNatClampNeg).toNatClampNeg = 0) ∧ (srt x T = 1 → x.1 0 68 = 1 → x.1 37 (x'.1 0 88).toNatClampNeg = 0 → ¬ x.1 80 T = 8))
def lkS (S : gS) : Prop := S 0 88 ∧ S 0 89 ∧ S 0 90 ∧ S 0 91
theorem lkS_up {S S' : gS} (h : ssub S S') (q : lkS S) : lkS S' := ⟨h _ _ q.1, h _ _ q.2.1, h _ _ q.2.2.1, h _ _ q.2.2.2⟩
section DSL
variable {d : Nat} {S : gS} {x : gd} {F : Int32 → gd → gS → Prop} {Fv : gd → gS → Prop}
end DSL
end
section
/-! late writes done; acts done -/
theorem rl_81 {x z : gd} {S : gS} {t n : Nat} {v : Int32} (q : rl x S t) (e : z = si x 81 n v) (v0 : 0 ≤ v.toInt) (v1 : v.toInt < 24) : rl z (sadd S 81 n) t := by
  have e80 : z.1 80 = x.1 80 := by rw [e, si_cell (by decide)]
  unfold rl
  rw [e80]
  refine ⟨q.1, q.2.1, fun k hk => ?_⟩
  obtain ⟨a, b, c⟩ := q.2.2 k hk
  refine ⟨Or.inr a, Or.inr b, ?_⟩
  rw [e, si_get]
  by_cases w : (81 : Nat) = 81 ∧ 10 * t + k = n
  · rw [if_pos w]; exact ⟨v0, v1⟩
  · rw [if_neg w]; exact c
section DSD
variable {d : Nat} {S : gS} {x : gd} {F : Int32 → gd → gS → Prop} {Fv : gd → gS → Prop}
/-- what an act tells: its place, whether it failed -/
def acP (s : Int32) (x' : gd) : Prop := (x'.1 0 89).toInt ≤ 0 → ((0 ≤ s.toInt ∧ s.toInt ≤ 4) → 0 ≤ (x'.1 0 88).toInt ∧ (x'.1 0 88).toInt < 24) ∧ (s = 9 → 0 ≤ (x'.1 0 88).toInt ∧ (x'.1 0 88).toInt < 6)
def acS (S : gS) : Prop := S 0 88 ∧ S 0 89 ∧ S 0 92 ∧ S 0 93
theorem acS_up {S S' : gS} (h : ssub S S') (q : acS S) : acS S' := ⟨h _ _ q.1, h _ _ q.2.1, h _ _ q.2.2.1, h _ _ q.2.2.2⟩
end DSD
end
section
/-! depth; the order of acts: acts 96, 98 thread, 99 sort, 100 of, 103 failed; startedBy 106, wokenBy 107; sooner: longs 105 -/
theorem MT_up {G : mG} {d d' : Nat} {y : gy} {pc : Nat} {lv : List (Nat × gv)} {st : List gv} {x : gd} {P : Option gv → gd → Prop} (hd : d ≤ d') (h : MT G d y pc lv st x P) : MT G d' y pc lv st x P := by
  obtain ⟨o, x', f', h1, h2, h3⟩ := h
  refine ⟨o, x', f', h1, h2, fun p e R s m args below meth c A H locs cells slots ls ad C => h3 p e R s m args below meth c A H locs cells slots ls ad ?_⟩
  obtain ⟨a, b, ⟨c1, c2⟩, q⟩ := C
  exact ⟨a, b, ⟨by omega, by omega⟩, q⟩
/-- an end from memories that are alike, seen from x itself -/
theorem MD_top {G : mG} {d d' : Nat} {y : gy} {pc : Nat} {lv : List (Nat × gv)} {st : List gv} {S : gS} {x z : gd} {P : Option gv → gd → gS → Prop} (h : MD d y pc lv st S x P) (e : eqS S x z) (hd : d ≤ d') {Q : Option gv → gd → Prop} (hq : ∀ o x' S' z', P o x' S' → eqS S' x' z' → md rL rA z z' → Q o z') : MT G d' y pc lv st z Q := by
  obtain ⟨o, x', S', h1, h2, h3⟩ := h
  exact MT_up hd (MT_mono (h3 G z e) (fun o2 z' q => by rw [q.1]; exact hq o x' S' z' h1 q.2.1 q.2.2))
/-- the acts of a run -/
def aA (x : gd) (j : Nat) : Prop := 0 ≤ (x.1 98 j).toInt ∧ (x.1 98 j).toInt < 6 ∧ (x.1 103 j = 0 → (0 ≤ (x.1 99 j).toInt ∧ (x.1 99 j).toInt ≤ 4) → 0 ≤ (x.1 100 j).toInt ∧ (x.1 100 j).toInt < 24)
def aB (x : gd) (n : Int) : Prop := ∀ t : Nat, t < 6 → (x.1 106 t = -1 ∨ (0 ≤ (x.1 106 t).toInt ∧ (x.1 106 t).toInt < n)) ∧ (x.1 107 t = -1 ∨ (0 ≤ (x.1 107 t).toInt ∧ (x.1 107 t).toInt < n))
section DSQ
variable {G : mG} {d : Nat} {x : gd} {F : Int32 → gd → Prop} {Fv : gd → Prop}
theorem t7 {b i : Int32} (hb : vp_in b 400) (h0 : 0 ≤ i.toInt) (h1 : i.toInt < 7) : vp_in (7 * b + i) 2800 := by
  have k7 : (7 : Int32).toInt = 7 := rfl
  have tv := vp_in_iff.mp hb
  have m : (7 * b).toInt = 7 * b.toInt := by rw [t_mul (by rw [k7]; omega) (by rw [k7]; omega), k7]
  rw [vp_in_iff, t_add (by omega) (by omega), m]; omega
theorem t64 {a : Int32} (ha : vp_in a 400) : 0 ≤ (a / 64).toInt ∧ (a / 64).toInt < 7 := by
  have tv := vp_in_iff.mp ha
  have k : (64 : Int32).toInt = 64 := rfl
  have e : (a / 64).toInt = a.toInt / 64 := by
    rw [Int32.toInt_div, k, Int.tdiv_eq_ediv_of_nonneg tv.1]
    exact Int.bmod_eq_of_le (by omega) (by omega)
  rw [e]
  omega
theorem sp_isAccess (s : Int32) (h0 : ¬ (0 ≤ s.toInt ∧ s.toInt ≤ 4) → F 0 x) (h1 : 0 ≤ s.toInt ∧ s.toInt ≤ 4 → F 1 x) : MT G d z_isAccess 0 [(0, vr 0), (1, vi s)] [] x (ri F) := by
  have y : ∀ k : Int32, s = k → 0 ≤ k.toInt → k.toInt ≤ 4 → ri F (some (vi 1)) x := fun k e a b => ri_i (h1 (by rw [e]; exact ⟨a, b⟩))
  refine sg_isAccess_0 _ ⟨fun e => y _ e (by decide) (by decide), fun n0 => ⟨fun e => y _ e (by decide) (by decide), fun n1 => ⟨fun e => y _ e (by decide) (by decide), fun n2 => ⟨fun e => y _ e (by decide) (by decide), fun n3 => ⟨fun n4 => ri_i (h0 (fun q => ?_)), fun e => y _ e (by decide) (by decide)⟩⟩⟩⟩⟩
  rw [t_eq] at n0 n1 n2 n3 n4
  have a0 : (0 : Int32).toInt = 0 := rfl
  have a1 : (1 : Int32).toInt = 1 := rfl
  have a2 : (2 : Int32).toInt = 2 := rfl
  have a3 : (3 : Int32).toInt = 3 := rfl
  have a4 : (4 : Int32).toInt = 4 := rfl
  omega
end DSQ
end
section
/-! runs by what they are like: a memory stands for all that are like it on the core, the late writes and the choices -/
def Sl (a : gd) : gS := fun c j => (c = 81 ∨ c = 82) ∧ ∃ t k : Nat, t < 6 ∧ (k : Int) < (a.1 80 t).toInt ∧ j = 10 * t + k
def Sm (a : gd) : gS := fun c j => (c = 0 ∧ j = 84) ∨ ((c = 86 ∨ c = 87 ∨ c = 88) ∧ (j : Int) < (a.1 0 84).toInt) ∨ Sl a c j
theorem Sl_Sm (a : gd) : ssub (Sl a) (Sm a) := fun _ _ h => Or.inr (Or.inr h)
theorem Sl_in {a : gd} {S : gS} (ri : RI a S) : ssub (Sl a) S := by
  intro c j h
  obtain ⟨hc, t, k, ht, hk, e⟩ := h
  have q := (ri.2 t ht).2.2.2.2 k hk
  rw [e]
  rcases hc with hc | hc
  · rw [hc]; exact q.1
  · rw [hc]; exact q.2.1
theorem RI_Sl {a : gd} {S : gS} (ri : RI a S) : RI a (Sl a) := by
  refine ⟨ri.1, fun t ht => ?_⟩
  obtain ⟨q1, q2, q3⟩ := ri.2 t ht
  exact ⟨q1, q2, q3.1, q3.2.1, fun k hk => ⟨⟨Or.inl rfl, t, k, ht, hk, rfl⟩, ⟨Or.inr rfl, t, k, ht, hk, rfl⟩, (q3.2.2 k hk).2.2⟩⟩
def fcA (b a : gd) : Prop := ∀ (G : mG) (z : gd), eqS (Sl b) b z → MT G 2 z_findChoices 0 [(0, vr 0)] [] z (rv (fun z' => eqS (Sm a) a z' ∧ md rL rA z z'))
def wy01 (a : gd) : Prop := a.1 0 68 = 0 ∨ a.1 0 68 = 1
def AV (a : gd) : Prop := RI a (Sl a) ∧ wy01 a ∧ chV a (Sm a) ∧ 0 ≤ (a.1 0 84).toInt ∧ (a.1 0 84).toInt ≤ 84 ∧ fcA a a
/-- the choice i done: from what is like a to what is like b -/
def Tr (a : gd) (i : Nat) (b : gd) : Prop := (a.1 87 i = -1 → ∀ (G : mG) (z : gd), eqS (Sl a) a z → MT G 4 z_doAct 0 [(0, vr 0), (1, vi (a.1 86 i)), (2, vi (a.1 88 i))] [] z (rv (fun z' => eqS (Sl b) b z' ∧ md rL rA z z' ∧ acP (srt a (a.1 86 i).toNatClampNeg) z'))) ∧ (¬ a.1 87 i = -1 → ∀ (G : mG) (z : gd), eqS (Sl a) a z → MT G 4 z_doLate 0 [(0, vr 0), (1, vi (a.1 86 i)), (2, vi (a.1 87 i))] [] z (rv (fun z' => eqS (Sl b) b z' ∧ md rL rA z z')))
/-- one choice, and the choices found behind it -/
def Lk (a : gd) (i : Nat) (a' : gd) : Prop := ∃ b, Tr a i b ∧ fcA b a'
/-- ints alone: all but the fields L and the arrays A stay -/
def mi (L A : List Nat) (x x' : gd) : Prop := (∀ k, k ∉ L → x'.1 0 k = x.1 0 k) ∧ (∀ c, c ≠ 0 → c ∉ A → x'.1 c = x.1 c) ∧ (105 ∉ A → x'.2 = x.2)
theorem mi_of {L A : List Nat} {x x' : gd} (h : md L A x x') : mi L A x x' := ⟨h.1, h.2.1, fun _ => h.2.2⟩
theorem mi_w {L A L2 A2 : List Nat} {x x' : gd} (h : mi L A x x') (h1 : ∀ k ∈ L, k ∈ L2) (h2 : ∀ k ∈ A, k ∈ A2) : mi L2 A2 x x' := ⟨fun k hk => h.1 k (fun m => hk (h1 k m)), fun c hc hk => h.2.1 c hc (fun m => hk (h2 c m)), fun hk => h.2.2 (fun m => hk (h2 105 m))⟩
theorem mi_tr {L A L2 A2 L3 A3 : List Nat} {x y z : gd} (h : mi L A x y) (g : mi L2 A2 y z) (h1 : (L ++ L2).all (L3.elem ·) = true) (h2 : (A ++ A2).all (A3.elem ·) = true) : mi L3 A3 x z := by
  rw [List.all_eq_true] at h1 h2
  refine ⟨fun k hk => ?_, fun c hc hk => ?_, fun hk => ?_⟩
  · rw [g.1 k (fun m => hk (List.elem_iff.mp (h1 k (List.mem_append_right _ m)))), h.1 k (fun m => hk (List.elem_iff.mp (h1 k (List.mem_append_left _ m))))]
  · rw [g.2.1 c hc (fun m => hk (List.elem_iff.mp (h2 c (List.mem_append_right _ m)))), h.2.1 c hc (fun m => hk (List.elem_iff.mp (h2 c (List.mem_append_left _ m))))]
  · rw [g.2.2 (fun m => hk (List.elem_iff.mp (h2 105 (List.mem_append_right _ m)))), h.2.2 (fun m => hk (List.elem_iff.mp (h2 105 (List.mem_append_left _ m))))]
theorem mi_eq {x y z : gd} {L A : List Nat} (h : mi L A x y) (e : z.1 = y.1) (h5 : 105 ∈ A) : mi L A x z := ⟨fun k hk => by rw [e]; exact h.1 k hk, fun c hc hk => by rw [e]; exact h.2.1 c hc hk, fun hk => absurd h5 hk⟩
/-- what is like a stays so where the core, the late writes and the choices stay -/
theorem eqS_mi {S : gS} {a z z' : gd} {L A : List Nat} (e : eqS S a z) (m : mi L A z z') (hL : [23, 24, 25, 26, 27, 68, 84].all (fun k => !L.elem k) = true) (hA : [36, 37, 38, 51, 52, 54, 55, 56, 57, 58, 59, 60, 61, 62, 64, 65, 66, 70, 71, 72, 73, 74, 75, 76, 77, 78, 79, 80, 81, 82, 86, 87, 88].all (fun k => !A.elem k) = true) (hS : ssub S (Sm a)) : eqS S a z' := by
  intro c j h
  rw [← e c j h]
  have key : ∀ c : Nat, c ≠ 0 → c ∈ [36, 37, 38, 51, 52, 54, 55, 56, 57, 58, 59, 60, 61, 62, 64, 65, 66, 70, 71, 72, 73, 74, 75, 76, 77, 78, 79, 80, 81, 82, 86, 87, 88] → z'.1 c j = z.1 c j := fun c h0 hc => by rw [m.2.1 c h0 (all_no hA c hc)]
  rcases h with (⟨h1, h2⟩ | ⟨n, h1, h2⟩) | h
  · rw [h1]
    refine m.1 j (all_no hL j ?_)
    simp at h2 ⊢
    omega
  · simp at h1
    exact key c (by omega) (by simp; omega)
  · rcases hS c j h with ⟨h1, h2⟩ | ⟨h1, _⟩ | ⟨h1, _⟩
    · rw [h1, h2]
      exact m.1 84 (all_no hL 84 (by decide))
    · exact key c (by omega) (by simp; omega)
    · exact key c (by omega) (by simp; omega)
end
section
/-! one choice done: done 94 (96 the choices done), acts 96 -/
def HA (z : gd) : Prop := 0 ≤ (z.1 0 96).toInt ∧ (z.1 0 96).toInt ≤ (z.1 0 94).toInt ∧ (z.1 0 94).toInt ≤ 400 ∧ (∀ j : Nat, (j : Int) < (z.1 0 96).toInt → aA z j) ∧ aB z (z.1 0 96).toInt
abbrev dL : List Nat := [82, 84, 88, 89, 90, 91, 92, 93, 94, 96]
abbrev dA : List Nat := [70, 71, 72, 73, 74, 75, 76, 77, 78, 79, 80, 81, 82, 84, 86, 87, 88, 96, 98, 99, 100, 101, 102, 103, 104, 105, 106, 107]
def dF (z z' : gd) (i : Int32) : Prop := mi dL dA z z' ∧ (z'.1 0 94).toInt = (z.1 0 94).toInt + 1 ∧ z'.1 96 (z.1 0 94).toNatClampNeg = i ∧ ∀ j : Nat, ¬ j = (z.1 0 94).toNatClampNeg → z'.1 96 j = z.1 96 j
theorem aA_mi {L A : List Nat} {x y : gd} (m : mi L A x y) (hA : [98, 99, 100, 103].all (fun k => !A.elem k) = true) {j : Nat} (q : aA x j) : aA y j := by
  have g := fun k (h0 : k ≠ 0) hk => m.2.1 k h0 (all_no hA k hk)
  unfold aA
  rw [g 98 (by decide) (by decide), g 99 (by decide) (by decide), g 100 (by decide) (by decide), g 103 (by decide) (by decide)]
  exact q
theorem aB_mi {L A : List Nat} {x y : gd} (m : mi L A x y) (hA : [106, 107].all (fun k => !A.elem k) = true) {n n' : Int} (hn : n ≤ n') (q : aB x n) : aB y n' := by
  have g := fun k (h0 : k ≠ 0) hk => m.2.1 k h0 (all_no hA k hk)
  unfold aB
  rw [g 106 (by decide) (by decide), g 107 (by decide) (by decide)]
  intro t ht
  obtain ⟨q1, q2⟩ := q t ht
  exact ⟨q1.imp id (fun w => by omega), q2.imp id (fun w => by omega)⟩
section DCH
variable {G : mG} {D : Nat} {a a' z : gd} {F : Int32 → gd → Prop} {Fv : gd → Prop}
theorem sp_sortOf {x : gd} (t : Int32) (ht : vp_in t 6) (ha : vp_in (x.1 74 t.toNatClampNeg) 1500) (h : F (srt x t.toNatClampNeg) x) : MT G D z_sortOf 0 [(0, vr 0), (1, vi t)] [] x (ri F) := by
  refine sg_sortOf_0 _ ⟨ht, fun c => ⟨ht, ha, ri_i ?_⟩, fun c => ri_i ?_⟩
  · rwa [srt, if_neg c] at h
  · rwa [srt, if_pos c] at h
theorem cA {c n : Nat} {S : gS} {x z : gd} (e : eqS S x z) (h : (c, n) ∈ coreL) {j : Nat} (hj : j < n) : z.1 c j = x.1 c j := e c j (Or.inl (Or.inr ⟨n, h, hj⟩))
theorem cF {k : Nat} {S : gS} {x z : gd} (e : eqS S x z) (h : k ∈ coreF) : z.1 0 k = x.1 0 k := e 0 k (Or.inl (core_f h))
theorem srt_eq {S : gS} {x : gd} (e : eqS S x z) (ri : RI x S) {t : Nat} (ht : t < 6) : srt z t = srt x t := by
  have r := (ri.2 t ht).1
  have e77 := cA e (c := 77) (n := 6) (by decide) ht
  have e74 := cA e (c := 74) (n := 6) (by decide) ht
  have e55 := cA e (c := 55) (n := 1500) (by decide) (j := (x.1 74 t).toNatClampNeg) (by have := cl_i r.1; have := r.2.1; omega)
  unfold srt
  rw [e77, e74, e55]
end DCH
end
section
/-! a run begun: setFirst, startRun -/
abbrev sA0 : List Nat := [70, 71, 72, 73, 74, 75, 76, 77, 78, 79, 80]
/-- the first state of the cells, locks and threads -/
def iniT (y : gd) (j : Nat) : Prop := y.1 73 j = 0 ∧ y.1 74 j = 0 ∧ y.1 75 j = 0 ∧ y.1 77 j = 0 ∧ y.1 78 j = 0 ∧ y.1 79 j = -1 ∧ y.1 80 j = 0
def iniC (z y : gd) (j : Nat) : Prop := y.1 70 j = if (j : Int) < (z.1 0 23).toInt then z.1 36 j else 0
def iniL (y : gd) (j : Nat) : Prop := y.1 71 j = -1 ∧ y.1 72 j = 0
def ini (z y : gd) : Prop := md [] sA0 z y ∧ (∀ j : Nat, j < 24 → iniC z y j) ∧ (∀ j : Nat, j < 6 → iniL y j) ∧ (∀ j : Nat, j < 6 → iniT y j) ∧ ∀ j : Nat, j < 48 → y.1 76 j = 0
/-- the program of x -/
def prE (x z : gd) : Prop := (∀ k ∈ [23, 24, 25, 26, 27], z.1 0 k = x.1 0 k) ∧ ∀ c n j : Nat, (c, n) ∈ coreL → c ∉ sA0 → j < n → z.1 c j = x.1 c j
theorem prE_eqS {S : gS} {x z : gd} (e : eqS S x z) : prE x z := ⟨fun k hk => cF e (by simp at hk ⊢; omega), fun c n j h _ hj => cA e h hj⟩
theorem prE_mi {L A : List Nat} {x z z' : gd} (h : prE x z) (m : mi L A z z') (hL : [23, 24, 25, 26, 27].all (fun k => !L.elem k) = true) (hA : [36, 37, 38, 51, 52, 54, 55, 56, 57, 58, 59, 60, 61, 62, 64, 65, 66].all (fun k => !A.elem k) = true) : prE x z' := by
  refine ⟨fun k hk => ?_, fun c n j hc hn hj => ?_⟩
  · rw [m.1 k (all_no hL k hk)]; exact h.1 k hk
  · have : c ∈ [36, 37, 38, 51, 52, 54, 55, 56, 57, 58, 59, 60, 61, 62, 64, 65, 66] := by
      simp at hc hn ⊢
      omega
    rw [m.2.1 c (by simp at this; omega) (all_no hA c this)]
    exact h.2 c n j hc hn hj
theorem prE_rf (x : gd) : prE x x := ⟨fun _ _ => rfl, fun _ _ _ _ _ _ => rfl⟩
theorem prE_tr {x y z : gd} (a : prE x y) (b : prE y z) : prE x z := ⟨fun k hk => (b.1 k hk).trans (a.1 k hk), fun c n j h1 h2 h3 => (b.2 c n j h1 h2 h3).trans (a.2 c n j h1 h2 h3)⟩
theorem prE_sy {x z : gd} (a : prE x z) : prE z x := ⟨fun k hk => (a.1 k hk).symm, fun c n j h1 h2 h3 => (a.2 c n j h1 h2 h3).symm⟩
/-- begun with the same program and way, the states are alike -/
theorem ini_eq {x x1 z z1 : gd} (p : prE x z) (w : z.1 0 68 = x.1 0 68) (i : ini x x1) (j : ini z z1) : eqS (fun _ _ => False) x1 z1 := by
  intro c n h
  obtain ⟨i1, i2, i3, i4, i5⟩ := i
  obtain ⟨j1, j2, j3, j4, j5⟩ := j
  rcases h with (⟨h1, h2⟩ | ⟨m, h1, h2⟩) | h
  · rw [h1, i1.1 n (fun q => nomatch q), j1.1 n (fun q => nomatch q)]
    simp at h2
    by_cases q : n = 68
    · rw [q]; exact w
    · exact p.1 n (by simp; omega)
  · by_cases q : c ∈ sA0
    · simp at q h1
      have e : c = 70 ∧ m = 24 ∨ c = 76 ∧ m = 48 ∨ ((c = 71 ∨ c = 72) ∧ m = 6) ∨ ((c = 73 ∨ c = 74 ∨ c = 75 ∨ c = 77 ∨ c = 78 ∨ c = 79 ∨ c = 80) ∧ m = 6) := by omega
      rcases e with ⟨e, em⟩ | ⟨e, em⟩ | ⟨e, em⟩ | ⟨e, em⟩
      · rw [em] at h2
        have a1 := i2 n h2
        have a2 := j2 n h2
        unfold iniC at a1 a2
        rw [e, a1, a2, p.1 23 (by simp), p.2 36 24 n (by simp) (by simp) h2]
      · rw [em] at h2
        rw [e, i5 n h2, j5 n h2]
      · rw [em] at h2
        obtain ⟨a1, a2⟩ := i3 n h2
        obtain ⟨b1, b2⟩ := j3 n h2
        rcases e with e | e
        · rw [e, a1, b1]
        · rw [e, a2, b2]
      · rw [em] at h2
        obtain ⟨a1, a2, a3, a4, a5, a6, a7⟩ := i4 n h2
        obtain ⟨b1, b2, b3, b4, b5, b6, b7⟩ := j4 n h2
        rcases e with e | e | e | e | e | e | e
        · rw [e, a1, b1]
        · rw [e, a2, b2]
        · rw [e, a3, b3]
        · rw [e, a4, b4]
        · rw [e, a5, b5]
        · rw [e, a6, b6]
        · rw [e, a7, b7]
    · have c0 : c ≠ 0 := by simp at h1; omega
      rw [i1.2.1 c c0 q, j1.2.1 c c0 q]
      exact p.2 c m n h1 q h2
  · exact h.elim
/-- the first state itself -/
def ix (x : gd) : gd := (fun c j => if c = 70 then (if j < 24 then (if (j : Int) < (x.1 0 23).toInt then x.1 36 j else 0) else x.1 c j) else if c = 71 ∨ c = 79 then (if j < 6 then -1 else x.1 c j) else if c = 72 ∨ c = 73 ∨ c = 74 ∨ c = 75 ∨ c = 77 ∨ c = 78 ∨ c = 80 then (if j < 6 then 0 else x.1 c j) else if c = 76 then (if j < 48 then 0 else x.1 c j) else x.1 c j, x.2)
theorem ix_ini (x : gd) : ini x (ix x) := by
  refine ⟨⟨fun k _ => rfl, fun c c0 hc => ?_, rfl⟩, fun j hj => ?_, fun j hj => ⟨?_, ?_⟩, fun j hj => ⟨?_, ?_, ?_, ?_, ?_, ?_, ?_⟩, fun j hj => ?_⟩
  · simp at hc
    funext j
    show (if c = 70 then _ else if c = 71 ∨ c = 79 then _ else if c = 72 ∨ c = 73 ∨ c = 74 ∨ c = 75 ∨ c = 77 ∨ c = 78 ∨ c = 80 then _ else if c = 76 then _ else x.1 c j) = x.1 c j
    rw [if_neg (by omega), if_neg (by omega), if_neg (by omega), if_neg (by omega)]
  · show (if j < 24 then (if (j : Int) < (x.1 0 23).toInt then x.1 36 j else 0) else x.1 70 j) = _
    rw [if_pos hj]
  · show (if j < 6 then -1 else x.1 71 j) = -1
    rw [if_pos hj]
  · show (if j < 6 then 0 else x.1 72 j) = 0
    rw [if_pos hj]
  · show (if j < 6 then 0 else x.1 73 j) = 0
    rw [if_pos hj]
  · show (if j < 6 then 0 else x.1 74 j) = 0
    rw [if_pos hj]
  · show (if j < 6 then 0 else x.1 75 j) = 0
    rw [if_pos hj]
  · show (if j < 6 then 0 else x.1 77 j) = 0
    rw [if_pos hj]
  · show (if j < 6 then 0 else x.1 78 j) = 0
    rw [if_pos hj]
  · show (if j < 6 then -1 else x.1 79 j) = -1
    rw [if_pos hj]
  · show (if j < 6 then 0 else x.1 80 j) = 0
    rw [if_pos hj]
  · show (if j < 48 then 0 else x.1 76 j) = 0
    rw [if_pos hj]
section DST
variable {G : mG} {d D : Nat} {S : gS} {x z : gd} {P : Option gv → gd → Prop} {Fv : gd → gS → Prop}
theorem sp_setInit (h : ∀ y, ini z y → MT G (D + 1) z_setFirst 157 [(0, vr 0), (1, vi 0)] [] y P) : MT G (D + 1) z_setFirst 0 [(0, vr 0)] [] z P := by
  have k0 : (0 : Int32).toInt = 0 := rfl
  have k1 : (1 : Int32).toInt = 1 := rfl
  have k6 : (6 : Int32).toInt = 6 := rfl
  have k8 : (8 : Int32).toInt = 8 := rfl
  have k24 : (24 : Int32).toInt = 24 := rfl
  -- threads
  have p68 : ∀ (n : Nat) (y : gd) (t : Int32), 0 ≤ t.toInt → t.toInt ≤ 6 → 6 - t.toInt ≤ n → md [] sA0 z y → (∀ j : Nat, j < 24 → iniC z y j) → (∀ j : Nat, j < 6 → iniL y j) → (∀ j : Nat, (j : Int) < t.toInt → iniT y j) → (∀ j : Nat, (j : Int) < 8 * t.toInt → y.1 76 j = 0) → MT G (D + 1) z_setFirst 68 [(0, vr 0), (1, vi t)] [] y P := by
    intro n
    induction n with
    | zero =>
      intro y t t0 t6 hn my hc hl ht hlo
      exact sg_setFirst_68 _ ⟨fun _ => h y ⟨my, hc, hl, fun j hj => ht j (by omega), fun j hj => hlo j (by omega)⟩, fun c => absurd (t_le.mpr (by rw [k6]; omega)) c⟩
    | succ n ih =>
      intro y t t0 t6 hn my hc hl ht hlo
      refine sg_setFirst_68 _ ⟨fun c => h y ⟨my, hc, hl, fun j hj => ht j (by rw [t_le, k6] at c; omega), fun j hj => hlo j (by rw [t_le, k6] at c; omega)⟩, fun c => ?_⟩
      rw [t_le, k6] at c
      have tv : vp_in t 6 := by rw [vp_in_iff]; omega
      have ct := cl_i t0
      have ti : (t + 1).toInt = t.toInt + 1 := by rw [t_add (by omega) (by omega), k1]
      refine ⟨tv, fun y3 e3 => ⟨tv, fun y5 e5 => ⟨tv, fun y7 e7 => ⟨tv, fun y9 e9 => ⟨tv, fun y11 e11 => ⟨tv, fun y13 e13 => ⟨tv, fun y15 e15 => ?_⟩⟩⟩⟩⟩⟩⟩
      have m15 : md [] [73, 74, 75, 77, 78, 79, 80] y y15 := by
        rw [e15]
        refine md_tr (L := []) (A := [73, 74, 75, 77, 78, 79]) ?_ (md_a y13 80 t.toNatClampNeg 0 (by decide)) rfl rfl
        rw [e13]
        refine md_tr (L := []) (A := [73, 74, 75, 77, 78]) ?_ (md_a y11 79 t.toNatClampNeg (-1) (by decide)) rfl rfl
        rw [e11]
        refine md_tr (L := []) (A := [73, 74, 75, 77]) ?_ (md_a y9 78 t.toNatClampNeg 0 (by decide)) rfl rfl
        rw [e9]
        refine md_tr (L := []) (A := [73, 74, 75]) ?_ (md_a y7 77 t.toNatClampNeg 0 (by decide)) rfl rfl
        rw [e7]
        refine md_tr (L := []) (A := [73, 74]) ?_ (md_a y5 75 t.toNatClampNeg 0 (by decide)) rfl rfl
        rw [e5]
        refine md_tr (L := []) (A := [73]) ?_ (md_a y3 74 t.toNatClampNeg 0 (by decide)) rfl rfl
        rw [e3]
        exact md_a y 73 t.toNatClampNeg 0 (by decide)
      have ot : ∀ c j : Nat, ¬ j = t.toNatClampNeg → y15.1 c j = y.1 c j := fun c j hj => by
        rw [e15, si_ne c j hj, e13, si_ne c j hj, e11, si_ne c j hj, e9, si_ne c j hj, e7, si_ne c j hj, e5, si_ne c j hj, e3, si_ne c j hj]
      have it : iniT y15 t.toNatClampNeg := by
        refine ⟨?_, ?_, ?_, ?_, ?_, ?_, ?_⟩
        · rw [e15, si_cell (by decide), e13, si_cell (by decide), e11, si_cell (by decide), e9, si_cell (by decide), e7, si_cell (by decide), e5, si_cell (by decide), e3, si_get, if_pos ⟨rfl, rfl⟩]
        · rw [e15, si_cell (by decide), e13, si_cell (by decide), e11, si_cell (by decide), e9, si_cell (by decide), e7, si_cell (by decide), e5, si_get, if_pos ⟨rfl, rfl⟩]
        · rw [e15, si_cell (by decide), e13, si_cell (by decide), e11, si_cell (by decide), e9, si_cell (by decide), e7, si_get, if_pos ⟨rfl, rfl⟩]
        · rw [e15, si_cell (by decide), e13, si_cell (by decide), e11, si_cell (by decide), e9, si_get, if_pos ⟨rfl, rfl⟩]
        · rw [e15, si_cell (by decide), e13, si_cell (by decide), e11, si_get, if_pos ⟨rfl, rfl⟩]
        · rw [e15, si_cell (by decide), e13, si_get, if_pos ⟨rfl, rfl⟩]
        · rw [e15, si_get, if_pos ⟨rfl, rfl⟩]
      -- its lets
      have p125 : ∀ (m : Nat) (u : gd) (i : Int32), 0 ≤ i.toInt → i.toInt ≤ 8 → 8 - i.toInt ≤ m → md [] [76] y15 u → (∀ j : Nat, (j : Int) < 8 * t.toInt + i.toInt → u.1 76 j = 0) → MT G (D + 1) z_setFirst 125 [(0, vr 0), (1, vi t), (2, vi i)] [] u P := by
        have last : ∀ u : gd, md [] [76] y15 u → (∀ j : Nat, (j : Int) < 8 * t.toInt + 8 → u.1 76 j = 0) → MT G (D + 1) z_setFirst 68 [(0, vr 0), (1, vi (t + 1))] [] u P := by
          intro u mu hu
          have g := fun k (h0 : k ≠ 0) hk => mu.2.1 k h0 hk
          refine ih u (t + 1) (by omega) (by omega) (by omega) (md_tr (md_tr (L3 := []) (A3 := sA0) my m15 rfl rfl) mu rfl rfl) (fun j hj => ?_) (fun j hj => ?_) (fun j hj => ?_) (fun j hj => hu j (by omega))
          · unfold iniC
            rw [g 70 (by decide) (by decide), m15.2.1 70 (by decide) (by decide)]
            exact hc j hj
          · unfold iniL
            rw [g 71 (by decide) (by decide), m15.2.1 71 (by decide) (by decide), g 72 (by decide) (by decide), m15.2.1 72 (by decide) (by decide)]
            exact hl j hj
          · have q : iniT y15 j := by
              by_cases w : j = t.toNatClampNeg
              · rw [w]; exact it
              · unfold iniT
                rw [ot 73 j w, ot 74 j w, ot 75 j w, ot 77 j w, ot 78 j w, ot 79 j w, ot 80 j w]
                exact ht j (by omega)
            unfold iniT
            rw [g 73 (by decide) (by decide), g 74 (by decide) (by decide), g 75 (by decide) (by decide), g 77 (by decide) (by decide), g 78 (by decide) (by decide), g 79 (by decide) (by decide), g 80 (by decide) (by decide)]
            exact q
        intro m
        induction m with
        | zero =>
          intro u i i0 i8 hm mu hu
          exact sg_setFirst_125 _ _ ⟨fun _ => last u mu (fun j hj => hu j (by omega)), fun c => absurd (t_le.mpr (by rw [k8]; omega)) c⟩
        | succ m ihm =>
          intro u i i0 i8 hm mu hu
          refine sg_setFirst_125 _ _ ⟨fun c => last u mu (fun j hj => hu j (by rw [t_le, k8] at c; omega)), fun c => ?_⟩
          rw [t_le, k8] at c
          have ii : (i + 1).toInt = i.toInt + 1 := by rw [t_add (by omega) (by omega), k1]
          have m9 : (8 * t).toInt = 8 * t.toInt := by rw [t_mul (by rw [k8]; omega) (by rw [k8]; omega), k8]
          have e9 : (8 * t + i).toInt = 8 * t.toInt + i.toInt := by rw [t_add (by omega) (by omega), m9]
          refine ⟨by rw [vp_in_iff]; omega, fun u3 eu3 => ?_⟩
          have m3 := md_a u 76 (8 * t + i).toNatClampNeg 0 (by decide)
          rw [← eu3] at m3
          refine ihm u3 (i + 1) (by omega) (by omega) (by omega) (md_tr mu m3 rfl rfl) (fun j hj => ?_)
          rw [eu3, si_get]
          by_cases w : (76 : Nat) = 76 ∧ j = (8 * t + i).toNatClampNeg
          · rw [if_pos w]
          · rw [if_neg w]
            refine hu j ?_
            have := cl_i (a := 8 * t + i) (by omega)
            omega
      exact p125 8 y15 0 (by decide) (by decide) (by decide) (md_w (md_rf _) (by decide) (by decide)) (fun j hj => by rw [m15.2.1 76 (by decide) (by decide)]; exact hlo j (by rw [k0] at hj; omega))
  -- locks
  have p40 : ∀ (n : Nat) (y : gd) (t : Int32), 0 ≤ t.toInt → t.toInt ≤ 6 → 6 - t.toInt ≤ n → md [] [70, 71, 72] z y → (∀ j : Nat, j < 24 → iniC z y j) → (∀ j : Nat, (j : Int) < t.toInt → iniL y j) → MT G (D + 1) z_setFirst 40 [(0, vr 0), (1, vi t)] [] y P := by
    have last : ∀ y : gd, md [] [70, 71, 72] z y → (∀ j : Nat, j < 24 → iniC z y j) → (∀ j : Nat, j < 6 → iniL y j) → MT G (D + 1) z_setFirst 68 [(0, vr 0), (1, vi 0)] [] y P := fun y my hc hl => p68 6 y 0 (by decide) (by decide) (by decide) (md_w my (by decide) (by decide)) hc hl (fun j hj => by rw [k0] at hj; omega) (fun j hj => by rw [k0] at hj; omega)
    intro n
    induction n with
    | zero =>
      intro y t t0 t6 hn my hc hl
      exact sg_setFirst_40 _ ⟨fun _ => last y my hc (fun j hj => hl j (by omega)), fun c => absurd (t_le.mpr (by rw [k6]; omega)) c⟩
    | succ n ih =>
      intro y t t0 t6 hn my hc hl
      refine sg_setFirst_40 _ ⟨fun c => last y my hc (fun j hj => hl j (by rw [t_le, k6] at c; omega)), fun c => ?_⟩
      rw [t_le, k6] at c
      have tv : vp_in t 6 := by rw [vp_in_iff]; omega
      have ct := cl_i t0
      have ti : (t + 1).toInt = t.toInt + 1 := by rw [t_add (by omega) (by omega), k1]
      refine ⟨tv, fun y3 e3 => ⟨tv, fun y5 e5 => ?_⟩⟩
      have m3 := md_a y 71 t.toNatClampNeg (-1) (by decide)
      rw [← e3] at m3
      have m5 := md_a y3 72 t.toNatClampNeg 0 (by decide)
      rw [← e5] at m5
      have mm : md [] [71, 72] y y5 := md_tr m3 m5 rfl rfl
      refine ih y5 (t + 1) (by omega) (by omega) (by omega) (md_tr my mm rfl rfl) (fun j hj => ?_) (fun j hj => ?_)
      · unfold iniC
        rw [mm.2.1 70 (by decide) (by decide)]
        exact hc j hj
      · by_cases w : j = t.toNatClampNeg
        · rw [w]
          exact ⟨by rw [e5, si_cell (by decide), e3, si_get, if_pos ⟨rfl, rfl⟩], by rw [e5, si_get, if_pos ⟨rfl, rfl⟩]⟩
        · unfold iniL
          rw [e5, si_ne 71 j w, si_ne 72 j w, e3, si_ne 71 j w, si_ne 72 j w]
          exact hl j (by omega)
  -- cells
  have p2 : ∀ (n : Nat) (y : gd) (t : Int32), 0 ≤ t.toInt → t.toInt ≤ 24 → 24 - t.toInt ≤ n → md [] [70] z y → (∀ j : Nat, (j : Int) < t.toInt → iniC z y j) → MT G (D + 1) z_setFirst 2 [(0, vr 0), (1, vi t)] [] y P := by
    have last : ∀ y : gd, md [] [70] z y → (∀ j : Nat, j < 24 → iniC z y j) → MT G (D + 1) z_setFirst 40 [(0, vr 0), (1, vi 0)] [] y P := fun y my hc => p40 6 y 0 (by decide) (by decide) (by decide) (md_w my (by decide) (by decide)) hc (fun j hj => by rw [k0] at hj; omega)
    intro n
    induction n with
    | zero =>
      intro y t t0 t6 hn my hc
      exact sg_setFirst_2 _ ⟨fun _ => last y my (fun j hj => hc j (by omega)), fun c => absurd (t_le.mpr (by rw [k24]; omega)) c⟩
    | succ n ih =>
      intro y t t0 t6 hn my hc
      refine sg_setFirst_2 _ ⟨fun c => last y my (fun j hj => hc j (by rw [t_le, k24] at c; omega)), fun c => ?_⟩
      rw [t_le, k24] at c
      have tv : vp_in t 24 := by rw [vp_in_iff]; omega
      have ct := cl_i t0
      have ti : (t + 1).toInt = t.toInt + 1 := by rw [t_add (by omega) (by omega), k1]
      have go : ∀ (v : Int32) (u : gd), u = si y 70 t.toNatClampNeg v → v = (if ((t.toNatClampNeg : Nat) : Int) < (z.1 0 23).toInt then z.1 36 t.toNatClampNeg else 0) → MT G (D + 1) z_setFirst 2 [(0, vr 0), (1, vi (t + 1))] [] u P := by
        intro v u eu hv
        have m3 := md_a y 70 t.toNatClampNeg v (by decide)
        rw [← eu] at m3
        refine ih u (t + 1) (by omega) (by omega) (by omega) (md_tr my m3 rfl rfl) (fun j hj => ?_)
        unfold iniC
        by_cases w : j = t.toNatClampNeg
        · rw [eu, si_get, if_pos ⟨rfl, w⟩, hv, w]
        · rw [eu, si_ne 70 j w]
          exact hc j (by omega)
      have f23 : y.1 0 23 = z.1 0 23 := my.1 23 (by decide)
      have f36 : y.1 36 = z.1 36 := my.2.1 36 (by decide) (by decide)
      rw [f23, f36]
      refine ⟨fun c2 => ⟨tv, fun u eu => go _ u eu ?_⟩, fun c2 => ⟨tv, tv, fun u eu => go _ u eu ?_⟩⟩
      · rw [t_le] at c2
        rw [if_neg (by omega)]
      · rw [t_le] at c2
        rw [if_pos (by omega)]
  exact sg_setFirst_0 (p2 24 z 0 (by decide) (by decide) (by decide) (md_w (md_rf z) (by decide) (by decide)) (fun j hj => by rw [k0] at hj; omega))
abbrev sL' : List Nat := [67, 68, 82, 84, 88, 89, 90, 91, 92, 93, 94, 96]
abbrev sA' : List Nat := [70, 71, 72, 73, 74, 75, 76, 77, 78, 79, 80, 81, 82, 84, 86, 87, 88, 106, 107]
def sF (w : Int32) (z z' : gd) : Prop := mi sL' sA' z z' ∧ z'.1 0 94 = 0 ∧ HA z' ∧ z'.1 0 67 = 1 ∧ z'.1 0 68 = w
/-- what is like a0 is what a run by the way w begins with -/
def St (x : gd) (w : Int32) (a0 : gd) : Prop := ∀ (G : mG) (D : Nat) (z : gd) (Fv : gd → Prop), 6 ≤ D → prE x z → (∀ z', eqS (Sm a0) a0 z' → sF w z z' → Fv z') → MT G D z_startRun 0 [(0, vr 0), (1, vi w)] [] z (rv Fv)
end DST
end
section
/-! what stays true between calls -/
theorem TK_mi {L A : List Nat} {x x' : gd} (h : mi L A x x') (h6 : 6 ∉ A) (h8 : 8 ∉ A) (h7 : 7 ∉ A) (q : TK x) : TK x' := by
  intro j hj
  rw [h.2.1 6 (by decide) h6, h.2.1 8 (by decide) h8, h.2.1 7 (by decide) h7]
  exact q j hj
theorem G0_mi {L A : List Nat} {x x' : gd} (h : mi L A x x') (hL : [2, 10, 42].all (fun k => !L.elem k) = true) (hA : [6, 7, 8, 118].all (fun k => !A.elem k) = true) (q : G0 x) : G0 x' := by
  have f := fun k hk => h.1 k (all_no hL k hk)
  unfold G0
  rw [f 2 (by decide), f 10 (by decide), f 42 (by decide)]
  exact ⟨q.1, q.2.1, TK_mi h (all_no hA 6 (by decide)) (all_no hA 8 (by decide)) (all_no hA 7 (by decide)) q.2.2.1, q.2.2.2.1, q.2.2.2.2.1, fun t ht => by rw [h.2.1 118 (by decide) (all_no hA 118 (by decide))]; exact q.2.2.2.2.2 t ht⟩
theorem CP_mi {L A : List Nat} {x x' : gd} (h : mi L A x x') (hL : [23, 24, 25, 26, 27, 28, 49, 52].all (fun k => !L.elem k) = true) (hA : [51, 52, 54, 55, 56, 57, 58, 59, 60, 61, 64, 65, 66].all (fun k => !A.elem k) = true) (q : CP x) : CP x' := by
  have f := fun k hk => h.1 k (all_no hL k hk)
  have g := fun k (h0 : k ≠ 0) hk => h.2.1 k h0 (all_no hA k hk)
  have f23 := f 23 (by decide)
  have f24 := f 24 (by decide)
  have f25 := f 25 (by decide)
  have f26 := f 26 (by decide)
  have f27 := f 27 (by decide)
  have f28 := f 28 (by decide)
  have f49 := f 49 (by decide)
  have f52 := f 52 (by decide)
  have g51 := g 51 (by decide) (by decide)
  have g52 := g 52 (by decide) (by decide)
  obtain ⟨q1, q2, q3, q4⟩ := q
  have wk : ∀ r, wo x 0 r → wo x' 0 r := fun r z => wo_keep (by rw [f49]; omega) (fun j _ => by rw [g51, g52]; exact ⟨rfl, rfl⟩) z
  have ok : ∀ r, oW x r → oW x' r := fun r z => ⟨z.1, cW_keep (by rw [f49]; omega) (fun j _ => by rw [g51, g52]; exact ⟨rfl, rfl⟩) z.2⟩
  refine ⟨?_, ?_, fun k hk => ?_, fun k hk => ?_⟩
  · unfold GB
    rw [f23, f24, f25, f26, f27, f28]
    exact q1
  · obtain ⟨j1, j2, j3, j4, j5, j6⟩ := q2
    refine ⟨by rw [f52]; exact j1, by rw [f52]; exact j2, by rw [f49]; exact j3, by rw [f49]; exact j4, fun j hj => ?_, fun j hj => ?_⟩
    · rw [f52] at hj
      obtain ⟨⟨a1, a2, a3, a4⟩, b, c9⟩ := j5 j hj
      unfold sC sO gO
      rw [g 54 (by decide) (by decide), g 55 (by decide) (by decide), g 56 (by decide) (by decide), g 57 (by decide) (by decide), g 58 (by decide) (by decide), g 59 (by decide) (by decide), g 60 (by decide) (by decide), g 61 (by decide) (by decide), f25, f52]
      exact ⟨⟨wk _ a1, wk _ a2, wk _ a3, a4⟩, b, c9⟩
    · rw [f25] at hj
      rw [g 64 (by decide) (by decide), f52]
      exact j6 j hj
  · rw [f26] at hk
    rw [g 65 (by decide) (by decide)]
    exact ok _ (q3 k hk)
  · rw [f27] at hk
    rw [g 66 (by decide) (by decide)]
    exact ok _ (q4 k hk)
/-- the run: the states that its choices went through -/
def Hist (z : gd) : Prop := ∃ (a : Nat → gd) (n : Nat), (n : Int) = (z.1 0 94).toInt ∧ (∀ k : Nat, k ≤ n → AV (a k)) ∧ (∀ k : Nat, k < n → 0 ≤ (z.1 96 k).toInt ∧ (z.1 96 k).toInt < ((a k).1 0 84).toInt ∧ Lk (a k) (z.1 96 k).toNatClampNeg (a (k + 1))) ∧ eqS (Sm (a n)) (a n) z ∧ St z (z.1 0 68) (a 0) ∧ wy01 z ∧ HA z
/-- a way as an int -/
def w32 (w : Nat) : Int32 := if w = 0 then 0 else 1
theorem w32_01 (w : Nat) : w32 w = 0 ∨ w32 w = 1 := by
  unfold w32
  by_cases h : w = 0
  · rw [if_pos h]; exact Or.inl rfl
  · rw [if_neg h]; exact Or.inr rfl
/-- a state that was tried: how it was come to. parent 130, byChoice 131, far 132 -/
def TN (z : gd) (w : Nat) (A : Nat → gd) (s : Nat) : Prop := AV (A s) ∧ 0 ≤ (z.1 132 (3000 * w + s)).toInt ∧ (s = 0 → (z.1 132 (3000 * w + s)).toInt = 0) ∧ (0 < s → ∃ p : Nat, p < s ∧ (z.1 130 (3000 * w + s)).toInt = p ∧ (z.1 132 (3000 * w + s)).toInt = (z.1 132 (3000 * w + p)).toInt + 1 ∧ 0 ≤ (z.1 131 (3000 * w + s)).toInt ∧ (z.1 131 (3000 * w + s)).toInt < ((A p).1 0 84).toInt ∧ Lk (A p) (z.1 131 (3000 * w + s)).toNatClampNeg (A s))
/-- a trying: many 120, outcomes 123, findings 126 -/
def TY (z : gd) (w : Nat) : Prop := ∃ A : Nat → gd, St z (w32 w) (A 0) ∧ 0 ≤ (z.1 120 w).toInt ∧ (z.1 120 w).toInt ≤ 3000 ∧ 0 ≤ (z.1 123 w).toInt ∧ (z.1 123 w).toInt ≤ 3000 ∧ (∀ s : Nat, (s : Int) < (z.1 120 w).toInt → TN z w A s) ∧ ∀ f : Nat, f < 11 → z.1 126 (11 * w + f) = -1 ∨ (0 ≤ (z.1 126 (11 * w + f)).toInt ∧ (z.1 126 (11 * w + f)).toInt < (z.1 120 w).toInt)
def MI (z : gd) : Prop := G0 z ∧ (¬ z.1 0 66 = 0 → CP z) ∧ (¬ z.1 0 67 = 0 → ¬ z.1 0 66 = 0 ∧ Hist z) ∧ ∀ w : Nat, w < 2 → ¬ z.1 119 w = 0 → ¬ z.1 0 66 = 0 ∧ TY z w
theorem St_pr {x y : gd} {w : Int32} {a0 : gd} (h : prE x y) (q : St x w a0) : St y w a0 := fun G D z Fv hD p hF => q G D z Fv hD (prE_tr h p) hF
theorem HA_mi {L A : List Nat} {x y : gd} (m : mi L A x y) (hL : [94, 96].all (fun k => !L.elem k) = true) (hA : [98, 99, 100, 103, 106, 107].all (fun k => !A.elem k) = true) (q : HA x) : HA y := by
  have f := fun k hk => m.1 k (all_no hL k hk)
  obtain ⟨a1, a2, a3, a4, a5⟩ := q
  have f94 := f 94 (by decide)
  have f96 := f 96 (by decide)
  refine ⟨by rw [f96]; exact a1, by rw [f96, f94]; exact a2, by rw [f94]; exact a3, fun j hj => aA_mi m (List.all_eq_true.mpr (fun k hk => List.all_eq_true.mp hA k (by simp at hk ⊢; omega))) (a4 j (by rw [f96] at hj; exact hj)), ?_⟩
  rw [f96]
  exact aB_mi m (List.all_eq_true.mpr (fun k hk => List.all_eq_true.mp hA k (by simp at hk ⊢; omega))) (Int.le_refl _) a5
theorem Hist_mi {L A : List Nat} {z z' : gd} (m : mi L A z z') (hL : [23, 24, 25, 26, 27, 68, 84, 94, 96].all (fun k => !L.elem k) = true) (hA : [36, 37, 38, 51, 52, 54, 55, 56, 57, 58, 59, 60, 61, 62, 64, 65, 66, 70, 71, 72, 73, 74, 75, 76, 77, 78, 79, 80, 81, 82, 86, 87, 88, 96, 98, 99, 100, 103, 106, 107].all (fun k => !A.elem k) = true) (q : Hist z) : Hist z' := by
  have L2 : ∀ M : List Nat, M.all ([23, 24, 25, 26, 27, 68, 84, 94, 96].elem ·) = true → M.all (fun k => !L.elem k) = true := fun M hM => List.all_eq_true.mpr (fun k hk => List.all_eq_true.mp hL k (List.elem_iff.mp (List.all_eq_true.mp hM k hk)))
  have A2 : ∀ M : List Nat, M.all ([36, 37, 38, 51, 52, 54, 55, 56, 57, 58, 59, 60, 61, 62, 64, 65, 66, 70, 71, 72, 73, 74, 75, 76, 77, 78, 79, 80, 81, 82, 86, 87, 88, 96, 98, 99, 100, 103, 106, 107].elem ·) = true → M.all (fun k => !A.elem k) = true := fun M hM => List.all_eq_true.mpr (fun k hk => List.all_eq_true.mp hA k (List.elem_iff.mp (List.all_eq_true.mp hM k hk)))
  have f := fun k hk => m.1 k (all_no hL k hk)
  obtain ⟨a, n, q1, q2, q3, q4, q5, q6, q7⟩ := q
  have g96 : z'.1 96 = z.1 96 := m.2.1 96 (by decide) (all_no hA 96 (by decide))
  refine ⟨a, n, by rw [f 94 (by decide)]; exact q1, q2, by rw [g96]; exact q3, eqS_mi q4 m (L2 _ rfl) (A2 _ rfl) (ssub_rf _), ?_, by unfold wy01; rw [f 68 (by decide)]; exact q6, HA_mi m (L2 _ rfl) (A2 _ rfl) q7⟩
  rw [f 68 (by decide)]
  exact St_pr (prE_mi (prE_rf z) m (L2 _ rfl) (A2 _ rfl)) q5
theorem TY_mi {L A : List Nat} {z z' : gd} {w : Nat} (m : mi L A z z') (hL : [23, 24, 25, 26, 27].all (fun k => !L.elem k) = true) (hA : [36, 37, 38, 51, 52, 54, 55, 56, 57, 58, 59, 60, 61, 62, 64, 65, 66, 120, 123, 126, 130, 131, 132].all (fun k => !A.elem k) = true) (q : TY z w) : TY z' w := by
  have A2 : ∀ M : List Nat, M.all ([36, 37, 38, 51, 52, 54, 55, 56, 57, 58, 59, 60, 61, 62, 64, 65, 66, 120, 123, 126, 130, 131, 132].elem ·) = true → M.all (fun k => !A.elem k) = true := fun M hM => List.all_eq_true.mpr (fun k hk => List.all_eq_true.mp hA k (List.elem_iff.mp (List.all_eq_true.mp hM k hk)))
  have g := fun k (h0 : k ≠ 0) hk => m.2.1 k h0 (all_no hA k hk)
  obtain ⟨A9, q1, q2, q3, q4, q5, q6, q7⟩ := q
  refine ⟨A9, St_pr (prE_mi (prE_rf z) m hL (A2 _ rfl)) q1, ?_⟩
  unfold TN at q6 ⊢
  rw [g 120 (by decide) (by decide), g 123 (by decide) (by decide), g 126 (by decide) (by decide), g 130 (by decide) (by decide), g 131 (by decide) (by decide), g 132 (by decide) (by decide)]
  exact ⟨q2, q3, q4, q5, q6, q7⟩
/-- fields and arrays of which the state between calls speaks -/
abbrev stL : List Nat := [2, 10, 23, 24, 25, 26, 27, 28, 42, 49, 52, 66, 67, 68, 84, 94, 96]
abbrev stA : List Nat := [2, 6, 7, 8, 36, 37, 38, 51, 52, 54, 55, 56, 57, 58, 59, 60, 61, 62, 64, 65, 66, 70, 71, 72, 73, 74, 75, 76, 77, 78, 79, 80, 81, 82, 86, 87, 88, 96, 98, 99, 100, 103, 106, 107, 118, 119, 120, 123, 126, 130, 131, 132]
theorem all_sub {M N L : List Nat} (h : N.all (fun k => !L.elem k) = true) (s : M.all (N.elem ·) = true) : M.all (fun k => !L.elem k) = true := List.all_eq_true.mpr (fun k hk => List.all_eq_true.mp h k (List.elem_iff.mp (List.all_eq_true.mp s k hk)))
theorem MI_mi {L A : List Nat} {z z' : gd} (m : mi L A z z') (hL : stL.all (fun k => !L.elem k) = true) (hA : stA.all (fun k => !A.elem k) = true) (q : MI z) : MI z' := by
  have f := fun k hk => m.1 k (all_no hL k hk)
  obtain ⟨q1, q2, q3, q4⟩ := q
  have g119 : z'.1 119 = z.1 119 := m.2.1 119 (by decide) (all_no hA 119 (by decide))
  refine ⟨G0_mi m (all_sub hL rfl) (all_sub hA rfl) q1, fun h => CP_mi m (all_sub hL rfl) (all_sub hA rfl) (q2 (by rw [f 66 (by decide)] at h; exact h)), fun h => ?_, fun w hw h => ?_⟩
  · rw [f 67 (by decide)] at h
    rw [f 66 (by decide)]
    exact ⟨(q3 h).1, Hist_mi m (all_sub hL rfl) (all_sub hA rfl) (q3 h).2⟩
  · rw [g119] at h
    rw [f 66 (by decide)]
    exact ⟨(q4 w hw h).1, TY_mi m (all_sub hL rfl) (all_sub hA rfl) (q4 w hw h).2⟩
/-- what a call leaves: the state, and the text's length -/
abbrev mfL : List Nat := [23, 24, 25, 26, 27, 49, 52, 66]
abbrev mfA : List Nat := [2, 36, 37, 38, 51, 52, 54, 55, 56, 57, 58, 59, 60, 61, 62, 64, 65, 66]
theorem mfA_0 : ∀ c ∈ mfA, c ≠ 0 := by decide
def MFr (z z' : gd) : Prop := (∀ k ∈ mfL, z'.1 0 k = z.1 0 k) ∧ ∀ c ∈ mfA, z'.1 c = z.1 c
def PM (z z' : gd) : Prop := MI z' ∧ z'.1 0 2 = z.1 0 2 ∧ MFr z z'
theorem PM_0 {z y u : gd} (m : mi [0] [] z y) (p : PM y u) : PM z u := ⟨p.1, by rw [p.2.1, m.1 2 (by decide)], fun k hk => by
  rw [p.2.2.1 k hk]
  refine m.1 k (fun z => ?_)
  rw [List.mem_singleton.mp z] at hk
  exact absurd hk (by decide), fun c hc => (p.2.2.2 c hc).trans (m.2.1 c (mfA_0 c hc) (fun q => nomatch q))⟩
theorem PM_mi {L A : List Nat} {z z' : gd} (m : mi L A z z') (hL : stL.all (fun k => !L.elem k) = true) (hA : stA.all (fun k => !A.elem k) = true) (q : MI z) : PM z z' := ⟨MI_mi m hL hA q, m.1 2 (all_no hL 2 (by decide)), fun k hk => m.1 k (all_no (M := mfL) (all_sub hL rfl) k hk), fun c hc => m.2.1 c (mfA_0 c hc) (all_no (M := mfA) (all_sub hA rfl) c hc)⟩
theorem MI_wG {x z : gd} (h : wG x z) : MI z := ⟨h.1, fun q => absurd h.2.1 q, fun q => absurd h.2.2.1 q, fun w hw q => by
  have e : w = 0 ∨ w = 1 := by omega
  rcases e with e | e
  · rw [e] at q; exact absurd h.2.2.2.1 q
  · rw [e] at q; exact absurd h.2.2.2.2.1 q⟩
theorem MI_cG {x z : gd} (h : cG x z) : MI z ∧ z.1 0 2 = x.1 0 2 := ⟨⟨h.1, h.2.2.1, fun q => absurd h.2.2.2.1 q, fun w hw q => by
  have e : w = 0 ∨ w = 1 := by omega
  rcases e with e | e
  · rw [e] at q; exact absurd h.2.2.2.2.1 q
  · rw [e] at q; exact absurd h.2.2.2.2.2 q⟩, h.2.1⟩
end
section
/-! the run's calls: begin, choices, choice, go, draw, again -/
theorem t_and (a : Int32) : 0 ≤ (a &&& 32767).toInt ∧ (a &&& 32767).toInt ≤ 32767 := by
  have h : (a &&& 32767).toBitVec.toNat ≤ 32767 := by
    rw [Int32.toBitVec_and, BitVec.toNat_and]
    exact Nat.and_le_right
  have e : (a &&& 32767).toInt = ((a &&& 32767).toBitVec.toNat : Int) := by
    show (a &&& 32767).toBitVec.toInt = _
    exact BitVec.toInt_eq_toNat_of_lt (by omega)
  omega
theorem t_div {v c : Int32} (hv : 0 ≤ v.toInt) (hc : 0 < c.toInt) : (v / c).toInt = v.toInt / c.toInt := by
  have r := t_rg v
  have q1 : 0 ≤ v.toInt / c.toInt := Int.ediv_nonneg hv (by omega)
  have q2 : v.toInt / c.toInt ≤ v.toInt := Int.ediv_le_self _ hv
  rw [Int32.toInt_div, Int.tdiv_eq_ediv_of_nonneg hv]
  exact Int.bmod_eq_of_le (by omega) (by omega)
theorem t_rem {v c : Int32} (hv : 0 ≤ v.toInt) (hc : 0 < c.toInt) : 0 ≤ (v - v / c * c).toInt ∧ (v - v / c * c).toInt < c.toInt := by
  have r := t_rg v
  have e1 := t_div hv hc
  have p0 : 0 ≤ v.toInt / c.toInt * c.toInt := Int.mul_nonneg (Int.ediv_nonneg hv (by omega)) (by omega)
  have p1 : v.toInt / c.toInt * c.toInt ≤ v.toInt := Int.ediv_mul_le _ (by omega)
  have e2 : (v / c * c).toInt = v.toInt / c.toInt * c.toInt := by rw [t_mul (by rw [e1]; omega) (by rw [e1]; omega), e1]
  have e3 : (v - v / c * c).toInt = v.toInt - v.toInt / c.toInt * c.toInt := by rw [t_sub (by rw [e2]; omega) (by rw [e2]; omega), e2]
  have m := Int.emod_def v.toInt c.toInt
  have m1 := Int.emod_lt_of_pos v.toInt hc
  have m0 := Int.emod_nonneg v.toInt (b := c.toInt) (by omega)
  rw [Int.mul_comm] at m
  rw [e3]
  omega
theorem MI_new {L A : List Nat} {z z' : gd} (m : mi L A z z') (hL : [2, 10, 42, 23, 24, 25, 26, 27, 28, 49, 52, 66].all (fun k => !L.elem k) = true) (hA : [2, 6, 7, 8, 36, 37, 38, 51, 52, 54, 55, 56, 57, 58, 59, 60, 61, 62, 64, 65, 66, 118, 119, 120, 123, 126, 130, 131, 132].all (fun k => !A.elem k) = true) (hc : ¬ z.1 0 66 = 0) (hh : Hist z') (q : MI z) : PM z z' := by
  have f := fun k hk => m.1 k (all_no hL k hk)
  obtain ⟨q1, q2, q3, q4⟩ := q
  have g119 : z'.1 119 = z.1 119 := m.2.1 119 (by decide) (all_no hA 119 (by decide))
  refine ⟨⟨G0_mi m (all_sub hL rfl) (all_sub hA rfl) q1, fun h => CP_mi m (all_sub hL rfl) (all_sub hA rfl) (q2 (by rw [f 66 (by decide)] at h; exact h)), fun h => ⟨by rw [f 66 (by decide)]; exact hc, hh⟩, fun w hw h => ?_⟩, f 2 (by decide), fun k hk => m.1 k (all_no (M := mfL) (all_sub hL rfl) k hk), fun c hc => m.2.1 c (mfA_0 c hc) (all_no (M := mfA) (all_sub hA rfl) c hc)⟩
  rw [g119] at h
  rw [f 66 (by decide)]
  exact ⟨(q4 w hw h).1, TY_mi m (all_sub hL rfl) (all_sub hA rfl) (q4 w hw h).2⟩
theorem RI_sub {x : gd} {S S' : gS} (s : ssub S S') (q : RI x S) : RI x S' := RI_md (L := []) (A := []) (md_rf x) rfl rfl s q
section FAC
variable {G : mG} {d D : Nat} {x z a : gd} {F : Int32 → gd → Prop} {Fv : gd → Prop}
/-- thrown is none: where a call begins -/
def z0 (z y : gd) : Prop := mi [0] [] z y ∧ y.1 0 0 = 0
theorem z0_s {y : gd} (e : y = si z 0 0 0) : z0 z y := by
  have m := md_f z 0 0
  rw [← e] at m
  exact ⟨mi_of m, by rw [e, si_get, if_pos ⟨rfl, rfl⟩]⟩
theorem sp_ref {y : gd} (b k : Int32) (hy : z0 z y) (hk : 0 < k.toInt) (h0 : b = 0 → F 0 y) (h1 : ¬ b = 0 → ∀ y', mi [0] [] z y' → F 1 y') : MT G d z_refuses 0 [(0, vr 0), (1, vi b), (2, vi k)] [] y (ri F) :=
  sp_refuses b k hy.2 hk h0 (fun c => h1 c _ (mi_tr hy.1 (mi_of (md_f y 0 k)) rfl rfl))
theorem sp_noRun {y : gd} (hy : z0 z y) (h0 : ¬ y.1 0 67 = 0 → F 0 y) (h1 : ∀ y', mi [0] [] z y' → F 1 y') : MT G (d + 1) z_noRun 0 [(0, vr 0)] [] y (ri F) := by
  refine sg_noRun_0 ⟨fun c => sg_noRun_13 _ (sp_ref _ _ hy (by decide) (fun _ => ⟨gbool_0, ri_i (h0 c)⟩) (fun q => absurd rfl q)), fun _ => sg_noRun_13 _ (sp_ref _ _ hy (by decide) (fun q => absurd q (by decide)) (fun _ y' m => ⟨gbool_1, ri_i (h1 y' m)⟩))⟩
theorem MI_0 {y : gd} (m : mi [0] [] z y) (q : MI z) : PM z y := PM_mi m rfl rfl q
/-- what count answers -/
def cntM (z : gd) (w r : Int32) : Prop := (w = 0 ∧ r = z.1 0 23) ∨ (w = 1 ∧ r = z.1 0 24) ∨ (w = 2 ∧ r = z.1 0 25) ∨ (w = 3 ∧ r = z.1 0 26) ∨ (w = 4 ∧ r = z.1 0 27)
end FAC
end
section
/-! the calls that read a run -/
def RS (y : gd) : Prop := CP y ∧ HA y ∧ ∀ t : Nat, t < 6 → 0 ≤ (y.1 74 t).toInt ∧ (y.1 74 t).toInt < 1500 ∧ 0 ≤ (y.1 80 t).toInt ∧ (y.1 80 t).toInt ≤ 8
theorem RS_of {y : gd} (q : MI y) (h : ¬ y.1 0 67 = 0) : RS y := by
  obtain ⟨hc, s, n, q1, q2, q3, q4, q5, q6, q7⟩ := q.2.2.1 h
  refine ⟨q.2.1 hc, q7, fun t ht => ?_⟩
  have r := ((q2 n (Nat.le_refl _)).1).2 t ht
  rw [cA q4 (c := 74) (n := 6) (by decide) ht, cA q4 (c := 80) (n := 6) (by decide) ht]
  exact ⟨r.1.1, r.1.2.1, r.2.2.1, r.2.2.2.1⟩
section RDS
variable {G : mG} {d D : Nat} {x y z a : gd} {F : Int32 → gd → Prop} {Fv : gd → Prop}
/-- in 0 .. n - 1 -/
theorem in_lt {v n : Int32} (h : (0 : Int32) ≤ v ∧ v ≤ n - 1) (n0 : 0 ≤ n.toInt) : 0 ≤ v.toInt ∧ v.toInt < n.toInt := by
  have k0 : (0 : Int32).toInt = 0 := rfl
  have k1 : (1 : Int32).toInt = 1 := rfl
  obtain ⟨a, b⟩ := h
  have r := t_rg n
  rw [t_le, k0] at a
  rw [t_le, t_sub (by omega) (by omega), k1] at b
  exact ⟨a, by omega⟩
theorem sp_one (v : Int32) (h : ∀ r, F r x) : MT G d z_one 0 [(0, vi v)] [] x (ri F) := sg_one_0 _ ⟨fun _ => ri_i (h _), fun _ => ri_i (h _)⟩
theorem sp_knownOf (t : Int32) (ht : vp_in t 6) (ha : vp_in (x.1 74 t.toNatClampNeg) 1500) (h : ∀ r, F r x) : MT G d z_knownOf 0 [(0, vr 0), (1, vi t)] [] x (ri F) :=
  sg_knownOf_0 _ ⟨ht, fun _ => ⟨ht, ha, ri_i (h _)⟩, fun _ => ⟨ht, fun _ => ri_i (h _), fun _ => ⟨ht, ha, ri_i (h _)⟩⟩⟩
theorem sp_ones (m : Int32) (h : ∀ r, F r x) : MT G d z_ones 0 [(0, vi m)] [] x (ri F) := by
  have k1 : (1 : Int32).toInt = 1 := rfl
  have k24 : (24 : Int32).toInt = 24 := rfl
  have loop : ∀ (n : Nat) (s i : Int32), 0 ≤ i.toInt → 24 - i.toInt ≤ n → MT G d z_ones 4 [(0, vi m), (1, vi s), (2, vi i)] [] x (ri F) := by
    intro n
    induction n with
    | zero =>
      intro s i i0 hn
      exact sg_ones_4 _ _ _ ⟨fun _ => ri_i (h _), fun c => absurd (t_le.mpr (by rw [k24]; omega)) c⟩
    | succ n ih =>
      intro s i i0 hn
      refine sg_ones_4 _ _ _ ⟨fun _ => ri_i (h _), fun c => ?_⟩
      rw [t_le, k24] at c
      have ii : (i + 1).toInt = i.toInt + 1 := by rw [t_add (by omega) (by omega), k1]
      exact ih _ _ (by omega) (by omega)
  exact sg_ones_0 _ (loop 24 0 0 (by decide) (by decide))
end RDS
end
