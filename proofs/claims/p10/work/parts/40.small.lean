/-! laying: wrong 41, wrongPlace 42, known 43 (45 token, 46 slot), works 49 (51, 52) -/
def WB (x : gd) : Prop := 0 ≤ (x.1 0 41).toInt ∧ (x.1 0 42).toInt ≤ 3000
/-- the names: those told, and the lets known -/
def LB (x : gd) : Prop := TK x ∧ GB x ∧ (∀ j : Nat, (j : Int) < (x.1 0 28).toInt → tE x j)
def KB (x : gd) : Prop := 0 ≤ (x.1 0 43).toInt ∧ (x.1 0 43).toInt ≤ 8 ∧ ∀ j : Nat, (j : Int) < (x.1 0 43).toInt → vp_in (x.1 45 j) 710 ∧ 0 ≤ (x.1 46 j).toInt ∧ (x.1 46 j).toInt < 8
section SPW
variable {G : mG} {d : Nat} {x : gd} {F : Int32 → gd → Prop} {Fv : gd → Prop}
theorem sp_wrongAt (n t : Int32) (hn : 0 < n.toInt) (ht : vp_in t 710) (tk : TK x) (wb : WB x) (h : ∀ x', md [41, 42] [] x x' → WB x' → Fv x') : MT G d z_wrongAt 0 [(0, vr 0), (1, vi n), (2, vi t)] [] x (rv Fv) := by
  have key : ∀ y z : gd, y = si x 0 41 n → z = si y 0 42 (y.1 6 t.toNatClampNeg) → rv Fv none z := by
    intro y z e1 e2
    have m1 := md_f x 41 n
    rw [← e1] at m1
    have m2 := md_f y 42 (y.1 6 t.toNatClampNeg)
    rw [← e2] at m2
    refine rv_i (h z (md_tr m1 m2 rfl rfl) ⟨?_, ?_⟩)
    · rw [m2.1 41 (by decide), e1, si_get, if_pos ⟨rfl, rfl⟩]; omega
    · rw [e2, si_get, if_pos ⟨rfl, rfl⟩, m1.2.1 6 (by decide) (by decide)]
      have tv := vp_in_iff.mp ht
      have := t_cl t
      have := tk t.toNatClampNeg (by omega)
      omega
  have same : rv Fv none x := rv_i (h x (md_w (md_rf x) (by decide) (by decide)) wb)
  exact sg_wrongAt_0 _ _ ⟨fun _ x2 e2 => ⟨ht, fun x4 e4 => key x2 x4 e2 e4⟩, fun _ => ⟨ht, fun _ x2 e2 => ⟨ht, fun x4 e4 => key x2 x4 e2 e4⟩, fun _ => ⟨ht, fun _ => same, fun _ => ⟨fun _ => same, fun _ x2 e2 => ⟨ht, fun x4 e4 => key x2 x4 e2 e4⟩⟩⟩⟩⟩
theorem sp_toldOf (t : Int32) (ht : vp_in t 710) (lb : LB x) (h : ∀ r : Int32, (r = -1 ∨ (0 ≤ r.toInt ∧ r.toInt < (x.1 0 28).toInt)) → F r x) : MT G (d + 1) z_toldOf 0 [(0, vr 0), (1, vi t)] [] x (ri F) := by
  obtain ⟨tk, gb, te⟩ := lb
  have k1 : (1 : Int32).toInt = 1 := rfl
  have hv := vp_in_iff.mp (GB_v gb)
  have loop : ∀ (n : Nat) (i : Int32), 0 ≤ i.toInt → (x.1 0 28).toInt - i.toInt ≤ n → MT G (d + 1) z_toldOf 2 [(0, vr 0), (1, vi t), (2, vi i)] [] x (ri F) := by
    intro n
    induction n with
    | zero =>
      intro i i0 hi
      exact sg_toldOf_2 _ _ ⟨fun _ => ri_i (h _ (Or.inl rfl)), fun c => absurd (t_le.mpr (by omega)) c⟩
    | succ n ih =>
      intro i i0 hi
      refine sg_toldOf_2 _ _ ⟨fun _ => ri_i (h _ (Or.inl rfl)), fun c => ?_⟩
      rw [t_le] at c
      have hj : ((i.toNatClampNeg : Nat) : Int) < (x.1 0 28).toInt := by rw [t_cl]; omega
      refine ⟨by rw [vp_in_iff]; omega, sp_isSameName _ _ (te _ hj).1 ht tk (fun r _ => ⟨fun _ => ih (i + 1) ?_ ?_, fun _ => ri_i (h _ (Or.inr ⟨i0, by omega⟩))⟩)⟩
      · rw [t_add (by omega) (by omega), k1]; omega
      · rw [t_add (by omega) (by omega), k1]; omega
  exact sg_toldOf_0 _ (loop _ 0 (by decide) (Int.self_le_toNat _))
theorem sp_meant (t w : Int32) (ht : vp_in t 710) (lb : LB x) (h : ∀ r : Int32, (r = -1 ∨ ((0 ≤ r.toInt ∧ r.toInt < (x.1 0 28).toInt) ∧ x.1 31 r.toNatClampNeg = w)) → F r x) : MT G (d + 1) z_meant 0 [(0, vr 0), (1, vi t), (2, vi w)] [] x (ri F) := by
  obtain ⟨tk, gb, te⟩ := lb
  have k1 : (1 : Int32).toInt = 1 := rfl
  have hv := vp_in_iff.mp (GB_v gb)
  have loop : ∀ (n : Nat) (i : Int32), 0 ≤ i.toInt → (x.1 0 28).toInt - i.toInt ≤ n → MT G (d + 1) z_meant 2 [(0, vr 0), (1, vi t), (2, vi w), (3, vi i)] [] x (ri F) := by
    intro n
    induction n with
    | zero =>
      intro i i0 hi
      exact sg_meant_2 _ _ _ ⟨fun _ => ri_i (h _ (Or.inl rfl)), fun c => absurd (t_le.mpr (by omega)) c⟩
    | succ n ih =>
      intro i i0 hi
      refine sg_meant_2 _ _ _ ⟨fun _ => ri_i (h _ (Or.inl rfl)), fun c => ?_⟩
      rw [t_le] at c
      have hj : ((i.toNatClampNeg : Nat) : Int) < (x.1 0 28).toInt := by rw [t_cl]; omega
      have iv : vp_in i 40 := by rw [vp_in_iff]; omega
      have i1 : (i + 1).toInt = i.toInt + 1 := by rw [t_add (by omega) (by omega), k1]
      exact ⟨iv, fun _ => ih (i + 1) (by omega) (by omega), fun e => ⟨iv, sp_isSameName _ _ (te _ hj).1 ht tk (fun r _ => ⟨fun _ => ih (i + 1) (by omega) (by omega), fun _ => ri_i (h _ (Or.inr ⟨⟨i0, by omega⟩, e⟩))⟩)⟩⟩
  exact sg_meant_0 _ _ (loop _ 0 (by decide) (Int.self_le_toNat _))
theorem sp_slotOf (t : Int32) (ht : vp_in t 710) (tk : TK x) (kb : KB x) (h : ∀ r : Int32, (r = -1 ∨ (0 ≤ r.toInt ∧ r.toInt < 8)) → F r x) : MT G (d + 1) z_slotOf 0 [(0, vr 0), (1, vi t)] [] x (ri F) := by
  obtain ⟨b0, b8, kk⟩ := kb
  have k0 : (0 : Int32).toInt = 0 := rfl
  have k1 : (1 : Int32).toInt = 1 := rfl
  have km : (-1 : Int32).toInt = -1 := rfl
  have loop : ∀ (n : Nat) (i : Int32), i.toInt < (x.1 0 43).toInt → -1 ≤ i.toInt → i.toInt + 1 ≤ n → MT G (d + 1) z_slotOf 7 [(0, vr 0), (1, vi t), (2, vi i)] [] x (ri F) := by
    intro n
    induction n with
    | zero =>
      intro i i1 i0 hi
      exact sg_slotOf_7 _ _ ⟨fun _ => ri_i (h _ (Or.inl rfl)), fun c => absurd (t_lt.mpr (by omega)) c⟩
    | succ n ih =>
      intro i i1 i0 hi
      refine sg_slotOf_7 _ _ ⟨fun _ => ri_i (h _ (Or.inl rfl)), fun c => ?_⟩
      rw [t_lt, k0] at c
      have hj : ((i.toNatClampNeg : Nat) : Int) < (x.1 0 43).toInt := by rw [t_cl]; omega
      have iv : vp_in i 40 := by rw [vp_in_iff]; omega
      have i2 : (i + -1).toInt = i.toInt - 1 := by rw [t_add (by omega) (by omega), km]; omega
      obtain ⟨q1, q2⟩ := kk _ hj
      exact ⟨iv, sp_isSameName _ _ q1 ht tk (fun r _ => ⟨fun _ => ih (i + -1) (by omega) (by omega) (by omega), fun _ => ⟨iv, ri_i (h _ (Or.inr q2))⟩⟩)⟩
  have e : (x.1 0 43 - 1).toInt = (x.1 0 43).toInt - 1 := by rw [t_sub (by omega) (by omega), k1]
  exact sg_slotOf_0 _ (loop (x.1 0 43).toInt.toNat _ (by omega) (by omega) (by omega))
theorem sp_knownMask (kb : KB x) (h : ∀ r : Int32, F r x) : MT G d z_knownMask 0 [(0, vr 0)] [] x (ri F) := by
  obtain ⟨b0, b8, kk⟩ := kb
  have k1 : (1 : Int32).toInt = 1 := rfl
  have loop : ∀ (n : Nat) (m i : Int32), 0 ≤ i.toInt → (x.1 0 43).toInt - i.toInt ≤ n → MT G d z_knownMask 4 [(0, vr 0), (1, vi m), (2, vi i)] [] x (ri F) := by
    intro n
    induction n with
    | zero =>
      intro m i i0 hi
      exact sg_knownMask_4 _ _ ⟨fun _ => ri_i (h _), fun c => absurd (t_le.mpr (by omega)) c⟩
    | succ n ih =>
      intro m i i0 hi
      refine sg_knownMask_4 _ _ ⟨fun _ => ri_i (h _), fun c => ?_⟩
      rw [t_le] at c
      have i1 : (i + 1).toInt = i.toInt + 1 := by rw [t_add (by omega) (by omega), k1]
      exact ⟨by rw [vp_in_iff]; omega, ih _ (i + 1) (by omega) (by omega)⟩
  exact sg_knownMask_0 (loop _ 0 0 (by decide) (Int.self_le_toNat _))
/-- one piece of work laid -/
def lD (x x' : gd) (w a : Int32) : Prop := md [49] [51, 52] x x' ∧ x'.1 0 49 = x.1 0 49 + 1 ∧ (∀ j : Nat, x'.1 51 j = if j = (x.1 0 49).toNatClampNeg then w else x.1 51 j) ∧ (∀ j : Nat, x'.1 52 j = if j = (x.1 0 49).toNatClampNeg then a else x.1 52 j)
theorem sp_lay (w a : Int32) (hn : vp_in (x.1 0 49) 6000) (h : ∀ x', lD x x' w a → Fv x') : MT G d z_lay 0 [(0, vr 0), (1, vi w), (2, vi a)] [] x (rv Fv) := by
  obtain ⟨n, en⟩ : ∃ n, n = x.1 0 49 := ⟨_, rfl⟩
  refine sg_lay_0 _ _ ⟨hn, ?_⟩
  intro x2 e2
  have f2 : x2.1 0 49 = n := by rw [e2, si_cell (by decide), en]
  refine ⟨by rw [f2, en]; exact hn, ?_⟩
  intro x4 e4 x5 e5
  have f4 : x4.1 0 49 = n := by rw [e4, si_cell (by decide), f2]
  rw [← en] at e2
  rw [f2] at e4
  rw [f4] at e5
  have f5 : x5.1 0 49 = n + 1 := by rw [e5, si_get, if_pos ⟨rfl, rfl⟩]
  have one : ∀ (c9 : Nat) (v9 : Int32) (z z' : gd), z' = si z c9 n.toNatClampNeg v9 → ∀ j : Nat, z'.1 c9 j = if j = n.toNatClampNeg then v9 else z.1 c9 j := by
    intro c9 v9 z z' e j
    rw [e, si_get]
    by_cases q : j = n.toNatClampNeg
    · rw [if_pos ⟨rfl, q⟩, if_pos q]
    · rw [if_neg (fun z => q z.2), if_neg q]
  have m : md [49] [51, 52] x x5 := by
    rw [e5]
    refine md_tr (L := []) (A := [51, 52]) ?_ (md_f x4 49 (n + 1)) rfl rfl
    rw [e4]
    refine md_tr (L := []) (A := [51]) ?_ (md_a x2 52 n.toNatClampNeg a (by decide)) rfl rfl
    rw [e2]
    exact md_a x 51 n.toNatClampNeg w (by decide)
  refine rv_i (h x5 ⟨m, by rw [f5, en], ?_, ?_⟩)
  all_goals
    intro j
    rw [← en]
  · rw [e5, si_cell (by decide), e4, si_cell (by decide)]
    exact one 51 w x x2 e2 j
  · rw [e5, si_cell (by decide), one 52 a x2 x4 e4 j, e2, si_cell (by decide)]
end SPW
