/-! the calls that read a run -/
def RS (y : gd) : Prop := CP y ∧ HA y ∧ ∀ t : Nat, t < 6 → 0 ≤ (y.1 74 t).toInt ∧ (y.1 74 t).toInt < 1500 ∧ 0 ≤ (y.1 80 t).toInt ∧ (y.1 80 t).toInt ≤ 8
theorem RS_of {y : gd} (q : MI y) (h : ¬ y.1 0 67 = 0) : RS y := by
  obtain ⟨hc, s, n, q1, q2, q3, q4, q5, q6, q7⟩ := q.2.2.1 h
  refine ⟨q.2.1 hc, q7, fun t ht => ?_⟩
  have r := ((q2 n (Nat.le_refl _)).1).2 t ht
  rw [cA q4 (c := 74) (n := 6) (by decide) ht, cA q4 (c := 80) (n := 6) (by decide) ht]
  exact ⟨r.1.1, r.1.2.1, r.2.2.1, r.2.2.2.1⟩
section RDS
variable {G : mG} {d D : Nat} {x y z a : gd} {F : Int32 → gd → Prop} {Fv : gd → Prop}
/-- in 0 .. n - 1 -/
theorem in_lt {v n : Int32} (h : (0 : Int32) ≤ v ∧ v ≤ n - 1) (n0 : 0 ≤ n.toInt) : 0 ≤ v.toInt ∧ v.toInt < n.toInt := by
  have k0 : (0 : Int32).toInt = 0 := rfl
  have k1 : (1 : Int32).toInt = 1 := rfl
  obtain ⟨a, b⟩ := h
  have r := t_rg n
  rw [t_le, k0] at a
  rw [t_le, t_sub (by omega) (by omega), k1] at b
  exact ⟨a, by omega⟩
theorem sp_one (v : Int32) (h : ∀ r, F r x) : MT G d z_one 0 [(0, vi v)] [] x (ri F) := sg_one_0 _ ⟨fun _ => ri_i (h _), fun _ => ri_i (h _)⟩
theorem sp_mayRace (s o : Int32) (h0 : F 0 x) (h1 : 0 ≤ s.toInt ∧ s.toInt ≤ 4 → F 1 x) : MT G (d + 1) z_mayRace 0 [(0, vr 0), (1, vi s), (2, vi o)] [] x (ri F) := by
  have p24 : 0 ≤ s.toInt ∧ s.toInt ≤ 4 → MT G (d + 1) z_mayRace 24 [(0, vr 0), (1, vi s), (2, vi o)] [] x (ri F) := fun q => sg_mayRace_24 _ _ (sp_isAtomic _ (fun r => ⟨fun _ => ri_i (h1 q), fun _ => sp_isAtomic _ (fun r => ⟨fun _ => ri_i h0, fun _ => ri_i (h1 q)⟩)⟩))
  exact sg_mayRace_0 _ _ (sp_isAccess _ (fun _ => ⟨fun _ => ri_i h0, fun q => absurd rfl q⟩) (fun q => ⟨fun q => absurd q (by decide), fun _ => sp_isAccess _ (fun _ => ⟨fun _ => ri_i h0, fun q => absurd rfl q⟩) (fun _ => ⟨fun q => absurd q (by decide), fun _ => ⟨fun _ => p24 q, fun _ => ⟨fun _ => ri_i h0, fun _ => p24 q⟩⟩⟩)⟩))
theorem sp_isSooner (a b : Int32) (ha : vp_in a 400) (hb : vp_in b 400) (h : ∀ r, F r x) : MT G d z_isSooner 0 [(0, vr 0), (1, vi a), (2, vi b)] [] x (ri F) := by
  obtain ⟨q0, q1⟩ := t64 ha
  exact sg_isSooner_0 _ _ ⟨by decide, t7 hb q0 q1, by decide, fun _ => ri_i (h _), fun _ => ri_i (h _)⟩
theorem sp_isRace (a b : Int32) (ha : vp_in a 400) (hb : vp_in b 400) (qa : aA x a.toNatClampNeg) (h : ∀ r, F r x) : MT G (d + 2) z_isRace 0 [(0, vr 0), (1, vi a), (2, vi b)] [] x (ri F) := by
  have ok : ∀ r, ri F (some (vi r)) x := fun r => ri_i (h r)
  refine sg_isRace_0 _ _ ⟨ha, fun _ => ok _, fun nf => ⟨hb, fun _ => ok _, fun _ => ⟨ha, hb, sp_mayRace _ _ ⟨fun _ => ok _, fun q => absurd rfl q⟩ (fun sa => ⟨fun _ => ok _, fun _ => ⟨ha, hb, fun _ => ok _, fun _ => ⟨ha, ?_, fun _ => ok _, fun _ => ⟨ha, hb, fun _ => ok _, fun _ => sp_isSooner _ _ ha hb (fun r => ⟨fun _ => ok _, fun _ => ok _⟩)⟩⟩⟩⟩)⟩⟩⟩
  rw [vp_in_iff]
  exact qa.2.2 nf sa
theorem sp_isStuck (h25 : (x.1 0 25).toInt ≤ 6) (h : ∀ r, F r x) : MT G d z_isStuck 0 [(0, vr 0)] [] x (ri F) := by
  have k0 : (0 : Int32).toInt = 0 := rfl
  have k1 : (1 : Int32).toInt = 1 := rfl
  have ok : ∀ r, ri F (some (vi r)) x := fun r => ri_i (h r)
  have loop : ∀ (n : Nat) (g t : Int32), 0 ≤ t.toInt → (x.1 0 25).toInt - t.toInt ≤ n → MT G d z_isStuck 4 [(0, vr 0), (1, vi g), (2, vi t)] [] x (ri F) := by
    intro n
    induction n with
    | zero =>
      intro g t t0 hn
      exact sg_isStuck_4 _ _ ⟨fun _ => ⟨fun _ => ok _, fun _ => ⟨fun _ => ok _, fun _ => ok _⟩⟩, fun c => absurd (t_le.mpr (by omega)) c⟩
    | succ n ih =>
      intro g t t0 hn
      refine sg_isStuck_4 _ _ ⟨fun _ => ⟨fun _ => ok _, fun _ => ⟨fun _ => ok _, fun _ => ok _⟩⟩, fun c => ?_⟩
      rw [t_le] at c
      have ti : (t + 1).toInt = t.toInt + 1 := by rw [t_add (by omega) (by omega), k1]
      exact ⟨fun _ => ih _ _ (by omega) (by omega), fun _ => ⟨by rw [vp_in_iff]; omega, fun _ => ih _ _ (by omega) (by omega), fun _ => ih _ _ (by omega) (by omega)⟩⟩
  exact sg_isStuck_0 (loop 6 0 0 (by decide) (by rw [k0]; omega))
theorem sp_run (q : MI z) (w : Int32) (hD : 4 ≤ D) (h : ∀ r z', PM z z' → F r z') : MT G D z_run 0 [(0, vr 0), (1, vi w)] [] z (ri F) := by
  obtain ⟨D, rfl⟩ : ∃ D', D = D' + 3 := ⟨D - 3, by omega⟩
  have k0 : (0 : Int32).toInt = 0 := rfl
  have k1 : (1 : Int32).toInt = 1 := rfl
  refine sg_run_0 _ (fun y e => ?_)
  have hy := z0_s e
  have no : ∀ y', mi [0] [] z y' → ri F (some (vi 0)) y' := fun y' m => ri_i (h 0 y' (MI_0 m q))
  have ok : ∀ r, ri F (some (vi r)) y := fun r => ri_i (h r y (MI_0 hy.1 q))
  have qy := (MI_0 hy.1 q).1
  refine sp_noRun hy (fun hr => ⟨fun q => absurd rfl q, fun _ => ?_⟩) (fun y' m => ⟨fun _ => no y' m, fun q => absurd q (by decide)⟩)
  obtain ⟨cp, ⟨a1, a2, a3, a4, a5⟩, rt⟩ := RS_of qy hr
  have b25 := cp.1.2.2.2.2.2.1
  have av : ∀ i : Int32, 0 ≤ i.toInt → i.toInt < (y.1 0 96).toInt → vp_in i 400 ∧ aA y i.toNatClampNeg := fun i i0 i1 => ⟨by rw [vp_in_iff]; omega, a4 _ (by have := cl_i i0; omega)⟩
  have p125 : ∀ (n : Nat) (s b : Int32), 0 ≤ b.toInt → (y.1 0 96).toInt - b.toInt ≤ n → MT G (D + 3) z_run 125 [(0, vr 0), (2, vi s), (3, vi b)] [] y (ri F) := by
    intro n
    induction n with
    | zero =>
      intro s b b0 hn
      exact sg_run_125 _ _ ⟨fun _ => ok _, fun c => absurd (t_le.mpr (by omega)) c⟩
    | succ n ih =>
      intro s b b0 hn
      refine sg_run_125 _ _ ⟨fun _ => ok _, fun c => ?_⟩
      rw [t_le] at c
      have bi' : (b + 1).toInt = b.toInt + 1 := by rw [t_add (by omega) (by omega), k1]
      have p136 : ∀ (m : Nat) (s i : Int32), 0 ≤ i.toInt → b.toInt - i.toInt ≤ m → MT G (D + 3) z_run 136 [(0, vr 0), (2, vi s), (3, vi b), (4, vi i)] [] y (ri F) := by
        intro m
        induction m with
        | zero =>
          intro s i i0 hm
          exact sg_run_136 _ _ _ ⟨fun _ => ih _ _ (by omega) (by omega), fun c => absurd (t_le.mpr (by omega)) c⟩
        | succ m ihm =>
          intro s i i0 hm
          refine sg_run_136 _ _ _ ⟨fun _ => ih _ _ (by omega) (by omega), fun c2 => ?_⟩
          rw [t_le] at c2
          have ii : (i + 1).toInt = i.toInt + 1 := by rw [t_add (by omega) (by omega), k1]
          exact sp_isRace _ _ (av i i0 (by omega)).1 (av b b0 (by omega)).1 (av i i0 (by omega)).2 (fun r => sp_one _ (fun r2 => ihm _ _ (by omega) (by omega)))
      exact p136 b.toInt.toNat s 0 (by decide) (by rw [k0]; omega)
  have p171 : ∀ (n : Nat) (s b : Int32), 0 ≤ b.toInt → (y.1 0 96).toInt - b.toInt ≤ n → MT G (D + 3) z_run 171 [(0, vr 0), (2, vi s), (3, vi b)] [] y (ri F) := by
    intro n
    induction n with
    | zero =>
      intro s b b0 hn
      exact sg_run_171 _ _ ⟨fun _ => ok _, fun c => absurd (t_le.mpr (by omega)) c⟩
    | succ n ih =>
      intro s b b0 hn
      refine sg_run_171 _ _ ⟨fun _ => ok _, fun c => ?_⟩
      rw [t_le] at c
      have bi' : (b + 1).toInt = b.toInt + 1 := by rw [t_add (by omega) (by omega), k1]
      have p205 : ∀ v : Int32, MT G (D + 3) z_run 205 [(0, vr 0), (3, vi b)] [vi v, vi s] y (ri F) := fun v => sg_run_205 _ _ _ (sp_one _ (fun r => ih _ _ (by omega) (by omega)))
      have bv := (av b b0 (by omega)).1
      exact ⟨bv, fun _ => p205 _, fun _ => ⟨bv, fun _ => p205 _, fun _ => p205 _⟩⟩
  have p220 : ∀ (n : Nat) (s b : Int32), 0 ≤ b.toInt → (y.1 0 25).toInt - b.toInt ≤ n → MT G (D + 3) z_run 220 [(0, vr 0), (2, vi s), (3, vi b)] [] y (ri F) := by
    intro n
    induction n with
    | zero =>
      intro s b b0 hn
      exact sg_run_220 _ _ ⟨fun _ => ok _, fun c => absurd (t_le.mpr (by omega)) c⟩
    | succ n ih =>
      intro s b b0 hn
      refine sg_run_220 _ _ ⟨fun _ => ok _, fun c => ?_⟩
      rw [t_le] at c
      have bi' : (b + 1).toInt = b.toInt + 1 := by rw [t_add (by omega) (by omega), k1]
      exact ⟨by rw [vp_in_iff]; omega, ih _ _ (by omega) (by omega)⟩
  have p111 : ∀ v : Int32, MT G (D + 3) z_run 111 [(0, vr 0)] [vi v] y (ri F) := fun v => sg_run_111 _ (sp_one _ (fun r => ok _))
  have p28 : ∀ b : Int32, MT G (D + 3) z_run 28 [(0, vr 0), (1, vi w)] [vi b, vr 0] y (ri F) := fun b => sg_run_28 _ _ (sp_ref b 2 hy (by decide) (fun _ => ⟨fun _ => ⟨fun _ => ok _, fun _ => ok _, fun _ => ok _, fun _ => ⟨fun _ => p111 _, fun _ => p111 _⟩, fun _ => sp_isStuck b25 (fun r => sp_one _ (fun r => ok _)), fun _ => p125 400 0 0 (by decide) (by rw [k0]; omega), fun _ => p171 400 0 0 (by decide) (by rw [k0]; omega), fun _ => p220 6 0 0 (by decide) (by rw [k0]; omega)⟩, fun q => absurd rfl q⟩) (fun _ y' m => ⟨fun q => absurd q (by decide), fun _ => no y' m⟩))
  exact sp_in _ _ _ ⟨fun _ => p28 _, fun _ => p28 _⟩
theorem sp_cell (q : MI z) (c : Int32) (hD : 3 ≤ D) (h : ∀ r z', PM z z' → F r z') : MT G D z_cell 0 [(0, vr 0), (1, vi c)] [] z (ri F) := by
  obtain ⟨D, rfl⟩ : ∃ D', D = D' + 2 := ⟨D - 2, by omega⟩
  refine sg_cell_0 _ (fun y e => ?_)
  have hy := z0_s e
  have no : ∀ y', mi [0] [] z y' → ri F (some (vi 0)) y' := fun y' m => ri_i (h 0 y' (MI_0 m q))
  have ok : ∀ r, ri F (some (vi r)) y := fun r => ri_i (h r y (MI_0 hy.1 q))
  have qy := (MI_0 hy.1 q).1
  refine sp_noRun hy (fun hr => ⟨fun q => absurd rfl q, fun _ => ?_⟩) (fun y' m => ⟨fun _ => no y' m, fun q => absurd q (by decide)⟩)
  obtain ⟨cp, _, _⟩ := RS_of qy hr
  have g := cp.1
  have p32 : ∀ b : Int32, (b = 0 → 0 ≤ c.toInt ∧ c.toInt < (y.1 0 23).toInt) → MT G (D + 2) z_cell 32 [(0, vr 0), (1, vi c)] [vi b, vr 0] y (ri F) := fun b hb => sg_cell_32 _ _ (sp_ref b 2 hy (by decide) (fun b0 => ⟨fun _ => ⟨by rw [vp_in_iff]; have := hb b0; have := g.2.1; omega, ok _⟩, fun q => absurd rfl q⟩) (fun _ y' m => ⟨fun q => absurd q (by decide), fun _ => no y' m⟩))
  exact sp_in _ _ _ ⟨fun cc => p32 0 (fun _ => in_lt (bi_ne.mp cc) g.1), fun _ => p32 1 (fun q => absurd q (by decide))⟩
theorem sp_see (t c : Int32) (ht : vp_in t 6) (hc : vp_in c 24) (h8 : (x.1 80 t.toNatClampNeg).toInt ≤ 8) (h : ∀ r, F r x) : MT G d z_see 0 [(0, vr 0), (1, vi t), (2, vi c)] [] x (ri F) := by
  have k0 : (0 : Int32).toInt = 0 := rfl
  have k1 : (1 : Int32).toInt = 1 := rfl
  have loop : ∀ (n : Nat) (v i : Int32), 0 ≤ i.toInt → (x.1 80 t.toNatClampNeg).toInt - i.toInt ≤ n → MT G d z_see 10 [(0, vr 0), (1, vi t), (2, vi c), (3, vi v), (4, vi i)] [] x (ri F) := by
    intro n
    induction n with
    | zero =>
      intro v i i0 hi
      exact sg_see_10 _ _ _ _ ⟨ht, fun _ => ri_i (h _), fun c => absurd (t_le.mpr (by omega)) c⟩
    | succ n ih =>
      intro v i i0 hi
      refine sg_see_10 _ _ _ _ ⟨ht, fun _ => ri_i (h _), fun c => ?_⟩
      rw [t_le] at c
      have a1 := (t10 ht (i := i) i0 (by omega)).1
      have i1 : (i + 1).toInt = i.toInt + 1 := by rw [t_add (by omega) (by omega), k1]
      exact ⟨a1, fun _ => ih _ _ (by omega) (by omega), fun _ => ⟨a1, ih _ _ (by omega) (by omega)⟩⟩
  exact sg_see_0 _ _ ⟨hc, loop 8 _ 0 (by decide) (by rw [k0]; omega)⟩
theorem sp_seen (q : MI z) (t c : Int32) (hD : 3 ≤ D) (h : ∀ r z', PM z z' → F r z') : MT G D z_seen 0 [(0, vr 0), (1, vi t), (2, vi c)] [] z (ri F) := by
  obtain ⟨D, rfl⟩ : ∃ D', D = D' + 2 := ⟨D - 2, by omega⟩
  refine sg_seen_0 _ _ (fun y e => ?_)
  have hy := z0_s e
  have no : ∀ y', mi [0] [] z y' → ri F (some (vi 0)) y' := fun y' m => ri_i (h 0 y' (MI_0 m q))
  have ok : ∀ r, ri F (some (vi r)) y := fun r => ri_i (h r y (MI_0 hy.1 q))
  have qy := (MI_0 hy.1 q).1
  refine sp_noRun hy (fun hr => ⟨fun q => absurd rfl q, fun _ => ?_⟩) (fun y' m => ⟨fun _ => no y' m, fun q => absurd q (by decide)⟩)
  obtain ⟨cp, _, rt⟩ := RS_of qy hr
  have g := cp.1
  have p46 : ∀ b : Int32, (b = 0 → (0 ≤ t.toInt ∧ t.toInt < (y.1 0 25).toInt) ∧ 0 ≤ c.toInt ∧ c.toInt < (y.1 0 23).toInt) → MT G (D + 2) z_seen 46 [(0, vr 0), (1, vi t), (2, vi c)] [vi b, vr 0] y (ri F) := fun b hb => sg_seen_46 _ _ _ (sp_ref b 2 hy (by decide) (fun b0 => ⟨fun _ => by
    obtain ⟨b1, b2⟩ := hb b0
    have g2 := g.2.1
    have g6 := g.2.2.2.2.2.1
    have tv : vp_in t 6 := by rw [vp_in_iff]; omega
    exact sp_see t c tv (by rw [vp_in_iff]; omega) (rt _ (vt tv)).2.2.2 (fun r => ok r), fun q => absurd rfl q⟩) (fun _ y' m => ⟨fun q => absurd q (by decide), fun _ => no y' m⟩))
  exact sp_in _ _ _ ⟨fun _ => p46 1 (fun q => absurd q (by decide)), fun c1 => sp_in _ _ _ ⟨fun c2 => p46 0 (fun _ => ⟨in_lt (bi_ne.mp c1) g.2.2.2.2.1, in_lt (bi_ne.mp c2) g.1⟩), fun _ => p46 1 (fun q => absurd q (by decide))⟩⟩
theorem sp_lock (q : MI z) (l w : Int32) (hD : 3 ≤ D) (h : ∀ r z', PM z z' → F r z') : MT G D z_lock 0 [(0, vr 0), (1, vi l), (2, vi w)] [] z (ri F) := by
  obtain ⟨D, rfl⟩ : ∃ D', D = D' + 2 := ⟨D - 2, by omega⟩
  have k0 : (0 : Int32).toInt = 0 := rfl
  have k1 : (1 : Int32).toInt = 1 := rfl
  refine sg_lock_0 _ _ (fun y e => ?_)
  have hy := z0_s e
  have no : ∀ y', mi [0] [] z y' → ri F (some (vi 0)) y' := fun y' m => ri_i (h 0 y' (MI_0 m q))
  have ok : ∀ r, ri F (some (vi r)) y := fun r => ri_i (h r y (MI_0 hy.1 q))
  have qy := (MI_0 hy.1 q).1
  refine sp_noRun hy (fun hr => ⟨fun q => absurd rfl q, fun _ => ?_⟩) (fun y' m => ⟨fun _ => no y' m, fun q => absurd q (by decide)⟩)
  obtain ⟨cp, _, rt⟩ := RS_of qy hr
  have g := cp.1
  have g6 := g.2.2.2.2.2.1
  have g24 := g.2.2.2.1
  have p55 : vp_in l 6 → ∀ (n : Nat) (s t : Int32), 0 ≤ t.toInt → (y.1 0 25).toInt - t.toInt ≤ n → MT G (D + 2) z_lock 55 [(0, vr 0), (1, vi l), (2, vi w), (3, vi s), (4, vi t)] [] y (ri F) := by
    intro lv n
    induction n with
    | zero =>
      intro s t t0 hn
      exact sg_lock_55 _ _ _ _ ⟨fun _ => ⟨fun _ => ⟨fun _ => ok _, fun _ => ⟨lv, ok _⟩⟩, fun _ => ⟨lv, ok _⟩⟩, fun c => absurd (t_le.mpr (by omega)) c⟩
    | succ n ih =>
      intro s t t0 hn
      refine sg_lock_55 _ _ _ _ ⟨fun _ => ⟨fun _ => ⟨fun _ => ok _, fun _ => ⟨lv, ok _⟩⟩, fun _ => ⟨lv, ok _⟩⟩, fun c => ?_⟩
      rw [t_le] at c
      have tv : vp_in t 6 := by rw [vp_in_iff]; omega
      have ti : (t + 1).toInt = t.toInt + 1 := by rw [t_add (by omega) (by omega), k1]
      have r := rt _ (vt tv)
      have p97 : ∀ v : Int32, MT G (D + 2) z_lock 97 [(0, vr 0), (1, vi l), (2, vi w), (4, vi t)] [vi v, vi s] y (ri F) := fun v => sg_lock_97 _ _ _ _ _ (sp_one _ (fun r => ih _ _ (by omega) (by omega)))
      exact ⟨tv, fun _ => p97 _, fun _ => ⟨tv, by rw [vp_in_iff]; exact ⟨r.1, r.2.1⟩, fun _ => p97 _, fun _ => p97 _⟩⟩
  have p41 : ∀ b : Int32, (b = 0 → 0 ≤ l.toInt ∧ l.toInt < (y.1 0 24).toInt) → MT G (D + 2) z_lock 41 [(0, vr 0), (1, vi l), (2, vi w)] [vi b, vr 0] y (ri F) := fun b hb => sg_lock_41 _ _ _ (sp_ref b 2 hy (by decide) (fun b0 => ⟨fun _ => p55 (by rw [vp_in_iff]; have := hb b0; omega) 6 0 0 (by decide) (by rw [k0]; omega), fun q => absurd rfl q⟩) (fun _ y' m => ⟨fun q => absurd q (by decide), fun _ => no y' m⟩))
  exact sp_in _ _ _ ⟨fun _ => p41 1 (fun q => absurd q (by decide)), fun c1 => sp_in _ _ _ ⟨fun _ => p41 0 (fun _ => in_lt (bi_ne.mp c1) g.2.2.1), fun _ => p41 1 (fun q => absurd q (by decide))⟩⟩
theorem sp_knownOf (t : Int32) (ht : vp_in t 6) (ha : vp_in (x.1 74 t.toNatClampNeg) 1500) (h : ∀ r, F r x) : MT G d z_knownOf 0 [(0, vr 0), (1, vi t)] [] x (ri F) :=
  sg_knownOf_0 _ ⟨ht, fun _ => ⟨ht, ha, ri_i (h _)⟩, fun _ => ⟨ht, fun _ => ri_i (h _), fun _ => ⟨ht, ha, ri_i (h _)⟩⟩⟩
theorem sp_ones (m : Int32) (h : ∀ r, F r x) : MT G d z_ones 0 [(0, vi m)] [] x (ri F) := by
  have k1 : (1 : Int32).toInt = 1 := rfl
  have k24 : (24 : Int32).toInt = 24 := rfl
  have loop : ∀ (n : Nat) (s i : Int32), 0 ≤ i.toInt → 24 - i.toInt ≤ n → MT G d z_ones 4 [(0, vi m), (1, vi s), (2, vi i)] [] x (ri F) := by
    intro n
    induction n with
    | zero =>
      intro s i i0 hn
      exact sg_ones_4 _ _ _ ⟨fun _ => ri_i (h _), fun c => absurd (t_le.mpr (by rw [k24]; omega)) c⟩
    | succ n ih =>
      intro s i i0 hn
      refine sg_ones_4 _ _ _ ⟨fun _ => ri_i (h _), fun c => ?_⟩
      rw [t_le, k24] at c
      have ii : (i + 1).toInt = i.toInt + 1 := by rw [t_add (by omega) (by omega), k1]
      exact ih _ _ (by omega) (by omega)
  exact sg_ones_0 _ (loop 24 0 0 (by decide) (by decide))
theorem sp_thread (q : MI z) (t w : Int32) (hD : 3 ≤ D) (h : ∀ r z', PM z z' → F r z') : MT G D z_thread 0 [(0, vr 0), (1, vi t), (2, vi w)] [] z (ri F) := by
  obtain ⟨D, rfl⟩ : ∃ D', D = D' + 2 := ⟨D - 2, by omega⟩
  refine sg_thread_0 _ _ (fun y e => ?_)
  have hy := z0_s e
  have no : ∀ y', mi [0] [] z y' → ri F (some (vi 0)) y' := fun y' m => ri_i (h 0 y' (MI_0 m q))
  have ok : ∀ r, ri F (some (vi r)) y := fun r => ri_i (h r y (MI_0 hy.1 q))
  have qy := (MI_0 hy.1 q).1
  refine sp_noRun hy (fun hr => ⟨fun q => absurd rfl q, fun _ => ?_⟩) (fun y' m => ⟨fun _ => no y' m, fun q => absurd q (by decide)⟩)
  obtain ⟨cp, _, rt⟩ := RS_of qy hr
  have g := cp.1
  have g6 := g.2.2.2.2.2.1
  have p41 : ∀ b : Int32, (b = 0 → 0 ≤ t.toInt ∧ t.toInt < (y.1 0 25).toInt) → MT G (D + 2) z_thread 41 [(0, vr 0), (1, vi t), (2, vi w)] [vi b, vr 0] y (ri F) := by
    intro b hb
    refine sg_thread_41 _ _ _ (sp_ref b 2 hy (by decide) (fun b0 => ⟨fun _ => ?_, fun q => absurd rfl q⟩) (fun _ y' m => ⟨fun q => absurd q (by decide), fun _ => no y' m⟩))
    have tv : vp_in t 6 := by rw [vp_in_iff]; have := hb b0; omega
    have r := rt _ (vt tv)
    have av : vp_in (y.1 74 t.toNatClampNeg) 1500 := by rw [vp_in_iff]; exact ⟨r.1, r.2.1⟩
    exact ⟨fun _ => ⟨fun _ => ⟨fun _ => ⟨fun _ => ⟨tv, fun _ => ok _, fun _ => ⟨tv, av, ok _⟩⟩, fun _ => sp_knownOf t tv av (fun r => sp_ones _ (fun r => ok _))⟩, fun _ => ⟨tv, ok _⟩⟩, fun _ => ⟨tv, ok _⟩⟩, fun _ => ⟨tv, ok _⟩⟩
  exact sp_in _ _ _ ⟨fun _ => p41 1 (fun q => absurd q (by decide)), fun c1 => sp_in _ _ _ ⟨fun _ => p41 0 (fun _ => in_lt (bi_ne.mp c1) g.2.2.2.2.1), fun _ => p41 1 (fun q => absurd q (by decide))⟩⟩
theorem sp_local (q : MI z) (t i : Int32) (hD : 3 ≤ D) (h : ∀ r z', PM z z' → F r z') : MT G D z_local 0 [(0, vr 0), (1, vi t), (2, vi i)] [] z (ri F) := by
  obtain ⟨D, rfl⟩ : ∃ D', D = D' + 2 := ⟨D - 2, by omega⟩
  have k0 : (0 : Int32).toInt = 0 := rfl
  have k1 : (1 : Int32).toInt = 1 := rfl
  have k8 : (8 : Int32).toInt = 8 := rfl
  refine sg_local_0 _ _ (fun y e => ?_)
  have hy := z0_s e
  have no : ∀ y', mi [0] [] z y' → ri F (some (vi 0)) y' := fun y' m => ri_i (h 0 y' (MI_0 m q))
  have ok : ∀ r, ri F (some (vi r)) y := fun r => ri_i (h r y (MI_0 hy.1 q))
  have qy := (MI_0 hy.1 q).1
  refine sp_noRun hy (fun hr => ⟨fun q => absurd rfl q, fun _ => ?_⟩) (fun y' m => ⟨fun _ => no y' m, fun q => absurd q (by decide)⟩)
  obtain ⟨cp, _, rt⟩ := RS_of qy hr
  have g := cp.1
  have g6 := g.2.2.2.2.2.1
  have p53 : vp_in t 6 → ∀ (n : Nat) (m s k : Int32), 0 ≤ k.toInt → 8 - k.toInt ≤ n → MT G (D + 2) z_local 53 [(0, vr 0), (1, vi t), (2, vi i), (3, vi m), (4, vi s), (5, vi k)] [] y (ri F) := by
    intro tv n
    have tb := vp_in_iff.mp tv
    have last : MT G (D + 1) z_refuses 0 [(0, vr 0), (1, vi 1), (2, vi 2)] [] y (ri (fun r3 x2 => ri F (some (vi 0)) x2)) := sp_ref 1 2 hy (by decide) (fun q => absurd q (by decide)) (fun _ y' m => no y' m)
    induction n with
    | zero =>
      intro m s k k0' hn
      exact sg_local_53 _ _ _ _ _ ⟨fun _ => last, fun c => absurd (t_le.mpr (by rw [k8]; omega)) c⟩
    | succ n ih =>
      intro m s k k0' hn
      refine sg_local_53 _ _ _ _ _ ⟨fun _ => last, fun c => ?_⟩
      rw [t_le, k8] at c
      have ki : (k + 1).toInt = k.toInt + 1 := by rw [t_add (by omega) (by omega), k1]
      refine ⟨fun _ => ih _ _ _ (by omega) (by omega), fun _ => ⟨fun _ => ih _ _ _ (by omega) (by omega), fun _ => ⟨?_, ok _⟩⟩⟩
      have m9 : (8 * t).toInt = 8 * t.toInt := by rw [t_mul (by rw [k8]; omega) (by rw [k8]; omega), k8]
      rw [vp_in_iff, t_add (by omega) (by omega), m9]; omega
  have p32 : ∀ b : Int32, (b = 0 → 0 ≤ t.toInt ∧ t.toInt < (y.1 0 25).toInt) → MT G (D + 2) z_local 32 [(0, vr 0), (1, vi t), (2, vi i)] [vi b, vr 0] y (ri F) := by
    intro b hb
    refine sg_local_32 _ _ _ (sp_ref b 2 hy (by decide) (fun b0 => ⟨fun _ => ?_, fun q => absurd rfl q⟩) (fun _ y' m => ⟨fun q => absurd q (by decide), fun _ => no y' m⟩))
    have tv : vp_in t 6 := by rw [vp_in_iff]; have := hb b0; omega
    have r := rt _ (vt tv)
    exact sp_knownOf t tv (by rw [vp_in_iff]; exact ⟨r.1, r.2.1⟩) (fun r => p53 tv 8 r 0 0 (by decide) (by decide))
  exact sp_in _ _ _ ⟨fun c1 => p32 0 (fun _ => in_lt (bi_ne.mp c1) g.2.2.2.2.1), fun _ => p32 1 (fun q => absurd q (by decide))⟩
theorem sp_act (q : MI z) (a w : Int32) (hD : 3 ≤ D) (h : ∀ r z', PM z z' → F r z') : MT G D z_act 0 [(0, vr 0), (1, vi a), (2, vi w)] [] z (ri F) := by
  obtain ⟨D, rfl⟩ : ∃ D', D = D' + 2 := ⟨D - 2, by omega⟩
  refine sg_act_0 _ _ (fun y e => ?_)
  have hy := z0_s e
  have no : ∀ y', mi [0] [] z y' → ri F (some (vi 0)) y' := fun y' m => ri_i (h 0 y' (MI_0 m q))
  have ok : ∀ r, ri F (some (vi r)) y := fun r => ri_i (h r y (MI_0 hy.1 q))
  have qy := (MI_0 hy.1 q).1
  refine sp_noRun hy (fun hr => ⟨fun q => absurd rfl q, fun _ => ?_⟩) (fun y' m => ⟨fun _ => no y' m, fun q => absurd q (by decide)⟩)
  obtain ⟨cp, ⟨a1, a2, a3, _⟩, rt⟩ := RS_of qy hr
  have p41 : ∀ b : Int32, (b = 0 → 0 ≤ a.toInt ∧ a.toInt < (y.1 0 96).toInt) → MT G (D + 2) z_act 41 [(0, vr 0), (1, vi a), (2, vi w)] [vi b, vr 0] y (ri F) := by
    intro b hb
    refine sg_act_41 _ _ _ (sp_ref b 2 hy (by decide) (fun b0 => ⟨fun _ => ?_, fun q => absurd rfl q⟩) (fun _ y' m => ⟨fun q => absurd q (by decide), fun _ => no y' m⟩))
    have av : vp_in a 400 := by rw [vp_in_iff]; have := hb b0; omega
    exact ⟨fun _ => ⟨fun _ => ⟨fun _ => ⟨fun _ => ⟨av, ok _⟩, fun _ => ⟨av, ok _⟩⟩, fun _ => ⟨av, ok _⟩⟩, fun _ => ⟨av, ok _⟩⟩, fun _ => ⟨av, ok _⟩⟩
  exact sp_in _ _ _ ⟨fun _ => p41 1 (fun q => absurd q (by decide)), fun c1 => sp_in _ _ _ ⟨fun _ => p41 0 (fun _ => in_lt (bi_ne.mp c1) a1), fun _ => p41 1 (fun q => absurd q (by decide))⟩⟩
theorem sp_before (q : MI z) (a b : Int32) (hD : 3 ≤ D) (h : ∀ r z', PM z z' → F r z') : MT G D z_before 0 [(0, vr 0), (1, vi a), (2, vi b)] [] z (ri F) := by
  obtain ⟨D, rfl⟩ : ∃ D', D = D' + 2 := ⟨D - 2, by omega⟩
  refine sg_before_0 _ _ (fun y e => ?_)
  have hy := z0_s e
  have no : ∀ y', mi [0] [] z y' → ri F (some (vi 0)) y' := fun y' m => ri_i (h 0 y' (MI_0 m q))
  have ok : ∀ r, ri F (some (vi r)) y := fun r => ri_i (h r y (MI_0 hy.1 q))
  have qy := (MI_0 hy.1 q).1
  refine sp_noRun hy (fun hr => ⟨fun q => absurd rfl q, fun _ => ?_⟩) (fun y' m => ⟨fun _ => no y' m, fun q => absurd q (by decide)⟩)
  obtain ⟨cp, ⟨a1, a2, a3, _⟩, rt⟩ := RS_of qy hr
  have p46 : ∀ v : Int32, (v = 0 → (0 ≤ a.toInt ∧ a.toInt < (y.1 0 96).toInt) ∧ 0 ≤ b.toInt ∧ b.toInt < (y.1 0 96).toInt) → MT G (D + 2) z_before 46 [(0, vr 0), (1, vi a), (2, vi b)] [vi v, vr 0] y (ri F) := by
    intro v hv
    refine sg_before_46 _ _ _ (sp_ref v 2 hy (by decide) (fun v0 => ⟨fun q => absurd rfl q, fun _ => ?_⟩) (fun _ y' m => ⟨fun _ => no y' m, fun q => absurd q (by decide)⟩))
    have hh := hv v0
    exact sp_isSooner a b (by rw [vp_in_iff]; omega) (by rw [vp_in_iff]; omega) (fun r => ⟨fun _ => ok _, fun _ => ok _⟩)
  exact sp_in _ _ _ ⟨fun _ => p46 1 (fun q => absurd q (by decide)), fun c1 => sp_in _ _ _ ⟨fun c2 => p46 0 (fun _ => ⟨in_lt (bi_ne.mp c1) a1, in_lt (bi_ne.mp c2) a1⟩), fun _ => p46 1 (fun q => absurd q (by decide))⟩⟩
theorem sp_race (q : MI z) (i w : Int32) (hD : 4 ≤ D) (h : ∀ r z', PM z z' → F r z') : MT G D z_race 0 [(0, vr 0), (1, vi i), (2, vi w)] [] z (ri F) := by
  obtain ⟨D, rfl⟩ : ∃ D', D = D' + 3 := ⟨D - 3, by omega⟩
  have k0 : (0 : Int32).toInt = 0 := rfl
  have k1 : (1 : Int32).toInt = 1 := rfl
  refine sg_race_0 _ _ (fun y e => ?_)
  have hy := z0_s e
  have no : ∀ y', mi [0] [] z y' → ri F (some (vi 0)) y' := fun y' m => ri_i (h 0 y' (MI_0 m q))
  have ok : ∀ r, ri F (some (vi r)) y := fun r => ri_i (h r y (MI_0 hy.1 q))
  have qy := (MI_0 hy.1 q).1
  refine sp_noRun hy (fun hr => ⟨fun _ => ?_, fun q => absurd rfl q⟩) (fun y' m => ⟨fun q => absurd q (by decide), fun _ => no y' m⟩)
  obtain ⟨cp, ⟨a1, a2, a3, a4, a5⟩, rt⟩ := RS_of qy hr
  have av : ∀ i : Int32, 0 ≤ i.toInt → i.toInt < (y.1 0 96).toInt → vp_in i 400 ∧ aA y i.toNatClampNeg := fun i i0 i1 => ⟨by rw [vp_in_iff]; omega, a4 _ (by have := cl_i i0; omega)⟩
  have p90 : MT G (D + 3) z_race 90 [(0, vr 0)] [] y (ri F) := sg_race_90 (sp_ref 1 2 hy (by decide) (fun q => absurd q (by decide)) (fun _ y' m => no y' m))
  have p19 : ∀ (n : Nat) (s b : Int32), 0 ≤ b.toInt → (y.1 0 96).toInt - b.toInt ≤ n → MT G (D + 3) z_race 19 [(0, vr 0), (1, vi i), (2, vi w), (3, vi s), (4, vi b)] [] y (ri F) := by
    intro n
    induction n with
    | zero =>
      intro s b b0 hn
      exact sg_race_19 _ _ _ _ ⟨fun _ => p90, fun c => absurd (t_le.mpr (by omega)) c⟩
    | succ n ih =>
      intro s b b0 hn
      refine sg_race_19 _ _ _ _ ⟨fun _ => p90, fun c => ?_⟩
      rw [t_le] at c
      have bi' : (b + 1).toInt = b.toInt + 1 := by rw [t_add (by omega) (by omega), k1]
      have p40 : ∀ (m : Nat) (s k : Int32), 0 ≤ k.toInt → b.toInt - k.toInt ≤ m → MT G (D + 3) z_race 40 [(0, vr 0), (1, vi i), (2, vi w), (3, vi s), (4, vi b), (5, vi k)] [] y (ri F) := by
        intro m
        induction m with
        | zero =>
          intro s k k0' hm
          exact sg_race_40 _ _ _ _ _ ⟨fun _ => ih _ _ (by omega) (by omega), fun c => absurd (t_le.mpr (by omega)) c⟩
        | succ m ihm =>
          intro s k k0' hm
          refine sg_race_40 _ _ _ _ _ ⟨fun _ => ih _ _ (by omega) (by omega), fun c2 => ?_⟩
          rw [t_le] at c2
          have ki : (k + 1).toInt = k.toInt + 1 := by rw [t_add (by omega) (by omega), k1]
          exact sp_isRace _ _ (av k k0' (by omega)).1 (av b b0 (by omega)).1 (av k k0' (by omega)).2 (fun r => ⟨fun _ => ihm _ _ (by omega) (by omega), fun _ => ⟨fun _ => ihm _ _ (by omega) (by omega), fun _ => ⟨fun _ => ok _, fun _ => ok _⟩⟩⟩)
      exact sp_in _ _ _ ⟨fun _ => p90, fun _ => p40 b.toInt.toNat s 0 (by decide) (by rw [k0]; omega)⟩
  exact p19 400 0 0 (by decide) (by rw [k0]; omega)
/-- an act looked at, from what is like a -/
theorem sp_lookAt (av : AV a) (e : eqS (Sm a) a z) (t : Int32) (tv : vp_in t 6) (h1 : a.1 73 t.toNatClampNeg = 1) (hD : 3 ≤ D) (h : ∀ z' x', eqS (Sm a) a z' → md rL rA z z' → lkP a x' t.toNatClampNeg → z'.1 0 88 = x'.1 0 88 → z'.1 0 89 = x'.1 0 89 → Fv z') : MT G D z_lookAt 0 [(0, vr 0), (1, vi t)] [] z (rv Fv) := by
  refine MD_top (ds_lookAt (d := 0) (S := Sm a) (Fv := fun y S1 => md [82, 88, 89, 90, 91] [84] a y ∧ ssub (Sm a) S1 ∧ lkS S1 ∧ lkP a y t.toNatClampNeg) t tv (RI_sub (Sl_Sm a) av.1) h1 (fun y S1 q1 q2 q3 q4 => ⟨q1, q2, q3, q4⟩)) e (by omega) (fun o x' S' z' q eq mz => ?_)
  obtain ⟨eo, mx, ss, ls, lp⟩ := q
  rw [eo]
  refine rv_i (h z' x' (fun c j hc => ?_) mz lp (eq 0 88 (Or.inr ls.1)) (eq 0 89 (Or.inr ls.2.1)))
  have hx : eqS (Sm a) a x' := eqS_mi (eqS_rf _ _) (mi_of mx) rfl rfl (ssub_rf _)
  rw [eq c j (hc.imp id (ss c j)), hx c j hc]
theorem sp_choice (q : MI z) (i w : Int32) (hD : 4 ≤ D) (h : ∀ r z', PM z z' → F r z') : MT G D z_choice 0 [(0, vr 0), (1, vi i), (2, vi w)] [] z (ri F) := by
  obtain ⟨D, rfl⟩ : ∃ D', D = D' + 2 := ⟨D - 2, by omega⟩
  refine sg_choice_0 _ _ (fun y e => ?_)
  have hy := z0_s e
  have no : ∀ y', mi [0] [] z y' → ri F (some (vi 0)) y' := fun y' m => ri_i (h 0 y' (MI_0 m q))
  have ok : ∀ r, ri F (some (vi r)) y := fun r => ri_i (h r y (MI_0 hy.1 q))
  have qy := (MI_0 hy.1 q).1
  refine sp_noRun hy (fun hr => ⟨fun q => absurd rfl q, fun _ => ?_⟩) (fun y' m => ⟨fun _ => no y' m, fun q => absurd q (by decide)⟩)
  obtain ⟨hc, s, n, q1, q2, q3, q4, q5, q6, q7⟩ := qy.2.2.1 hr
  have av := q2 n (Nat.le_refl _)
  have e84 : y.1 0 84 = (s n).1 0 84 := q4 0 84 (Or.inr (Or.inl ⟨rfl, rfl⟩))
  have c0 := av.2.2.2.1
  have c84 := av.2.2.2.2.1
  have p41 : ∀ b : Int32, (b = 0 → 0 ≤ i.toInt ∧ i.toInt < (y.1 0 84).toInt) → MT G (D + 2) z_choice 41 [(0, vr 0), (1, vi i), (2, vi w)] [vi b, vr 0] y (ri F) := by
    intro b hb
    refine sg_choice_41 _ _ _ (sp_ref b 2 hy (by decide) (fun b0 => ⟨fun _ => ?_, fun q => absurd rfl q⟩) (fun _ y' m => ⟨fun q => absurd q (by decide), fun _ => no y' m⟩))
    have hi := hb b0
    rw [e84] at hi
    have ci := cl_i hi.1
    have iv : vp_in i 200 := by rw [vp_in_iff]; omega
    obtain ⟨u86, u87, u88, ⟨t0, t6⟩, co⟩ := av.2.2.1 i.toNatClampNeg (by omega)
    have e86 := q4 _ _ (Or.inr u86)
    have e87 := q4 _ _ (Or.inr u87)
    rw [e86, e87]
    have tv : vp_in ((s n).1 86 i.toNatClampNeg) 6 := by rw [vp_in_iff]; exact ⟨t0, t6⟩
    have r := (av.1.2 _ (vt tv))
    have a74 : vp_in (y.1 74 ((s n).1 86 i.toNatClampNeg).toNatClampNeg) 1500 := by
      rw [cA q4 (c := 74) (n := 6) (by decide) (vt tv), vp_in_iff]
      exact ⟨r.1.1, r.1.2.1⟩
    refine ⟨iv, iv, fun _ => ⟨fun c => ⟨fun _ => ⟨fun _ => ⟨fun _ => ⟨iv, ok _⟩, fun _ => sp_sortOf _ tv a74 (ok _)⟩, fun _ => ok _⟩, fun _ => ?_⟩, fun c => ⟨fun _ => ok _, fun _ => ⟨fun _ => ⟨fun _ => ok _, fun _ => ⟨?_, ok _⟩⟩, fun _ => ok _⟩⟩⟩, fun _ => ok _⟩
    · have g := co.resolve_right (fun w => by rw [c] at w; exact absurd w.1 (by decide))
      refine sp_lookAt av q4 _ tv g.2.1 (by omega) (fun y' x' e' m' _ _ _ => ri_i (h _ y' ?_))
      have mm := mi_of m'
      have hist : Hist y' := ⟨s, n, by rw [mm.1 94 (by decide)]; exact q1, q2, by rw [mm.2 96 (by decide) (by decide)]; exact q3, e', by rw [mm.1 68 (by decide)]; exact St_pr (prE_mi (prE_rf y) mm rfl rfl) q5, by unfold wy01; rw [mm.1 68 (by decide)]; exact q6, HA_mi mm rfl rfl q7⟩
      have p := MI_new mm rfl rfl hc hist qy
      exact PM_0 hy.1 p
    · have g := co.resolve_left (fun w => c w.1)
      have r8 := r.2.2.2.1
      exact (t10 tv (i := (s n).1 87 i.toNatClampNeg) g.1 (by omega)).1
  exact sp_in _ _ _ ⟨fun _ => p41 1 (fun q => absurd q (by decide)), fun c1 => sp_in _ _ _ ⟨fun _ => p41 0 (fun _ => in_lt (bi_ne.mp c1) (by rw [e84]; exact c0)), fun _ => p41 1 (fun q => absurd q (by decide))⟩⟩
end RDS
