/-! the model: what calls that only look leave -/
def rdM (C : gCo) (wr : Nat) (z z' : gd) : Prop := PM z z' ∧ (z'.1 0 67 = z.1 0 67 ∧ z'.1 0 94 = z.1 0 94 ∧ z'.1 96 = z.1 96) ∧ z'.1 119 = z.1 119 ∧ (HistC C wr z → HistC C wr z') ∧ ∀ w T, TYc C w z T → TYc C w z' T
section RDM
variable {C : gCo} {wr : Nat} {z y u : gd}
theorem rd_mi {L A : List Nat} (m : mi L A z y) (hL : stL.all (fun k => !L.elem k) = true) (hA : stA.all (fun k => !A.elem k) = true) (q : MI z) : rdM C wr z y := ⟨PM_mi m hL hA q, ⟨m.1 67 (all_no hL 67 (by decide)), m.1 94 (all_no hL 94 (by decide)), m.2 96 (by decide) (all_no hA 96 (by decide))⟩, m.2 119 (by decide) (all_no hA 119 (by decide)), fun h => HistC_mi m (all_sub hL rfl) (all_sub hA rfl) h, fun w T h => TYc_mi m (all_sub hA rfl) h⟩
theorem rd_0 (m : mi [0] [] z y) (q : MI z) : rdM C wr z y := rd_mi m rfl rfl q
theorem rd_o {L A : List Nat} (m : mi L A z y) (hL : stL.all (fun k => !L.elem k) = true) (hA : [2, 6, 7, 8, 36, 37, 38, 51, 52, 54, 55, 56, 57, 58, 59, 60, 61, 62, 64, 65, 66, 70, 71, 72, 73, 74, 75, 76, 77, 78, 79, 80, 81, 82, 86, 87, 88, 96, 98, 99, 100, 103, 106, 107, 119, 120, 123, 126, 130, 131, 132].all (fun k => !A.elem k) = true) (o : oA y) (q : MI z) : rdM C wr z y := ⟨MI_o m hL hA o q, ⟨m.1 67 (all_no hL 67 (by decide)), m.1 94 (all_no hL 94 (by decide)), m.2 96 (by decide) (all_no hA 96 (by decide))⟩, m.2 119 (by decide) (all_no hA 119 (by decide)), fun h => HistC_mi m (all_sub hL rfl) (all_sub hA rfl) h, fun w T h => TYc_mi m (all_sub hA rfl) h⟩
theorem rd_tr (m : mi [0] [] z y) (p : rdM C wr y u) : rdM C wr z u := by
  obtain ⟨p1, ⟨p2, p3, p4⟩, p5, p6, p7⟩ := p
  refine ⟨PM_0 m p1, ⟨?_, ?_, ?_⟩, ?_, fun h => p6 (HistC_0 m h), fun w T h => p7 w T (TYc_mi m rfl h)⟩
  · rw [p2, m.1 67 (by decide)]
  · rw [p3, m.1 94 (by decide)]
  · rw [p4, m.2 96 (by decide) (by simp)]
  · rw [p5, m.2 119 (by decide) (by simp)]
end RDM
section RDX
variable {G : mG} {d D : Nat} {x z a : gd} {F : Int32 → gd → Prop} {Fv : gd → Prop} {C : gCo} {wr : Nat}
theorem sr_fault2 (q : MI z) (w : Int32) (h : ∀ r z', rdM C wr z z' → F r z') : MT G (D + 1) z_fault_ 0 [(0, vr 0), (1, vi w)] [] z (ri F) := by
  refine sg_fault__0 _ (fun y e => ?_)
  have hy := z0_s e
  have p20 : ∀ b : Int32, MT G (D + 1) z_fault_ 20 [(0, vr 0), (1, vi w)] [vi b, vr 0] y (ri F) := fun b => sg_fault__20 _ _ (sp_ref b 1 hy (by decide) (fun _ => ⟨fun _ => ⟨fun _ => ri_i (h _ y (rd_0 hy.1 q)), fun _ => ri_i (h _ y (rd_0 hy.1 q))⟩, fun q => absurd rfl q⟩) (fun _ y' m => ⟨fun q => absurd q (by decide), fun _ => ri_i (h _ y' (rd_0 m q))⟩))
  exact sp_in _ _ _ ⟨fun _ => p20 0, fun _ => p20 1⟩
theorem sr_count (q : MI z) (w : Int32) (h : ∀ r z', rdM C wr z z' → ((¬ (0 ≤ w.toInt ∧ w.toInt ≤ 4) → z'.1 0 0 = 1) ∧ ((0 ≤ w.toInt ∧ w.toInt ≤ 4) → z'.1 0 0 = 0 ∧ cntM z w r)) → F r z') : MT G (D + 1) z_count 0 [(0, vr 0), (1, vi w)] [] z (ri F) := by
  have k0 : (0 : Int32).toInt = 0 := rfl
  have k1 : (1 : Int32).toInt = 1 := rfl
  have k2 : (2 : Int32).toInt = 2 := rfl
  have k3 : (3 : Int32).toInt = 3 := rfl
  have k4 : (4 : Int32).toInt = 4 := rfl
  refine sg_count_0 _ (fun y e => ?_)
  have hy := z0_s e
  have f := fun k (hk : ¬ k = 0) => hy.1.1 k (fun z => hk (List.mem_singleton.mp z))
  have ok : (0 ≤ w.toInt ∧ w.toInt ≤ 4) → ∀ r, cntM z w r → ri F (some (vi r)) y := fun hw r hr => ri_i (h _ y (rd_0 hy.1 q) ⟨fun z => absurd hw z, fun _ => ⟨hy.2, hr⟩⟩)
  have p20 : ∀ b : Int32, (b = 0 → 0 ≤ w.toInt ∧ w.toInt ≤ 4) → (¬ b = 0 → ¬ (0 ≤ w.toInt ∧ w.toInt ≤ 4)) → MT G (D + 1) z_count 20 [(0, vr 0), (1, vi w)] [vi b, vr 0] y (ri F) := by
    intro b hb hb2
    refine sg_count_20 _ _ (sp_refuses b 1 hy.2 (by decide) (fun c => ⟨fun _ => ?_, fun q => absurd rfl q⟩) (fun c => ⟨fun q => absurd q (by decide), fun _ => ri_i (h _ _ (rd_0 (mi_tr hy.1 (mi_of (md_f y 0 1)) rfl rfl) q) ⟨fun _ => by rw [si_get, if_pos ⟨rfl, rfl⟩], fun z => absurd z (hb2 c)⟩)⟩))
    have hw := hb c
    rw [f 23 (by decide), f 24 (by decide), f 25 (by decide), f 26 (by decide), f 27 (by decide)]
    refine ⟨fun n0 => ⟨fun n1 => ⟨fun n2 => ⟨fun n3 => ok hw _ ?_, fun e3 => ok hw _ (Or.inr (Or.inr (Or.inr (Or.inl ⟨e3, rfl⟩))))⟩, fun e2 => ok hw _ (Or.inr (Or.inr (Or.inl ⟨e2, rfl⟩)))⟩, fun e1 => ok hw _ (Or.inr (Or.inl ⟨e1, rfl⟩))⟩, fun e0 => ok hw _ (Or.inl ⟨e0, rfl⟩)⟩
    refine Or.inr (Or.inr (Or.inr (Or.inr ⟨?_, rfl⟩)))
    rw [t_eq, k0] at n0
    rw [t_eq, k1] at n1
    rw [t_eq, k2] at n2
    rw [t_eq, k3] at n3
    rw [t_eq, k4]
    omega
  refine sp_in _ _ _ ⟨fun c => p20 0 (fun _ => ?_) (fun z => absurd rfl z), fun c => p20 1 (fun z => absurd z (by decide)) (fun _ z => ?_)⟩
  · obtain ⟨c1, c2⟩ := bi_ne.mp c
    rw [t_le, k0] at c1
    rw [t_le, k4] at c2
    exact ⟨c1, c2⟩
  · refine bi_eq.mp c ⟨t_le.mpr ?_, t_le.mpr ?_⟩
    · rw [k0]; exact z.1
    · rw [k4]; exact z.2
theorem sr_run (q : MI z) (w : Int32) (hD : 4 ≤ D) (h : ∀ r z', rdM C wr z z' → F r z') : MT G D z_run 0 [(0, vr 0), (1, vi w)] [] z (ri F) := by
  obtain ⟨D, rfl⟩ : ∃ D', D = D' + 3 := ⟨D - 3, by omega⟩
  have k0 : (0 : Int32).toInt = 0 := rfl
  have k1 : (1 : Int32).toInt = 1 := rfl
  refine sg_run_0 _ (fun y e => ?_)
  have hy := z0_s e
  have no : ∀ y', mi [0] [] z y' → ri F (some (vi 0)) y' := fun y' m => ri_i (h 0 y' (rd_0 m q))
  have ok : ∀ r, ri F (some (vi r)) y := fun r => ri_i (h r y (rd_0 hy.1 q))
  have qy := (MI_0 hy.1 q).1
  refine sp_noRun hy (fun hr => ⟨fun q => absurd rfl q, fun _ => ?_⟩) (fun y' m => ⟨fun _ => no y' m, fun q => absurd q (by decide)⟩)
  obtain ⟨cp, ⟨a1, a2, a3, a4, a5⟩, rt⟩ := RS_of qy hr
  have b25 := cp.1.2.2.2.2.2.1
  have av : ∀ i : Int32, 0 ≤ i.toInt → i.toInt < (y.1 0 96).toInt → vp_in i 400 ∧ aA y i.toNatClampNeg := fun i i0 i1 => ⟨by rw [vp_in_iff]; omega, a4 _ (by have := cl_i i0; omega)⟩
  have p125 : ∀ (n : Nat) (s b : Int32), 0 ≤ b.toInt → (y.1 0 96).toInt - b.toInt ≤ n → MT G (D + 3) z_run 125 [(0, vr 0), (2, vi s), (3, vi b)] [] y (ri F) := by
    intro n
    induction n with
    | zero =>
      intro s b b0 hn
      exact sg_run_125 _ _ ⟨fun _ => ok _, fun c => absurd (t_le.mpr (by omega)) c⟩
    | succ n ih =>
      intro s b b0 hn
      refine sg_run_125 _ _ ⟨fun _ => ok _, fun c => ?_⟩
      rw [t_le] at c
      have bi' : (b + 1).toInt = b.toInt + 1 := by rw [t_add (by omega) (by omega), k1]
      have p136 : ∀ (m : Nat) (s i : Int32), 0 ≤ i.toInt → b.toInt - i.toInt ≤ m → MT G (D + 3) z_run 136 [(0, vr 0), (2, vi s), (3, vi b), (4, vi i)] [] y (ri F) := by
        intro m
        induction m with
        | zero =>
          intro s i i0 hm
          exact sg_run_136 _ _ _ ⟨fun _ => ih _ _ (by omega) (by omega), fun c => absurd (t_le.mpr (by omega)) c⟩
        | succ m ihm =>
          intro s i i0 hm
          refine sg_run_136 _ _ _ ⟨fun _ => ih _ _ (by omega) (by omega), fun c2 => ?_⟩
          rw [t_le] at c2
          have ii : (i + 1).toInt = i.toInt + 1 := by rw [t_add (by omega) (by omega), k1]
          exact sp_isRace _ _ (av i i0 (by omega)).1 (av b b0 (by omega)).1 (av i i0 (by omega)).2 (fun r => sp_one _ (fun r2 => ihm _ _ (by omega) (by omega)))
      exact p136 b.toInt.toNat s 0 (by decide) (by rw [k0]; omega)
  have p171 : ∀ (n : Nat) (s b : Int32), 0 ≤ b.toInt → (y.1 0 96).toInt - b.toInt ≤ n → MT G (D + 3) z_run 171 [(0, vr 0), (2, vi s), (3, vi b)] [] y (ri F) := by
    intro n
    induction n with
    | zero =>
      intro s b b0 hn
      exact sg_run_171 _ _ ⟨fun _ => ok _, fun c => absurd (t_le.mpr (by omega)) c⟩
    | succ n ih =>
      intro s b b0 hn
      refine sg_run_171 _ _ ⟨fun _ => ok _, fun c => ?_⟩
      rw [t_le] at c
      have bi' : (b + 1).toInt = b.toInt + 1 := by rw [t_add (by omega) (by omega), k1]
      have p205 : ∀ v : Int32, MT G (D + 3) z_run 205 [(0, vr 0), (3, vi b)] [vi v, vi s] y (ri F) := fun v => sg_run_205 _ _ _ (sp_one _ (fun r => ih _ _ (by omega) (by omega)))
      have bv := (av b b0 (by omega)).1
      exact ⟨bv, fun _ => p205 _, fun _ => ⟨bv, fun _ => p205 _, fun _ => p205 _⟩⟩
  have p220 : ∀ (n : Nat) (s b : Int32), 0 ≤ b.toInt → (y.1 0 25).toInt - b.toInt ≤ n → MT G (D + 3) z_run 220 [(0, vr 0), (2, vi s), (3, vi b)] [] y (ri F) := by
    intro n
    induction n with
    | zero =>
      intro s b b0 hn
      exact sg_run_220 _ _ ⟨fun _ => ok _, fun c => absurd (t_le.mpr (by omega)) c⟩
    | succ n ih =>
      intro s b b0 hn
      refine sg_run_220 _ _ ⟨fun _ => ok _, fun c => ?_⟩
      rw [t_le] at c
      have bi' : (b + 1).toInt = b.toInt + 1 := by rw [t_add (by omega) (by omega), k1]
      exact ⟨by rw [vp_in_iff]; omega, ih _ _ (by omega) (by omega)⟩
  have p111 : ∀ v : Int32, MT G (D + 3) z_run 111 [(0, vr 0)] [vi v] y (ri F) := fun v => sg_run_111 _ (sp_one _ (fun r => ok _))
  have p28 : ∀ b : Int32, MT G (D + 3) z_run 28 [(0, vr 0), (1, vi w)] [vi b, vr 0] y (ri F) := fun b => sg_run_28 _ _ (sp_ref b 2 hy (by decide) (fun _ => ⟨fun _ => ⟨fun _ => ok _, fun _ => ok _, fun _ => ok _, fun _ => ⟨fun _ => p111 _, fun _ => p111 _⟩, fun _ => sp_isStuck b25 (fun r => sp_one _ (fun r => ok _)), fun _ => p125 400 0 0 (by decide) (by rw [k0]; omega), fun _ => p171 400 0 0 (by decide) (by rw [k0]; omega), fun _ => p220 6 0 0 (by decide) (by rw [k0]; omega)⟩, fun q => absurd rfl q⟩) (fun _ y' m => ⟨fun q => absurd q (by decide), fun _ => no y' m⟩))
  exact sp_in _ _ _ ⟨fun _ => p28 _, fun _ => p28 _⟩
theorem sr_lock (q : MI z) (l w : Int32) (hD : 3 ≤ D) (h : ∀ r z', rdM C wr z z' → F r z') : MT G D z_lock 0 [(0, vr 0), (1, vi l), (2, vi w)] [] z (ri F) := by
  obtain ⟨D, rfl⟩ : ∃ D', D = D' + 2 := ⟨D - 2, by omega⟩
  have k0 : (0 : Int32).toInt = 0 := rfl
  have k1 : (1 : Int32).toInt = 1 := rfl
  refine sg_lock_0 _ _ (fun y e => ?_)
  have hy := z0_s e
  have no : ∀ y', mi [0] [] z y' → ri F (some (vi 0)) y' := fun y' m => ri_i (h 0 y' (rd_0 m q))
  have ok : ∀ r, ri F (some (vi r)) y := fun r => ri_i (h r y (rd_0 hy.1 q))
  have qy := (MI_0 hy.1 q).1
  refine sp_noRun hy (fun hr => ⟨fun q => absurd rfl q, fun _ => ?_⟩) (fun y' m => ⟨fun _ => no y' m, fun q => absurd q (by decide)⟩)
  obtain ⟨cp, _, rt⟩ := RS_of qy hr
  have g := cp.1
  have g6 := g.2.2.2.2.2.1
  have g24 := g.2.2.2.1
  have p55 : vp_in l 6 → ∀ (n : Nat) (s t : Int32), 0 ≤ t.toInt → (y.1 0 25).toInt - t.toInt ≤ n → MT G (D + 2) z_lock 55 [(0, vr 0), (1, vi l), (2, vi w), (3, vi s), (4, vi t)] [] y (ri F) := by
    intro lv n
    induction n with
    | zero =>
      intro s t t0 hn
      exact sg_lock_55 _ _ _ _ ⟨fun _ => ⟨fun _ => ⟨fun _ => ok _, fun _ => ⟨lv, ok _⟩⟩, fun _ => ⟨lv, ok _⟩⟩, fun c => absurd (t_le.mpr (by omega)) c⟩
    | succ n ih =>
      intro s t t0 hn
      refine sg_lock_55 _ _ _ _ ⟨fun _ => ⟨fun _ => ⟨fun _ => ok _, fun _ => ⟨lv, ok _⟩⟩, fun _ => ⟨lv, ok _⟩⟩, fun c => ?_⟩
      rw [t_le] at c
      have tv : vp_in t 6 := by rw [vp_in_iff]; omega
      have ti : (t + 1).toInt = t.toInt + 1 := by rw [t_add (by omega) (by omega), k1]
      have r := rt _ (vt tv)
      have p97 : ∀ v : Int32, MT G (D + 2) z_lock 97 [(0, vr 0), (1, vi l), (2, vi w), (4, vi t)] [vi v, vi s] y (ri F) := fun v => sg_lock_97 _ _ _ _ _ (sp_one _ (fun r => ih _ _ (by omega) (by omega)))
      exact ⟨tv, fun _ => p97 _, fun _ => ⟨tv, by rw [vp_in_iff]; exact ⟨r.1, r.2.1⟩, fun _ => p97 _, fun _ => p97 _⟩⟩
  have p41 : ∀ b : Int32, (b = 0 → 0 ≤ l.toInt ∧ l.toInt < (y.1 0 24).toInt) → MT G (D + 2) z_lock 41 [(0, vr 0), (1, vi l), (2, vi w)] [vi b, vr 0] y (ri F) := fun b hb => sg_lock_41 _ _ _ (sp_ref b 2 hy (by decide) (fun b0 => ⟨fun _ => p55 (by rw [vp_in_iff]; have := hb b0; omega) 6 0 0 (by decide) (by rw [k0]; omega), fun q => absurd rfl q⟩) (fun _ y' m => ⟨fun q => absurd q (by decide), fun _ => no y' m⟩))
  exact sp_in _ _ _ ⟨fun _ => p41 1 (fun q => absurd q (by decide)), fun c1 => sp_in _ _ _ ⟨fun _ => p41 0 (fun _ => in_lt (bi_ne.mp c1) g.2.2.1), fun _ => p41 1 (fun q => absurd q (by decide))⟩⟩
theorem sr_thread (q : MI z) (t w : Int32) (hD : 3 ≤ D) (h : ∀ r z', rdM C wr z z' → F r z') : MT G D z_thread 0 [(0, vr 0), (1, vi t), (2, vi w)] [] z (ri F) := by
  obtain ⟨D, rfl⟩ : ∃ D', D = D' + 2 := ⟨D - 2, by omega⟩
  refine sg_thread_0 _ _ (fun y e => ?_)
  have hy := z0_s e
  have no : ∀ y', mi [0] [] z y' → ri F (some (vi 0)) y' := fun y' m => ri_i (h 0 y' (rd_0 m q))
  have ok : ∀ r, ri F (some (vi r)) y := fun r => ri_i (h r y (rd_0 hy.1 q))
  have qy := (MI_0 hy.1 q).1
  refine sp_noRun hy (fun hr => ⟨fun q => absurd rfl q, fun _ => ?_⟩) (fun y' m => ⟨fun _ => no y' m, fun q => absurd q (by decide)⟩)
  obtain ⟨cp, _, rt⟩ := RS_of qy hr
  have g := cp.1
  have g6 := g.2.2.2.2.2.1
  have p41 : ∀ b : Int32, (b = 0 → 0 ≤ t.toInt ∧ t.toInt < (y.1 0 25).toInt) → MT G (D + 2) z_thread 41 [(0, vr 0), (1, vi t), (2, vi w)] [vi b, vr 0] y (ri F) := by
    intro b hb
    refine sg_thread_41 _ _ _ (sp_ref b 2 hy (by decide) (fun b0 => ⟨fun _ => ?_, fun q => absurd rfl q⟩) (fun _ y' m => ⟨fun q => absurd q (by decide), fun _ => no y' m⟩))
    have tv : vp_in t 6 := by rw [vp_in_iff]; have := hb b0; omega
    have r := rt _ (vt tv)
    have av : vp_in (y.1 74 t.toNatClampNeg) 1500 := by rw [vp_in_iff]; exact ⟨r.1, r.2.1⟩
    exact ⟨fun _ => ⟨fun _ => ⟨fun _ => ⟨fun _ => ⟨tv, fun _ => ok _, fun _ => ⟨tv, av, ok _⟩⟩, fun _ => sp_knownOf t tv av (fun r => sp_ones _ (fun r => ok _))⟩, fun _ => ⟨tv, ok _⟩⟩, fun _ => ⟨tv, ok _⟩⟩, fun _ => ⟨tv, ok _⟩⟩
  exact sp_in _ _ _ ⟨fun _ => p41 1 (fun q => absurd q (by decide)), fun c1 => sp_in _ _ _ ⟨fun _ => p41 0 (fun _ => in_lt (bi_ne.mp c1) g.2.2.2.2.1), fun _ => p41 1 (fun q => absurd q (by decide))⟩⟩
theorem sr_act (q : MI z) (a w : Int32) (hD : 3 ≤ D) (h : ∀ r z', rdM C wr z z' → F r z') : MT G D z_act 0 [(0, vr 0), (1, vi a), (2, vi w)] [] z (ri F) := by
  obtain ⟨D, rfl⟩ : ∃ D', D = D' + 2 := ⟨D - 2, by omega⟩
  refine sg_act_0 _ _ (fun y e => ?_)
  have hy := z0_s e
  have no : ∀ y', mi [0] [] z y' → ri F (some (vi 0)) y' := fun y' m => ri_i (h 0 y' (rd_0 m q))
  have ok : ∀ r, ri F (some (vi r)) y := fun r => ri_i (h r y (rd_0 hy.1 q))
  have qy := (MI_0 hy.1 q).1
  refine sp_noRun hy (fun hr => ⟨fun q => absurd rfl q, fun _ => ?_⟩) (fun y' m => ⟨fun _ => no y' m, fun q => absurd q (by decide)⟩)
  obtain ⟨cp, ⟨a1, a2, a3, _⟩, rt⟩ := RS_of qy hr
  have p41 : ∀ b : Int32, (b = 0 → 0 ≤ a.toInt ∧ a.toInt < (y.1 0 96).toInt) → MT G (D + 2) z_act 41 [(0, vr 0), (1, vi a), (2, vi w)] [vi b, vr 0] y (ri F) := by
    intro b hb
    refine sg_act_41 _ _ _ (sp_ref b 2 hy (by decide) (fun b0 => ⟨fun _ => ?_, fun q => absurd rfl q⟩) (fun _ y' m => ⟨fun q => absurd q (by decide), fun _ => no y' m⟩))
    have av : vp_in a 400 := by rw [vp_in_iff]; have := hb b0; omega
    exact ⟨fun _ => ⟨fun _ => ⟨fun _ => ⟨fun _ => ⟨av, ok _⟩, fun _ => ⟨av, ok _⟩⟩, fun _ => ⟨av, ok _⟩⟩, fun _ => ⟨av, ok _⟩⟩, fun _ => ⟨av, ok _⟩⟩
  exact sp_in _ _ _ ⟨fun _ => p41 1 (fun q => absurd q (by decide)), fun c1 => sp_in _ _ _ ⟨fun _ => p41 0 (fun _ => in_lt (bi_ne.mp c1) a1), fun _ => p41 1 (fun q => absurd q (by decide))⟩⟩
theorem sr_before (q : MI z) (a b : Int32) (hD : 3 ≤ D) (h : ∀ r z', rdM C wr z z' → F r z') : MT G D z_before 0 [(0, vr 0), (1, vi a), (2, vi b)] [] z (ri F) := by
  obtain ⟨D, rfl⟩ : ∃ D', D = D' + 2 := ⟨D - 2, by omega⟩
  refine sg_before_0 _ _ (fun y e => ?_)
  have hy := z0_s e
  have no : ∀ y', mi [0] [] z y' → ri F (some (vi 0)) y' := fun y' m => ri_i (h 0 y' (rd_0 m q))
  have ok : ∀ r, ri F (some (vi r)) y := fun r => ri_i (h r y (rd_0 hy.1 q))
  have qy := (MI_0 hy.1 q).1
  refine sp_noRun hy (fun hr => ⟨fun q => absurd rfl q, fun _ => ?_⟩) (fun y' m => ⟨fun _ => no y' m, fun q => absurd q (by decide)⟩)
  obtain ⟨cp, ⟨a1, a2, a3, _⟩, rt⟩ := RS_of qy hr
  have p46 : ∀ v : Int32, (v = 0 → (0 ≤ a.toInt ∧ a.toInt < (y.1 0 96).toInt) ∧ 0 ≤ b.toInt ∧ b.toInt < (y.1 0 96).toInt) → MT G (D + 2) z_before 46 [(0, vr 0), (1, vi a), (2, vi b)] [vi v, vr 0] y (ri F) := by
    intro v hv
    refine sg_before_46 _ _ _ (sp_ref v 2 hy (by decide) (fun v0 => ⟨fun q => absurd rfl q, fun _ => ?_⟩) (fun _ y' m => ⟨fun _ => no y' m, fun q => absurd q (by decide)⟩))
    have hh := hv v0
    exact sp_isSooner a b (by rw [vp_in_iff]; omega) (by rw [vp_in_iff]; omega) (fun r => ⟨fun _ => ok _, fun _ => ok _⟩)
  exact sp_in _ _ _ ⟨fun _ => p46 1 (fun q => absurd q (by decide)), fun c1 => sp_in _ _ _ ⟨fun c2 => p46 0 (fun _ => ⟨in_lt (bi_ne.mp c1) a1, in_lt (bi_ne.mp c2) a1⟩), fun _ => p46 1 (fun q => absurd q (by decide))⟩⟩
theorem sr_race (q : MI z) (i w : Int32) (hD : 4 ≤ D) (h : ∀ r z', rdM C wr z z' → F r z') : MT G D z_race 0 [(0, vr 0), (1, vi i), (2, vi w)] [] z (ri F) := by
  obtain ⟨D, rfl⟩ : ∃ D', D = D' + 3 := ⟨D - 3, by omega⟩
  have k0 : (0 : Int32).toInt = 0 := rfl
  have k1 : (1 : Int32).toInt = 1 := rfl
  refine sg_race_0 _ _ (fun y e => ?_)
  have hy := z0_s e
  have no : ∀ y', mi [0] [] z y' → ri F (some (vi 0)) y' := fun y' m => ri_i (h 0 y' (rd_0 m q))
  have ok : ∀ r, ri F (some (vi r)) y := fun r => ri_i (h r y (rd_0 hy.1 q))
  have qy := (MI_0 hy.1 q).1
  refine sp_noRun hy (fun hr => ⟨fun _ => ?_, fun q => absurd rfl q⟩) (fun y' m => ⟨fun q => absurd q (by decide), fun _ => no y' m⟩)
  obtain ⟨cp, ⟨a1, a2, a3, a4, a5⟩, rt⟩ := RS_of qy hr
  have av : ∀ i : Int32, 0 ≤ i.toInt → i.toInt < (y.1 0 96).toInt → vp_in i 400 ∧ aA y i.toNatClampNeg := fun i i0 i1 => ⟨by rw [vp_in_iff]; omega, a4 _ (by have := cl_i i0; omega)⟩
  have p90 : MT G (D + 3) z_race 90 [(0, vr 0)] [] y (ri F) := sg_race_90 (sp_ref 1 2 hy (by decide) (fun q => absurd q (by decide)) (fun _ y' m => no y' m))
  have p19 : ∀ (n : Nat) (s b : Int32), 0 ≤ b.toInt → (y.1 0 96).toInt - b.toInt ≤ n → MT G (D + 3) z_race 19 [(0, vr 0), (1, vi i), (2, vi w), (3, vi s), (4, vi b)] [] y (ri F) := by
    intro n
    induction n with
    | zero =>
      intro s b b0 hn
      exact sg_race_19 _ _ _ _ ⟨fun _ => p90, fun c => absurd (t_le.mpr (by omega)) c⟩
    | succ n ih =>
      intro s b b0 hn
      refine sg_race_19 _ _ _ _ ⟨fun _ => p90, fun c => ?_⟩
      rw [t_le] at c
      have bi' : (b + 1).toInt = b.toInt + 1 := by rw [t_add (by omega) (by omega), k1]
      have p40 : ∀ (m : Nat) (s k : Int32), 0 ≤ k.toInt → b.toInt - k.toInt ≤ m → MT G (D + 3) z_race 40 [(0, vr 0), (1, vi i), (2, vi w), (3, vi s), (4, vi b), (5, vi k)] [] y (ri F) := by
        intro m
        induction m with
        | zero =>
          intro s k k0' hm
          exact sg_race_40 _ _ _ _ _ ⟨fun _ => ih _ _ (by omega) (by omega), fun c => absurd (t_le.mpr (by omega)) c⟩
        | succ m ihm =>
          intro s k k0' hm
          refine sg_race_40 _ _ _ _ _ ⟨fun _ => ih _ _ (by omega) (by omega), fun c2 => ?_⟩
          rw [t_le] at c2
          have ki : (k + 1).toInt = k.toInt + 1 := by rw [t_add (by omega) (by omega), k1]
          exact sp_isRace _ _ (av k k0' (by omega)).1 (av b b0 (by omega)).1 (av k k0' (by omega)).2 (fun r => ⟨fun _ => ihm _ _ (by omega) (by omega), fun _ => ⟨fun _ => ihm _ _ (by omega) (by omega), fun _ => ⟨fun _ => ok _, fun _ => ok _⟩⟩⟩)
      exact sp_in _ _ _ ⟨fun _ => p90, fun _ => p40 b.toInt.toNat s 0 (by decide) (by rw [k0]; omega)⟩
  exact p19 400 0 0 (by decide) (by rw [k0]; omega)
theorem sr_tried (q : MI z) (w v : Int32) (hD : 3 ≤ D) (h : ∀ r z', rdM C wr z z' → F r z') : MT G D z_tried 0 [(0, vr 0), (1, vi w), (2, vi v)] [] z (ri F) := by
  obtain ⟨D, rfl⟩ : ∃ D', D = D' + 1 := ⟨D - 1, by omega⟩
  refine sg_tried_0 _ _ (fun y e => ?_)
  have hy := z0_s e
  have no : ∀ y', mi [0] [] z y' → ri F (some (vi 0)) y' := fun y' m => ri_i (h 0 y' (rd_0 m q))
  have ok : ∀ r, ri F (some (vi r)) y := fun r => ri_i (h r y (rd_0 hy.1 q))
  have p42 : vp_in w 2 → ∀ b : Int32, MT G (D + 1) z_tried 42 [(0, vr 0), (1, vi w), (2, vi v)] [vi b, vr 0] y (ri F) := fun wv b => sg_tried_42 _ _ _ (sp_ref b 2 hy (by decide) (fun _ => ⟨fun q => absurd rfl q, fun _ => ⟨wv, fun _ => ⟨fun _ => ⟨fun _ => ⟨fun _ => ⟨fun _ => ⟨fun _ => ⟨wv, ok _⟩, fun _ => ⟨wv, ok _⟩⟩, fun _ => ⟨wv, ok _⟩⟩, fun _ => ⟨wv, ok _⟩⟩, fun _ => ⟨wv, sp_one _ (fun r => ok r)⟩⟩, fun _ => ⟨wv, ok _⟩⟩, fun _ => ok _⟩⟩) (fun _ y' m => ⟨fun _ => no y' m, fun q => absurd q (by decide)⟩))
  have p20 : ∀ b : Int32, (b = 0 → vp_in w 2) → MT G (D + 1) z_tried 20 [(0, vr 0), (1, vi w), (2, vi v)] [vi b, vr 0] y (ri F) := fun b hb => sg_tried_20 _ _ _ (sp_ref b 1 hy (by decide) (fun b0 => ⟨fun q => absurd rfl q, fun _ => sp_in _ _ _ ⟨fun _ => p42 (hb b0) _, fun _ => p42 (hb b0) _⟩⟩) (fun _ y' m => ⟨fun _ => no y' m, fun q => absurd q (by decide)⟩))
  exact sp_in _ _ _ ⟨fun c => p20 0 (fun _ => (w_in (bi_ne.mp c)).1), fun _ => p20 1 (fun q => absurd q (by decide))⟩
theorem sr_outcome (q : MI z) (w i c : Int32) (hD : 3 ≤ D) (h : ∀ r z', rdM C wr z z' → F r z') : MT G D z_outcome 0 [(0, vr 0), (1, vi w), (2, vi i), (3, vi c)] [] z (ri F) := by
  obtain ⟨D, rfl⟩ : ∃ D', D = D' + 1 := ⟨D - 1, by omega⟩
  refine sg_outcome_0 _ _ _ (fun y e => ?_)
  have hy := z0_s e
  have no : ∀ y', mi [0] [] z y' → ri F (some (vi 0)) y' := fun y' m => ri_i (h 0 y' (rd_0 m q))
  have ok : ∀ r, ri F (some (vi r)) y := fun r => ri_i (h r y (rd_0 hy.1 q))
  have qy := (MI_0 hy.1 q).1
  have p72 : ∀ b : Int32, (b = 0 → vp_in w 2 ∧ (0 ≤ i.toInt ∧ i.toInt < 3000) ∧ 0 ≤ c.toInt ∧ c.toInt < 24) → MT G (D + 1) z_outcome 72 [(0, vr 0), (1, vi w), (2, vi i), (3, vi c)] [vi b, vr 0] y (ri F) := fun b hb => sg_outcome_72 _ _ _ _ (sp_ref b 2 hy (by decide) (fun b0 => ⟨fun _ => ⟨t72 (hb b0).1 (hb b0).2.1.1 (hb b0).2.1.2 (hb b0).2.2.1 (hb b0).2.2.2, ok _⟩, fun q => absurd rfl q⟩) (fun _ y' m => ⟨fun q => absurd q (by decide), fun _ => no y' m⟩))
  have p20 : ∀ b : Int32, (b = 0 → vp_in w 2) → MT G (D + 1) z_outcome 20 [(0, vr 0), (1, vi w), (2, vi i), (3, vi c)] [vi b, vr 0] y (ri F) := by
    intro b hb
    refine sg_outcome_20 _ _ _ _ (sp_ref b 1 hy (by decide) (fun b0 => ⟨fun q => absurd rfl q, fun _ => ?_⟩) (fun _ y' m => ⟨fun _ => no y' m, fun q => absurd q (by decide)⟩))
    have wv := hb b0
    refine ⟨wv, fun _ => p72 1 (fun q => absurd q (by decide)), fun tr => ⟨wv, ?_⟩⟩
    obtain ⟨hc, A, t1, t2, t3, t4, t5, _⟩ := qy.2.2.2 _ (vp_lt wv) tr
    have g := (qy.2.1 hc).1
    refine sp_in _ _ _ ⟨fun _ => p72 1 (fun q => absurd q (by decide)), fun c1 => sp_in _ _ _ ⟨fun c2 => p72 0 (fun _ => ?_), fun _ => p72 1 (fun q => absurd q (by decide))⟩⟩
    have a1 := in_lt (bi_ne.mp c1) t4
    have a2 := in_lt (bi_ne.mp c2) g.1
    have g2 := g.2.1
    exact ⟨wv, ⟨a1.1, by omega⟩, a2.1, by omega⟩
  exact sp_in _ _ _ ⟨fun cc => p20 0 (fun _ => (w_in (bi_ne.mp cc)).1), fun _ => p20 1 (fun q => absurd q (by decide))⟩
theorem sr_common (q : MI z) (w c : Int32) (hD : 3 ≤ D) (h : ∀ r z', rdM C wr z z' → F r z') : MT G D z_common 0 [(0, vr 0), (1, vi w), (2, vi c)] [] z (ri F) := by
  obtain ⟨D, rfl⟩ : ∃ D', D = D' + 1 := ⟨D - 1, by omega⟩
  have k0 : (0 : Int32).toInt = 0 := rfl
  refine sg_common_0 _ _ (fun y e => ?_)
  have hy := z0_s e
  have no : ∀ y', mi [0] [] z y' → ri F (some (vi 0)) y' := fun y' m => ri_i (h 0 y' (rd_0 m q))
  have ok : ∀ r, ri F (some (vi r)) y := fun r => ri_i (h r y (rd_0 hy.1 q))
  have qy := (MI_0 hy.1 q).1
  have p47 : vp_in w 2 → ∀ b : Int32, (b = 0 → (0 : Int32) ≤ c ∧ c ≤ y.1 0 23 - 1) → MT G (D + 1) z_common 47 [(0, vr 0), (1, vi w), (2, vi c)] [vi b, vr 0] y (ri F) := by
    intro wv b hb
    refine sg_common_47 _ _ _ (sp_ref b 2 hy (by decide) (fun b0 => ⟨fun _ => ⟨wv, fun _ => ok _, fun tr => ⟨?_, ok _⟩⟩, fun q => absurd rfl q⟩) (fun _ y' m => ⟨fun q => absurd q (by decide), fun _ => no y' m⟩))
    obtain ⟨hc, _⟩ := qy.2.2.2 _ (vp_lt wv) tr
    have g := (qy.2.1 hc).1
    have a2 := in_lt (hb b0) g.1
    have g2 := g.2.1
    exact (tmul (k := 24) (K := 24) (N := 48) (n := 24) rfl wv a2.1 (by omega) (by omega) (by omega) (by omega)).1
  have p20 : ∀ b : Int32, (b = 0 → vp_in w 2) → MT G (D + 1) z_common 20 [(0, vr 0), (1, vi w), (2, vi c)] [vi b, vr 0] y (ri F) := fun b hb => sg_common_20 _ _ _ (sp_ref b 1 hy (by decide) (fun b0 => ⟨fun q => absurd rfl q, fun _ => sp_in _ _ _ ⟨fun c2 => p47 (hb b0) 0 (fun _ => bi_ne.mp c2), fun _ => p47 (hb b0) 1 (fun q => absurd q (by decide))⟩⟩) (fun _ y' m => ⟨fun _ => no y' m, fun q => absurd q (by decide)⟩))
  exact sp_in _ _ _ ⟨fun cc => p20 0 (fun _ => (w_in (bi_ne.mp cc)).1), fun _ => p20 1 (fun q => absurd q (by decide))⟩
theorem sr_alike (q : MI z) (h : ∀ r z', rdM C wr z z' → F r z') : MT G d z_alike 0 [(0, vr 0)] [] z (ri F) := by
  have k0 : (0 : Int32).toInt = 0 := rfl
  have k1 : (1 : Int32).toInt = 1 := rfl
  have k24 : (24 : Int32).toInt = 24 := rfl
  have k72 : (72000 : Int32).toInt = 72000 := rfl
  have z0' : (0 : Int32).toNatClampNeg = 0 := rfl
  have v0 : vp_in 0 2 := vp_in_iff.mpr (by decide)
  have v1 : vp_in 1 2 := vp_in_iff.mpr (by decide)
  refine sg_alike_0 (fun y e => ?_)
  have hy := z0_s e
  have ok : ∀ r, ri F (some (vi r)) y := fun r => ri_i (h r y (rd_0 hy.1 q))
  have qy := (MI_0 hy.1 q).1
  refine ⟨v0, fun _ => ok _, fun tr => ⟨v1, fun _ => ok _, fun _ => ⟨v0, fun _ => ok _, fun _ => ⟨v1, fun _ => ⟨v0, v1, fun _ => ?_, fun _ => ok _⟩, fun _ => ok _⟩⟩⟩⟩
  obtain ⟨hc, A, t1, t2, t3, t4, t5, _⟩ := qy.2.2.2 _ (vp_lt v0) tr
  obtain ⟨O, eO⟩ : ∃ O, O = y.1 123 (0 : Int32).toNatClampNeg := ⟨_, rfl⟩
  rw [← eO] at t4 t5
  have bO : (24 * O).toInt = 24 * O.toInt := by rw [t_mul (by rw [k24]; omega) (by rw [k24]; omega), k24]
  have loop : ∀ (n : Nat) (i : Int32), 0 ≤ i.toInt → 72000 - i.toInt ≤ n → MT G d z_alike 62 [(0, vr 0), (1, vi i)] [] y (ri F) := by
    intro n
    induction n with
    | zero =>
      intro i i0 hn
      refine sg_alike_62 _ ⟨v0, ?_⟩
      rw [← eO]
      exact ⟨fun _ => ok _, fun c => absurd (t_le.mpr (by omega)) c⟩
    | succ n ih =>
      intro i i0 hn
      refine sg_alike_62 _ ⟨v0, ?_⟩
      rw [← eO]
      refine ⟨fun _ => ok _, fun c => ?_⟩
      rw [t_le, bO] at c
      have ii : (i + 1).toInt = i.toInt + 1 := by rw [t_add (by omega) (by omega), k1]
      exact ⟨by rw [vp_in_iff]; omega, by rw [vp_in_iff, t_add (by omega) (by omega), k72]; omega, fun _ => ih _ (by omega) (by omega), fun _ => ok _⟩
  exact loop 72000 0 (by decide) (by decide)
theorem sr_ring (q : MI z) (w : Int32) (hD : 3 ≤ D) (h : ∀ r z', rdM C wr z z' → F r z') : MT G D z_ring 0 [(0, vr 0), (1, vi w)] [] z (ri F) := by
  obtain ⟨D, rfl⟩ : ∃ D', D = D' + 1 := ⟨D - 1, by omega⟩
  have k0 : (0 : Int32).toInt = 0 := rfl
  have k1 : (1 : Int32).toInt = 1 := rfl
  have k6 : (6 : Int32).toInt = 6 := rfl
  have k36 : (36 : Int32).toInt = 36 := rfl
  refine sg_ring_0 _ (fun y e => ?_)
  have hy := z0_s e
  have no : ∀ y', mi [0] [] z y' → ri F (some (vi 0)) y' := fun y' m => ri_i (h 0 y' (rd_0 m q))
  have qy := (MI_0 hy.1 q).1
  have p20 : ∀ b : Int32, (b = 0 → vp_in w 2) → MT G (D + 1) z_ring 20 [(0, vr 0), (1, vi w)] [vi b, vr 0] y (ri F) := by
    intro b hb
    refine sg_ring_20 _ _ (sp_ref b 1 hy (by decide) (fun b0 => ⟨fun q => absurd rfl q, fun _ => ⟨hb b0, fun tr => ?_, fun _ => no y hy.1⟩⟩) (fun _ y' m => ⟨fun _ => no y' m, fun q => absurd q (by decide)⟩))
    have wv := hb b0
    have wb := vp_in_iff.mp wv
    obtain ⟨hc, _⟩ := qy.2.2.2 _ (vp_lt wv) tr
    have g := (qy.2.1 hc).1
    have g6 := g.2.2.2.1
    have g60 := g.2.2.1
    obtain ⟨N, eN⟩ : ∃ N, N = y.1 0 24 := ⟨_, rfl⟩
    rw [← eN] at g6 g60
    have fin : ∀ (u : gd) (r : Int32), mi [] [139] y u → ri F (some (vi r)) u := fun u r mu => ri_i (h r u (by
      have p := rd_mi (C := C) (wr := wr) mu rfl rfl qy
      exact rd_tr hy.1 p))
    have f24 : ∀ u : gd, mi [] [139] y u → u.1 0 24 = N := fun u mu => by rw [mu.1 24 (by decide), eN]
    have st : ∀ (u u2 : gd) (j : Nat) (v : Int32), mi [] [139] y u → u2 = si u 139 j v → mi [] [139] y u2 := fun u u2 j v mu e2 => by
      have m := md_a u 139 j v (by decide)
      rw [← e2] at m
      exact mi_tr mu (mi_of m) rfl rfl
    have p42 : ∀ (n : Nat) (u : gd) (r l : Int32), mi [] [139] y u → 0 ≤ l.toInt → N.toInt - l.toInt ≤ n → MT G (D + 1) z_ring 42 [(0, vr 0), (1, vi w), (2, vi r), (3, vi l)] [] u (ri F) := by
      intro n
      induction n with
      | zero =>
        intro u r l mu l0 hn
        exact sg_ring_42 _ _ _ ⟨fun _ => fin u r mu, fun c => absurd (t_le.mpr (by rw [f24 u mu]; omega)) c⟩
      | succ n ih =>
        intro u r l mu l0 hn
        refine sg_ring_42 _ _ _ ⟨fun _ => fin u r mu, fun c => ?_⟩
        rw [t_le, f24 u mu] at c
        have lv : vp_in l 6 := by rw [vp_in_iff]; omega
        have li : (l + 1).toInt = l.toInt + 1 := by rw [t_add (by omega) (by omega), k1]
        have p79 : ∀ (m : Nat) (u : gd) (k : Int32), mi [] [139] y u → 1 ≤ k.toInt → N.toInt + 1 - k.toInt ≤ m → MT G (D + 1) z_ring 79 [(0, vr 0), (1, vi w), (2, vi r), (3, vi l), (4, vi k)] [] u (ri F) := by
          have last : ∀ u : gd, mi [] [139] y u → vp_in l 6 ∧ (((u.1 139 l.toNatClampNeg) ≤ (0 : Int32) → MT G (D + 1) z_ring 42 [(0, vr 0), (1, vi w), (2, vi r), (3, vi (l + 1))] [] u (ri F)) ∧ (¬ ((u.1 139 l.toNatClampNeg) ≤ (0 : Int32)) → ((r = (0 : Int32) → vp_in l 6 ∧ MT G (D + 1) z_ring 42 [(0, vr 0), (1, vi w), (2, vi (u.1 139 l.toNatClampNeg)), (3, vi (l + 1))] [] u (ri F)) ∧ (¬ (r = (0 : Int32)) → vp_in l 6 ∧ ((r ≤ (u.1 139 l.toNatClampNeg) → MT G (D + 1) z_ring 42 [(0, vr 0), (1, vi w), (2, vi r), (3, vi (l + 1))] [] u (ri F)) ∧ (¬ (r ≤ (u.1 139 l.toNatClampNeg)) → vp_in l 6 ∧ MT G (D + 1) z_ring 42 [(0, vr 0), (1, vi w), (2, vi (u.1 139 l.toNatClampNeg)), (3, vi (l + 1))] [] u (ri F))))))) := by
            intro u mu
            have nx : ∀ r : Int32, MT G (D + 1) z_ring 42 [(0, vr 0), (1, vi w), (2, vi r), (3, vi (l + 1))] [] u (ri F) := fun r => ih u r (l + 1) mu (by omega) (by omega)
            exact ⟨lv, fun _ => nx _, fun _ => ⟨fun _ => ⟨lv, nx _⟩, fun _ => ⟨lv, fun _ => nx _, fun _ => ⟨lv, nx _⟩⟩⟩⟩
          intro m
          induction m with
          | zero =>
            intro u k mu k1' hm
            exact sg_ring_79 _ _ _ _ ⟨fun _ => last u mu, fun q => absurd (t_lt.mpr (by rw [f24 u mu]; omega)) q⟩
          | succ m ihm =>
            intro u k mu k1' hm
            refine sg_ring_79 _ _ _ _ ⟨fun _ => last u mu, fun q => ?_⟩
            rw [t_lt, f24 u mu] at q
            have ki : (k + 1).toInt = k.toInt + 1 := by rw [t_add (by omega) (by omega), k1]
            have p91 : ∀ (p : Nat) (u : gd) (i : Int32), mi [] [139] y u → 0 ≤ i.toInt → N.toInt - i.toInt ≤ p → MT G (D + 1) z_ring 91 [(0, vr 0), (1, vi w), (2, vi r), (3, vi l), (4, vi k), (5, vi i)] [] u (ri F) := by
              intro p
              induction p with
              | zero =>
                intro u i mu i0 hp
                exact sg_ring_91 _ _ _ _ _ ⟨fun _ => ihm u (k + 1) mu (by omega) (by omega), fun q => absurd (t_le.mpr (by rw [f24 u mu]; omega)) q⟩
              | succ p ihp =>
                intro u i mu i0 hp
                refine sg_ring_91 _ _ _ _ _ ⟨fun _ => ihm u (k + 1) mu (by omega) (by omega), fun q2 => ?_⟩
                rw [t_le, f24 u mu] at q2
                have iv : vp_in i 6 := by rw [vp_in_iff]; omega
                have ii : (i + 1).toInt = i.toInt + 1 := by rw [t_add (by omega) (by omega), k1]
                have p144 : ∀ (s : Nat) (u : gd) (v j : Int32), mi [] [139] y u → 0 ≤ j.toInt → N.toInt - j.toInt ≤ s → MT G (D + 1) z_ring 144 [(0, vr 0), (1, vi w), (2, vi r), (3, vi l), (4, vi k), (5, vi i), (6, vi v), (7, vi j)] [] u (ri F) := by
                  intro s
                  induction s with
                  | zero =>
                    intro u v j mu j0 hs
                    exact sg_ring_144 _ _ _ _ _ _ _ ⟨fun _ => ihp u (i + 1) mu (by omega) (by omega), fun q => absurd (t_le.mpr (by rw [f24 u mu]; omega)) q⟩
                  | succ s ihs =>
                    intro u v j mu j0 hs
                    refine sg_ring_144 _ _ _ _ _ _ _ ⟨fun _ => ihp u (i + 1) mu (by omega) (by omega), fun q3 => ⟨fun _ => ihp u (i + 1) mu (by omega) (by omega), fun _ => ?_⟩⟩
                    rw [t_le, f24 u mu] at q3
                    have jv : vp_in j 6 := by rw [vp_in_iff]; omega
                    have ji : (j + 1).toInt = j.toInt + 1 := by rw [t_add (by omega) (by omega), k1]
                    have a1 : (36 * w).toInt = 36 * w.toInt := by rw [t_mul (by rw [k36]; omega) (by rw [k36]; omega), k36]
                    have a2 : (6 * i).toInt = 6 * i.toInt := by rw [t_mul (by rw [k6]; omega) (by rw [k6]; omega), k6]
                    have a3 : (36 * w + 6 * i).toInt = 36 * w.toInt + 6 * i.toInt := by rw [t_add (by omega) (by omega), a1, a2]
                    refine ⟨by rw [vp_in_iff, t_add (by omega) (by omega), a3]; omega, fun _ => ihs u v (j + 1) mu (by omega) (by omega), fun _ => ⟨jv, fun _ => ihs u v (j + 1) mu (by omega) (by omega), fun _ => ⟨jv, fun u8 e8 => ihs u8 v (j + 1) (st u u8 _ _ mu e8) (by omega) (by omega)⟩⟩⟩
                have go : ∀ v : Int32, MT G (D + 1) z_ring 144 [(0, vr 0), (1, vi w), (2, vi r), (3, vi l), (4, vi k), (5, vi i), (6, vi v), (7, vi 0)] [] u (ri F) := fun v => p144 6 u v 0 mu (by decide) (by rw [k0]; omega)
                exact ⟨fun _ => ⟨iv, fun _ => go _, fun _ => go _⟩, fun _ => ⟨fun _ => go _, fun _ => go _⟩⟩
            exact p91 6 u 0 mu (by decide) (by rw [k0]; omega)
        have p53 : ∀ (m : Nat) (u : gd) (k : Int32), mi [] [139] y u → 0 ≤ k.toInt → N.toInt - k.toInt ≤ m → MT G (D + 1) z_ring 53 [(0, vr 0), (1, vi w), (2, vi r), (3, vi l), (4, vi k)] [] u (ri F) := by
          intro m
          induction m with
          | zero =>
            intro u k mu k0' hm
            exact sg_ring_53 _ _ _ _ ⟨fun _ => p79 6 u 1 mu (by decide) (by rw [k1]; omega), fun q => absurd (t_le.mpr (by rw [f24 u mu]; omega)) q⟩
          | succ m ihm =>
            intro u k mu k0' hm
            refine sg_ring_53 _ _ _ _ ⟨fun _ => p79 6 u 1 mu (by decide) (by rw [k1]; omega), fun q => ?_⟩
            rw [t_le, f24 u mu] at q
            have ki : (k + 1).toInt = k.toInt + 1 := by rw [t_add (by omega) (by omega), k1]
            exact ⟨by rw [vp_in_iff]; omega, fun u3 e3 => ihm u3 (k + 1) (st u u3 _ _ mu e3) (by omega) (by omega)⟩
        exact p53 6 u 0 mu (by decide) (by rw [k0]; omega)
    exact p42 6 y 0 0 ⟨fun _ _ => rfl, fun _ _ _ => rfl⟩ (by decide) (by rw [k0]; omega)
  exact sp_in _ _ _ ⟨fun cc => p20 0 (fun _ => (w_in (bi_ne.mp cc)).1), fun _ => p20 1 (fun q => absurd q (by decide))⟩
theorem sr_linear (q : MI z) (k : Int32) (hD : 5 ≤ D) (h : ∀ r z', rdM C wr z z' → F r z') : MT G D z_linear 0 [(0, vr 0), (1, vi k)] [] z (ri F) := by
  obtain ⟨D, rfl⟩ : ∃ D', D = D' + 2 := ⟨D - 2, by omega⟩
  have k1 : (1 : Int32).toInt = 1 := rfl
  refine sg_linear_0 _ (fun y e => ?_)
  have hy := z0_s e
  have no : ∀ y', mi [0] [] z y' → ri F (some (vi 0)) y' := fun y' m => ri_i (h 0 y' (rd_0 m q))
  have qy := (MI_0 hy.1 q).1
  refine sp_noRun hy (fun hr => ⟨fun q => absurd rfl q, fun _ => ?_⟩) (fun y' m => ⟨fun _ => no y' m, fun q => absurd q (by decide)⟩)
  obtain ⟨hc, s, n, q1, q2, q3, q4, q5, q6, ha⟩ := qy.2.2.1 hr
  have end' : ∀ (r : Int32) (u : gd), mi [107, 116] [109, 110, 111, 112, 113, 114, 115, 116, 118] y u → oA u → ri F (some (vi r)) u := fun r u m o => ri_i (h r u (by
    have p := rd_o (C := C) (wr := wr) m rfl rfl o qy
    exact rd_tr hy.1 p))
  have p57 : ∀ (c : Int32), c.toInt ≤ 400 → ∀ (m : Nat) (u : gd) (i : Int32), mi [107, 116] [109, 110, 111, 112, 113, 114, 115, 116, 118] y u → oA u → 0 ≤ i.toInt → c.toInt + 1 - i.toInt ≤ m → MT G (D + 2) z_linear 57 [(0, vr 0), (1, vi k), (2, vi c), (3, vi i)] [] u (ri F) := by
    intro c c4 m
    induction m with
    | zero =>
      intro u i mu ou i0 hm
      exact sg_linear_57 _ _ _ ⟨fun _ => end' _ u mu ou, fun q => absurd (t_lt.mpr (by omega)) q⟩
    | succ m ih =>
      intro u i mu ou i0 hm
      refine sg_linear_57 _ _ _ ⟨fun _ => end' _ u mu ou, fun q => ?_⟩
      rw [t_lt] at q
      have ii : (i + 1).toInt = i.toInt + 1 := by rw [t_add (by omega) (by omega), k1]
      refine sp_takeCalls (HA_mi mu rfl rfl ha) ou i (fun r v mv ov v0 v1 _ => sp_isLinear k v0 v1 (by omega) (fun r2 w mw => ?_))
      have ow' : oA w := oA_md mw (by decide) ov
      have myw : mi [107, 116] [109, 110, 111, 112, 113, 114, 115, 116, 118] y w := mi_tr (mi_tr (L3 := [107, 116]) (A3 := [109, 110, 111, 112, 113, 114, 115, 116, 118]) mu mv rfl rfl) (mi_of mw) rfl rfl
      exact ⟨fun _ => ih w (i + 1) myw ow' (by omega) (by omega), fun _ => end' _ w myw ow'⟩
  have p27 : ∀ b : Int32, MT G (D + 2) z_linear 27 [(0, vr 0), (1, vi k)] [vi b, vr 0] y (ri F) := by
    intro b
    refine sg_linear_27 _ _ (sp_ref b 2 hy (by decide) (fun _ => ⟨fun _ => ?_, fun q => absurd rfl q⟩) (fun _ y' m => ⟨fun q => absurd q (by decide), fun _ => no y' m⟩))
    refine sp_takeCalls ha qy.1.2.2.2.2.2 1000 (fun r v mv ov v0 v1 r4 => ⟨fun _ => ?_, fun _ => ?_⟩)
    · exact p57 r r4 _ v 1 (mi_w mv (by decide) (by decide)) ov (by decide) (Int.self_le_toNat _)
    · exact end' _ v (mi_w mv (by decide) (by decide)) ov
  exact sp_in _ _ _ ⟨fun _ => p27 0, fun _ => p27 1⟩
end RDX
