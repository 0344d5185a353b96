section
/-! the model: what calls that only look leave -/
def rdM (C : gCo) (wr : Nat) (z z' : gd) : Prop := PM z z' ∧ (z'.1 0 67 = z.1 0 67 ∧ z'.1 0 94 = z.1 0 94 ∧ z'.1 96 = z.1 96) ∧ z'.1 119 = z.1 119 ∧ (HistC C wr z → HistC C wr z') ∧ ∀ w T, TYc C w z T → TYc C w z' T
section RDM
variable {C : gCo} {wr : Nat} {z y u : gd}
theorem rd_mi {L A : List Nat} (m : mi L A z y) (hL : stL.all (fun k => !L.elem k) = true) (hA : (121 :: 122 :: 123 :: 124 :: 125 :: 127 :: 128 :: stA).all (fun k => !A.elem k) = true) (q : MI z) : rdM C wr z y := ⟨PM_mi m hL (all_sub hA rfl) q, ⟨m.1 67 (all_no hL 67 (by decide)), m.1 94 (all_no hL 94 (by decide)), m.2 96 (by decide) (all_no hA 96 (by decide))⟩, m.2 119 (by decide) (all_no hA 119 (by decide)), fun h => HistC_mi m (all_sub hL rfl) (all_sub hA rfl) h, fun w T h => TYc_mi m (all_sub hL rfl) (all_sub hA rfl) h⟩
theorem rd_0 (m : mi [0] [] z y) (q : MI z) : rdM C wr z y := rd_mi m rfl rfl q
theorem rd_o {L A : List Nat} (m : mi L A z y) (hL : stL.all (fun k => !L.elem k) = true) (hA : [121, 122, 124, 125, 127, 128, 2, 6, 7, 8, 36, 37, 38, 51, 52, 54, 55, 56, 57, 58, 59, 60, 61, 62, 64, 65, 66, 70, 71, 72, 73, 74, 75, 76, 77, 78, 79, 80, 81, 82, 86, 87, 88, 96, 98, 99, 100, 103, 106, 107, 119, 120, 123, 126, 130, 131, 132].all (fun k => !A.elem k) = true) (o : oA y) (q : MI z) : rdM C wr z y := ⟨MI_o m hL (all_sub hA rfl) o q, ⟨m.1 67 (all_no hL 67 (by decide)), m.1 94 (all_no hL 94 (by decide)), m.2 96 (by decide) (all_no hA 96 (by decide))⟩, m.2 119 (by decide) (all_no hA 119 (by decide)), fun h => HistC_mi m (all_sub hL rfl) (all_sub hA rfl) h, fun w T h => TYc_mi m (all_sub hL rfl) (all_sub hA rfl) h⟩
theorem rd_tr (m : mi [0] [] z y) (p : rdM C wr y u) : rdM C wr z u := by
  obtain ⟨p1, ⟨p2, p3, p4⟩, p5, p6, p7⟩ := p
  refine ⟨PM_0 m p1, ⟨?_, ?_, ?_⟩, ?_, fun h => p6 (HistC_0 m h), fun w T h => p7 w T (TYc_mi m rfl rfl h)⟩
  · rw [p2, m.1 67 (by decide)]
  · rw [p3, m.1 94 (by decide)]
  · rw [p4, m.2 96 (by decide) (by simp)]
  · rw [p5, m.2 119 (by decide) (by simp)]
end RDM
section RDX
variable {G : mG} {d D : Nat} {x z a : gd} {F : Int32 → gd → Prop} {Fv : gd → Prop} {C : gCo} {wr : Nat}
theorem sr_fault2 (q : MI z) (w : Int32) (h : ∀ r z', rdM C wr z z' → F r z') : MT G (D + 1) z_fault_ 0 [(0, vr 0), (1, vi w)] [] z (ri F) := by
  refine sg_fault__0 _ (fun y e => ?_)
  have hy := z0_s e
  have p20 : ∀ b : Int32, MT G (D + 1) z_fault_ 20 [(0, vr 0), (1, vi w)] [vi b, vr 0] y (ri F) := fun b => sg_fault__20 _ _ (sp_ref b 1 hy (by decide) (fun _ => ⟨fun _ => ⟨fun _ => ri_i (h _ y (rd_0 hy.1 q)), fun _ => ri_i (h _ y (rd_0 hy.1 q))⟩, fun q => absurd rfl q⟩) (fun _ y' m => ⟨fun q => absurd q (by decide), fun _ => ri_i (h _ y' (rd_0 m q))⟩))
  exact sp_in _ _ _ ⟨fun _ => p20 0, fun _ => p20 1⟩
theorem sr_count (q : MI z) (w : Int32) (h : ∀ r z', rdM C wr z z' → ((¬ (0 ≤ w.toInt ∧ w.toInt ≤ 4) → z'.1 0 0 = 1) ∧ ((0 ≤ w.toInt ∧ w.toInt ≤ 4) → z'.1 0 0 = 0 ∧ cntM z w r)) → F r z') : MT G (D + 1) z_count 0 [(0, vr 0), (1, vi w)] [] z (ri F) := by
  have k0 : (0 : Int32).toInt = 0 := rfl
  have k1 : (1 : Int32).toInt = 1 := rfl
  have k2 : (2 : Int32).toInt = 2 := rfl
  have k3 : (3 : Int32).toInt = 3 := rfl
  have k4 : (4 : Int32).toInt = 4 := rfl
  refine sg_count_0 _ (fun y e => ?_)
  have hy := z0_s e
  have f := fun k (hk : ¬ k = 0) => hy.1.1 k (fun z => hk (List.mem_singleton.mp z))
  have ok : (0 ≤ w.toInt ∧ w.toInt ≤ 4) → ∀ r, cntM z w r → ri F (some (vi r)) y := fun hw r hr => ri_i (h _ y (rd_0 hy.1 q) ⟨fun z => absurd hw z, fun _ => ⟨hy.2, hr⟩⟩)
  have p20 : ∀ b : Int32, (b = 0 → 0 ≤ w.toInt ∧ w.toInt ≤ 4) → (¬ b = 0 → ¬ (0 ≤ w.toInt ∧ w.toInt ≤ 4)) → MT G (D + 1) z_count 20 [(0, vr 0), (1, vi w)] [vi b, vr 0] y (ri F) := by
    intro b hb hb2
    refine sg_count_20 _ _ (sp_refuses b 1 hy.2 (by decide) (fun c => ⟨fun _ => ?_, fun q => absurd rfl q⟩) (fun c => ⟨fun q => absurd q (by decide), fun _ => ri_i (h _ _ (rd_0 (mi_tr hy.1 (mi_of (md_f y 0 1)) rfl rfl) q) ⟨fun _ => by rw [si_get, if_pos ⟨rfl, rfl⟩], fun z => absurd z (hb2 c)⟩)⟩))
    have hw := hb c
    rw [f 23 (by decide), f 24 (by decide), f 25 (by decide), f 26 (by decide), f 27 (by decide)]
    refine ⟨fun n0 => ⟨fun n1 => ⟨fun n2 => ⟨fun n3 => ok hw _ ?_, fun e3 => ok hw _ (Or.inr (Or.inr (Or.inr (Or.inl ⟨e3, rfl⟩))))⟩, fun e2 => ok hw _ (Or.inr (Or.inr (Or.inl ⟨e2, rfl⟩)))⟩, fun e1 => ok hw _ (Or.inr (Or.inl ⟨e1, rfl⟩))⟩, fun e0 => ok hw _ (Or.inl ⟨e0, rfl⟩)⟩
    refine Or.inr (Or.inr (Or.inr (Or.inr ⟨?_, rfl⟩)))
    rw [t_eq, k0] at n0
    rw [t_eq, k1] at n1
    rw [t_eq, k2] at n2
    rw [t_eq, k3] at n3
    rw [t_eq, k4]
    omega
  refine sp_in _ _ _ ⟨fun c => p20 0 (fun _ => ?_) (fun z => absurd rfl z), fun c => p20 1 (fun z => absurd z (by decide)) (fun _ z => ?_)⟩
  · obtain ⟨c1, c2⟩ := bi_ne.mp c
    rw [t_le, k0] at c1
    rw [t_le, k4] at c2
    exact ⟨c1, c2⟩
  · refine bi_eq.mp c ⟨t_le.mpr ?_, t_le.mpr ?_⟩
    · rw [k0]; exact z.1
    · rw [k4]; exact z.2
theorem sr_run (q : MI z) (w : Int32) (hD : 4 ≤ D) (h : ∀ r z', rdM C wr z z' → F r z') : MT G D z_run 0 [(0, vr 0), (1, vi w)] [] z (ri F) := by
  obtain ⟨D, rfl⟩ : ∃ D', D = D' + 3 := ⟨D - 3, by omega⟩
  have k0 : (0 : Int32).toInt = 0 := rfl
  have k1 : (1 : Int32).toInt = 1 := rfl
  refine sg_run_0 _ (fun y e => ?_)
  have hy := z0_s e
  have no : ∀ y', mi [0] [] z y' → ri F (some (vi 0)) y' := fun y' m => ri_i (h 0 y' (rd_0 m q))
  have ok : ∀ r, ri F (some (vi r)) y := fun r => ri_i (h r y (rd_0 hy.1 q))
  have qy := (MI_0 hy.1 q).1
  refine sp_noRun hy (fun hr => ⟨fun q => absurd rfl q, fun _ => ?_⟩) (fun y' m => ⟨fun _ => no y' m, fun q => absurd q (by decide)⟩)
  obtain ⟨cp, ⟨a1, a2, a3, a4, a5⟩, rt⟩ := RS_of qy hr
  have b25 := cp.1.2.2.2.2.2.1
  have av : ∀ i : Int32, 0 ≤ i.toInt → i.toInt < (y.1 0 96).toInt → vp_in i 400 ∧ aA y i.toNatClampNeg := fun i i0 i1 => ⟨by rw [vp_in_iff]; omega, a4 _ (by have := cl_i i0; omega)⟩
  have p125 : ∀ (n : Nat) (s b : Int32), 0 ≤ b.toInt → (y.1 0 96).toInt - b.toInt ≤ n → MT G (D + 3) z_run 125 [(0, vr 0), (2, vi s), (3, vi b)] [] y (ri F) := by
    intro n
    induction n with
    | zero =>
      intro s b b0 hn
      exact sg_run_125 _ _ ⟨fun _ => ok _, fun c => absurd (t_le.mpr (by omega)) c⟩
    | succ n ih =>
      intro s b b0 hn
      refine sg_run_125 _ _ ⟨fun _ => ok _, fun c => ?_⟩
      rw [t_le] at c
      have bi' : (b + 1).toInt = b.toInt + 1 := by rw [t_add (by omega) (by omega), k1]
      have p136 : ∀ (m : Nat) (s i : Int32), 0 ≤ i.toInt → b.toInt - i.toInt ≤ m → MT G (D + 3) z_run 136 [(0, vr 0), (2, vi s), (3, vi b), (4, vi i)] [] y (ri F) := by
        intro m
        induction m with
        | zero =>
          intro s i i0 hm
          exact sg_run_136 _ _ _ ⟨fun _ => ih _ _ (by omega) (by omega), fun c => absurd (t_le.mpr (by omega)) c⟩
        | succ m ihm =>
          intro s i i0 hm
          refine sg_run_136 _ _ _ ⟨fun _ => ih _ _ (by omega) (by omega), fun c2 => ?_⟩
          rw [t_le] at c2
          have ii : (i + 1).toInt = i.toInt + 1 := by rw [t_add (by omega) (by omega), k1]
          exact sp_isRace _ _ (av i i0 (by omega)).1 (av b b0 (by omega)).1 (av i i0 (by omega)).2 (fun r => sp_one _ (fun r2 => ihm _ _ (by omega) (by omega)))
      exact p136 b.toInt.toNat s 0 (by decide) (by rw [k0]; omega)
  have p171 : ∀ (n : Nat) (s b : Int32), 0 ≤ b.toInt → (y.1 0 96).toInt - b.toInt ≤ n → MT G (D + 3) z_run 171 [(0, vr 0), (2, vi s), (3, vi b)] [] y (ri F) := by
    intro n
    induction n with
    | zero =>
      intro s b b0 hn
      exact sg_run_171 _ _ ⟨fun _ => ok _, fun c => absurd (t_le.mpr (by omega)) c⟩
    | succ n ih =>
      intro s b b0 hn
      refine sg_run_171 _ _ ⟨fun _ => ok _, fun c => ?_⟩
      rw [t_le] at c
      have bi' : (b + 1).toInt = b.toInt + 1 := by rw [t_add (by omega) (by omega), k1]
      have p205 : ∀ v : Int32, MT G (D + 3) z_run 205 [(0, vr 0), (3, vi b)] [vi v, vi s] y (ri F) := fun v => sg_run_205 _ _ _ (sp_one _ (fun r => ih _ _ (by omega) (by omega)))
      have bv := (av b b0 (by omega)).1
      exact ⟨bv, fun _ => p205 _, fun _ => ⟨bv, fun _ => p205 _, fun _ => p205 _⟩⟩
  have p220 : ∀ (n : Nat) (s b : Int32), 0 ≤ b.toInt → (y.1 0 25).toInt - b.toInt ≤ n → MT G (D + 3) z_run 220 [(0, vr 0), (2, vi s), (3, vi b)] [] y (ri F) := by
    intro n
    induction n with
    | zero =>
      intro s b b0 hn
      exact sg_run_220 _ _ ⟨fun _ => ok _, fun c => absurd (t_le.mpr (by omega)) c⟩
    | succ n ih =>
      intro s b b0 hn
      refine sg_run_220 _ _ ⟨fun _ => ok _, fun c => ?_⟩
      rw [t_le] at c
      have bi' : (b + 1).toInt = b.toInt + 1 := by rw [t_add (by omega) (by omega), k1]
      exact ⟨by rw [vp_in_iff]; omega, ih _ _ (by omega) (by omega)⟩
  have p111 : ∀ v : Int32, MT G (D + 3) z_run 111 [(0, vr 0)] [vi v] y (ri F) := fun v => sg_run_111 _ (sp_one _ (fun r => ok _))
  have p28 : ∀ b : Int32, MT G (D + 3) z_run 28 [(0, vr 0), (1, vi w)] [vi b, vr 0] y (ri F) := fun b => sg_run_28 _ _ (sp_ref b 2 hy (by decide) (fun _ => ⟨fun _ => ⟨fun _ => ok _, fun _ => ok _, fun _ => ok _, fun _ => ⟨fun _ => p111 _, fun _ => p111 _⟩, fun _ => sp_isStuck b25 (fun r => sp_one _ (fun r => ok _)), fun _ => p125 400 0 0 (by decide) (by rw [k0]; omega), fun _ => p171 400 0 0 (by decide) (by rw [k0]; omega), fun _ => p220 6 0 0 (by decide) (by rw [k0]; omega)⟩, fun q => absurd rfl q⟩) (fun _ y' m => ⟨fun q => absurd q (by decide), fun _ => no y' m⟩))
  exact sp_in _ _ _ ⟨fun _ => p28 _, fun _ => p28 _⟩
theorem sr_lock (q : MI z) (l w : Int32) (hD : 3 ≤ D) (h : ∀ r z', rdM C wr z z' → F r z') : MT G D z_lock 0 [(0, vr 0), (1, vi l), (2, vi w)] [] z (ri F) := by
  obtain ⟨D, rfl⟩ : ∃ D', D = D' + 2 := ⟨D - 2, by omega⟩
  have k0 : (0 : Int32).toInt = 0 := rfl
  have k1 : (1 : Int32).toInt = 1 := rfl
  refine sg_lock_0 _ _ (fun y e => ?_)
  have hy := z0_s e
  have no : ∀ y', mi [0] [] z y' → ri F (some (vi 0)) y' := fun y' m => ri_i (h 0 y' (rd_0 m q))
  have ok : ∀ r, ri F (some (vi r)) y := fun r => ri_i (h r y (rd_0 hy.1 q))
  have qy := (MI_0 hy.1 q).1
  refine sp_noRun hy (fun hr => ⟨fun q => absurd rfl q, fun _ => ?_⟩) (fun y' m => ⟨fun _ => no y' m, fun q => absurd q (by decide)⟩)
  obtain ⟨cp, _, rt⟩ := RS_of qy hr
  have g := cp.1
  have g6 := g.2.2.2.2.2.1
  have g24 := g.2.2.2.1
  have p55 : vp_in l 6 → ∀ (n : Nat) (s t : Int32), 0 ≤ t.toInt → (y.1 0 25).toInt - t.toInt ≤ n → MT G (D + 2) z_lock 55 [(0, vr 0), (1, vi l), (2, vi w), (3, vi s), (4, vi t)] [] y (ri F) := by
    intro lv n
    induction n with
    | zero =>
      intro s t t0 hn
      exact sg_lock_55 _ _ _ _ ⟨fun _ => ⟨fun _ => ⟨fun _ => ok _, fun _ => ⟨lv, ok _⟩⟩, fun _ => ⟨lv, ok _⟩⟩, fun c => absurd (t_le.mpr (by omega)) c⟩
    | succ n ih =>
      intro s t t0 hn
      refine sg_lock_55 _ _ _ _ ⟨fun _ => ⟨fun _ => ⟨fun _ => ok _, fun _ => ⟨lv, ok _⟩⟩, fun _ => ⟨lv, ok _⟩⟩, fun c => ?_⟩
      rw [t_le] at c
      have tv : vp_in t 6 := by rw [vp_in_iff]; omega
      have ti : (t + 1).toInt = t.toInt + 1 := by rw [t_add (by omega) (by omega), k1]
      have r := rt _ (vt tv)
      have p97 : ∀ v : Int32, MT G (D + 2) z_lock 97 [(0, vr 0), (1, vi l), (2, vi w), (4, vi t)] [vi v, vi s] y (ri F) := fun v => sg_lock_97 _ _ _ _ _ (sp_one _ (fun r => ih _ _ (by omega) (by omega)))
      exact ⟨tv, fun _ => p97 _, fun _ => ⟨tv, by rw [vp_in_iff]; exact ⟨r.1, r.2.1⟩, fun _ => p97 _, fun _ => p97 _⟩⟩
  have p41 : ∀ b : Int32, (b = 0 → 0 ≤ l.toInt ∧ l.toInt < (y.1 0 24).toInt) → MT G (D + 2) z_lock 41 [(0, vr 0), (1, vi l), (2, vi w)] [vi b, vr 0] y (ri F) := fun b hb => sg_lock_41 _ _ _ (sp_ref b 2 hy (by decide) (fun b0 => ⟨fun _ => p55 (by rw [vp_in_iff]; have := hb b0; omega) 6 0 0 (by decide) (by rw [k0]; omega), fun q => absurd rfl q⟩) (fun _ y' m => ⟨fun q => absurd q (by decide), fun _ => no y' m⟩))
  exact sp_in _ _ _ ⟨fun _ => p41 1 (fun q => absurd q (by decide)), fun c1 => sp_in _ _ _ ⟨fun _ => p41 0 (fun _ => in_lt (bi_ne.mp c1) g.2.2.1), fun _ => p41 1 (fun q => absurd q (by decide))⟩⟩
theorem sr_thread (q : MI z) (t w : Int32) (hD : 3 ≤ D) (h : ∀ r z', rdM C wr z z' → F r z') : MT G D z_thread 0 [(0, vr 0), (1, vi t), (2, vi w)] [] z (ri F) := by
  obtain ⟨D, rfl⟩ : ∃ D', D = D' + 2 := ⟨D - 2, by omega⟩
  refine sg_thread_0 _ _ (fun y e => ?_)
  have hy := z0_s e
  have no : ∀ y', mi [0] [] z y' → ri F (some (vi 0)) y' := fun y' m => ri_i (h 0 y' (rd_0 m q))
  have ok : ∀ r, ri F (some (vi r)) y := fun r => ri_i (h r y (rd_0 hy.1 q))
  have qy := (MI_0 hy.1 q).1
  refine sp_noRun hy (fun hr => ⟨fun q => absurd rfl q, fun _ => ?_⟩) (fun y' m => ⟨fun _ => no y' m, fun q => absurd q (by decide)⟩)
  obtain ⟨cp, _, rt⟩ := RS_of qy hr
  have g := cp.1
  have g6 := g.2.2.2.2.2.1
  have p41 : ∀ b : Int32, (b = 0 → 0 ≤ t.toInt ∧ t.toInt < (y.1 0 25).toInt) → MT G (D + 2) z_thread 41 [(0, vr 0), (1, vi t), (2, vi w)] [vi b, vr 0] y (ri F) := by
    intro b hb
    refine sg_thread_41 _ _ _ (sp_ref b 2 hy (by decide) (fun b0 => ⟨fun _ => ?_, fun q => absurd rfl q⟩) (fun _ y' m => ⟨fun q => absurd q (by decide), fun _ => no y' m⟩))
    have tv : vp_in t 6 := by rw [vp_in_iff]; have := hb b0; omega
    have r := rt _ (vt tv)
    have av : vp_in (y.1 74 t.toNatClampNeg) 1500 := by rw [vp_in_iff]; exact ⟨r.1, r.2.1⟩
    exact ⟨fun _ => ⟨fun _ => ⟨fun _ => ⟨fun _ => ⟨tv, fun _ => ok _, fun _ => ⟨tv, av, ok _⟩⟩, fun _ => sp_knownOf t tv av (fun r => sp_ones _ (fun r => ok _))⟩, fun _ => ⟨tv, ok _⟩⟩, fun _ => ⟨tv, ok _⟩⟩, fun _ => ⟨tv, ok _⟩⟩
  exact sp_in _ _ _ ⟨fun _ => p41 1 (fun q => absurd q (by decide)), fun c1 => sp_in _ _ _ ⟨fun _ => p41 0 (fun _ => in_lt (bi_ne.mp c1) g.2.2.2.2.1), fun _ => p41 1 (fun q => absurd q (by decide))⟩⟩
theorem sr_act (q : MI z) (a w : Int32) (hD : 3 ≤ D) (h : ∀ r z', rdM C wr z z' → F r z') : MT G D z_act 0 [(0, vr 0), (1, vi a), (2, vi w)] [] z (ri F) := by
  obtain ⟨D, rfl⟩ : ∃ D', D = D' + 2 := ⟨D - 2, by omega⟩
  refine sg_act_0 _ _ (fun y e => ?_)
  have hy := z0_s e
  have no : ∀ y', mi [0] [] z y' → ri F (some (vi 0)) y' := fun y' m => ri_i (h 0 y' (rd_0 m q))
  have ok : ∀ r, ri F (some (vi r)) y := fun r => ri_i (h r y (rd_0 hy.1 q))
  have qy := (MI_0 hy.1 q).1
  refine sp_noRun hy (fun hr => ⟨fun q => absurd rfl q, fun _ => ?_⟩) (fun y' m => ⟨fun _ => no y' m, fun q => absurd q (by decide)⟩)
  obtain ⟨cp, ⟨a1, a2, a3, _⟩, rt⟩ := RS_of qy hr
  have p41 : ∀ b : Int32, (b = 0 → 0 ≤ a.toInt ∧ a.toInt < (y.1 0 96).toInt) → MT G (D + 2) z_act 41 [(0, vr 0), (1, vi a), (2, vi w)] [vi b, vr 0] y (ri F) := by
    intro b hb
    refine sg_act_41 _ _ _ (sp_ref b 2 hy (by decide) (fun b0 => ⟨fun _ => ?_, fun q => absurd rfl q⟩) (fun _ y' m => ⟨fun q => absurd q (by decide), fun _ => no y' m⟩))
    have av : vp_in a 400 := by rw [vp_in_iff]; have := hb b0; omega
    exact ⟨fun _ => ⟨fun _ => ⟨fun _ => ⟨fun _ => ⟨av, ok _⟩, fun _ => ⟨av, ok _⟩⟩, fun _ => ⟨av, ok _⟩⟩, fun _ => ⟨av, ok _⟩⟩, fun _ => ⟨av, ok _⟩⟩
  exact sp_in _ _ _ ⟨fun _ => p41 1 (fun q => absurd q (by decide)), fun c1 => sp_in _ _ _ ⟨fun _ => p41 0 (fun _ => in_lt (bi_ne.mp c1) a1), fun _ => p41 1 (fun q => absurd q (by decide))⟩⟩
theorem sr_before (q : MI z) (a b : Int32) (hD : 3 ≤ D) (h : ∀ r z', rdM C wr z z' → F r z') : MT G D z_before 0 [(0, vr 0), (1, vi a), (2, vi b)] [] z (ri F) := by
  obtain ⟨D, rfl⟩ : ∃ D', D = D' + 2 := ⟨D - 2, by omega⟩
  refine sg_before_0 _ _ (fun y e => ?_)
  have hy := z0_s e
  have no : ∀ y', mi [0] [] z y' → ri F (some (vi 0)) y' := fun y' m => ri_i (h 0 y' (rd_0 m q))
  have ok : ∀ r, ri F (some (vi r)) y := fun r => ri_i (h r y (rd_0 hy.1 q))
  have qy := (MI_0 hy.1 q).1
  refine sp_noRun hy (fun hr => ⟨fun q => absurd rfl q, fun _ => ?_⟩) (fun y' m => ⟨fun _ => no y' m, fun q => absurd q (by decide)⟩)
  obtain ⟨cp, ⟨a1, a2, a3, _⟩, rt⟩ := RS_of qy hr
  have p46 : ∀ v : Int32, (v = 0 → (0 ≤ a.toInt ∧ a.toInt < (y.1 0 96).toInt) ∧ 0 ≤ b.toInt ∧ b.toInt < (y.1 0 96).toInt) → MT G (D + 2) z_before 46 [(0, vr 0), (1, vi a), (2, vi b)] [vi v, vr 0] y (ri F) := by
    intro v hv
    refine sg_before_46 _ _ _ (sp_ref v 2 hy (by decide) (fun v0 => ⟨fun q => absurd rfl q, fun _ => ?_⟩) (fun _ y' m => ⟨fun _ => no y' m, fun q => absurd q (by decide)⟩))
    have hh := hv v0
    exact sp_isSooner a b (by rw [vp_in_iff]; omega) (by rw [vp_in_iff]; omega) (fun r => ⟨fun _ => ok _, fun _ => ok _⟩)
  exact sp_in _ _ _ ⟨fun _ => p46 1 (fun q => absurd q (by decide)), fun c1 => sp_in _ _ _ ⟨fun c2 => p46 0 (fun _ => ⟨in_lt (bi_ne.mp c1) a1, in_lt (bi_ne.mp c2) a1⟩), fun _ => p46 1 (fun q => absurd q (by decide))⟩⟩
theorem sr_race (q : MI z) (i w : Int32) (hD : 4 ≤ D) (h : ∀ r z', rdM C wr z z' → F r z') : MT G D z_race 0 [(0, vr 0), (1, vi i), (2, vi w)] [] z (ri F) := by
  obtain ⟨D, rfl⟩ : ∃ D', D = D' + 3 := ⟨D - 3, by omega⟩
  have k0 : (0 : Int32).toInt = 0 := rfl
  have k1 : (1 : Int32).toInt = 1 := rfl
  refine sg_race_0 _ _ (fun y e => ?_)
  have hy := z0_s e
  have no : ∀ y', mi [0] [] z y' → ri F (some (vi 0)) y' := fun y' m => ri_i (h 0 y' (rd_0 m q))
  have ok : ∀ r, ri F (some (vi r)) y := fun r => ri_i (h r y (rd_0 hy.1 q))
  have qy := (MI_0 hy.1 q).1
  refine sp_noRun hy (fun hr => ⟨fun _ => ?_, fun q => absurd rfl q⟩) (fun y' m => ⟨fun q => absurd q (by decide), fun _ => no y' m⟩)
  obtain ⟨cp, ⟨a1, a2, a3, a4, a5⟩, rt⟩ := RS_of qy hr
  have av : ∀ i : Int32, 0 ≤ i.toInt → i.toInt < (y.1 0 96).toInt → vp_in i 400 ∧ aA y i.toNatClampNeg := fun i i0 i1 => ⟨by rw [vp_in_iff]; omega, a4 _ (by have := cl_i i0; omega)⟩
  have p90 : MT G (D + 3) z_race 90 [(0, vr 0)] [] y (ri F) := sg_race_90 (sp_ref 1 2 hy (by decide) (fun q => absurd q (by decide)) (fun _ y' m => no y' m))
  have p19 : ∀ (n : Nat) (s b : Int32), 0 ≤ b.toInt → (y.1 0 96).toInt - b.toInt ≤ n → MT G (D + 3) z_race 19 [(0, vr 0), (1, vi i), (2, vi w), (3, vi s), (4, vi b)] [] y (ri F) := by
    intro n
    induction n with
    | zero =>
      intro s b b0 hn
      exact sg_race_19 _ _ _ _ ⟨fun _ => p90, fun c => absurd (t_le.mpr (by omega)) c⟩
    | succ n ih =>
      intro s b b0 hn
      refine sg_race_19 _ _ _ _ ⟨fun _ => p90, fun c => ?_⟩
      rw [t_le] at c
      have bi' : (b + 1).toInt = b.toInt + 1 := by rw [t_add (by omega) (by omega), k1]
      have p40 : ∀ (m : Nat) (s k : Int32), 0 ≤ k.toInt → b.toInt - k.toInt ≤ m → MT G (D + 3) z_race 40 [(0, vr 0), (1, vi i), (2, vi w), (3, vi s), (4, vi b), (5, vi k)] [] y (ri F) := by
        intro m
        induction m with
        | zero =>
          intro s k k0' hm
          exact sg_race_40 _ _ _ _ _ ⟨fun _ => ih _ _ (by omega) (by omega), fun c => absurd (t_le.mpr (by omega)) c⟩
        | succ m ihm =>
          intro s k k0' hm
          refine sg_race_40 _ _ _ _ _ ⟨fun _ => ih _ _ (by omega) (by omega), fun c2 => ?_⟩
          rw [t_le] at c2
          have ki : (k + 1).toInt = k.toInt + 1 := by rw [t_add (by omega) (by omega), k1]
          exact sp_isRace _ _ (av k k0' (by omega)).1 (av b b0 (by omega)).1 (av k k0' (by omega)).2 (fun r => ⟨fun _ => ihm _ _ (by omega) (by omega), fun _ => ⟨fun _ => ihm _ _ (by omega) (by omega), fun _ => ⟨fun _ => ok _, fun _ => ok _⟩⟩⟩)
      exact sp_in _ _ _ ⟨fun _ => p90, fun _ => p40 b.toInt.toNat s 0 (by decide) (by rw [k0]; omega)⟩
  exact p19 400 0 0 (by decide) (by rw [k0]; omega)
theorem sr_outcome (q : MI z) (w i c : Int32) (hD : 3 ≤ D) (h : ∀ r z', rdM C wr z z' → F r z') : MT G D z_outcome 0 [(0, vr 0), (1, vi w), (2, vi i), (3, vi c)] [] z (ri F) := by
  obtain ⟨D, rfl⟩ : ∃ D', D = D' + 1 := ⟨D - 1, by omega⟩
  refine sg_outcome_0 _ _ _ (fun y e => ?_)
  have hy := z0_s e
  have no : ∀ y', mi [0] [] z y' → ri F (some (vi 0)) y' := fun y' m => ri_i (h 0 y' (rd_0 m q))
  have ok : ∀ r, ri F (some (vi r)) y := fun r => ri_i (h r y (rd_0 hy.1 q))
  have qy := (MI_0 hy.1 q).1
  have p72 : ∀ b : Int32, (b = 0 → vp_in w 2 ∧ (0 ≤ i.toInt ∧ i.toInt < 3000) ∧ 0 ≤ c.toInt ∧ c.toInt < 24) → MT G (D + 1) z_outcome 72 [(0, vr 0), (1, vi w), (2, vi i), (3, vi c)] [vi b, vr 0] y (ri F) := fun b hb => sg_outcome_72 _ _ _ _ (sp_ref b 2 hy (by decide) (fun b0 => ⟨fun _ => ⟨t72 (hb b0).1 (hb b0).2.1.1 (hb b0).2.1.2 (hb b0).2.2.1 (hb b0).2.2.2, ok _⟩, fun q => absurd rfl q⟩) (fun _ y' m => ⟨fun q => absurd q (by decide), fun _ => no y' m⟩))
  have p20 : ∀ b : Int32, (b = 0 → vp_in w 2) → MT G (D + 1) z_outcome 20 [(0, vr 0), (1, vi w), (2, vi i), (3, vi c)] [vi b, vr 0] y (ri F) := by
    intro b hb
    refine sg_outcome_20 _ _ _ _ (sp_ref b 1 hy (by decide) (fun b0 => ⟨fun q => absurd rfl q, fun _ => ?_⟩) (fun _ y' m => ⟨fun _ => no y' m, fun q => absurd q (by decide)⟩))
    have wv := hb b0
    refine ⟨wv, fun _ => p72 1 (fun q => absurd q (by decide)), fun tr => ⟨wv, ?_⟩⟩
    obtain ⟨hc, A, t1, t2, t3, t4, t5, _⟩ := qy.2.2.2 _ (vp_lt wv) tr
    have g := (qy.2.1 hc).1
    refine sp_in _ _ _ ⟨fun _ => p72 1 (fun q => absurd q (by decide)), fun c1 => sp_in _ _ _ ⟨fun c2 => p72 0 (fun _ => ?_), fun _ => p72 1 (fun q => absurd q (by decide))⟩⟩
    have a1 := in_lt (bi_ne.mp c1) t4
    have a2 := in_lt (bi_ne.mp c2) g.1
    have g2 := g.2.1
    exact ⟨wv, ⟨a1.1, by omega⟩, a2.1, by omega⟩
  exact sp_in _ _ _ ⟨fun cc => p20 0 (fun _ => (w_in (bi_ne.mp cc)).1), fun _ => p20 1 (fun q => absurd q (by decide))⟩
theorem sr_alike (q : MI z) (h : ∀ r z', rdM C wr z z' → F r z') : MT G d z_alike 0 [(0, vr 0)] [] z (ri F) := by
  have k0 : (0 : Int32).toInt = 0 := rfl
  have k1 : (1 : Int32).toInt = 1 := rfl
  have k24 : (24 : Int32).toInt = 24 := rfl
  have k72 : (72000 : Int32).toInt = 72000 := rfl
  have z0' : (0 : Int32).toNatClampNeg = 0 := rfl
  have v0 : vp_in 0 2 := vp_in_iff.mpr (by decide)
  have v1 : vp_in 1 2 := vp_in_iff.mpr (by decide)
  refine sg_alike_0 (fun y e => ?_)
  have hy := z0_s e
  have ok : ∀ r, ri F (some (vi r)) y := fun r => ri_i (h r y (rd_0 hy.1 q))
  have qy := (MI_0 hy.1 q).1
  refine ⟨v0, fun _ => ok _, fun tr => ⟨v1, fun _ => ok _, fun _ => ⟨v0, fun _ => ok _, fun _ => ⟨v1, fun _ => ⟨v0, v1, fun _ => ?_, fun _ => ok _⟩, fun _ => ok _⟩⟩⟩⟩
  obtain ⟨hc, A, t1, t2, t3, t4, t5, _⟩ := qy.2.2.2 _ (vp_lt v0) tr
  obtain ⟨O, eO⟩ : ∃ O, O = y.1 123 (0 : Int32).toNatClampNeg := ⟨_, rfl⟩
  rw [← eO] at t4 t5
  have bO : (24 * O).toInt = 24 * O.toInt := by rw [t_mul (by rw [k24]; omega) (by rw [k24]; omega), k24]
  have loop : ∀ (n : Nat) (i : Int32), 0 ≤ i.toInt → 72000 - i.toInt ≤ n → MT G d z_alike 62 [(0, vr 0), (1, vi i)] [] y (ri F) := by
    intro n
    induction n with
    | zero =>
      intro i i0 hn
      refine sg_alike_62 _ ⟨v0, ?_⟩
      rw [← eO]
      exact ⟨fun _ => ok _, fun c => absurd (t_le.mpr (by omega)) c⟩
    | succ n ih =>
      intro i i0 hn
      refine sg_alike_62 _ ⟨v0, ?_⟩
      rw [← eO]
      refine ⟨fun _ => ok _, fun c => ?_⟩
      rw [t_le, bO] at c
      have ii : (i + 1).toInt = i.toInt + 1 := by rw [t_add (by omega) (by omega), k1]
      exact ⟨by rw [vp_in_iff]; omega, by rw [vp_in_iff, t_add (by omega) (by omega), k72]; omega, fun _ => ih _ (by omega) (by omega), fun _ => ok _⟩
  exact loop 72000 0 (by decide) (by decide)
theorem sr_linear (q : MI z) (k : Int32) (hD : 5 ≤ D) (h : ∀ r z', rdM C wr z z' → F r z') : MT G D z_linear 0 [(0, vr 0), (1, vi k)] [] z (ri F) := by
  obtain ⟨D, rfl⟩ : ∃ D', D = D' + 2 := ⟨D - 2, by omega⟩
  have k1 : (1 : Int32).toInt = 1 := rfl
  refine sg_linear_0 _ (fun y e => ?_)
  have hy := z0_s e
  have no : ∀ y', mi [0] [] z y' → ri F (some (vi 0)) y' := fun y' m => ri_i (h 0 y' (rd_0 m q))
  have qy := (MI_0 hy.1 q).1
  refine sp_noRun hy (fun hr => ⟨fun q => absurd rfl q, fun _ => ?_⟩) (fun y' m => ⟨fun _ => no y' m, fun q => absurd q (by decide)⟩)
  obtain ⟨hc, s, n, q1, q2, q3, q4, q5, q6, ha⟩ := qy.2.2.1 hr
  have end' : ∀ (r : Int32) (u : gd), mi [107, 116] [109, 110, 111, 112, 113, 114, 115, 116, 118] y u → oA u → ri F (some (vi r)) u := fun r u m o => ri_i (h r u (by
    have p := rd_o (C := C) (wr := wr) m rfl rfl o qy
    exact rd_tr hy.1 p))
  have p57 : ∀ (c : Int32), c.toInt ≤ 400 → ∀ (m : Nat) (u : gd) (i : Int32), mi [107, 116] [109, 110, 111, 112, 113, 114, 115, 116, 118] y u → oA u → 0 ≤ i.toInt → c.toInt + 1 - i.toInt ≤ m → MT G (D + 2) z_linear 57 [(0, vr 0), (1, vi k), (2, vi c), (3, vi i)] [] u (ri F) := by
    intro c c4 m
    induction m with
    | zero =>
      intro u i mu ou i0 hm
      exact sg_linear_57 _ _ _ ⟨fun _ => end' _ u mu ou, fun q => absurd (t_lt.mpr (by omega)) q⟩
    | succ m ih =>
      intro u i mu ou i0 hm
      refine sg_linear_57 _ _ _ ⟨fun _ => end' _ u mu ou, fun q => ?_⟩
      rw [t_lt] at q
      have ii : (i + 1).toInt = i.toInt + 1 := by rw [t_add (by omega) (by omega), k1]
      refine sp_takeCalls (HA_mi mu rfl rfl ha) ou i (fun r v mv ov v0 v1 _ => sp_isLinear k v0 v1 (by omega) (fun r2 w mw => ?_))
      have ow' : oA w := oA_md mw (by decide) ov
      have myw : mi [107, 116] [109, 110, 111, 112, 113, 114, 115, 116, 118] y w := mi_tr (mi_tr (L3 := [107, 116]) (A3 := [109, 110, 111, 112, 113, 114, 115, 116, 118]) mu mv rfl rfl) (mi_of mw) rfl rfl
      exact ⟨fun _ => ih w (i + 1) myw ow' (by omega) (by omega), fun _ => end' _ w myw ow'⟩
  have p27 : ∀ b : Int32, MT G (D + 2) z_linear 27 [(0, vr 0), (1, vi k)] [vi b, vr 0] y (ri F) := by
    intro b
    refine sg_linear_27 _ _ (sp_ref b 2 hy (by decide) (fun _ => ⟨fun _ => ?_, fun q => absurd rfl q⟩) (fun _ y' m => ⟨fun q => absurd q (by decide), fun _ => no y' m⟩))
    refine sp_takeCalls ha qy.1.2.2.2.2.2 1000 (fun r v mv ov v0 v1 r4 => ⟨fun _ => ?_, fun _ => ?_⟩)
    · exact p57 r r4 _ v 1 (mi_w mv (by decide) (by decide)) ov (by decide) (Int.self_le_toNat _)
    · exact end' _ v (mi_w mv (by decide) (by decide)) ov
  exact sp_in _ _ _ ⟨fun _ => p27 0, fun _ => p27 1⟩
end RDX
end
section
/-! the model: begin, go, draw, again with the numbers of their refusals -/
section MFK
variable {G : mG} {d D : Nat} {x z a : gd} {F : Int32 → gd → Prop} {Fv : gd → Prop} {C : gCo} {w : Nat}
theorem sk_begin (q : MI z) (l : Int32) (gc : ¬ z.1 0 66 = 0 → MK z C ∧ GC C) (hD : 7 ≤ D) (h01 : z.1 0 66 = 0 → ∀ z', rfK 1 z z' → F 0 z') (h02 : ¬ z.1 0 66 = 0 → ¬ (l = 0 ∨ l = 1) → ∀ z', rfK 2 z z' → F 0 z') (h1 : ∀ (w : Nat) z', ¬ z.1 0 66 = 0 → l = Int32.ofNat w → HistC C w z' → mi rnL rnA z z' → z'.1 0 0 = 0 → z'.1 0 67 = 1 → z'.1 0 94 = 0 → F (z'.1 0 84) z') : MT G D z_begin 0 [(0, vr 0), (1, vi l)] [] z (ri F) := by
  obtain ⟨D, rfl⟩ : ∃ D', D = D' + 1 := ⟨D - 1, by omega⟩
  have k0 : (0 : Int32).toInt = 0 := rfl
  have k1 : (1 : Int32).toInt = 1 := rfl
  refine sg_begin_0 _ (fun y e => ?_)
  have hy := z0_s e
  have e66 : y.1 0 66 = z.1 0 66 := hy.1.1 66 (by decide)
  have p40 : ¬ z.1 0 66 = 0 → ∀ b : Int32, (b = 0 → l = 0 ∨ l = 1) → (¬ b = 0 → ¬ (l = 0 ∨ l = 1)) → MT G (D + 1) z_begin 40 [(0, vr 0), (1, vi l)] [vi b, vr 0] y (ri F) := by
    intro c b hb hb2
    refine sg_begin_40 _ _ (sc_refk b 2 hy (by decide) (fun b0 => ⟨fun _ => ?_, fun q => absurd rfl q⟩) (fun nb y' m => ⟨fun q => absurd q (by decide), fun _ => ri_i (h02 c (hb2 nb) y' m)⟩))
    have qy := (MI_0 hy.1 q).1
    obtain ⟨hK, gC⟩ := gc c
    have hKy : MK y C := MK_f hK (fun k hk => hy.1.1 k (fun z9 => by rw [List.mem_singleton.mp z9] at hk; exact absurd hk (by decide))) (fun c9 hc9 => hy.1.2 c9 (mfA_0 c9 hc9) (by simp))
    obtain ⟨w, w01, ew⟩ : ∃ w : Nat, (w = 0 ∨ w = 1) ∧ l = Int32.ofNat w := by
      rcases hb b0 with e | e
      · exact ⟨0, Or.inl rfl, e⟩
      · exact ⟨1, Or.inr rfl, e⟩
    rw [ew]
    refine sc_startRun gC (qy.2.1 (by rw [e66]; exact c)) hKy w01 (by omega) (fun z' hh sf => ri_i ?_)
    obtain ⟨m, f94, ha, f67, f68⟩ := sf
    exact h1 w z' c ew hh (mi_tr hy.1 m rfl rfl) (by rw [m.1 0 (by decide)]; exact hy.2) f67 f94
  have p18 : ∀ b : Int32, (b = 0 → ¬ z.1 0 66 = 0) → (¬ b = 0 → ¬ ¬ z.1 0 66 = 0) → MT G (D + 1) z_begin 18 [(0, vr 0), (1, vi l)] [vi b, vr 0] y (ri F) := by
    intro b hb hb2
    refine sg_begin_18 _ _ (sc_refk b 1 hy (by decide) (fun b0 => ⟨fun q => absurd rfl q, fun _ => sp_in _ _ _ ⟨fun c => p40 (hb b0) 0 (fun _ => ?_) (fun z => absurd rfl z), fun c => p40 (hb b0) 1 (fun q => absurd q (by decide)) (fun _ z => ?_)⟩⟩) (fun nb y' m => ⟨fun _ => ri_i (h01 (Classical.not_not.mp (hb2 nb)) y' m), fun q => absurd q (by decide)⟩))
    · obtain ⟨c1, c2⟩ := bi_ne.mp c
      rw [t_le, k0] at c1
      rw [t_le, k1] at c2
      rw [t_eq, t_eq, k0, k1]
      omega
    · refine bi_eq.mp c ?_
      rcases z with z | z <;> rw [z] <;> decide
  rw [e66]
  exact ⟨fun c => p18 0 (fun _ => c) (fun z => absurd rfl z), fun c => p18 1 (fun q => absurd q (by decide)) (fun _ z => z c)⟩
theorem sk_go (q : MI z) (gc : GC C) (hH : ¬ z.1 0 67 = 0 → ∃ w, HistC C w z) (i : Int32) (hD : 7 ≤ D) (h01 : ¬ (¬ z.1 0 67 = 0 ∧ (z.1 0 94).toInt < 400) → ∀ z', rfK 1 z z' → F 0 z') (h02 : (¬ z.1 0 67 = 0 ∧ (z.1 0 94).toInt < 400) → ¬ (0 ≤ i.toInt ∧ i.toInt < (z.1 0 84).toInt) → ∀ z', rfK 2 z z' → F 0 z') (h1 : ∀ (w : Nat) z', ¬ z.1 0 67 = 0 → (z.1 0 94).toInt < 400 → 0 ≤ i.toInt → i.toInt < (z.1 0 84).toInt → HistC C w z → HistC C w z' → mi rnL rnA z z' → z'.1 0 0 = 0 → z'.1 0 67 = z.1 0 67 → (z'.1 0 94).toInt = (z.1 0 94).toInt + 1 → c96 z' (z.1 0 94).toInt.toNat = i.toNatClampNeg → rwE (c96 z') (c96 z) (z.1 0 94).toInt.toNat → F (z'.1 0 84) z') : MT G D z_go 0 [(0, vr 0), (1, vi i)] [] z (ri F) := by
  obtain ⟨D, rfl⟩ : ∃ D', D = D' + 2 := ⟨D - 2, by omega⟩
  have k0 : (0 : Int32).toInt = 0 := rfl
  have k1 : (1 : Int32).toInt = 1 := rfl
  have k4 : (400 : Int32).toInt = 400 := rfl
  refine sg_go_0 _ (fun y e => ?_)
  have hy := z0_s e
  have e67 : y.1 0 67 = z.1 0 67 := hy.1.1 67 (by decide)
  have e84 : y.1 0 84 = z.1 0 84 := hy.1.1 84 (by decide)
  have e94 : y.1 0 94 = z.1 0 94 := hy.1.1 94 (by decide)
  have e96 : y.1 96 = z.1 96 := hy.1.2 96 (by decide) (by simp)
  refine sc_noRunk hy (fun hr => ⟨fun q => absurd rfl q, fun _ => ?_⟩) (fun c y' m => ⟨fun _ => ri_i (h01 (fun z9 => z9.1 (by rw [← e67]; exact c)) y' m), fun q => absurd q (by decide)⟩)
  rw [e67] at hr
  obtain ⟨w, hh⟩ := hH hr
  obtain ⟨b1, b2, b3⟩ := HistC_b hh
  have hhy := HistC_0 hy.1 hh
  have p55 : ¬ y.1 0 94 = 400 → ∀ b : Int32, (b = 0 → 0 ≤ i.toInt ∧ i.toInt < (y.1 0 84).toInt) → (¬ b = 0 → ¬ (0 ≤ i.toInt ∧ i.toInt < (y.1 0 84).toInt)) → MT G (D + 2) z_go 55 [(0, vr 0), (1, vi i)] [vi b, vr 0] y (ri F) := by
    intro n4 b hb hb2
    refine sg_go_55 _ _ (sc_refk b 2 hy (by decide) (fun b0 => ⟨fun _ => ?_, fun q => absurd rfl q⟩) (fun nb y' m => ⟨fun q => absurd q (by decide), fun _ => ri_i (h02 ⟨hr, by have n5 := n4; rw [t_eq, k4, e94] at n5; omega⟩ (fun z9 => hb2 nb (by rw [e84]; exact z9)) y' m)⟩))
    rw [t_eq, k4, e94] at n4
    obtain ⟨g1, g2⟩ := hb b0
    refine sc_more gc hhy (by rw [e94]; omega) i g1 g2 (by omega) (fun z' hh' df => ri_i ?_)
    obtain ⟨m, d94, d96, d96b⟩ := df
    rw [e94] at d94 d96 d96b
    refine h1 w z' hr (by omega) g1 (by rw [← e84]; exact g2) hh hh' (mi_tr hy.1 m rfl rfl) (by rw [m.1 0 (by decide)]; exact hy.2) (by rw [m.1 67 (by decide)]; exact e67) d94 ?_ (fun k hk => ?_)
    · show (z'.1 96 _).toNatClampNeg = _
      rw [t_cl] at d96
      rw [d96]
    · show (z'.1 96 k).toNatClampNeg = (z.1 96 k).toNatClampNeg
      rw [d96b k (by rw [t_cl]; omega), e96]
  have p28 : ∀ b : Int32, (b = 0 → ¬ y.1 0 94 = 400) → (¬ b = 0 → y.1 0 94 = 400) → MT G (D + 2) z_go 28 [(0, vr 0), (1, vi i)] [vi b, vr 0] y (ri F) := by
    intro b hb hb2
    refine sg_go_28 _ _ (sc_refk b 1 hy (by decide) (fun b0 => ⟨fun q => absurd rfl q, fun _ => sp_in _ _ _ ⟨fun c => p55 (hb b0) 0 (fun _ => ?_) (fun z => absurd rfl z), fun c => p55 (hb b0) 1 (fun q => absurd q (by decide)) (fun _ z9 => ?_)⟩⟩) (fun nb y' m => ⟨fun _ => ri_i (h01 (fun z9 => ?_) y' m), fun q => absurd q (by decide)⟩))
    · obtain ⟨c1, c2⟩ := bi_ne.mp c
      rw [t_le, k0] at c1
      rw [t_le, t_sub (by rw [e84]; omega) (by rw [e84]; omega), k1] at c2
      omega
    · refine bi_eq.mp c ⟨t_le.mpr (by rw [k0]; exact z9.1), t_le.mpr ?_⟩
      rw [t_sub (by rw [e84]; omega) (by rw [e84]; omega), k1]
      omega
    · have := hb2 nb
      rw [e94] at this
      rw [this, k4] at z9
      omega
  exact ⟨fun c => p28 0 (fun _ => c) (fun z => absurd rfl z), fun c => p28 1 (fun q => absurd q (by decide)) (fun _ => c)⟩
theorem sk_draw (q : MI z) (gc : GC C) (hH : ¬ z.1 0 67 = 0 → ∃ w, HistC C w z) (s n : Int32) (hD : 7 ≤ D) (h01 : z.1 0 67 = 0 → ∀ z', rfK 1 z z' → F 0 z') (h02 : ¬ z.1 0 67 = 0 → ¬ (0 ≤ n.toInt ∧ n.toInt ≤ 400) → ∀ z', rfK 2 z z' → F 0 z') (h1 : ∀ (w : Nat) r z', ¬ z.1 0 67 = 0 → 0 ≤ n.toInt → n.toInt ≤ 400 → HistC C w z → HistC C w z' → mi rnL rnA z z' → z'.1 0 0 = 0 → z'.1 0 67 = z.1 0 67 → (z'.1 0 94).toInt = ((drS C w n.toInt.toNat s (c96 z) (z.1 0 94).toInt.toNat).2 : Nat) → rwE (c96 z') (drS C w n.toInt.toNat s (c96 z) (z.1 0 94).toInt.toNat).1 (drS C w n.toInt.toNat s (c96 z) (z.1 0 94).toInt.toNat).2 → r.toInt = ((drS C w n.toInt.toNat s (c96 z) (z.1 0 94).toInt.toNat).2 : Int) - (z.1 0 94).toInt → F r z') : MT G D z_draw 0 [(0, vr 0), (1, vi s), (2, vi n)] [] z (ri F) := by
  obtain ⟨D, rfl⟩ : ∃ D', D = D' + 2 := ⟨D - 2, by omega⟩
  have k0 : (0 : Int32).toInt = 0 := rfl
  have k1 : (1 : Int32).toInt = 1 := rfl
  have k4 : (400 : Int32).toInt = 400 := rfl
  refine sg_draw_0 _ _ (fun y e => ?_)
  have hy := z0_s e
  have e67 : y.1 0 67 = z.1 0 67 := hy.1.1 67 (by decide)
  have e94 : y.1 0 94 = z.1 0 94 := hy.1.1 94 (by decide)
  have e96 : y.1 96 = z.1 96 := hy.1.2 96 (by decide) (by simp)
  refine sc_noRunk hy (fun hr => ⟨fun q => absurd rfl q, fun _ => ?_⟩) (fun c y' m => ⟨fun _ => ri_i (h01 (by rw [← e67]; exact c) y' m), fun q => absurd q (by decide)⟩)
  rw [e67] at hr
  obtain ⟨w, hh⟩ := hH hr
  have hhy := HistC_0 hy.1 hh
  have cy : c96 y = c96 z := by unfold c96; rw [e96]
  obtain ⟨R, eR⟩ : ∃ R, R = drS C w n.toInt.toNat s (c96 z) (z.1 0 94).toInt.toNat := ⟨_, rfl⟩
  have loop : 0 ≤ n.toInt → n.toInt ≤ 400 → ∀ (m : Nat) (u : gd) (v i : Int32) (c : Nat → Nat) (k : Nat), HistC C w u → mi dL dA y u → 0 ≤ i.toInt → i.toInt + m = n.toInt → (u.1 0 94).toInt = (k : Nat) → (k : Int) = (z.1 0 94).toInt + i.toInt → rwE (c96 u) c k → drS C w m v c k = R → MT G (D + 2) z_draw 43 [(0, vr 0), (2, vi n), (3, vi v), (4, vi i)] [] u (ri F) := by
    intro n0 n4
    have end' : ∀ (u : gd) (i : Int32) (c : Nat → Nat) (k : Nat), HistC C w u → mi dL dA y u → (u.1 0 94).toInt = (k : Nat) → (k : Int) = (z.1 0 94).toInt + i.toInt → rwE (c96 u) c k → (c, k) = R → ri F (some (vi i)) u := fun u i c k hu mu h94 hk9 hc hR => ri_i (by
      have e1 : c = R.1 := by rw [← hR]
      have e2 : k = R.2 := by rw [← hR]
      refine h1 w i u hr n0 n4 hh hu (mi_tr hy.1 mu rfl rfl) (by rw [mu.1 0 (by decide)]; exact hy.2) (by rw [mu.1 67 (by decide)]; exact e67) (by rw [← eR, ← e2]; exact h94) ?_ (by rw [← eR, ← e2]; omega)
      rw [← eR, ← e2, ← e1]; exact hc)
    intro m
    induction m with
    | zero =>
      intro u v i c k hu mu i0 hm h94 hk9 hc hR
      exact sg_draw_43 _ _ _ ⟨fun _ => end' u i c k hu mu h94 hk9 hc hR, fun c9 => absurd (t_le.mpr (by omega)) c9⟩
    | succ m ih =>
      intro u v i c k hu mu i0 hm h94 hk9 hc hR
      have rE : runM C w (c96 u) k = runM C w c k := runM_cg hc
      have e84 := HistC_n hu
      have ek : (u.1 0 94).toInt.toNat = k := by rw [h94]; rfl
      rw [ek, rE] at e84
      obtain ⟨b1, b2, b3⟩ := HistC_b hu
      rw [drS] at hR
      refine sg_draw_43 _ _ _ ⟨fun c9 => ?_, fun _ => ⟨fun c9 => ?_, fun c1 => ⟨fun c9 => ?_, fun c2 => ⟨fun z9 => c1 (by rw [z9]; decide), ?_⟩⟩⟩⟩
      · rw [t_le] at c9; exfalso; push_cast at hm; omega
      · rw [t_le, k0] at c9
        rw [if_pos (Or.inl (by omega))] at hR
        exact end' u i c k hu mu h94 hk9 hc hR
      · rw [t_le, k4] at c9
        rw [if_pos (Or.inr (by omega))] at hR
        exact end' u i c k hu mu h94 hk9 hc hR
      · rw [t_le, k0] at c1
        rw [t_le, k4] at c2
        rw [if_neg (by omega)] at hR
        obtain ⟨V, eV⟩ : ∃ V, V = v * 1103515245 + 12345 := ⟨_, rfl⟩
        rw [← eV]
        have hv : drV v = V := by rw [eV]; unfold drV; rfl
        rw [hv] at hR
        clear hv eV
        obtain ⟨a1, a2⟩ := t_and (V >>> (16 &&& 31 : Int32))
        have er := t_rem2 a1 (c := u.1 0 84) (by omega)
        obtain ⟨g1, g2⟩ := t_rem a1 (c := u.1 0 84) (by omega)
        have l84 : (u.1 0 84).toInt.toNat = (chM C w (runM C w c k)).length := by rw [e84]; rfl
        have hd : (V >>> (16 &&& 31 : Int32) &&& 32767).toNatClampNeg % (u.1 0 84).toInt.toNat = drI V (chM C w (runM C w c k)).length := by rw [l84]; unfold drI; rfl
        rw [hd] at er
        clear hd
        refine sc_more gc hu (by omega) _ g1 g2 (by omega) (fun u' hu' df => ?_)
        obtain ⟨mm, d94, d96, d96b⟩ := df
        have ii : (i + 1).toInt = i.toInt + 1 := by rw [t_add (by omega) (by omega), k1]
        refine ih u' _ _ _ (k + 1) hu' (mi_tr mu mm rfl rfl) (by omega) (by push_cast at hm; omega) (by rw [d94, h94]; push_cast; rfl) (by push_cast; omega) (fun j hj => ?_) hR
        have ck : (u.1 0 94).toNatClampNeg = k := by rw [t_cl]; exact ek
        rw [ck] at d96 d96b
        show (u'.1 96 j).toNatClampNeg = upf c k _ j
        by_cases cj : j = k
        · rw [cj, upf_eq, d96, t_cl, er]; rfl
        · rw [upf_ne cj, d96b j cj]; exact hc j (by omega)
  have p29 : ∀ b : Int32, (b = 0 → 0 ≤ n.toInt ∧ n.toInt ≤ 400) → (¬ b = 0 → ¬ (0 ≤ n.toInt ∧ n.toInt ≤ 400)) → MT G (D + 2) z_draw 29 [(0, vr 0), (1, vi s), (2, vi n)] [vi b, vr 0] y (ri F) := fun b hb hb2 => by
    obtain ⟨b1, b2, b3⟩ := HistC_b hh
    exact sg_draw_29 _ _ _ (sc_refk b 2 hy (by decide) (fun b0 => ⟨fun _ => loop (hb b0).1 (hb b0).2 n.toInt.toNat y s 0 (c96 z) (z.1 0 94).toInt.toNat hhy ⟨fun _ _ => rfl, fun _ _ _ => rfl⟩ (by decide) (by have := (hb b0).1; rw [k0]; omega) (by rw [e94]; omega) (by rw [k0]; omega) (fun j _ => by rw [cy]) eR.symm, fun q => absurd rfl q⟩) (fun nb y' m => ⟨fun q => absurd q (by decide), fun _ => ri_i (h02 hr (hb2 nb) y' m)⟩))
  refine sp_in _ _ _ ⟨fun c => p29 0 (fun _ => ?_) (fun z => absurd rfl z), fun c => p29 1 (fun q => absurd q (by decide)) (fun _ z9 => ?_)⟩
  · obtain ⟨c1, c2⟩ := bi_ne.mp c
    rw [t_le, k0] at c1
    rw [t_le, k4] at c2
    exact ⟨c1, c2⟩
  · exact bi_eq.mp c ⟨t_le.mpr (by rw [k0]; exact z9.1), t_le.mpr (by rw [k4]; exact z9.2)⟩
theorem sk_again (q : MI z) (hH : ¬ z.1 0 67 = 0 → ∃ w, HistC C w z) (n : Int32) (hD : 7 ≤ D) (h01 : z.1 0 67 = 0 → ∀ z', rfK 1 z z' → F 0 z') (h02 : ¬ z.1 0 67 = 0 → ¬ (0 ≤ n.toInt ∧ n.toInt ≤ (z.1 0 94).toInt) → ∀ z', rfK 2 z z' → F 0 z') (h1 : ∀ (w : Nat) z', ¬ z.1 0 67 = 0 → 0 ≤ n.toInt → n.toInt ≤ (z.1 0 94).toInt → HistC C w z → HistC C w z' → mi rnL rnA z z' → z'.1 0 0 = 0 → z'.1 0 67 = 1 → (z'.1 0 94).toInt = n.toInt → c96 z' = c96 z → F (z'.1 0 84) z') : MT G D z_again 0 [(0, vr 0), (1, vi n)] [] z (ri F) := by
  obtain ⟨D, rfl⟩ : ∃ D', D = D' + 2 := ⟨D - 2, by omega⟩
  have k0 : (0 : Int32).toInt = 0 := rfl
  have k1 : (1 : Int32).toInt = 1 := rfl
  refine sg_again_0 _ (fun y e => ?_)
  have hy := z0_s e
  have e67 : y.1 0 67 = z.1 0 67 := hy.1.1 67 (by decide)
  have e94 : y.1 0 94 = z.1 0 94 := hy.1.1 94 (by decide)
  have e96 : y.1 96 = z.1 96 := hy.1.2 96 (by decide) (by simp)
  have cy : c96 y = c96 z := by unfold c96; rw [e96]
  refine sc_noRunk hy (fun hr => ⟨fun q => absurd rfl q, fun _ => ?_⟩) (fun c y' m => ⟨fun _ => ri_i (h01 (by rw [← e67]; exact c) y' m), fun q => absurd q (by decide)⟩)
  rw [e67] at hr
  obtain ⟨w, hh⟩ := hH hr
  have hhy := HistC_0 hy.1 hh
  obtain ⟨s, N, q1, q2, q3, q4, q5, q6, q7⟩ := hhy
  have q8 := q7.2.2.1
  have loop : 0 ≤ n.toInt → n.toInt ≤ (y.1 0 94).toInt → ∀ (m : Nat) (u : gd) (i : Int32), 0 ≤ i.toInt → i.toInt + m = n.toInt → i.toInt ≤ (N : Int) → eqS (Sm (s i.toNatClampNeg)) (s i.toNatClampNeg) u → HA u → (u.1 0 94).toInt = i.toInt → u.1 96 = y.1 96 → u.1 0 68 = y.1 0 68 → u.1 0 67 = 1 → mi (67 :: 68 :: dL) dA y u → MT G (D + 2) z_again 49 [(0, vr 0), (1, vi n), (2, vi i)] [] u (ri F) := by
    intro n0 hn
    have end' : ∀ (u : gd) (i : Int32), 0 ≤ i.toInt → i.toInt = n.toInt → i.toInt ≤ (N : Int) → eqS (Sm (s i.toNatClampNeg)) (s i.toNatClampNeg) u → HA u → (u.1 0 94).toInt = i.toInt → u.1 96 = y.1 96 → u.1 0 68 = y.1 0 68 → u.1 0 67 = 1 → mi (67 :: 68 :: dL) dA y u → ri F (some (vi (u.1 0 84))) u := by
      intro u i i0 ein iN eu hu u94 u96 u68 u67 mu
      have ci := cl_i i0
      have cu : c96 u = c96 y := by unfold c96; rw [u96]
      have hist : HistC C w u := ⟨s, i.toNatClampNeg, by omega, by rw [cu]; exact fun k hk => q2 k (by omega), by rw [cu, u96]; exact fun k hk => q3 k (by omega), eu, by rw [u68]; exact St_pr (prE_mi (prE_rf y) mu rfl rfl) q5, by rw [u68]; exact q6, hu⟩
      exact ri_i (h1 w u hr n0 (by rw [← e94]; exact hn) hh hist (mi_tr hy.1 mu rfl rfl) (by rw [mu.1 0 (by decide)]; exact hy.2) u67 (by omega) (by rw [cu, cy]))
    intro m
    induction m with
    | zero =>
      intro u i i0 hm iN eu hu u94 u96 u68 u67 mu
      exact sg_again_49 _ _ ⟨fun _ => end' u i i0 (by omega) iN eu hu u94 u96 u68 u67 mu, fun c => absurd (t_le.mpr (by omega)) c⟩
    | succ m ih =>
      intro u i i0 hm iN eu hu u94 u96 u68 u67 mu
      have ci := cl_i i0
      push_cast at hm
      refine sg_again_49 _ _ ⟨fun c => ?_, fun c => ?_⟩
      · rw [t_le] at c; exfalso; omega
      rw [t_le] at c
      refine ⟨by rw [vp_in_iff]; omega, ?_⟩
      rw [u96]
      obtain ⟨b1, b2, b3⟩ := q3 i.toNatClampNeg (by omega)
      have am := q2 i.toNatClampNeg (by omega)
      have en := AM_n am
      have cb := cl_i b1
      have b2' : (y.1 96 i.toNatClampNeg).toNatClampNeg < (chM C w (runM C w (c96 y) i.toNatClampNeg)).length := b2
      have ii : (i + 1).toInt = i.toInt + 1 := by rw [t_add (by omega) (by omega), k1]
      have ci1 : (i + 1).toNatClampNeg = i.toNatClampNeg + 1 := by have := cl_i (a := i + 1) (by omega); omega
      refine sp_doChoice am.1 _ b1 (by omega) b3 eu hu (by omega) (by omega) (fun u' eu' hu' df => ?_)
      obtain ⟨mm, d94, d96, d96b⟩ := df
      have cu : (u.1 0 94).toNatClampNeg = i.toNatClampNeg := by have := cl_i (a := u.1 0 94) (by omega); omega
      rw [cu, ← u96] at d96
      rw [cu] at d96b
      refine ih u' (i + 1) (by omega) (by omega) (by omega) (by rw [ci1]; exact eu') hu' (by omega) ?_ (by rw [mm.1 68 (by decide)]; exact u68) (by rw [mm.1 67 (by decide)]; exact u67) (mi_tr mu mm rfl rfl)
      funext j
      by_cases w : j = i.toNatClampNeg
      · rw [w, d96, u96]
      · rw [d96b j w, u96]
  have p30 : ∀ b : Int32, (b = 0 → 0 ≤ n.toInt ∧ n.toInt ≤ (y.1 0 94).toInt) → (¬ b = 0 → ¬ (0 ≤ n.toInt ∧ n.toInt ≤ (y.1 0 94).toInt)) → MT G (D + 2) z_again 30 [(0, vr 0), (1, vi n)] [vi b, vr 0] y (ri F) := by
    intro b hb hb2
    refine sg_again_30 _ _ (sc_refk b 2 hy (by decide) (fun b0 => ⟨fun _ => ?_, fun q => absurd rfl q⟩) (fun nb y' m => ⟨fun q => absurd q (by decide), fun _ => ri_i (h02 hr (fun z9 => hb2 nb (by rw [e94]; exact z9)) y' m)⟩))
    obtain ⟨n0, n1⟩ := hb b0
    refine q5 G (D + 1) y _ (by omega) (prE_rf y) (fun u eu sf => ?_)
    obtain ⟨mm, f94, hu, f67, f68⟩ := sf
    exact loop n0 n1 n.toInt.toNat u 0 (by decide) (by rw [k0]; omega) (by rw [k0]; omega) eu hu (by rw [f94]) (mm.2 96 (by decide) (by decide)) f68 f67 (mi_w mm (by decide) (by decide))
  refine sp_in _ _ _ ⟨fun c => p30 0 (fun _ => ?_) (fun z => absurd rfl z), fun c => p30 1 (fun q => absurd q (by decide)) (fun _ z9 => ?_)⟩
  · obtain ⟨c1, c2⟩ := bi_ne.mp c
    rw [t_le, k0] at c1
    rw [t_le] at c2
    exact ⟨c1, c2⟩
  · exact bi_eq.mp c ⟨t_le.mpr (by rw [k0]; exact z9.1), t_le.mpr z9.2⟩
end MFK
section KDW
variable {G : kG} {q : kP} {d : Nat} {x y z : gd} {F : Int32 → gd → Prop} {Fv : gd → Prop} {P : Option gv → gd → Prop} {X : String → gd → Prop} {C : gCo} {w n : Nat} {c c' : Nat → Nat}
theorem kk_draw (hq : kV q) (hH : HOI x q) (hK : ¬ x.1 0 10 = 0 → CK x C ∧ GC C ∧ NX3 C) (hR : ¬ x.1 0 10 = 0 → KRun C w n c x) (l1 l2 : Int32) (hS : x.1 0 10 = 0 → X iSE x) (hA : ¬ x.1 0 10 = 0 → ¬ (0 ≤ l2.toInt ∧ l2.toInt ≤ 400) → X iAE x) (hP : ∀ r y, ¬ x.1 0 10 = 0 → 0 ≤ l2.toInt → l2.toInt ≤ 400 → HOI y q → fm sRn x y → KRun C w (drS C w l2.toInt.toNat l1 c n).2 (drS C w l2.toInt.toNat l1 c n).1 y → y.1 0 10 = x.1 0 10 → r.toInt = ((drS C w l2.toInt.toNat l1 c n).2 : Int) - n → P (some (vi r)) y) : KE G q (d + 7) zk_X11_draw 0 [(0, vr 0), (1, vi l1), (2, vi l2)] [] x P X := by
  have k1 : (1 : Int32).toInt = 1 := rfl
  have k0 : (0 : Int32).toInt = 0 := rfl
  have k4 : (400 : Int32).toInt = 400 := rfl
  refine kg_X11_draw_0 hq l1 l2 (kh_run hq hH hS (fun c9 _ => ⟨fun cc => kg_X11_draw_15 hq (hA c9 (fun z9 => ?_)), fun c0 => ⟨fun c4 => ?_, fun cc => kg_X11_draw_15 hq (hA c9 (fun z9 => ?_))⟩⟩))
  · rw [t_lt, k0] at cc; omega
  · rw [t_lt, k0] at c0
    rw [t_le, k4] at c4
    obtain ⟨hKx, gc, hX3⟩ := hK c9
    have hr := hR c9
    obtain ⟨R, eR⟩ : ∃ R, R = drS C w l2.toInt.toNat l1 c n := ⟨_, rfl⟩
    obtain ⟨n0, en0⟩ : ∃ n0, n0 = n := ⟨_, rfl⟩
    have loop : ∀ (m : Nat) (l3 l4 l5 : Int32) (y : gd) (c : Nat → Nat) (n : Nat), 0 ≤ l5.toInt → l5.toInt + m = l2.toInt → (l4.toInt = l5.toInt ∧ (n : Int) = (n0 : Int) + l4.toInt) → fm sRn x y → KRun C w n c y → y.1 0 10 = x.1 0 10 → drS C w m l3 c n = R → KE G q (d + 7) zk_X11_draw 33 [(0, vr 0), (2, vi l2), (3, vi l3), (4, vi l4), (5, vi l5)] [] y P X := by
      have done : ∀ (r : Int32) (y : gd) (c : Nat → Nat) (n : Nat), (n : Int) = (n0 : Int) + r.toInt → fm sRn x y → KRun C w n c y → y.1 0 10 = x.1 0 10 → (c, n) = R → P (some (vi r)) y := fun r y c n en fy hy h10 hR9 => by
        have e1 : c = R.1 := by rw [← hR9]
        have e2 : n = R.2 := by rw [← hR9]
        refine hP r y c9 (by omega) c4 (HOI_run fy hy.1 hH) fy ?_ h10 (by rw [← eR, ← e2, ← en0]; omega)
        rw [← eR, ← e1, ← e2]; exact hy
      intro m
      induction m with
      | zero =>
        intro l3 l4 l5 y c n l50 hm hk9 fy hy h10 hR9
        refine kg_X11_draw_33 hq l2 l3 l4 l5 ⟨fun _ => done _ y c n hk9.2 fy hy h10 hR9, fun cc => ?_⟩
        exfalso; rw [t_le] at cc; omega
      | succ m ih =>
        intro l3 l4 l5 y c n l50 hm hk9 fy hy h10 hR9
        push_cast at hm
        have hn := hy.2.2.2.1
        have e13 : (y.1 120 13).toInt = ((chM C w (runM C w c n)).length : Nat) := hy.2.1.2.2.1
        have l84 := hy.1.2.1.1.2
        have n4 := hy.1.2.2.1.2.2
        rw [drS] at hR9
        refine kg_X11_draw_33 hq l2 l3 l4 l5 ⟨fun cc => ?_, fun _ => ⟨fun cc => ?_, fun c1 => ⟨fun cc => ?_, fun c2 => ⟨fun z9 => c1 (by rw [z9]; decide), ?_⟩⟩⟩⟩
        · exfalso; rw [t_le] at cc; omega
        · rw [t_le, k0] at cc
          rw [if_pos (Or.inl (by omega))] at hR9
          exact done _ y c n hk9.2 fy hy h10 hR9
        · rw [t_le, k4, hn] at cc
          rw [if_pos (Or.inr (by omega))] at hR9
          exact done _ y c n hk9.2 fy hy h10 hR9
        · rw [t_le, k0] at c1
          rw [t_le, k4, hn] at c2
          rw [if_neg (by omega)] at hR9
          obtain ⟨V, eV⟩ : ∃ V, V = l3 * 1103515245 + 12345 := ⟨_, rfl⟩
          rw [← eV]
          have hv : drV l3 = V := by rw [eV]; unfold drV; rfl
          rw [hv] at hR9
          clear hv eV
          rw [shr16 V]
          obtain ⟨a1, a2⟩ := t_and (V >>> (16 &&& 31 : Int32))
          have er := t_rem2 a1 (c := y.1 120 13) (by omega)
          obtain ⟨g1, g2⟩ := t_rem a1 (c := y.1 120 13) (by omega)
          have ll : (y.1 120 13).toInt.toNat = (chM C w (runM C w c n)).length := by rw [e13]; rfl
          have hd : (V >>> (16 &&& 31 : Int32) &&& 32767).toNatClampNeg % (y.1 120 13).toInt.toNat = drI V (chM C w (runM C w c n)).length := by rw [ll]; unfold drI; rfl
          rw [hd] at er
          clear hd
          obtain ⟨I, eI⟩ : ∃ I, I = drI V (chM C w (runM C w c n)).length := ⟨_, rfl⟩
          rw [← eI] at er hR9
          have hy' : KRun C w n (upf c n I) y := KRun_cg (fun k hk => by rw [upf_ne (by omega)]) hy
          have eM : runM C w (upf c n I) n = runM C w c n := runM_cg (fun k hk => by rw [upf_ne (by omega)])
          have i1 : (l5 + 1).toInt = l5.toInt + 1 := by rw [t_add (by rw [k1]; omega) (by rw [k1]; omega), k1]
          have i4 : (l4 + 1).toInt = l4.toInt + 1 := by rw [t_add (by rw [k1]; omega) (by rw [k1]; omega), k1]
          refine kh_doChoice hq (CK_f hKx (fun c k hc => fy c k (by unfold sRn; omega))) gc hX3 hy' _ er (by rw [eM]; omega) (by omega) (by rw [upf_eq]) (fun z fz hz _ z10 => ih _ _ _ z _ (n + 1) (by omega) (by omega) ⟨by rw [i1, i4]; omega, by rw [i4]; push_cast; omega⟩ (fm_tr fy fz) hz (by rw [z10]; exact h10) hR9)
    exact loop l2.toInt.toNat _ _ _ x c n (by decide) (by rw [k0]; omega) ⟨rfl, by rw [k0, en0]; omega⟩ (fm_rf _ _) hr rfl eR.symm
  · rw [t_le, k4] at cc; omega
end KDW
end
section
/-! the class: its calls -/
section KFA
variable {G : kG} {q q0 q1 : kP} {d : Nat} {x x0 y z : gd} {o : Nat} {F : Int32 → gd → Prop} {Fv : gd → Prop} {P : Option gv → gd → Prop} {X : String → gd → Prop}
/-- the text, whether it is compiled, and the counts stay -/
def KF (x y : gd) : Prop := y.1 20 1 = x.1 20 1 ∧ y.1 0 9 = x.1 0 9 ∧ (∀ k, y.1 21 k = x.1 21 k) ∧ ∀ c k, (60 ≤ c ∧ c < 90 ∧ ¬ (c = 60 ∧ k = 5) ∧ c ≠ 65) → y.1 c k = x.1 c k
theorem KF_rf : KF x x := ⟨rfl, rfl, fun _ => rfl, fun _ _ _ => rfl⟩
theorem KF_tr (h : KF x y) (g : KF y z) : KF x z := ⟨g.1.trans h.1, g.2.1.trans h.2.1, fun k => (g.2.2.1 k).trans (h.2.2.1 k), fun c k hk => (g.2.2.2 c k hk).trans (h.2.2.2 c k hk)⟩
theorem KF_fm {S : Nat → Nat → Prop} (f : fm S x y) (hS : ∀ c k, S c k → ¬ ((c = 20 ∧ k = 1) ∨ (c = 0 ∧ k = 9) ∨ c = 21 ∨ (60 ≤ c ∧ c < 90 ∧ ¬ (c = 60 ∧ k = 5) ∧ c ≠ 65))) : KF x y := ⟨f _ _ (fun z => hS _ _ z (Or.inl ⟨rfl, rfl⟩)), f _ _ (fun z => hS _ _ z (Or.inr (Or.inl ⟨rfl, rfl⟩))), fun k => f _ _ (fun z => hS _ _ z (Or.inr (Or.inr (Or.inl rfl)))), fun c k hc => f _ _ (fun z => hS _ _ z (Or.inr (Or.inr (Or.inr hc))))⟩
theorem rn_20 (f : fm sRn x y) : KF x y := KF_fm f (fun c k q => by unfold sRn at q; omega)
theorem rn_Lk {c k : Nat} (h : sLk 120 c k) : sRn c k := by unfold sLk at h; unfold sRn; omega
/-- what count answers -/
def cntK (x : gd) (l r : Int32) : Prop := (x.1 0 9 = 0 ∧ r = 0) ∨ (¬ x.1 0 9 = 0 ∧ ((l = 0 ∧ r = x.1 60 6) ∨ (l = 1 ∧ r = x.1 60 9) ∨ (l = 2 ∧ r = x.1 60 10) ∨ (l = 3 ∧ r = x.1 60 14) ∨ (l = 4 ∧ r = x.1 60 16)))
theorem kz_count (hq : kV q) (hH : HOI x q) (l : Int32) (hO : ¬ (0 ≤ l.toInt ∧ l.toInt ≤ 4) → X iOE x) (hP : (0 ≤ l.toInt ∧ l.toInt ≤ 4) → ∀ r y, HOI y q → y = x → cntK x l r → P (some (vi r)) y) : KE G q (d + 7) zk_X11_count 0 [(0, vr 0), (1, vi l)] [] x P X := by
  have k0 : (0 : Int32).toInt = 0 := rfl
  have k1 : (1 : Int32).toInt = 1 := rfl
  have k2 : (2 : Int32).toInt = 2 := rfl
  have k3 : (3 : Int32).toInt = 3 := rfl
  have k4 : (4 : Int32).toInt = 4 := rfl
  have k5 : (5 : Int32).toInt = 5 := rfl
  refine kg_X11_count_0 hq l (kg_X11_needWhat_0 hq l 5 ⟨fun c => kg_X11_needWhat_9 hq (hO ?_), fun c => ⟨fun c5 => rv_i ?_, fun c5 => kg_X11_needWhat_9 hq (hO ?_)⟩⟩)
  · rw [t_lt, k0] at c; omega
  · rw [t_lt, k0] at c
    rw [t_lt, k5] at c5
    have ok : 0 ≤ l.toInt ∧ l.toInt ≤ 4 := by omega
    refine ⟨fun c9 => ⟨fun e => hP ok _ x hH rfl (Or.inr ⟨c9, Or.inl ⟨e, rfl⟩⟩), fun e => hP ok _ x hH rfl (Or.inr ⟨c9, Or.inr (Or.inl ⟨e, rfl⟩)⟩), fun e => hP ok _ x hH rfl (Or.inr ⟨c9, Or.inr (Or.inr (Or.inl ⟨e, rfl⟩))⟩), fun e => hP ok _ x hH rfl (Or.inr ⟨c9, Or.inr (Or.inr (Or.inr (Or.inl ⟨e, rfl⟩)))⟩), fun e => hP ok _ x hH rfl (Or.inr ⟨c9, Or.inr (Or.inr (Or.inr (Or.inr ⟨?_, rfl⟩)))⟩)⟩, fun c9 => hP ok _ x hH rfl (Or.inl ⟨c9, rfl⟩)⟩
    have n0 := e 0 (by decide)
    have n1 := e 1 (by decide)
    have n2 := e 2 (by decide)
    have n3 := e 3 (by decide)
    rw [t_eq, k0] at n0
    rw [t_eq, k1] at n1
    rw [t_eq, k2] at n2
    rw [t_eq, k3] at n3
    rw [t_eq, k4]
    omega
  · rw [t_lt, k5] at c5; omega
/-- n bytes more: those of l2, the lowest first -/
def FBk (l2 : Int64) (j : Nat) : Int32 := vp_nar .byte (((((l2 : Int64).toUInt64 >>> ((8 * Int32.ofNat j : Int32).toInt64.toUInt64 &&& Int64.toUInt64 63)).toInt64 : Int64).toInt32 : Int32).toInt8.toInt32)
def FBc (x : gd) (l2 : Int64) (n : Nat) (y : gd) : Prop := (∀ p, p < (x.1 20 1).toNatClampNeg → y.1 21 p = x.1 21 p) ∧ ∀ j, j < n → y.1 21 ((x.1 20 1).toNatClampNeg + j) = FBk l2 j
end KFA
end
