abbrev uA : List Nat := [70, 71, 72, 73, 74, 75, 76, 77, 78, 79, 80, 81, 82]
/-- unpacked up to o -/
def upk (z y : gd) (C b o : Nat) : Prop := md [] uA z y ∧ ∀ i : Nat, i < o → y.1 (tg i).1 (tg i).2 = z.1 C (b + i)
theorem upk_up {z y y2 : gd} {C b o c j : Nat} {v : Int32} (q : upk z y C b o) (ho : o < 222) (et : tg o = (c, j)) (e : y2 = si y c j v) (hv : v = z.1 C (b + o)) : upk z y2 C b (o + 1) := by
  obtain ⟨q1, q2⟩ := q
  have hc := tg_cells ⟨o, ho⟩
  simp only [et] at hc
  have m := md_a y c j v (fun w => by rw [w] at hc; exact absurd hc (by decide))
  rw [← e] at m
  refine ⟨⟨fun k hk => by rw [m.1 k (fun q => nomatch q), q1.1 k hk], fun c' h1 h2 => by rw [m.2.1 c' h1 (fun w => h2 (by rw [List.mem_singleton.mp w]; exact hc)), q1.2.1 c' h1 h2], m.2.2.trans q1.2.2⟩, fun i hi => ?_⟩
  by_cases w : i = o
  · rw [w, et, e, si_get, if_pos ⟨rfl, rfl⟩, hv]
  · rw [e, si_get, if_neg (fun q => w (tg_inj (by omega) ho (by rw [et]; exact Prod.ext q.1 q.2)))]
    exact q2 i (by omega)
section UPK
variable {G : mG} {d D : Nat} {x z a : gd} {F : Int32 → gd → Prop} {Fv : gd → Prop} {C N : Nat}
theorem sp_unpack (hC : C = 133 ∨ C = 136) (kC : mK C = .inr (.int, N)) (mC : C ∈ mL) (b : Int32) (b0 : 0 ≤ b.toInt) (bN : b.toInt + 222 ≤ N) (hN : (N : Int) ≤ 1000000) (h : ∀ y, md [] uA z y → (∀ i : Nat, i < 222 → y.1 (tg i).1 (tg i).2 = z.1 C (b.toNatClampNeg + i)) → Fv y) : MT G D z_unpack 0 [(0, vr 0), (1, vr C), (2, vi b)] [] z (rv Fv) := by
  have k0 : (0 : Int32).toInt = 0 := rfl
  have k1 : (1 : Int32).toInt = 1 := rfl
  have k6 : (6 : Int32).toInt = 6 := rfl
  have k8 : (8 : Int32).toInt = 8 := rfl
  have k24 : (24 : Int32).toInt = 24 := rfl
  obtain ⟨B, eB⟩ : ∃ B, B = b.toNatClampNeg := ⟨_, rfl⟩
  have cB := cl_i b0
  rw [← eB] at cB h
  have z0' : (0 : Int32).toNatClampNeg = 0 := rfl
  have at' : ∀ (l : Int32) (o : Nat), l.toInt = b.toInt + o → o < 222 → vp_in l N ∧ l.toNatClampNeg = B + o := fun l o hl ho => ⟨by rw [vp_in_iff]; omega, by have := cl_i (a := l) (by omega); omega⟩
  have ad : ∀ (l r : Int32) (o n : Nat), l.toInt = b.toInt + o → r.toInt = n → o + n ≤ 222 → (l + r).toInt = b.toInt + ((o + n : Nat) : Int) := fun l r o n hl hr ho => by rw [t_add (by omega) (by omega)]; omega
  have rw' : ∀ {y : gd} {o : Nat}, upk z y C B o → y.1 C = z.1 C := fun q => q.1.2.1 C (by omega) (by simp; omega)
  have p75 : ∀ (n : Nat) (y : gd) (l t : Int32), 0 ≤ t.toInt → t.toInt ≤ 6 → 6 - t.toInt ≤ n → l.toInt = b.toInt + ((36 + 31 * t.toNatClampNeg : Nat) : Int) → upk z y C B (36 + 31 * t.toNatClampNeg) → MT G D z_unpack 75 [(0, vr 0), (1, vr C), (3, vi l), (4, vi t)] [] y (rv Fv) := by
    have last : ∀ (y : gd) (t : Int32), 0 ≤ t.toInt → t.toInt ≤ 6 → 6 ≤ t.toInt → upk z y C B (36 + 31 * t.toNatClampNeg) → rv Fv none y := by
      intro y t t0 t6 t6' q
      have ct := cl_i t0
      rw [show 36 + 31 * t.toNatClampNeg = 222 by omega] at q
      exact rv_i (h y q.1 q.2)
    intro n
    induction n with
    | zero =>
      intro y l t t0 t6 hn hl q
      exact sg_unpack_75 kC mC _ _ ⟨fun _ => last y t t0 t6 (by omega) q, fun c => absurd (t_le.mpr (by rw [k6]; omega)) c⟩
    | succ n ih =>
      intro y l t t0 t6 hn hl q
      have ct := cl_i t0
      refine sg_unpack_75 kC mC _ _ ⟨fun c => last y t t0 t6 (by rw [t_le, k6] at c; exact c) q, fun c => ?_⟩
      rw [t_le, k6] at c
      have tv : vp_in t 6 := by rw [vp_in_iff]; omega
      obtain ⟨T, eT⟩ : ∃ T, T = t.toNatClampNeg := ⟨_, rfl⟩
      rw [← eT] at hl q ct
      have T6 : T < 6 := by omega
      have ad1 : ∀ (r : Int32) (n : Nat), r.toInt = n → n ≤ 7 → (l + r).toInt = b.toInt + ((36 + 31 * T + n : Nat) : Int) := fun r n hr hn => ad l r _ n hl hr (by omega)
      obtain ⟨v0, e0⟩ := at' l (36 + 31 * T) hl (by omega)
      obtain ⟨v1, e1⟩ := at' (l + 1) (36 + 31 * T + 1) (ad1 1 1 rfl (by omega)) (by omega)
      obtain ⟨v2, e2⟩ := at' (l + 2) (36 + 31 * T + 2) (ad1 2 2 rfl (by omega)) (by omega)
      obtain ⟨v3, e3⟩ := at' (l + 3) (36 + 31 * T + 3) (ad1 3 3 rfl (by omega)) (by omega)
      obtain ⟨v4, e4⟩ := at' (l + 4) (36 + 31 * T + 4) (ad1 4 4 rfl (by omega)) (by omega)
      obtain ⟨v5, e5⟩ := at' (l + 5) (36 + 31 * T + 5) (ad1 5 5 rfl (by omega)) (by omega)
      obtain ⟨v6, e6⟩ := at' (l + 6) (36 + 31 * T + 6) (ad1 6 6 rfl (by omega)) (by omega)
      have l7 := ad1 7 7 rfl (by omega)
      obtain ⟨L7, eL7⟩ : ∃ q, q = l + 7 := ⟨_, rfl⟩
      rw [← eL7] at l7 ⊢
      rw [← eT, e0, e1, e2, e3, e4, e5, e6]
      refine ⟨v0, tv, fun y4 g4 => ?_⟩
      have q4 := upk_up q (by omega) (tg_t (r := 0) T6 (by omega)) g4 (by rw [rw' q])
      refine ⟨v1, tv, fun y7 g7 => ?_⟩
      have q7 := upk_up q4 (by omega) (tg_t (r := 1) T6 (by omega)) g7 (by rw [rw' q4])
      refine ⟨v2, tv, fun y10 g10 => ?_⟩
      have q10 := upk_up q7 (by omega) (tg_t (r := 2) T6 (by omega)) g10 (by rw [rw' q7])
      refine ⟨v3, tv, fun y13 g13 => ?_⟩
      have q13 := upk_up q10 (by omega) (tg_t (r := 3) T6 (by omega)) g13 (by rw [rw' q10])
      refine ⟨v4, tv, fun y16 g16 => ?_⟩
      have q16 := upk_up q13 (by omega) (tg_t (r := 4) T6 (by omega)) g16 (by rw [rw' q13])
      refine ⟨v5, tv, fun y19 g19 => ?_⟩
      have q19 := upk_up q16 (by omega) (tg_t (r := 5) T6 (by omega)) g19 (by rw [rw' q16])
      refine ⟨v6, tv, fun y22 g22 => ?_⟩
      have q22 := upk_up q19 (by omega) (tg_t (r := 6) T6 (by omega)) g22 (by rw [rw' q19])
      have p206 : ∀ (m : Nat) (u : gd) (l i : Int32), 0 ≤ i.toInt → i.toInt ≤ 8 → 8 - i.toInt ≤ m → l.toInt = b.toInt + ((51 + 31 * T + 2 * i.toNatClampNeg : Nat) : Int) → upk z u C B (51 + 31 * T + 2 * i.toNatClampNeg) → MT G D z_unpack 206 [(0, vr 0), (1, vr C), (3, vi l), (4, vi t), (5, vi i)] [] u (rv Fv) := by
        have lst : ∀ (u : gd) (l i : Int32), 0 ≤ i.toInt → i.toInt ≤ 8 → 8 ≤ i.toInt → l.toInt = b.toInt + ((51 + 31 * T + 2 * i.toNatClampNeg : Nat) : Int) → upk z u C B (51 + 31 * T + 2 * i.toNatClampNeg) → MT G D z_unpack 75 [(0, vr 0), (1, vr C), (3, vi l), (4, vi (t + 1))] [] u (rv Fv) := by
          intro u l i i0 i8 i8' hl2 q2
          have ci := cl_i i0
          have ti : (t + 1).toInt = t.toInt + 1 := by rw [t_add (by omega) (by omega), k1]
          have ct1 : (t + 1).toNatClampNeg = T + 1 := by have := cl_i (a := t + 1) (by omega); omega
          have eo : 51 + 31 * T + 2 * i.toNatClampNeg = 36 + 31 * (t + 1).toNatClampNeg := by omega
          rw [eo] at hl2 q2
          exact ih u l (t + 1) (by omega) (by omega) (by omega) hl2 q2
        intro m
        induction m with
        | zero =>
          intro u l i i0 i8 hm hl2 q2
          exact sg_unpack_206 kC mC _ _ _ ⟨fun _ => lst u l i i0 i8 (by omega) hl2 q2, fun c => absurd (t_le.mpr (by rw [k8]; omega)) c⟩
        | succ m ihm =>
          intro u l i i0 i8 hm hl2 q2
          have ci := cl_i i0
          refine sg_unpack_206 kC mC _ _ _ ⟨fun c => lst u l i i0 i8 (by rw [t_le, k8] at c; exact c) hl2 q2, fun c => ?_⟩
          rw [t_le, k8] at c
          obtain ⟨I, eI⟩ : ∃ I, I = i.toNatClampNeg := ⟨_, rfl⟩
          rw [← eI] at hl2 q2 ci
          have ii : (i + 1).toInt = i.toInt + 1 := by rw [t_add (by omega) (by omega), k1]
          have ci1 : (i + 1).toNatClampNeg = I + 1 := by have := cl_i (a := i + 1) (by omega); omega
          obtain ⟨w0, f0⟩ := at' l (51 + 31 * T + 2 * I) hl2 (by omega)
          have hl3 := ad l 1 _ 1 hl2 rfl (by omega)
          obtain ⟨w1, f1⟩ := at' (l + 1) (51 + 31 * T + 2 * I + 1) hl3 (by omega)
          have hl4 := ad l 2 _ 2 hl2 rfl (by omega)
          obtain ⟨x1, x2⟩ := t10 tv (i := i) i0 (by omega)
          rw [← eT, ← eI] at x2
          rw [x2, f0, f1]
          refine ⟨w0, x1, fun u4 g4 => ?_⟩
          have q4 := upk_up q2 (by omega) (tg_a T6 (k := I) (by omega)) g4 (by rw [rw' q2])
          refine ⟨w1, x1, fun u7 g7 => ?_⟩
          have q7 := upk_up q4 (by omega) (by rw [show 51 + 31 * T + 2 * I + 1 = 52 + 31 * T + 2 * I by omega]; exact tg_b T6 (k := I) (by omega)) g7 (by rw [rw' q4])
          refine ihm u7 (l + 2) (i + 1) (by omega) (by omega) (by omega) ?_ ?_
          · rw [ci1, hl4]; omega
          · rw [ci1, show 51 + 31 * T + 2 * (I + 1) = 51 + 31 * T + 2 * I + 1 + 1 by omega]; exact q7
      have p171 : ∀ (m : Nat) (u : gd) (l i : Int32), 0 ≤ i.toInt → i.toInt ≤ 8 → 8 - i.toInt ≤ m → l.toInt = b.toInt + ((43 + 31 * T + i.toNatClampNeg : Nat) : Int) → upk z u C B (43 + 31 * T + i.toNatClampNeg) → MT G D z_unpack 171 [(0, vr 0), (1, vr C), (3, vi l), (4, vi t), (5, vi i)] [] u (rv Fv) := by
        have lst : ∀ (u : gd) (l i : Int32), 0 ≤ i.toInt → i.toInt ≤ 8 → 8 ≤ i.toInt → l.toInt = b.toInt + ((43 + 31 * T + i.toNatClampNeg : Nat) : Int) → upk z u C B (43 + 31 * T + i.toNatClampNeg) → MT G D z_unpack 206 [(0, vr 0), (1, vr C), (3, vi l), (4, vi t), (5, vi 0)] [] u (rv Fv) := by
          intro u l i i0 i8 i8' hl2 q2
          have ci := cl_i i0
          have eo : 43 + 31 * T + i.toNatClampNeg = 51 + 31 * T + 2 * (0 : Int32).toNatClampNeg := by rw [z0']; omega
          rw [eo] at hl2 q2
          exact p206 8 u l 0 (by decide) (by decide) (by decide) hl2 q2
        intro m
        induction m with
        | zero =>
          intro u l i i0 i8 hm hl2 q2
          exact sg_unpack_171 kC mC _ _ _ ⟨fun _ => lst u l i i0 i8 (by omega) hl2 q2, fun c => absurd (t_le.mpr (by rw [k8]; omega)) c⟩
        | succ m ihm =>
          intro u l i i0 i8 hm hl2 q2
          have ci := cl_i i0
          refine sg_unpack_171 kC mC _ _ _ ⟨fun c => lst u l i i0 i8 (by rw [t_le, k8] at c; exact c) hl2 q2, fun c => ?_⟩
          rw [t_le, k8] at c
          obtain ⟨I, eI⟩ : ∃ I, I = i.toNatClampNeg := ⟨_, rfl⟩
          rw [← eI] at hl2 q2 ci
          have ii : (i + 1).toInt = i.toInt + 1 := by rw [t_add (by omega) (by omega), k1]
          have ci1 : (i + 1).toNatClampNeg = I + 1 := by have := cl_i (a := i + 1) (by omega); omega
          obtain ⟨w0, f0⟩ := at' l (43 + 31 * T + I) hl2 (by omega)
          have hl3 := ad l 1 _ 1 hl2 rfl (by omega)
          have m9 : (8 * t).toInt = 8 * t.toInt := by rw [t_mul (by rw [k8]; omega) (by rw [k8]; omega), k8]
          have e9 : (8 * t + i).toInt = 8 * t.toInt + i.toInt := by rw [t_add (by omega) (by omega), m9]
          have c9 : (8 * t + i).toNatClampNeg = 8 * T + I := by have := cl_i (a := 8 * t + i) (by omega); omega
          refine ⟨w0, by rw [vp_in_iff]; omega, fun u2 g2 => ?_⟩
          rw [f0, c9] at g2
          have q3 := upk_up q2 (by omega) (tg_lo T6 (k := I) (by omega)) g2 (by rw [rw' q2])
          refine ihm u2 (l + 1) (i + 1) (by omega) (by omega) (by omega) ?_ ?_
          · rw [ci1, hl3]; rfl
          · rw [ci1]; exact q3
      refine p171 8 y22 L7 0 (by decide) (by decide) (by decide) ?_ ?_
      · rw [z0', l7]; omega
      · rw [z0', show 43 + 31 * T + 0 = 36 + 31 * T + 6 + 1 by omega]; exact q22
  have p34 : ∀ (n : Nat) (y : gd) (l t : Int32), 0 ≤ t.toInt → t.toInt ≤ 6 → 6 - t.toInt ≤ n → l.toInt = b.toInt + ((24 + 2 * t.toNatClampNeg : Nat) : Int) → upk z y C B (24 + 2 * t.toNatClampNeg) → MT G D z_unpack 34 [(0, vr 0), (1, vr C), (3, vi l), (4, vi t)] [] y (rv Fv) := by
    have last : ∀ (y : gd) (l t : Int32), 0 ≤ t.toInt → t.toInt ≤ 6 → 6 ≤ t.toInt → l.toInt = b.toInt + ((24 + 2 * t.toNatClampNeg : Nat) : Int) → upk z y C B (24 + 2 * t.toNatClampNeg) → MT G D z_unpack 75 [(0, vr 0), (1, vr C), (3, vi l), (4, vi 0)] [] y (rv Fv) := by
      intro y l t t0 t6 t6' hl q
      have ct := cl_i t0
      have eo : 24 + 2 * t.toNatClampNeg = 36 + 31 * (0 : Int32).toNatClampNeg := by rw [z0']; omega
      rw [eo] at hl q
      exact p75 6 y l 0 (by decide) (by decide) (by decide) hl q
    intro n
    induction n with
    | zero =>
      intro y l t t0 t6 hn hl q
      exact sg_unpack_34 kC mC _ _ ⟨fun _ => last y l t t0 t6 (by omega) hl q, fun c => absurd (t_le.mpr (by rw [k6]; omega)) c⟩
    | succ n ih =>
      intro y l t t0 t6 hn hl q
      have ct := cl_i t0
      refine sg_unpack_34 kC mC _ _ ⟨fun c => last y l t t0 t6 (by rw [t_le, k6] at c; exact c) hl q, fun c => ?_⟩
      rw [t_le, k6] at c
      have tv : vp_in t 6 := by rw [vp_in_iff]; omega
      obtain ⟨T, eT⟩ : ∃ T, T = t.toNatClampNeg := ⟨_, rfl⟩
      rw [← eT] at hl q ct
      have ti : (t + 1).toInt = t.toInt + 1 := by rw [t_add (by omega) (by omega), k1]
      have ct1 : (t + 1).toNatClampNeg = T + 1 := by have := cl_i (a := t + 1) (by omega); omega
      obtain ⟨w0, f0⟩ := at' l (24 + 2 * T) hl (by omega)
      have hl3 := ad l 1 _ 1 hl rfl (by omega)
      obtain ⟨w1, f1⟩ := at' (l + 1) (24 + 2 * T + 1) hl3 (by omega)
      have hl4 := ad l 2 _ 2 hl rfl (by omega)
      rw [← eT, f0, f1]
      refine ⟨w0, tv, fun y4 g4 => ?_⟩
      have q4 := upk_up q (by omega) (tg_l0 (l := T) (by omega)) g4 (by rw [rw' q])
      refine ⟨w1, tv, fun y7 g7 => ?_⟩
      have q7 := upk_up q4 (by omega) (by rw [show 24 + 2 * T + 1 = 25 + 2 * T by omega]; exact tg_l1 (l := T) (by omega)) g7 (by rw [rw' q4])
      refine ih y7 (l + 2) (t + 1) (by omega) (by omega) (by omega) ?_ ?_
      · rw [ct1, hl4]; omega
      · rw [ct1, show 24 + 2 * (T + 1) = 24 + 2 * T + 1 + 1 by omega]; exact q7
  have p5 : ∀ (n : Nat) (y : gd) (l t : Int32), 0 ≤ t.toInt → t.toInt ≤ 24 → 24 - t.toInt ≤ n → l.toInt = b.toInt + ((t.toNatClampNeg : Nat) : Int) → upk z y C B t.toNatClampNeg → MT G D z_unpack 5 [(0, vr 0), (1, vr C), (3, vi l), (4, vi t)] [] y (rv Fv) := by
    have last : ∀ (y : gd) (l t : Int32), 0 ≤ t.toInt → t.toInt ≤ 24 → 24 ≤ t.toInt → l.toInt = b.toInt + ((t.toNatClampNeg : Nat) : Int) → upk z y C B t.toNatClampNeg → MT G D z_unpack 34 [(0, vr 0), (1, vr C), (3, vi l), (4, vi 0)] [] y (rv Fv) := by
      intro y l t t0 t6 t6' hl q
      have ct := cl_i t0
      have eo : t.toNatClampNeg = 24 + 2 * (0 : Int32).toNatClampNeg := by rw [z0']; omega
      rw [eo] at hl q
      exact p34 6 y l 0 (by decide) (by decide) (by decide) hl q
    intro n
    induction n with
    | zero =>
      intro y l t t0 t6 hn hl q
      exact sg_unpack_5 kC mC _ _ ⟨fun _ => last y l t t0 t6 (by omega) hl q, fun c => absurd (t_le.mpr (by rw [k24]; omega)) c⟩
    | succ n ih =>
      intro y l t t0 t6 hn hl q
      have ct := cl_i t0
      refine sg_unpack_5 kC mC _ _ ⟨fun c => last y l t t0 t6 (by rw [t_le, k24] at c; exact c) hl q, fun c => ?_⟩
      rw [t_le, k24] at c
      obtain ⟨T, eT⟩ : ∃ T, T = t.toNatClampNeg := ⟨_, rfl⟩
      rw [← eT] at hl q ct
      have ti : (t + 1).toInt = t.toInt + 1 := by rw [t_add (by omega) (by omega), k1]
      have ct1 : (t + 1).toNatClampNeg = T + 1 := by have := cl_i (a := t + 1) (by omega); omega
      obtain ⟨w0, f0⟩ := at' l T hl (by omega)
      have hl3 := ad l 1 _ 1 hl rfl (by omega)
      rw [← eT, f0]
      refine ⟨w0, by rw [vp_in_iff]; omega, fun y4 g4 => ?_⟩
      have q4 := upk_up q (by omega) (tg_c (i := T) (by omega)) g4 (by rw [rw' q])
      refine ih y4 (l + 1) (t + 1) (by omega) (by omega) (by omega) ?_ ?_
      · rw [ct1, hl3]
      · rw [ct1]; exact q4
  refine sg_unpack_0 kC mC _ (p5 24 z b 0 (by decide) (by decide) (by decide) ?_ ⟨⟨fun _ _ => rfl, fun _ _ _ => rfl, rfl⟩, fun i hi => ?_⟩)
  · show b.toInt = b.toInt + ((0 : Nat) : Int)
    omega
  · rw [z0'] at hi
    omega
end UPK
/-- the places of the core, of the live late writes -/
theorem tg_core {i : Nat} (hi : i < 222) (h : i < 36 ∨ (i - 36) % 31 < 15) : coreP (tg i).1 (tg i).2 := by
  have key : ∀ c n j : Nat, (c, n) ∈ coreL → j < n → coreP c j := fun c n j a b => Or.inr ⟨n, a, b⟩
  by_cases h1 : i < 24
  · rw [tg_c h1]; exact key 70 24 i (by simp) h1
  by_cases h2 : i < 36
  · by_cases h3 : (i - 24) % 2 = 0
    · obtain ⟨l, hl⟩ : ∃ l, i = 24 + 2 * l := ⟨(i - 24) / 2, by omega⟩
      rw [hl, tg_l0 (by omega)]; exact key 71 6 l (by simp) (by omega)
    · obtain ⟨l, hl⟩ : ∃ l, i = 25 + 2 * l := ⟨(i - 25) / 2, by omega⟩
      rw [hl, tg_l1 (by omega)]; exact key 72 6 l (by simp) (by omega)
  · obtain ⟨t, r, hr, hr2⟩ : ∃ t r : Nat, i = 36 + 31 * t + r ∧ r < 15 := ⟨(i - 36) / 31, (i - 36) % 31, by omega, by omega⟩
    have t6 : t < 6 := by omega
    by_cases h3 : r < 7
    · rw [hr, tg_t t6 h3]
      have e : r = 0 ∨ r = 1 ∨ r = 2 ∨ r = 3 ∨ r = 4 ∨ r = 5 ∨ r = 6 := by omega
      rcases e with e | e | e | e | e | e | e
      · rw [e]; exact key 73 6 t (by simp) t6
      · rw [e]; exact key 74 6 t (by simp) t6
      · rw [e]; exact key 75 6 t (by simp) t6
      · rw [e]; exact key 77 6 t (by simp) t6
      · rw [e]; exact key 78 6 t (by simp) t6
      · rw [e]; exact key 79 6 t (by simp) t6
      · rw [e]; exact key 80 6 t (by simp) t6
    · obtain ⟨k, hk⟩ : ∃ k, r = k + 7 := ⟨r - 7, by omega⟩
      rw [hr, hk, show 36 + 31 * t + (k + 7) = 43 + 31 * t + k by omega, tg_lo t6 (by omega)]
      exact key 76 48 _ (by simp) (by omega)
/-- what is like a packs like a -/
theorem pv_eq {a z : gd} (e : eqS (Sl a) a z) {i : Nat} (hi : i < 222) : pv z i = pv a i := by
  by_cases h : i < 36 ∨ (i - 36) % 31 < 15
  · rw [pv_n h, pv_n h]
    exact e _ _ (Or.inl (tg_core hi h))
  · obtain ⟨t, r, hr, hr2, hr3⟩ : ∃ t r : Nat, i = 36 + 31 * t + r ∧ 15 ≤ r ∧ r < 31 := ⟨(i - 36) / 31, (i - 36) % 31, by omega, by omega, by omega⟩
    have t6 : t < 6 := by omega
    have e80 := cA e (c := 80) (n := 6) (by decide) t6
    by_cases h3 : (r - 15) % 2 = 0
    · obtain ⟨k, hk⟩ : ∃ k, r = 15 + 2 * k := ⟨(r - 15) / 2, by omega⟩
      rw [hr, hk, show 36 + 31 * t + (15 + 2 * k) = 51 + 31 * t + 2 * k by omega, pv_a t6 (by omega), pv_a t6 (by omega), e80]
      by_cases c : (k : Int) < (a.1 80 t).toInt
      · rw [if_pos c, if_pos c]
        exact e _ _ (Or.inr ⟨Or.inl rfl, t, k, t6, c, rfl⟩)
      · rw [if_neg c, if_neg c]
    · obtain ⟨k, hk⟩ : ∃ k, r = 16 + 2 * k := ⟨(r - 16) / 2, by omega⟩
      rw [hr, hk, show 36 + 31 * t + (16 + 2 * k) = 52 + 31 * t + 2 * k by omega, pv_b t6 (by omega), pv_b t6 (by omega), e80]
      by_cases c : (k : Int) < (a.1 80 t).toInt
      · rw [if_pos c, if_pos c]
        exact e _ _ (Or.inr ⟨Or.inr rfl, t, k, t6, c, rfl⟩)
      · rw [if_neg c, if_neg c]
/-- what is unpacked from a is like a -/
theorem un_eq {a y : gd} (p : prE a y) (w : y.1 0 68 = a.1 0 68) (h8 : ∀ t : Nat, t < 6 → (a.1 80 t).toInt ≤ 8) (h : ∀ i : Nat, i < 222 → y.1 (tg i).1 (tg i).2 = pv a i) : eqS (Sl a) a y := by
  have n : ∀ i : Nat, i < 222 → (i < 36 ∨ (i - 36) % 31 < 15) → y.1 (tg i).1 (tg i).2 = a.1 (tg i).1 (tg i).2 := fun i hi hn => by rw [h i hi, pv_n hn]
  have T : ∀ t r : Nat, t < 6 → r < 7 → y.1 (if r = 0 then 73 else if r = 1 then 74 else if r = 2 then 75 else if r = 3 then 77 else if r = 4 then 78 else if r = 5 then 79 else 80) t = a.1 (if r = 0 then 73 else if r = 1 then 74 else if r = 2 then 75 else if r = 3 then 77 else if r = 4 then 78 else if r = 5 then 79 else 80) t := fun t r ht hr => by
    have q := n (36 + 31 * t + r) (by omega) (by omega)
    rw [tg_t ht hr] at q
    exact q
  intro c j hc
  rcases hc with (⟨h1, h2⟩ | ⟨m, h1, h2⟩) | ⟨h1, t, k, t6, hk, ej⟩
  · rw [h1]
    simp at h2
    by_cases q : j = 68
    · rw [q]; exact w
    · exact p.1 j (by simp; omega)
  · by_cases q : c ∈ sA0
    · simp at q h1
      have e : c = 70 ∧ m = 24 ∨ c = 76 ∧ m = 48 ∨ (c = 71 ∧ m = 6) ∨ (c = 72 ∧ m = 6) ∨ ((c = 73 ∨ c = 74 ∨ c = 75 ∨ c = 77 ∨ c = 78 ∨ c = 79 ∨ c = 80) ∧ m = 6) := by omega
      rcases e with ⟨e, em⟩ | ⟨e, em⟩ | ⟨e, em⟩ | ⟨e, em⟩ | ⟨e, em⟩
      · rw [e]
        have q := n j (by omega) (by omega)
        rw [tg_c (by omega)] at q
        exact q
      · rw [e]
        obtain ⟨t, k, ej, k8⟩ : ∃ t k : Nat, j = 8 * t + k ∧ k < 8 := ⟨j / 8, j % 8, by omega, by omega⟩
        have q := n (43 + 31 * t + k) (by omega) (by omega)
        rw [tg_lo (by omega) k8] at q
        rw [ej]; exact q
      · rw [e]
        have q := n (24 + 2 * j) (by omega) (by omega)
        rw [tg_l0 (by omega)] at q
        exact q
      · rw [e]
        have q := n (25 + 2 * j) (by omega) (by omega)
        rw [tg_l1 (by omega)] at q
        exact q
      · have j6 : j < 6 := by omega
        rcases e with e | e | e | e | e | e | e
        · rw [e]; exact T j 0 j6 (by omega)
        · rw [e]; exact T j 1 j6 (by omega)
        · rw [e]; exact T j 2 j6 (by omega)
        · rw [e]; exact T j 3 j6 (by omega)
        · rw [e]; exact T j 4 j6 (by omega)
        · rw [e]; exact T j 5 j6 (by omega)
        · rw [e]; exact T j 6 j6 (by omega)
    · exact p.2 c m j h1 q h2
  · have h8' := h8 t t6
    rcases h1 with h1 | h1
    · have q := h (51 + 31 * t + 2 * k) (by omega)
      rw [tg_a t6 (by omega), pv_a t6 (by omega), if_pos hk] at q
      rw [h1, ej]; exact q
    · have q := h (52 + 31 * t + 2 * k) (by omega)
      rw [tg_b t6 (by omega), pv_b t6 (by omega), if_pos hk] at q
      rw [h1, ej]; exact q
