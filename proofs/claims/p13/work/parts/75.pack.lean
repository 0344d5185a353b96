/-! a state packed: 222 ints; tg: which int of the state stands at a place -/
def tg (i : Nat) : Nat × Nat := if i < 24 then (70, i) else if i < 36 then (if (i - 24) % 2 = 0 then 71 else 72, (i - 24) / 2) else if (i - 36) % 31 < 7 then (if (i - 36) % 31 = 0 then 73 else if (i - 36) % 31 = 1 then 74 else if (i - 36) % 31 = 2 then 75 else if (i - 36) % 31 = 3 then 77 else if (i - 36) % 31 = 4 then 78 else if (i - 36) % 31 = 5 then 79 else 80, (i - 36) / 31) else if (i - 36) % 31 < 15 then (76, 8 * ((i - 36) / 31) + ((i - 36) % 31 - 7)) else (if ((i - 36) % 31 - 15) % 2 = 0 then 81 else 82, 10 * ((i - 36) / 31) + ((i - 36) % 31 - 15) / 2)
def iv (c j : Nat) : Nat := if c = 70 then j else if c = 71 then 24 + 2 * j else if c = 72 then 25 + 2 * j else if c = 73 then 36 + 31 * j else if c = 74 then 37 + 31 * j else if c = 75 then 38 + 31 * j else if c = 77 then 39 + 31 * j else if c = 78 then 40 + 31 * j else if c = 79 then 41 + 31 * j else if c = 80 then 42 + 31 * j else if c = 76 then 43 + 31 * (j / 8) + j % 8 else if c = 81 then 51 + 31 * (j / 10) + 2 * (j % 10) else 52 + 31 * (j / 10) + 2 * (j % 10)
theorem tg_iv : ∀ i : Fin 222, iv (tg i.val).1 (tg i.val).2 = i.val := by decide +kernel
theorem tg_inj {i j : Nat} (hi : i < 222) (hj : j < 222) (h : tg i = tg j) : i = j := by
  have a := tg_iv ⟨i, hi⟩
  have b := tg_iv ⟨j, hj⟩
  simp only at a b
  rw [h] at a
  omega
theorem tg_cells : ∀ i : Fin 222, (tg i.val).1 ∈ [70, 71, 72, 73, 74, 75, 76, 77, 78, 79, 80, 81, 82] := by decide +kernel
theorem tg_c {i : Nat} (h : i < 24) : tg i = (70, i) := by unfold tg; rw [if_pos h]
theorem tg_l0 {l : Nat} (h : l < 6) : tg (24 + 2 * l) = (71, l) := by
  unfold tg
  rw [if_neg (by omega), if_pos (by omega), if_pos (by omega), show (24 + 2 * l - 24) / 2 = l by omega]
theorem tg_l1 {l : Nat} (h : l < 6) : tg (25 + 2 * l) = (72, l) := by
  unfold tg
  rw [if_neg (by omega), if_pos (by omega), if_neg (by omega), show (25 + 2 * l - 24) / 2 = l by omega]
theorem tg_t {t r : Nat} (h : t < 6) (hr : r < 7) : tg (36 + 31 * t + r) = (if r = 0 then 73 else if r = 1 then 74 else if r = 2 then 75 else if r = 3 then 77 else if r = 4 then 78 else if r = 5 then 79 else 80, t) := by
  have h1 : (36 + 31 * t + r - 36) % 31 = r := by omega
  have h2 : (36 + 31 * t + r - 36) / 31 = t := by omega
  unfold tg
  rw [if_neg (by omega), if_neg (by omega), h1, h2, if_pos hr]
theorem tg_lo {t k : Nat} (h : t < 6) (hk : k < 8) : tg (43 + 31 * t + k) = (76, 8 * t + k) := by
  have h1 : (43 + 31 * t + k - 36) % 31 = k + 7 := by omega
  have h2 : (43 + 31 * t + k - 36) / 31 = t := by omega
  unfold tg
  rw [if_neg (by omega), if_neg (by omega), h1, h2, if_neg (by omega), if_pos (by omega), show k + 7 - 7 = k by omega]
theorem tg_a {t k : Nat} (h : t < 6) (hk : k < 8) : tg (51 + 31 * t + 2 * k) = (81, 10 * t + k) := by
  have h1 : (51 + 31 * t + 2 * k - 36) % 31 = 15 + 2 * k := by omega
  have h2 : (51 + 31 * t + 2 * k - 36) / 31 = t := by omega
  unfold tg
  rw [if_neg (by omega), if_neg (by omega), h1, h2, if_neg (by omega), if_neg (by omega), if_pos (by omega), show (15 + 2 * k - 15) / 2 = k by omega]
theorem tg_b {t k : Nat} (h : t < 6) (hk : k < 8) : tg (52 + 31 * t + 2 * k) = (82, 10 * t + k) := by
  have h1 : (52 + 31 * t + 2 * k - 36) % 31 = 16 + 2 * k := by omega
  have h2 : (52 + 31 * t + 2 * k - 36) / 31 = t := by omega
  unfold tg
  rw [if_neg (by omega), if_neg (by omega), h1, h2, if_neg (by omega), if_neg (by omega), if_neg (by omega), show (16 + 2 * k - 15) / 2 = k by omega]
/-- a place of a late write that is none -/
abbrev dead (a : gd) (i : Nat) : Prop := 36 ≤ i ∧ 15 ≤ (i - 36) % 31 ∧ ¬ ((((i - 36) % 31 - 15) / 2 : Nat) : Int) < (a.1 80 ((i - 36) / 31)).toInt
def pv (a : gd) (i : Nat) : Int32 := if dead a i then 0 else a.1 (tg i).1 (tg i).2
theorem pv_n {a : gd} {i : Nat} (h : i < 36 ∨ (i - 36) % 31 < 15) : pv a i = a.1 (tg i).1 (tg i).2 := by
  unfold pv
  rw [if_neg (fun q => by unfold dead at q; omega)]
theorem pv_a {a : gd} {t k : Nat} (h : t < 6) (hk : k < 8) : pv a (51 + 31 * t + 2 * k) = if (k : Int) < (a.1 80 t).toInt then a.1 81 (10 * t + k) else 0 := by
  have h1 : (51 + 31 * t + 2 * k - 36) % 31 = 15 + 2 * k := by omega
  have h2 : (51 + 31 * t + 2 * k - 36) / 31 = t := by omega
  unfold pv dead
  rw [h1, h2, show (15 + 2 * k - 15) / 2 = k by omega, tg_a h hk]
  by_cases c : (k : Int) < (a.1 80 t).toInt
  · rw [if_pos c, if_neg (fun q => q.2.2 c)]
  · rw [if_neg c, if_pos ⟨by omega, by omega, c⟩]
theorem pv_b {a : gd} {t k : Nat} (h : t < 6) (hk : k < 8) : pv a (52 + 31 * t + 2 * k) = if (k : Int) < (a.1 80 t).toInt then a.1 82 (10 * t + k) else 0 := by
  have h1 : (52 + 31 * t + 2 * k - 36) % 31 = 16 + 2 * k := by omega
  have h2 : (52 + 31 * t + 2 * k - 36) / 31 = t := by omega
  unfold pv dead
  rw [h1, h2, show (16 + 2 * k - 15) / 2 = k by omega, tg_b h hk]
  by_cases c : (k : Int) < (a.1 80 t).toInt
  · rw [if_pos c, if_neg (fun q => q.2.2 c)]
  · rw [if_neg c, if_pos ⟨by omega, by omega, c⟩]
section PCK
variable {G : mG} {d D : Nat} {x z a : gd} {F : Int32 → gd → Prop} {Fv : gd → Prop} {C N : Nat}
/-- packed up to o -/
def pku (z y : gd) (C b o : Nat) : Prop := md [] [C] z y ∧ (∀ i : Nat, i < o → y.1 C (b + i) = pv z i) ∧ ∀ j : Nat, (j < b ∨ b + o ≤ j) → y.1 C j = z.1 C j
theorem pku_up {y y2 : gd} {b o : Nat} {v : Int32} (q : pku z y C b o) (hC : C ≠ 0) (e : y2 = si y C (b + o) v) (hv : v = pv z o) : pku z y2 C b (o + 1) := by
  obtain ⟨q1, q2, q3⟩ := q
  have m := md_a y C (b + o) v hC
  rw [← e] at m
  refine ⟨⟨fun k hk => by rw [m.1 k (fun q => nomatch q), q1.1 k hk], fun c h1 h2 => by rw [m.2.1 c h1 h2, q1.2.1 c h1 h2], m.2.2.trans q1.2.2⟩, fun i hi => ?_, fun j hj => ?_⟩
  · rw [e, si_get]
    by_cases w : C = C ∧ b + i = b + o
    · rw [if_pos w, hv, show i = o by omega]
    · rw [if_neg w]; exact q2 i (by omega)
  · rw [e, si_get, if_neg (by omega)]; exact q3 j (by omega)
theorem sp_pack (hC : C = 133 ∨ C = 136) (kC : mK C = .inr (.int, N)) (mC : C ∈ mL) (b : Int32) (b0 : 0 ≤ b.toInt) (bN : b.toInt + 222 ≤ N) (hN : (N : Int) ≤ 1000000) (h80 : ∀ t : Nat, t < 6 → (z.1 80 t).toInt ≤ 8) (h : ∀ y, md [136] [C] z y → (y.1 0 136).toInt = 222 → (∀ i : Nat, i < 222 → y.1 C (b.toNatClampNeg + i) = pv z i) → (∀ j : Nat, (j < b.toNatClampNeg ∨ b.toNatClampNeg + 222 ≤ j) → y.1 C j = z.1 C j) → Fv y) : MT G D z_pack 0 [(0, vr 0), (1, vr C), (2, vi b)] [] z (rv Fv) := by
  have k0 : (0 : Int32).toInt = 0 := rfl
  have k1 : (1 : Int32).toInt = 1 := rfl
  have k2 : (2 : Int32).toInt = 2 := rfl
  have k6 : (6 : Int32).toInt = 6 := rfl
  have k8 : (8 : Int32).toInt = 8 := rfl
  have k24 : (24 : Int32).toInt = 24 := rfl
  have C0 : C ≠ 0 := by omega
  obtain ⟨B, eB⟩ : ∃ B, B = b.toNatClampNeg := ⟨_, rfl⟩
  have cB := cl_i b0
  rw [← eB] at cB h
  have at' : ∀ (l : Int32) (o : Nat), l.toInt = b.toInt + o → o < 222 → vp_in l N ∧ l.toNatClampNeg = B + o := fun l o hl ho => ⟨by rw [vp_in_iff]; omega, by have := cl_i (a := l) (by omega); omega⟩
  have ad : ∀ (l r : Int32) (o n : Nat), l.toInt = b.toInt + o → r.toInt = n → o + n ≤ 222 → (l + r).toInt = b.toInt + ((o + n : Nat) : Int) := fun l r o n hl hr ho => by rw [t_add (by omega) (by omega)]; omega
  have st : ∀ {y : gd} {o : Nat}, pku z y C B o → ∀ c : Nat, c ∈ [70, 71, 72, 73, 74, 75, 76, 77, 78, 79, 80, 81, 82] → y.1 c = z.1 c := fun q c hc => q.1.2.1 c (by simp at hc; omega) (by simp at hc ⊢; omega)
  -- threads
  have p75 : ∀ (n : Nat) (y : gd) (l t : Int32), 0 ≤ t.toInt → t.toInt ≤ 6 → 6 - t.toInt ≤ n → l.toInt = b.toInt + ((36 + 31 * t.toNatClampNeg : Nat) : Int) → pku z y C B (36 + 31 * t.toNatClampNeg) → MT G D z_pack 75 [(0, vr 0), (1, vr C), (2, vi b), (3, vi l), (4, vi t)] [] y (rv Fv) := by
    have last : ∀ (y : gd) (l t : Int32), 0 ≤ t.toInt → t.toInt ≤ 6 → 6 ≤ t.toInt → l.toInt = b.toInt + ((36 + 31 * t.toNatClampNeg : Nat) : Int) → pku z y C B (36 + 31 * t.toNatClampNeg) → ∀ x2 : gd, x2 = si y 0 136 (l - b) → rv Fv none x2 := by
      intro y l t t0 t6 t6' hl q x2 e2
      have ct := cl_i t0
      have et : 36 + 31 * t.toNatClampNeg = 222 := by omega
      rw [et] at hl q
      have m := md_f y 136 (l - b)
      rw [← e2] at m
      obtain ⟨q1, q2, q3⟩ := q
      refine rv_i (h x2 ⟨fun k hk => ?_, fun c h1 h2 => ?_, m.2.2.trans q1.2.2⟩ ?_ ?_ ?_)
      · rw [m.1 k hk, q1.1 k (fun w => nomatch w)]
      · rw [m.2.1 c h1 (fun w => nomatch w), q1.2.1 c h1 h2]
      · rw [e2, si_get, if_pos ⟨rfl, rfl⟩, t_sub (by omega) (by omega)]; omega
      · rw [m.2.1 C C0 (fun w => nomatch w)]; exact q2
      · rw [m.2.1 C C0 (fun w => nomatch w)]; exact q3
    intro n
    induction n with
    | zero =>
      intro y l t t0 t6 hn hl q
      exact sg_pack_75 kC mC _ _ _ ⟨fun _ => last y l t t0 t6 (by omega) hl q, fun c => absurd (t_le.mpr (by rw [k6]; omega)) c⟩
    | succ n ih =>
      intro y l t t0 t6 hn hl q
      have ct := cl_i t0
      refine sg_pack_75 kC mC _ _ _ ⟨fun c => last y l t t0 t6 (by rw [t_le, k6] at c; exact c) hl q, fun c => ?_⟩
      rw [t_le, k6] at c
      have tv : vp_in t 6 := by rw [vp_in_iff]; omega
      obtain ⟨T, eT⟩ : ∃ T, T = t.toNatClampNeg := ⟨_, rfl⟩
      rw [← eT] at hl q ct
      have T6 : T < 6 := by omega
      have tt : ∀ r : Nat, r < 7 → pv z (36 + 31 * T + r) = z.1 (if r = 0 then 73 else if r = 1 then 74 else if r = 2 then 75 else if r = 3 then 77 else if r = 4 then 78 else if r = 5 then 79 else 80) T := fun r hr => by rw [pv_n (by omega), tg_t T6 hr]
      have ad1 : ∀ (r : Int32) (n : Nat), r.toInt = n → n ≤ 7 → (l + r).toInt = b.toInt + ((36 + 31 * T + n : Nat) : Int) := fun r n hr hn => ad l r _ n hl hr (by omega)
      obtain ⟨v0, e0⟩ := at' l (36 + 31 * T) hl (by omega)
      obtain ⟨v1, e1⟩ := at' (l + 1) (36 + 31 * T + 1) (ad1 1 1 rfl (by omega)) (by omega)
      obtain ⟨v2, e2⟩ := at' (l + 2) (36 + 31 * T + 2) (ad1 2 2 rfl (by omega)) (by omega)
      obtain ⟨v3, e3⟩ := at' (l + 3) (36 + 31 * T + 3) (ad1 3 3 rfl (by omega)) (by omega)
      obtain ⟨v4, e4⟩ := at' (l + 4) (36 + 31 * T + 4) (ad1 4 4 rfl (by omega)) (by omega)
      obtain ⟨v5, e5⟩ := at' (l + 5) (36 + 31 * T + 5) (ad1 5 5 rfl (by omega)) (by omega)
      obtain ⟨v6, e6⟩ := at' (l + 6) (36 + 31 * T + 6) (ad1 6 6 rfl (by omega)) (by omega)
      have l7 := ad1 7 7 rfl (by omega)
      obtain ⟨L7, eL7⟩ : ∃ q, q = l + 7 := ⟨_, rfl⟩
      rw [← eL7] at l7 ⊢
      rw [← eT, e0, e1, e2, e3, e4, e5, e6]
      refine ⟨tv, v0, fun y5 g5 => ?_⟩
      have q5 := pku_up q C0 g5 (by rw [st q 73 (by decide)]; exact (tt 0 (by omega)).symm)
      refine ⟨tv, v1, fun y8 g8 => ?_⟩
      have q8 := pku_up q5 C0 g8 (by rw [st q5 74 (by decide)]; exact (tt 1 (by omega)).symm)
      refine ⟨tv, v2, fun y11 g11 => ?_⟩
      have q11 := pku_up q8 C0 g11 (by rw [st q8 75 (by decide)]; exact (tt 2 (by omega)).symm)
      refine ⟨tv, v3, fun y14 g14 => ?_⟩
      have q14 := pku_up q11 C0 g14 (by rw [st q11 77 (by decide)]; exact (tt 3 (by omega)).symm)
      refine ⟨tv, v4, fun y17 g17 => ?_⟩
      have q17 := pku_up q14 C0 g17 (by rw [st q14 78 (by decide)]; exact (tt 4 (by omega)).symm)
      refine ⟨tv, v5, fun y20 g20 => ?_⟩
      have q20 := pku_up q17 C0 g20 (by rw [st q17 79 (by decide)]; exact (tt 5 (by omega)).symm)
      refine ⟨tv, v6, fun y23 g23 => ?_⟩
      have q23 := pku_up q20 C0 g23 (by rw [st q20 80 (by decide)]; exact (tt 6 (by omega)).symm)
      -- late writes
      have p206 : ∀ (m : Nat) (u : gd) (l i : Int32), 0 ≤ i.toInt → i.toInt ≤ 8 → 8 - i.toInt ≤ m → l.toInt = b.toInt + ((51 + 31 * T + 2 * i.toNatClampNeg : Nat) : Int) → pku z u C B (51 + 31 * T + 2 * i.toNatClampNeg) → MT G D z_pack 206 [(0, vr 0), (1, vr C), (2, vi b), (3, vi l), (4, vi t), (5, vi i)] [] u (rv Fv) := by
        have lst : ∀ (u : gd) (l i : Int32), 0 ≤ i.toInt → i.toInt ≤ 8 → 8 ≤ i.toInt → l.toInt = b.toInt + ((51 + 31 * T + 2 * i.toNatClampNeg : Nat) : Int) → pku z u C B (51 + 31 * T + 2 * i.toNatClampNeg) → MT G D z_pack 75 [(0, vr 0), (1, vr C), (2, vi b), (3, vi l), (4, vi (t + 1))] [] u (rv Fv) := by
          intro u l i i0 i8 i8' hl2 q2
          have ci := cl_i i0
          have ti : (t + 1).toInt = t.toInt + 1 := by rw [t_add (by omega) (by omega), k1]
          have ct1 : (t + 1).toNatClampNeg = T + 1 := by have := cl_i (a := t + 1) (by omega); omega
          have eo : 51 + 31 * T + 2 * i.toNatClampNeg = 36 + 31 * (t + 1).toNatClampNeg := by omega
          rw [eo] at hl2 q2
          exact ih u l (t + 1) (by omega) (by omega) (by omega) hl2 q2
        intro m
        induction m with
        | zero =>
          intro u l i i0 i8 hm hl2 q2
          exact sg_pack_206 kC mC _ _ _ _ ⟨fun _ => lst u l i i0 i8 (by omega) hl2 q2, fun c => absurd (t_le.mpr (by rw [k8]; omega)) c⟩
        | succ m ihm =>
          intro u l i i0 i8 hm hl2 q2
          have ci := cl_i i0
          refine sg_pack_206 kC mC _ _ _ _ ⟨fun c => lst u l i i0 i8 (by rw [t_le, k8] at c; exact c) hl2 q2, fun c => ⟨tv, ?_⟩⟩
          rw [t_le, k8] at c
          obtain ⟨I, eI⟩ : ∃ I, I = i.toNatClampNeg := ⟨_, rfl⟩
          rw [← eI] at hl2 q2 ci
          have ii : (i + 1).toInt = i.toInt + 1 := by rw [t_add (by omega) (by omega), k1]
          have ci1 : (i + 1).toNatClampNeg = I + 1 := by have := cl_i (a := i + 1) (by omega); omega
          obtain ⟨w0, f0⟩ := at' l (51 + 31 * T + 2 * I) hl2 (by omega)
          have hl3 := ad l 1 _ 1 hl2 rfl (by omega)
          obtain ⟨w1, f1⟩ := at' (l + 1) (51 + 31 * T + 2 * I + 1) hl3 (by omega)
          have hl4 := ad l 2 _ 2 hl2 rfl (by omega)
          obtain ⟨x1, x2⟩ := t10 tv (i := i) i0 (by omega)
          rw [← eT, ← eI] at x2
          have u80 := st q2 80 (by decide)
          have hv1 := pv_a (a := z) T6 (k := I) (by omega)
          have hv2 := pv_b (a := z) T6 (k := I) (by omega)
          rw [show 52 + 31 * T + 2 * I = 51 + 31 * T + 2 * I + 1 by omega] at hv2
          have p244 : ∀ v : Int32, v = pv z (51 + 31 * T + 2 * I) → MT G D z_pack 244 [(0, vr 0), (1, vr C), (2, vi b), (3, vi l), (4, vi t), (5, vi i)] [vi v, vi l, vr C] u (rv Fv) := by
            intro v hv
            refine sg_pack_244 kC mC _ _ _ _ _ _ ⟨w0, fun u2 g2 => ⟨tv, ?_⟩⟩
            rw [f0] at g2
            have q3 := pku_up q2 C0 g2 hv
            have u80b := st q3 80 (by decide)
            have u82b := st q3 82 (by decide)
            rw [← eT, u80b, f1, x2, u82b]
            have nx : ∀ (v2 : Int32) (u3 : gd), u3 = si u2 C (B + (51 + 31 * T + 2 * I + 1)) v2 → v2 = pv z (51 + 31 * T + 2 * I + 1) → MT G D z_pack 206 [(0, vr 0), (1, vr C), (2, vi b), (3, vi (l + 2)), (4, vi t), (5, vi (i + 1))] [] u3 (rv Fv) := by
              intro v2 u3 g3 hv3
              have q4 := pku_up q3 C0 g3 hv3
              refine ihm u3 (l + 2) (i + 1) (by omega) (by omega) (by omega) ?_ ?_
              · rw [ci1, hl4]; omega
              · rw [ci1, show 51 + 31 * T + 2 * (I + 1) = 51 + 31 * T + 2 * I + 1 + 1 by omega]; exact q4
            refine ⟨fun cc => ⟨w1, fun u3 g3 => nx _ u3 g3 ?_⟩, fun cc => ⟨x1, w1, fun u3 g3 => nx _ u3 g3 ?_⟩⟩
            · rw [hv2, if_neg (by rw [t_le] at cc; omega)]
            · rw [hv2, if_pos (by rw [t_le] at cc; omega)]
          rw [← eT, u80]
          refine ⟨fun cc => p244 0 ?_, fun cc => ⟨x1, p244 _ ?_⟩⟩
          · rw [hv1, if_neg (by rw [t_le] at cc; omega)]
          · rw [hv1, if_pos (by rw [t_le] at cc; omega), x2, st q2 81 (by decide)]
      -- lets
      have p171 : ∀ (m : Nat) (u : gd) (l i : Int32), 0 ≤ i.toInt → i.toInt ≤ 8 → 8 - i.toInt ≤ m → l.toInt = b.toInt + ((43 + 31 * T + i.toNatClampNeg : Nat) : Int) → pku z u C B (43 + 31 * T + i.toNatClampNeg) → MT G D z_pack 171 [(0, vr 0), (1, vr C), (2, vi b), (3, vi l), (4, vi t), (5, vi i)] [] u (rv Fv) := by
        have lst : ∀ (u : gd) (l i : Int32), 0 ≤ i.toInt → i.toInt ≤ 8 → 8 ≤ i.toInt → l.toInt = b.toInt + ((43 + 31 * T + i.toNatClampNeg : Nat) : Int) → pku z u C B (43 + 31 * T + i.toNatClampNeg) → MT G D z_pack 206 [(0, vr 0), (1, vr C), (2, vi b), (3, vi l), (4, vi t), (5, vi 0)] [] u (rv Fv) := by
          intro u l i i0 i8 i8' hl2 q2
          have ci := cl_i i0
          have z0' : (0 : Int32).toNatClampNeg = 0 := rfl
          have eo : 43 + 31 * T + i.toNatClampNeg = 51 + 31 * T + 2 * (0 : Int32).toNatClampNeg := by rw [z0']; omega
          rw [eo] at hl2 q2
          exact p206 8 u l 0 (by decide) (by decide) (by decide) hl2 q2
        intro m
        induction m with
        | zero =>
          intro u l i i0 i8 hm hl2 q2
          exact sg_pack_171 kC mC _ _ _ _ ⟨fun _ => lst u l i i0 i8 (by omega) hl2 q2, fun c => absurd (t_le.mpr (by rw [k8]; omega)) c⟩
        | succ m ihm =>
          intro u l i i0 i8 hm hl2 q2
          have ci := cl_i i0
          refine sg_pack_171 kC mC _ _ _ _ ⟨fun c => lst u l i i0 i8 (by rw [t_le, k8] at c; exact c) hl2 q2, fun c => ?_⟩
          rw [t_le, k8] at c
          obtain ⟨I, eI⟩ : ∃ I, I = i.toNatClampNeg := ⟨_, rfl⟩
          rw [← eI] at hl2 q2 ci
          have ii : (i + 1).toInt = i.toInt + 1 := by rw [t_add (by omega) (by omega), k1]
          have ci1 : (i + 1).toNatClampNeg = I + 1 := by have := cl_i (a := i + 1) (by omega); omega
          obtain ⟨w0, f0⟩ := at' l (43 + 31 * T + I) hl2 (by omega)
          have hl3 := ad l 1 _ 1 hl2 rfl (by omega)
          have m9 : (8 * t).toInt = 8 * t.toInt := by rw [t_mul (by rw [k8]; omega) (by rw [k8]; omega), k8]
          have e9 : (8 * t + i).toInt = 8 * t.toInt + i.toInt := by rw [t_add (by omega) (by omega), m9]
          have c9 : (8 * t + i).toNatClampNeg = 8 * T + I := by have := cl_i (a := 8 * t + i) (by omega); omega
          refine ⟨by rw [vp_in_iff]; omega, w0, fun u2 g2 => ?_⟩
          rw [f0, c9] at g2
          have q3 := pku_up q2 C0 g2 (by rw [st q2 76 (by decide), pv_n (by omega), tg_lo T6 (by omega)])
          refine ihm u2 (l + 1) (i + 1) (by omega) (by omega) (by omega) ?_ ?_
          · rw [ci1, hl3]; rfl
          · rw [ci1]; exact q3
      have z0' : (0 : Int32).toNatClampNeg = 0 := rfl
      refine p171 8 y23 L7 0 (by decide) (by decide) (by decide) ?_ ?_
      · rw [z0', l7]; omega
      · rw [z0', show 43 + 31 * T + 0 = 36 + 31 * T + 6 + 1 by omega]; exact q23
  -- locks
  have p34 : ∀ (n : Nat) (y : gd) (l t : Int32), 0 ≤ t.toInt → t.toInt ≤ 6 → 6 - t.toInt ≤ n → l.toInt = b.toInt + ((24 + 2 * t.toNatClampNeg : Nat) : Int) → pku z y C B (24 + 2 * t.toNatClampNeg) → MT G D z_pack 34 [(0, vr 0), (1, vr C), (2, vi b), (3, vi l), (4, vi t)] [] y (rv Fv) := by
    have last : ∀ (y : gd) (l t : Int32), 0 ≤ t.toInt → t.toInt ≤ 6 → 6 ≤ t.toInt → l.toInt = b.toInt + ((24 + 2 * t.toNatClampNeg : Nat) : Int) → pku z y C B (24 + 2 * t.toNatClampNeg) → MT G D z_pack 75 [(0, vr 0), (1, vr C), (2, vi b), (3, vi l), (4, vi 0)] [] y (rv Fv) := by
      intro y l t t0 t6 t6' hl q
      have ct := cl_i t0
      have z0' : (0 : Int32).toNatClampNeg = 0 := rfl
      have eo : 24 + 2 * t.toNatClampNeg = 36 + 31 * (0 : Int32).toNatClampNeg := by rw [z0']; omega
      rw [eo] at hl q
      exact p75 6 y l 0 (by decide) (by decide) (by decide) hl q
    intro n
    induction n with
    | zero =>
      intro y l t t0 t6 hn hl q
      exact sg_pack_34 kC mC _ _ _ ⟨fun _ => last y l t t0 t6 (by omega) hl q, fun c => absurd (t_le.mpr (by rw [k6]; omega)) c⟩
    | succ n ih =>
      intro y l t t0 t6 hn hl q
      have ct := cl_i t0
      refine sg_pack_34 kC mC _ _ _ ⟨fun c => last y l t t0 t6 (by rw [t_le, k6] at c; exact c) hl q, fun c => ?_⟩
      rw [t_le, k6] at c
      have tv : vp_in t 6 := by rw [vp_in_iff]; omega
      obtain ⟨T, eT⟩ : ∃ T, T = t.toNatClampNeg := ⟨_, rfl⟩
      rw [← eT] at hl q ct
      have ti : (t + 1).toInt = t.toInt + 1 := by rw [t_add (by omega) (by omega), k1]
      have ct1 : (t + 1).toNatClampNeg = T + 1 := by have := cl_i (a := t + 1) (by omega); omega
      obtain ⟨w0, f0⟩ := at' l (24 + 2 * T) hl (by omega)
      have hl3 := ad l 1 _ 1 hl rfl (by omega)
      obtain ⟨w1, f1⟩ := at' (l + 1) (24 + 2 * T + 1) hl3 (by omega)
      have hl4 := ad l 2 _ 2 hl rfl (by omega)
      rw [← eT, f0, f1]
      refine ⟨tv, w0, fun y4 g4 => ?_⟩
      have q4 := pku_up q C0 g4 (by rw [st q 71 (by decide), pv_n (by omega), tg_l0 (by omega)])
      refine ⟨tv, w1, fun y7 g7 => ?_⟩
      have q7 := pku_up q4 C0 g7 (by rw [st q4 72 (by decide), pv_n (by omega), show 24 + 2 * T + 1 = 25 + 2 * T by omega, tg_l1 (by omega)])
      refine ih y7 (l + 2) (t + 1) (by omega) (by omega) (by omega) ?_ ?_
      · rw [ct1, hl4]; rfl
      · rw [ct1, show 24 + 2 * (T + 1) = 24 + 2 * T + 1 + 1 by omega]; exact q7
  -- cells
  have p5 : ∀ (n : Nat) (y : gd) (l t : Int32), 0 ≤ t.toInt → t.toInt ≤ 24 → 24 - t.toInt ≤ n → l.toInt = b.toInt + ((t.toNatClampNeg : Nat) : Int) → pku z y C B t.toNatClampNeg → MT G D z_pack 5 [(0, vr 0), (1, vr C), (2, vi b), (3, vi l), (4, vi t)] [] y (rv Fv) := by
    have last : ∀ (y : gd) (l t : Int32), 0 ≤ t.toInt → t.toInt ≤ 24 → 24 ≤ t.toInt → l.toInt = b.toInt + ((t.toNatClampNeg : Nat) : Int) → pku z y C B t.toNatClampNeg → MT G D z_pack 34 [(0, vr 0), (1, vr C), (2, vi b), (3, vi l), (4, vi 0)] [] y (rv Fv) := by
      intro y l t t0 t6 t6' hl q
      have ct := cl_i t0
      have z0' : (0 : Int32).toNatClampNeg = 0 := rfl
      have eo : t.toNatClampNeg = 24 + 2 * (0 : Int32).toNatClampNeg := by rw [z0']; omega
      rw [eo] at hl q
      exact p34 6 y l 0 (by decide) (by decide) (by decide) hl q
    intro n
    induction n with
    | zero =>
      intro y l t t0 t6 hn hl q
      exact sg_pack_5 kC mC _ _ _ ⟨fun _ => last y l t t0 t6 (by omega) hl q, fun c => absurd (t_le.mpr (by rw [k24]; omega)) c⟩
    | succ n ih =>
      intro y l t t0 t6 hn hl q
      have ct := cl_i t0
      refine sg_pack_5 kC mC _ _ _ ⟨fun c => last y l t t0 t6 (by rw [t_le, k24] at c; exact c) hl q, fun c => ?_⟩
      rw [t_le, k24] at c
      obtain ⟨T, eT⟩ : ∃ T, T = t.toNatClampNeg := ⟨_, rfl⟩
      rw [← eT] at hl q ct
      have ti : (t + 1).toInt = t.toInt + 1 := by rw [t_add (by omega) (by omega), k1]
      have ct1 : (t + 1).toNatClampNeg = T + 1 := by have := cl_i (a := t + 1) (by omega); omega
      obtain ⟨w0, f0⟩ := at' l T hl (by omega)
      have hl3 := ad l 1 _ 1 hl rfl (by omega)
      rw [← eT, f0]
      refine ⟨by rw [vp_in_iff]; omega, w0, fun y4 g4 => ?_⟩
      have q4 := pku_up q C0 g4 (by rw [st q 70 (by decide), pv_n (by omega), tg_c (by omega)])
      refine ih y4 (l + 1) (t + 1) (by omega) (by omega) (by omega) ?_ ?_
      · rw [ct1, hl3]
      · rw [ct1]; exact q4
  refine sg_pack_0 kC mC _ (p5 24 z b 0 (by decide) (by decide) (by decide) ?_ ⟨⟨fun _ _ => rfl, fun _ _ _ => rfl, rfl⟩, fun i hi => ?_, fun _ _ => rfl⟩)
  · show b.toInt = b.toInt + ((0 : Nat) : Int)
    omega
  · have z0' : (0 : Int32).toNatClampNeg = 0 := rfl
    rw [z0'] at hi
    omega
end PCK
