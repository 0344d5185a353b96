/-! a run begun: setFirst, startRun -/
abbrev sA0 : List Nat := [70, 71, 72, 73, 74, 75, 76, 77, 78, 79, 80]
/-- the first state of the cells, locks and threads -/
def iniT (y : gd) (j : Nat) : Prop := y.1 73 j = 0 ∧ y.1 74 j = 0 ∧ y.1 75 j = 0 ∧ y.1 77 j = 0 ∧ y.1 78 j = 0 ∧ y.1 79 j = -1 ∧ y.1 80 j = 0
def iniC (z y : gd) (j : Nat) : Prop := y.1 70 j = if (j : Int) < (z.1 0 23).toInt then z.1 36 j else 0
def iniL (y : gd) (j : Nat) : Prop := y.1 71 j = -1 ∧ y.1 72 j = 0
def ini (z y : gd) : Prop := md [] sA0 z y ∧ (∀ j : Nat, j < 24 → iniC z y j) ∧ (∀ j : Nat, j < 6 → iniL y j) ∧ (∀ j : Nat, j < 6 → iniT y j) ∧ ∀ j : Nat, j < 48 → y.1 76 j = 0
/-- the program of x -/
def prE (x z : gd) : Prop := (∀ k ∈ [23, 24, 25, 26, 27], z.1 0 k = x.1 0 k) ∧ ∀ c n j : Nat, (c, n) ∈ coreL → c ∉ sA0 → j < n → z.1 c j = x.1 c j
theorem prE_eqS {S : gS} {x z : gd} (e : eqS S x z) : prE x z := ⟨fun k hk => cF e (by simp at hk ⊢; omega), fun c n j h _ hj => cA e h hj⟩
theorem prE_mi {L A : List Nat} {x z z' : gd} (h : prE x z) (m : mi L A z z') (hL : [23, 24, 25, 26, 27].all (fun k => !L.elem k) = true) (hA : [36, 37, 38, 51, 52, 54, 55, 56, 57, 58, 59, 60, 61, 62, 64, 65, 66].all (fun k => !A.elem k) = true) : prE x z' := by
  refine ⟨fun k hk => ?_, fun c n j hc hn hj => ?_⟩
  · rw [m.1 k (all_no hL k hk)]; exact h.1 k hk
  · have : c ∈ [36, 37, 38, 51, 52, 54, 55, 56, 57, 58, 59, 60, 61, 62, 64, 65, 66] := by
      simp at hc hn ⊢
      omega
    rw [m.2 c (by simp at this; omega) (all_no hA c this)]
    exact h.2 c n j hc hn hj
theorem prE_rf (x : gd) : prE x x := ⟨fun _ _ => rfl, fun _ _ _ _ _ _ => rfl⟩
theorem prE_tr {x y z : gd} (a : prE x y) (b : prE y z) : prE x z := ⟨fun k hk => (b.1 k hk).trans (a.1 k hk), fun c n j h1 h2 h3 => (b.2 c n j h1 h2 h3).trans (a.2 c n j h1 h2 h3)⟩
theorem prE_sy {x z : gd} (a : prE x z) : prE z x := ⟨fun k hk => (a.1 k hk).symm, fun c n j h1 h2 h3 => (a.2 c n j h1 h2 h3).symm⟩
/-- begun with the same program and way, the states are alike -/
theorem ini_eq {x x1 z z1 : gd} (p : prE x z) (w : z.1 0 68 = x.1 0 68) (i : ini x x1) (j : ini z z1) : eqS (fun _ _ => False) x1 z1 := by
  intro c n h
  obtain ⟨i1, i2, i3, i4, i5⟩ := i
  obtain ⟨j1, j2, j3, j4, j5⟩ := j
  rcases h with (⟨h1, h2⟩ | ⟨m, h1, h2⟩) | h
  · rw [h1, i1.1 n (fun q => nomatch q), j1.1 n (fun q => nomatch q)]
    simp at h2
    by_cases q : n = 68
    · rw [q]; exact w
    · exact p.1 n (by simp; omega)
  · by_cases q : c ∈ sA0
    · simp at q h1
      have e : c = 70 ∧ m = 24 ∨ c = 76 ∧ m = 48 ∨ ((c = 71 ∨ c = 72) ∧ m = 6) ∨ ((c = 73 ∨ c = 74 ∨ c = 75 ∨ c = 77 ∨ c = 78 ∨ c = 79 ∨ c = 80) ∧ m = 6) := by omega
      rcases e with ⟨e, em⟩ | ⟨e, em⟩ | ⟨e, em⟩ | ⟨e, em⟩
      · rw [em] at h2
        have a1 := i2 n h2
        have a2 := j2 n h2
        unfold iniC at a1 a2
        rw [e, a1, a2, p.1 23 (by simp), p.2 36 24 n (by simp) (by simp) h2]
      · rw [em] at h2
        rw [e, i5 n h2, j5 n h2]
      · rw [em] at h2
        obtain ⟨a1, a2⟩ := i3 n h2
        obtain ⟨b1, b2⟩ := j3 n h2
        rcases e with e | e
        · rw [e, a1, b1]
        · rw [e, a2, b2]
      · rw [em] at h2
        obtain ⟨a1, a2, a3, a4, a5, a6, a7⟩ := i4 n h2
        obtain ⟨b1, b2, b3, b4, b5, b6, b7⟩ := j4 n h2
        rcases e with e | e | e | e | e | e | e
        · rw [e, a1, b1]
        · rw [e, a2, b2]
        · rw [e, a3, b3]
        · rw [e, a4, b4]
        · rw [e, a5, b5]
        · rw [e, a6, b6]
        · rw [e, a7, b7]
    · have c0 : c ≠ 0 := by simp at h1; omega
      rw [i1.2.1 c c0 q, j1.2.1 c c0 q]
      exact p.2 c m n h1 q h2
  · exact h.elim
/-- the first state itself -/
def ix (x : gd) : gd := (fun c j => if c = 70 then (if j < 24 then (if (j : Int) < (x.1 0 23).toInt then x.1 36 j else 0) else x.1 c j) else if c = 71 ∨ c = 79 then (if j < 6 then -1 else x.1 c j) else if c = 72 ∨ c = 73 ∨ c = 74 ∨ c = 75 ∨ c = 77 ∨ c = 78 ∨ c = 80 then (if j < 6 then 0 else x.1 c j) else if c = 76 then (if j < 48 then 0 else x.1 c j) else x.1 c j, x.2)
theorem ix_ini (x : gd) : ini x (ix x) := by
  refine ⟨⟨fun k _ => rfl, fun c c0 hc => ?_, rfl⟩, fun j hj => ?_, fun j hj => ⟨?_, ?_⟩, fun j hj => ⟨?_, ?_, ?_, ?_, ?_, ?_, ?_⟩, fun j hj => ?_⟩
  · simp at hc
    funext j
    show (if c = 70 then _ else if c = 71 ∨ c = 79 then _ else if c = 72 ∨ c = 73 ∨ c = 74 ∨ c = 75 ∨ c = 77 ∨ c = 78 ∨ c = 80 then _ else if c = 76 then _ else x.1 c j) = x.1 c j
    rw [if_neg (by omega), if_neg (by omega), if_neg (by omega), if_neg (by omega)]
  · show (if j < 24 then (if (j : Int) < (x.1 0 23).toInt then x.1 36 j else 0) else x.1 70 j) = _
    rw [if_pos hj]
  · show (if j < 6 then -1 else x.1 71 j) = -1
    rw [if_pos hj]
  · show (if j < 6 then 0 else x.1 72 j) = 0
    rw [if_pos hj]
  · show (if j < 6 then 0 else x.1 73 j) = 0
    rw [if_pos hj]
  · show (if j < 6 then 0 else x.1 74 j) = 0
    rw [if_pos hj]
  · show (if j < 6 then 0 else x.1 75 j) = 0
    rw [if_pos hj]
  · show (if j < 6 then 0 else x.1 77 j) = 0
    rw [if_pos hj]
  · show (if j < 6 then 0 else x.1 78 j) = 0
    rw [if_pos hj]
  · show (if j < 6 then -1 else x.1 79 j) = -1
    rw [if_pos hj]
  · show (if j < 6 then 0 else x.1 80 j) = 0
    rw [if_pos hj]
  · show (if j < 48 then 0 else x.1 76 j) = 0
    rw [if_pos hj]
section DST
variable {G : mG} {d D : Nat} {S : gS} {x z : gd} {P : Option gv → gd → Prop} {Fv : gd → gS → Prop}
theorem ds_setTail (cp : CP x) (i4 : ∀ j : Nat, j < 6 → iniT x j) (h : ∀ y S1, RI y S1 → Fv y S1) : MD 4 z_setFirst 157 [(0, vr 0), (1, vi 0)] [] S x (Dv Fv) := by
  have k0 : (0 : Int32).toInt = 0 := rfl
  have k1 : (1 : Int32).toInt = 1 := rfl
  have b25 := cp.1.2.2.2.2.2.1
  have ri0 : RI x S := by
    refine ⟨cp, fun t ht => ?_⟩
    obtain ⟨a1, a2, a3, a4, a5, a6, a7⟩ := i4 t ht
    refine ⟨⟨by rw [a2]; decide, by rw [a2]; decide, fun q => by rw [a1] at q; exact absurd q (by decide)⟩, Or.inl a4, by rw [a7]; decide, by rw [a7]; decide, fun k hk => ?_⟩
    rw [a7, k0] at hk; omega
  have loop : ∀ (n : Nat) (y : gd) (S1 : gS) (t : Int32), 0 ≤ t.toInt → (x.1 0 25).toInt - t.toInt ≤ n → y.1 0 25 = x.1 0 25 → RI y S1 → (∀ t' : Nat, t.toInt ≤ (t' : Int) → t' < 6 → y.1 73 t' = 0) → MD 4 z_setFirst 157 [(0, vr 0), (1, vi t)] [] S1 y (Dv Fv) := by
    intro n
    induction n with
    | zero =>
      intro y S1 t t0 hn e25 ry h0
      exact sd_setFirst_157 _ ⟨fun _ => Dv_i (h y S1 ry), fun c => absurd (t_le.mpr (by rw [e25]; omega)) c⟩
    | succ n ih =>
      intro y S1 t t0 hn e25 ry h0
      refine sd_setFirst_157 _ ⟨fun _ => Dv_i (h y S1 ry), fun c => ?_⟩
      rw [t_le, e25] at c
      have tv : vp_in t 6 := by rw [vp_in_iff]; omega
      have ct := cl_i t0
      have ti : (t + 1).toInt = t.toInt + 1 := by rw [t_add (by omega) (by omega), k1]
      refine ⟨tv, fun _ => ih y S1 (t + 1) (by omega) (by omega) e25 ry (fun t' h1 h2 => h0 t' (by omega) h2), fun _ => ⟨tv, fun y5 e5 => ⟨tv, tv, fun y8 e8 => ?_⟩⟩⟩
      have t5 : th t.toNatClampNeg y y5 := by rw [e5]; exact th_si (by decide) _ _
      have t8 : th t.toNatClampNeg y5 y8 := by rw [e8]; exact th_si (by decide) _ _
      have t58 := th_tr t5 t8
      have bg := ry.1.2.1.2.2.2.2.2 t.toNatClampNeg (by have := t_cl (y.1 0 25); rw [e25] at this; rw [e25]; omega)
      have j2 := ry.1.2.1.2.1
      have a74 : y8.1 74 t.toNatClampNeg = y.1 64 t.toNatClampNeg := by rw [e8, si_get, if_pos ⟨rfl, rfl⟩, e5, si_cell (by decide)]
      have a77 : y8.1 77 = y.1 77 := by rw [e8, si_cell (by decide), e5, si_cell (by decide)]
      have a52 : y8.1 0 52 = y.1 0 52 := t58.1.1 52 (by decide)
      have w0 : y.1 77 t.toNatClampNeg = 0 := by
        rcases (ry.2 _ (vt tv)).2.1 with q | ⟨_, q, _⟩
        · exact q
        · rw [h0 _ (by omega) (vt tv)] at q; exact absurd q (by decide)
      refine ds_own (d := 0) t tv (CP_th t58 ry.1) (by rw [a74]; exact ⟨bg.1, by omega⟩) (fun _ => by rw [a74, a52]; exact bg.2) (by rw [a77]; exact w0) (fun u S2 tu su ra' w' => ?_)
      have tt := th_tr t58 tu
      refine ih u S2 (t + 1) (by omega) (by omega) (by rw [tt.1.1 25 (by decide)]; exact e25) ⟨CP_th tt ry.1, fun t' ht' => ?_⟩ (fun t' h1 h2 => by rw [tt.2 73 t' (by simp) (by omega)]; exact h0 t' (by omega) h2)
      by_cases q : t' = t.toNatClampNeg
      · rw [q]; exact ⟨ra', Or.inl w', rl_th tt su (ry.2 _ (vt tv)).2.2⟩
      · exact rT_th tt su q (ry.2 t' ht')
  exact loop 6 x S 0 (by decide) (by rw [k0]; omega) rfl ri0 (fun t' _ h2 => (i4 t' h2).1)
theorem sp_setInit (h : ∀ y, ini z y → MT G (D + 1) z_setFirst 157 [(0, vr 0), (1, vi 0)] [] y P) : MT G (D + 1) z_setFirst 0 [(0, vr 0)] [] z P := by
  have k0 : (0 : Int32).toInt = 0 := rfl
  have k1 : (1 : Int32).toInt = 1 := rfl
  have k6 : (6 : Int32).toInt = 6 := rfl
  have k8 : (8 : Int32).toInt = 8 := rfl
  have k24 : (24 : Int32).toInt = 24 := rfl
  -- threads
  have p68 : ∀ (n : Nat) (y : gd) (t : Int32), 0 ≤ t.toInt → t.toInt ≤ 6 → 6 - t.toInt ≤ n → md [] sA0 z y → (∀ j : Nat, j < 24 → iniC z y j) → (∀ j : Nat, j < 6 → iniL y j) → (∀ j : Nat, (j : Int) < t.toInt → iniT y j) → (∀ j : Nat, (j : Int) < 8 * t.toInt → y.1 76 j = 0) → MT G (D + 1) z_setFirst 68 [(0, vr 0), (1, vi t)] [] y P := by
    intro n
    induction n with
    | zero =>
      intro y t t0 t6 hn my hc hl ht hlo
      exact sg_setFirst_68 _ ⟨fun _ => h y ⟨my, hc, hl, fun j hj => ht j (by omega), fun j hj => hlo j (by omega)⟩, fun c => absurd (t_le.mpr (by rw [k6]; omega)) c⟩
    | succ n ih =>
      intro y t t0 t6 hn my hc hl ht hlo
      refine sg_setFirst_68 _ ⟨fun c => h y ⟨my, hc, hl, fun j hj => ht j (by rw [t_le, k6] at c; omega), fun j hj => hlo j (by rw [t_le, k6] at c; omega)⟩, fun c => ?_⟩
      rw [t_le, k6] at c
      have tv : vp_in t 6 := by rw [vp_in_iff]; omega
      have ct := cl_i t0
      have ti : (t + 1).toInt = t.toInt + 1 := by rw [t_add (by omega) (by omega), k1]
      refine ⟨tv, fun y3 e3 => ⟨tv, fun y5 e5 => ⟨tv, fun y7 e7 => ⟨tv, fun y9 e9 => ⟨tv, fun y11 e11 => ⟨tv, fun y13 e13 => ⟨tv, fun y15 e15 => ?_⟩⟩⟩⟩⟩⟩⟩
      have m15 : md [] [73, 74, 75, 77, 78, 79, 80] y y15 := by
        rw [e15]
        refine md_tr (L := []) (A := [73, 74, 75, 77, 78, 79]) ?_ (md_a y13 80 t.toNatClampNeg 0 (by decide)) rfl rfl
        rw [e13]
        refine md_tr (L := []) (A := [73, 74, 75, 77, 78]) ?_ (md_a y11 79 t.toNatClampNeg (-1) (by decide)) rfl rfl
        rw [e11]
        refine md_tr (L := []) (A := [73, 74, 75, 77]) ?_ (md_a y9 78 t.toNatClampNeg 0 (by decide)) rfl rfl
        rw [e9]
        refine md_tr (L := []) (A := [73, 74, 75]) ?_ (md_a y7 77 t.toNatClampNeg 0 (by decide)) rfl rfl
        rw [e7]
        refine md_tr (L := []) (A := [73, 74]) ?_ (md_a y5 75 t.toNatClampNeg 0 (by decide)) rfl rfl
        rw [e5]
        refine md_tr (L := []) (A := [73]) ?_ (md_a y3 74 t.toNatClampNeg 0 (by decide)) rfl rfl
        rw [e3]
        exact md_a y 73 t.toNatClampNeg 0 (by decide)
      have ot : ∀ c j : Nat, ¬ j = t.toNatClampNeg → y15.1 c j = y.1 c j := fun c j hj => by
        rw [e15, si_ne c j hj, e13, si_ne c j hj, e11, si_ne c j hj, e9, si_ne c j hj, e7, si_ne c j hj, e5, si_ne c j hj, e3, si_ne c j hj]
      have it : iniT y15 t.toNatClampNeg := by
        refine ⟨?_, ?_, ?_, ?_, ?_, ?_, ?_⟩
        · rw [e15, si_cell (by decide), e13, si_cell (by decide), e11, si_cell (by decide), e9, si_cell (by decide), e7, si_cell (by decide), e5, si_cell (by decide), e3, si_get, if_pos ⟨rfl, rfl⟩]
        · rw [e15, si_cell (by decide), e13, si_cell (by decide), e11, si_cell (by decide), e9, si_cell (by decide), e7, si_cell (by decide), e5, si_get, if_pos ⟨rfl, rfl⟩]
        · rw [e15, si_cell (by decide), e13, si_cell (by decide), e11, si_cell (by decide), e9, si_cell (by decide), e7, si_get, if_pos ⟨rfl, rfl⟩]
        · rw [e15, si_cell (by decide), e13, si_cell (by decide), e11, si_cell (by decide), e9, si_get, if_pos ⟨rfl, rfl⟩]
        · rw [e15, si_cell (by decide), e13, si_cell (by decide), e11, si_get, if_pos ⟨rfl, rfl⟩]
        · rw [e15, si_cell (by decide), e13, si_get, if_pos ⟨rfl, rfl⟩]
        · rw [e15, si_get, if_pos ⟨rfl, rfl⟩]
      -- its lets
      have p125 : ∀ (m : Nat) (u : gd) (i : Int32), 0 ≤ i.toInt → i.toInt ≤ 8 → 8 - i.toInt ≤ m → md [] [76] y15 u → (∀ j : Nat, (j : Int) < 8 * t.toInt + i.toInt → u.1 76 j = 0) → MT G (D + 1) z_setFirst 125 [(0, vr 0), (1, vi t), (2, vi i)] [] u P := by
        have last : ∀ u : gd, md [] [76] y15 u → (∀ j : Nat, (j : Int) < 8 * t.toInt + 8 → u.1 76 j = 0) → MT G (D + 1) z_setFirst 68 [(0, vr 0), (1, vi (t + 1))] [] u P := by
          intro u mu hu
          have g := fun k (h0 : k ≠ 0) hk => mu.2.1 k h0 hk
          refine ih u (t + 1) (by omega) (by omega) (by omega) (md_tr (md_tr (L3 := []) (A3 := sA0) my m15 rfl rfl) mu rfl rfl) (fun j hj => ?_) (fun j hj => ?_) (fun j hj => ?_) (fun j hj => hu j (by omega))
          · unfold iniC
            rw [g 70 (by decide) (by decide), m15.2.1 70 (by decide) (by decide)]
            exact hc j hj
          · unfold iniL
            rw [g 71 (by decide) (by decide), m15.2.1 71 (by decide) (by decide), g 72 (by decide) (by decide), m15.2.1 72 (by decide) (by decide)]
            exact hl j hj
          · have q : iniT y15 j := by
              by_cases w : j = t.toNatClampNeg
              · rw [w]; exact it
              · unfold iniT
                rw [ot 73 j w, ot 74 j w, ot 75 j w, ot 77 j w, ot 78 j w, ot 79 j w, ot 80 j w]
                exact ht j (by omega)
            unfold iniT
            rw [g 73 (by decide) (by decide), g 74 (by decide) (by decide), g 75 (by decide) (by decide), g 77 (by decide) (by decide), g 78 (by decide) (by decide), g 79 (by decide) (by decide), g 80 (by decide) (by decide)]
            exact q
        intro m
        induction m with
        | zero =>
          intro u i i0 i8 hm mu hu
          exact sg_setFirst_125 _ _ ⟨fun _ => last u mu (fun j hj => hu j (by omega)), fun c => absurd (t_le.mpr (by rw [k8]; omega)) c⟩
        | succ m ihm =>
          intro u i i0 i8 hm mu hu
          refine sg_setFirst_125 _ _ ⟨fun c => last u mu (fun j hj => hu j (by rw [t_le, k8] at c; omega)), fun c => ?_⟩
          rw [t_le, k8] at c
          have ii : (i + 1).toInt = i.toInt + 1 := by rw [t_add (by omega) (by omega), k1]
          have m9 : (8 * t).toInt = 8 * t.toInt := by rw [t_mul (by rw [k8]; omega) (by rw [k8]; omega), k8]
          have e9 : (8 * t + i).toInt = 8 * t.toInt + i.toInt := by rw [t_add (by omega) (by omega), m9]
          refine ⟨by rw [vp_in_iff]; omega, fun u3 eu3 => ?_⟩
          have m3 := md_a u 76 (8 * t + i).toNatClampNeg 0 (by decide)
          rw [← eu3] at m3
          refine ihm u3 (i + 1) (by omega) (by omega) (by omega) (md_tr mu m3 rfl rfl) (fun j hj => ?_)
          rw [eu3, si_get]
          by_cases w : (76 : Nat) = 76 ∧ j = (8 * t + i).toNatClampNeg
          · rw [if_pos w]
          · rw [if_neg w]
            refine hu j ?_
            have := cl_i (a := 8 * t + i) (by omega)
            omega
      exact p125 8 y15 0 (by decide) (by decide) (by decide) (md_w (md_rf _) (by decide) (by decide)) (fun j hj => by rw [m15.2.1 76 (by decide) (by decide)]; exact hlo j (by rw [k0] at hj; omega))
  -- locks
  have p40 : ∀ (n : Nat) (y : gd) (t : Int32), 0 ≤ t.toInt → t.toInt ≤ 6 → 6 - t.toInt ≤ n → md [] [70, 71, 72] z y → (∀ j : Nat, j < 24 → iniC z y j) → (∀ j : Nat, (j : Int) < t.toInt → iniL y j) → MT G (D + 1) z_setFirst 40 [(0, vr 0), (1, vi t)] [] y P := by
    have last : ∀ y : gd, md [] [70, 71, 72] z y → (∀ j : Nat, j < 24 → iniC z y j) → (∀ j : Nat, j < 6 → iniL y j) → MT G (D + 1) z_setFirst 68 [(0, vr 0), (1, vi 0)] [] y P := fun y my hc hl => p68 6 y 0 (by decide) (by decide) (by decide) (md_w my (by decide) (by decide)) hc hl (fun j hj => by rw [k0] at hj; omega) (fun j hj => by rw [k0] at hj; omega)
    intro n
    induction n with
    | zero =>
      intro y t t0 t6 hn my hc hl
      exact sg_setFirst_40 _ ⟨fun _ => last y my hc (fun j hj => hl j (by omega)), fun c => absurd (t_le.mpr (by rw [k6]; omega)) c⟩
    | succ n ih =>
      intro y t t0 t6 hn my hc hl
      refine sg_setFirst_40 _ ⟨fun c => last y my hc (fun j hj => hl j (by rw [t_le, k6] at c; omega)), fun c => ?_⟩
      rw [t_le, k6] at c
      have tv : vp_in t 6 := by rw [vp_in_iff]; omega
      have ct := cl_i t0
      have ti : (t + 1).toInt = t.toInt + 1 := by rw [t_add (by omega) (by omega), k1]
      refine ⟨tv, fun y3 e3 => ⟨tv, fun y5 e5 => ?_⟩⟩
      have m3 := md_a y 71 t.toNatClampNeg (-1) (by decide)
      rw [← e3] at m3
      have m5 := md_a y3 72 t.toNatClampNeg 0 (by decide)
      rw [← e5] at m5
      have mm : md [] [71, 72] y y5 := md_tr m3 m5 rfl rfl
      refine ih y5 (t + 1) (by omega) (by omega) (by omega) (md_tr my mm rfl rfl) (fun j hj => ?_) (fun j hj => ?_)
      · unfold iniC
        rw [mm.2.1 70 (by decide) (by decide)]
        exact hc j hj
      · by_cases w : j = t.toNatClampNeg
        · rw [w]
          exact ⟨by rw [e5, si_cell (by decide), e3, si_get, if_pos ⟨rfl, rfl⟩], by rw [e5, si_get, if_pos ⟨rfl, rfl⟩]⟩
        · unfold iniL
          rw [e5, si_ne 71 j w, si_ne 72 j w, e3, si_ne 71 j w, si_ne 72 j w]
          exact hl j (by omega)
  -- cells
  have p2 : ∀ (n : Nat) (y : gd) (t : Int32), 0 ≤ t.toInt → t.toInt ≤ 24 → 24 - t.toInt ≤ n → md [] [70] z y → (∀ j : Nat, (j : Int) < t.toInt → iniC z y j) → MT G (D + 1) z_setFirst 2 [(0, vr 0), (1, vi t)] [] y P := by
    have last : ∀ y : gd, md [] [70] z y → (∀ j : Nat, j < 24 → iniC z y j) → MT G (D + 1) z_setFirst 40 [(0, vr 0), (1, vi 0)] [] y P := fun y my hc => p40 6 y 0 (by decide) (by decide) (by decide) (md_w my (by decide) (by decide)) hc (fun j hj => by rw [k0] at hj; omega)
    intro n
    induction n with
    | zero =>
      intro y t t0 t6 hn my hc
      exact sg_setFirst_2 _ ⟨fun _ => last y my (fun j hj => hc j (by omega)), fun c => absurd (t_le.mpr (by rw [k24]; omega)) c⟩
    | succ n ih =>
      intro y t t0 t6 hn my hc
      refine sg_setFirst_2 _ ⟨fun c => last y my (fun j hj => hc j (by rw [t_le, k24] at c; omega)), fun c => ?_⟩
      rw [t_le, k24] at c
      have tv : vp_in t 24 := by rw [vp_in_iff]; omega
      have ct := cl_i t0
      have ti : (t + 1).toInt = t.toInt + 1 := by rw [t_add (by omega) (by omega), k1]
      have go : ∀ (v : Int32) (u : gd), u = si y 70 t.toNatClampNeg v → v = (if ((t.toNatClampNeg : Nat) : Int) < (z.1 0 23).toInt then z.1 36 t.toNatClampNeg else 0) → MT G (D + 1) z_setFirst 2 [(0, vr 0), (1, vi (t + 1))] [] u P := by
        intro v u eu hv
        have m3 := md_a y 70 t.toNatClampNeg v (by decide)
        rw [← eu] at m3
        refine ih u (t + 1) (by omega) (by omega) (by omega) (md_tr my m3 rfl rfl) (fun j hj => ?_)
        unfold iniC
        by_cases w : j = t.toNatClampNeg
        · rw [eu, si_get, if_pos ⟨rfl, w⟩, hv, w]
        · rw [eu, si_ne 70 j w]
          exact hc j (by omega)
      have f23 : y.1 0 23 = z.1 0 23 := my.1 23 (by decide)
      have f36 : y.1 36 = z.1 36 := my.2.1 36 (by decide) (by decide)
      rw [f23, f36]
      refine ⟨fun c2 => ⟨tv, fun u eu => go _ u eu ?_⟩, fun c2 => ⟨tv, tv, fun u eu => go _ u eu ?_⟩⟩
      · rw [t_le] at c2
        rw [if_neg (by omega)]
      · rw [t_le] at c2
        rw [if_pos (by omega)]
  exact sg_setFirst_0 (p2 24 z 0 (by decide) (by decide) (by decide) (md_w (md_rf z) (by decide) (by decide)) (fun j hj => by rw [k0] at hj; omega))
/-- setFirst, from every memory with the program and the way of x -/
theorem first_ex (cp : CP x) : ∃ b, RI b (Sl b) ∧ b.1 0 68 = x.1 0 68 ∧ prE x b ∧ ∀ (G : mG) (D : Nat) (z : gd), 5 ≤ D → prE x z → z.1 0 68 = x.1 0 68 → MT G D z_setFirst 0 [(0, vr 0)] [] z (rv (fun z' => eqS (Sl b) b z' ∧ md rL rA z z')) := by
  have ii := ix_ini x
  obtain ⟨o, b, S', ⟨eo, rb⟩, m, q⟩ := ds_setTail (x := ix x) (S := fun _ _ => False) (Fv := fun y S1 => RI y S1) (CP_md ii.1 rfl rfl cp) ii.2.2.2.1 (fun y S1 h => h)
  refine ⟨b, RI_Sl rb, ?_, ?_, fun G D z hD p w => ?_⟩
  · rw [m.1 68 (by decide), ii.1.1 68 (by decide)]
  · exact prE_mi (prE_mi (prE_rf x) (mi_of ii.1) rfl rfl) (mi_of m) rfl rfl
  · obtain ⟨D, rfl⟩ : ∃ D', D = D' + 1 := ⟨D - 1, by omega⟩
    refine sp_setInit (fun y iy => MT_up (d := 4) (by omega) (MT_mono (q G y (ini_eq p w ii iy)) (fun o2 z' v => ?_)))
    rw [v.1, eo]
    exact rv_i ⟨eqS_w (Sl_in rb) v.2.1, md_tr (md_w iy.1 (L2 := rL) (A2 := rA) (by decide) (by decide)) v.2.2 rfl rfl⟩
abbrev sL' : List Nat := [67, 68, 82, 84, 88, 89, 90, 91, 92, 93, 94, 96]
abbrev sA' : List Nat := [70, 71, 72, 73, 74, 75, 76, 77, 78, 79, 80, 81, 82, 84, 86, 87, 88, 106, 107]
def sF (w : Int32) (z z' : gd) : Prop := mi sL' sA' z z' ∧ z'.1 0 94 = 0 ∧ HA z' ∧ z'.1 0 67 = 1 ∧ z'.1 0 68 = w
/-- what is like a0 is what a run by the way w begins with -/
def St (x : gd) (w : Int32) (a0 : gd) : Prop := ∀ (G : mG) (D : Nat) (z : gd) (Fv : gd → Prop), 6 ≤ D → prE x z → (∀ z', eqS (Sm a0) a0 z' → sF w z z' → Fv z') → MT G D z_startRun 0 [(0, vr 0), (1, vi w)] [] z (rv Fv)
theorem start_ex (cp : CP x) (w : Int32) (hw : w = 0 ∨ w = 1) : ∃ a0, AV a0 ∧ a0.1 0 68 = w ∧ prE x a0 ∧ St x w a0 ∧ ∃ b, md [84] [86, 87, 88] b a0 ∧ ∀ (G : mG) (D : Nat) (z : gd), 5 ≤ D → prE x z → z.1 0 68 = w → MT G D z_setFirst 0 [(0, vr 0)] [] z (rv (fun z' => eqS (Sl b) b z' ∧ md rL rA z z')) := by
  have k0 : (0 : Int32).toInt = 0 := rfl
  have k1 : (1 : Int32).toInt = 1 := rfl
  have k6 : (6 : Int32).toInt = 6 := rfl
  have mw := md_f x 68 w
  obtain ⟨xw, exw⟩ : ∃ xw, xw = si x 0 68 w := ⟨_, rfl⟩
  rw [← exw] at mw
  have ew : xw.1 0 68 = w := by rw [exw, si_get, if_pos ⟨rfl, rfl⟩]
  have pw : prE x xw := prE_mi (prE_rf x) (mi_of mw) rfl rfl
  obtain ⟨b, rb, b68, pb, hb⟩ := first_ex (CP_md mw rfl rfl cp)
  rw [ew] at b68
  obtain ⟨a0, av, fa, ma⟩ := fc_ex rb (by unfold wy01; rw [b68]; exact hw)
  refine ⟨a0, av, by rw [ma.1 68 (by decide), b68], prE_tr pw (prE_mi pb (mi_of ma) rfl rfl), ?_, b, ma, fun G D z hD p hz => hb G D z hD (prE_tr (prE_sy pw) p) (by rw [ew]; exact hz)⟩
  intro G D z Fv hD p hF
  obtain ⟨D, rfl⟩ : ∃ D', D = D' + 1 := ⟨D - 1, by omega⟩
  refine sg_startRun_0 _ (fun z1 e1 z2 e2 z3 e3 z4 e4 => ?_)
  have m1 := md_f z 68 w
  rw [← e1] at m1
  have m2 := md_f z1 67 1
  rw [← e2] at m2
  have m3 := md_f z2 94 0
  rw [← e3] at m3
  have m4 := md_f z3 96 0
  rw [← e4] at m4
  have m14 : md [68, 67, 94, 96] [] z z4 := md_tr (md_tr (L3 := [68, 67, 94]) (A3 := []) (md_tr (L3 := [68, 67]) (A3 := []) m1 m2 rfl rfl) m3 rfl rfl) m4 rfl rfl
  have f68 : z4.1 0 68 = w := by rw [m4.1 68 (by decide), m3.1 68 (by decide), m2.1 68 (by decide), e1, si_get, if_pos ⟨rfl, rfl⟩]
  have f67 : z4.1 0 67 = 1 := by rw [m4.1 67 (by decide), m3.1 67 (by decide), e2, si_get, if_pos ⟨rfl, rfl⟩]
  have f94 : z4.1 0 94 = 0 := by rw [m4.1 94 (by decide), e3, si_get, if_pos ⟨rfl, rfl⟩]
  have f96 : z4.1 0 96 = 0 := by rw [e4, si_get, if_pos ⟨rfl, rfl⟩]
  have loop : ∀ (n : Nat) (y : gd) (t : Int32), 0 ≤ t.toInt → t.toInt ≤ 6 → 6 - t.toInt ≤ n → md [] [106, 107] z4 y → (∀ j : Nat, (j : Int) < t.toInt → y.1 106 j = -1 ∧ y.1 107 j = -1) → MT G (D + 1) z_startRun 22 [(0, vr 0), (2, vi t)] [] y (rv Fv) := by
    have last : ∀ y : gd, md [] [106, 107] z4 y → (∀ j : Nat, j < 6 → y.1 106 j = -1 ∧ y.1 107 j = -1) → MT G D z_setFirst 0 [(0, vr 0)] [] y (rv (fun x2 => MT G D z_findChoices 0 [(0, vr 0)] [] x2 (rv (fun x3 => rv Fv none x3)))) := by
      intro y my hy
      have py : prE xw y := prE_tr (prE_sy pw) (prE_mi (prE_mi p (mi_of m14) rfl rfl) (mi_of my) rfl rfl)
      have wy' : y.1 0 68 = xw.1 0 68 := by rw [my.1 68 (by decide), f68, ew]
      refine MTv_mono (hb G D y (by omega) py wy') (fun u q => MT_up (by omega) (MTv_mono (fa G u q.1) (fun v qv => rv_i (hF v qv.1 ?_))))
      have g : mi [82, 84, 88, 89, 90, 91, 92, 93] rA y v := mi_of (md_rt q.2 qv.2)
      have v94 : v.1 0 94 = 0 := by rw [g.1 94 (by decide), my.1 94 (by decide), f94]
      have v96 : v.1 0 96 = 0 := by rw [g.1 96 (by decide), my.1 96 (by decide), f96]
      refine ⟨mi_tr (mi_tr (L3 := sL') (A3 := sA') (mi_of m14) (mi_of my) rfl rfl) g rfl rfl, v94, ⟨by rw [v96]; decide, by rw [v96, v94]; decide, by rw [v94]; decide, fun j hj => by rw [v96, k0] at hj; omega, fun t ht => ?_⟩, by rw [g.1 67 (by decide), my.1 67 (by decide), f67], by rw [g.1 68 (by decide), my.1 68 (by decide), f68]⟩
      rw [g.2 106 (by decide) (by decide), g.2 107 (by decide) (by decide)]
      exact ⟨Or.inl (hy t ht).1, Or.inl (hy t ht).2⟩
    intro n
    induction n with
    | zero =>
      intro y t t0 t6 hn my hy
      exact sg_startRun_22 _ ⟨fun _ => last y my (fun j hj => hy j (by omega)), fun c => absurd (t_le.mpr (by rw [k6]; omega)) c⟩
    | succ n ih =>
      intro y t t0 t6 hn my hy
      refine sg_startRun_22 _ ⟨fun c => last y my (fun j hj => hy j (by rw [t_le, k6] at c; omega)), fun c => ?_⟩
      rw [t_le, k6] at c
      have tv : vp_in t 6 := by rw [vp_in_iff]; omega
      have ct := cl_i t0
      have ti : (t + 1).toInt = t.toInt + 1 := by rw [t_add (by omega) (by omega), k1]
      refine ⟨tv, fun y5 e5 => ⟨tv, fun y7 e7 => ?_⟩⟩
      have m5 := md_a y 106 t.toNatClampNeg (-1) (by decide)
      rw [← e5] at m5
      have m7 := md_a y5 107 t.toNatClampNeg (-1) (by decide)
      rw [← e7] at m7
      refine ih y7 (t + 1) (by omega) (by omega) (by omega) (md_tr (md_tr (L3 := []) (A3 := [106, 107]) my m5 rfl rfl) m7 rfl rfl) (fun j hj => ?_)
      by_cases q : j = t.toNatClampNeg
      · rw [q]
        exact ⟨by rw [e7, si_cell (by decide), e5, si_get, if_pos ⟨rfl, rfl⟩], by rw [e7, si_get, if_pos ⟨rfl, rfl⟩]⟩
      · rw [e7, si_ne 106 j q, si_ne 107 j q, e5, si_ne 106 j q, si_ne 107 j q]
        exact hy j (by omega)
  exact loop 6 z4 0 (by decide) (by decide) (by decide) (md_w (md_rf _) (by decide) (by decide)) (fun j hj => by rw [k0] at hj; omega)
end DST
