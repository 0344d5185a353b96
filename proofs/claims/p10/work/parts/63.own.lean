/-! a thread's own steps. state 73, at 74, waits 77, lateMany 80, lateCell 81, lateValue 82 -/
/-- the late writes of a thread -/
def rl (x : gd) (S : gS) (t : Nat) : Prop := 0 ≤ (x.1 80 t).toInt ∧ (x.1 80 t).toInt ≤ 8 ∧ ∀ k : Nat, (k : Int) < (x.1 80 t).toInt → S 81 (10 * t + k) ∧ S 82 (10 * t + k) ∧ 0 ≤ (x.1 81 (10 * t + k)).toInt ∧ (x.1 81 (10 * t + k)).toInt < 24
/-- where a thread is; that it is at an act -/
def ra (x : gd) (t : Nat) : Prop := 0 ≤ (x.1 74 t).toInt ∧ (x.1 74 t).toInt < 1500 ∧ (x.1 73 t = 1 → (x.1 74 t).toInt < (x.1 0 52).toInt ∧ x.1 54 (x.1 74 t).toNatClampNeg = 6)
def rw' (x : gd) (t : Nat) : Prop := x.1 77 t = 0 ∨ ((x.1 77 t = 1 ∨ x.1 77 t = 2) ∧ x.1 73 t = 1 ∧ x.1 55 (x.1 74 t).toNatClampNeg = 7)
def rT (x : gd) (S : gS) (t : Nat) : Prop := ra x t ∧ rw' x t ∧ rl x S t
def RI (x : gd) (S : gS) : Prop := CP x ∧ ∀ t : Nat, t < 6 → rT x S t
abbrev hL : List Nat := [82]
abbrev hA : List Nat := [73, 74, 75, 76, 77, 78, 84]
/-- what a thread's own steps change -/
def th (t : Nat) (x x' : gd) : Prop := md hL hA x x' ∧ ∀ c j : Nat, (c = 73 ∨ c = 74 ∨ c = 77) → ¬ j = t → x'.1 c j = x.1 c j
theorem th_rf (t : Nat) (x : gd) : th t x x := ⟨md_w (md_rf x) (by decide) (by decide), fun _ _ _ _ => rfl⟩
theorem th_tr {t : Nat} {x y z : gd} (a : th t x y) (b : th t y z) : th t x z := ⟨md_tr a.1 b.1 rfl rfl, fun c j h1 h2 => (b.2 c j h1 h2).trans (a.2 c j h1 h2)⟩
theorem th_si {t c : Nat} (h : c ∈ [73, 74, 75, 77, 78]) (x : gd) (v : Int32) : th t x (si x c t v) := by
  have h0 : c ≠ 0 := fun e => by rw [e] at h; exact absurd h (by decide)
  refine ⟨md_w (md_a x c t v h0) (fun i hi => nomatch hi) (fun i hi => ?_), fun c' j _ hj => si_ne c' j hj⟩
  rw [List.mem_singleton.mp hi]
  simp at h ⊢
  omega
theorem th_md {t : Nat} {L A : List Nat} {x x' : gd} (h : md L A x x') (h1 : L.all (hL.elem ·) = true) (h2 : A.all ([75, 76, 78, 84].elem ·) = true) : th t x x' := by
  have g : ∀ k ∈ A, k ∈ [75, 76, 78, 84] := fun k hk => List.elem_iff.mp (List.all_eq_true.mp h2 k hk)
  refine ⟨md_w h (fun k hk => List.elem_iff.mp (List.all_eq_true.mp h1 k hk)) (fun k hk => by have := g k hk; simp at this ⊢; omega), fun c j hc _ => ?_⟩
  rw [h.2.1 c (by omega) (fun q => by have := g c q; simp at this; omega)]
theorem th_w {t : Nat} {x x' : gd} (h : th t x x') : md rL rA x x' := md_w h.1 (by decide) (by decide)
theorem CP_th {t : Nat} {x x' : gd} (h : th t x x') (q : CP x) : CP x' := CP_md h.1 rfl rfl q
theorem rl_th {t t' : Nat} {x x' : gd} {S S' : gS} (h : th t x x') (s : ssub S S') (q : rl x S t') : rl x' S' t' := by
  unfold rl
  rw [h.1.2.1 80 (by decide) (by decide), h.1.2.1 81 (by decide) (by decide)]
  exact ⟨q.1, q.2.1, fun k hk => ⟨s _ _ (q.2.2 k hk).1, s _ _ (q.2.2 k hk).2.1, (q.2.2 k hk).2.2⟩⟩
theorem rT_th {t t' : Nat} {x x' : gd} {S S' : gS} (h : th t x x') (s : ssub S S') (ne : ¬ t' = t) (q : rT x S t') : rT x' S' t' := by
  have e73 := h.2 73 t' (by simp) ne
  have e74 := h.2 74 t' (by simp) ne
  have e77 := h.2 77 t' (by simp) ne
  refine ⟨?_, ?_, rl_th h s q.2.2⟩
  · unfold ra
    rw [e73, e74, h.1.1 52 (by decide), h.1.2.1 54 (by decide) (by decide)]
    exact q.1
  · unfold rw'
    rw [e73, e74, e77, h.1.2.1 55 (by decide) (by decide)]
    exact q.2.1
section DSO
variable {d : Nat} {S : gS} {x : gd} {F : Int32 → gd → gS → Prop} {Fv : gd → gS → Prop}
theorem ds_fail (t n : Int32) (ht : vp_in t 6) (h : ∀ x', th t.toNatClampNeg x x' → x'.1 73 t.toNatClampNeg = 3 → x'.1 74 t.toNatClampNeg = x.1 74 t.toNatClampNeg → x'.1 77 t.toNatClampNeg = 0 → Fv x' S) : MD d z_failThread 0 [(0, vr 0), (1, vi t), (2, vi n)] [] S x (Dv Fv) := by
  refine sd_failThread_0 _ _ ⟨ht, fun x2 e2 => ⟨ht, fun x4 e4 => ⟨ht, fun x6 e6 => ⟨ht, fun x8 e8 => Dv_i (h x8 ?_ ?_ ?_ ?_)⟩⟩⟩⟩
  · rw [e8, e6, e4, e2]
    exact th_tr (th_tr (th_tr (th_si (by decide) _ _) (th_si (by decide) _ _)) (th_si (by decide) _ _)) (th_si (by decide) _ _)
  · rw [e8, si_cell (by decide), e6, si_cell (by decide), e4, si_cell (by decide), e2, si_get, if_pos ⟨rfl, rfl⟩]
  · rw [e8, si_cell (by decide), e6, si_cell (by decide), e4, si_cell (by decide), e2, si_cell (by decide)]
  · rw [e8, si_cell (by decide), e6, si_get, if_pos ⟨rfl, rfl⟩]
theorem ds_clean (t : Int32) (ht : vp_in t 6) (ha : 0 ≤ (x.1 74 t.toNatClampNeg).toInt ∧ (x.1 74 t.toNatClampNeg).toInt < 1500) (h : ∀ x', th t.toNatClampNeg x x' → x'.1 73 = x.1 73 → x'.1 77 = x.1 77 → (x'.1 74 t.toNatClampNeg = x.1 74 t.toNatClampNeg ∨ (x'.1 74 t.toNatClampNeg = 0 ∧ ¬ x.1 73 t.toNatClampNeg = 1)) → Fv x' S) : MD d z_clean 0 [(0, vr 0), (1, vi t)] [] S x (Dv Fv) := by
  have k1 : (1 : Int32).toInt = 1 := rfl
  have k8 : (8 : Int32).toInt = 8 := rfl
  have tv := vp_in_iff.mp ht
  have loop : ∀ (n : Nat) (y : gd) (m i : Int32), md [] [76] x y → 0 ≤ i.toInt → 8 - i.toInt ≤ n → MD d z_clean 38 [(0, vr 0), (1, vi t), (2, vi m), (3, vi i)] [] S y (Dv Fv) := by
    have last : ∀ y : gd, md [] [76] x y → vp_in t 6 ∧ (((y.1 73 t.toNatClampNeg) = (0 : Int32) → vp_in t 6 ∧ (∀ x5 : gd, x5 = si y 74 t.toNatClampNeg 0 → Dv Fv none x5 S)) ∧ (¬ ((y.1 73 t.toNatClampNeg) = (0 : Int32)) → vp_in t 6 ∧ ((¬ ((y.1 73 t.toNatClampNeg) = (2 : Int32)) → Dv Fv none y S) ∧ ((y.1 73 t.toNatClampNeg) = (2 : Int32) → vp_in t 6 ∧ (∀ x9 : gd, x9 = si y 74 t.toNatClampNeg 0 → Dv Fv none x9 S))))) := by
      intro y my
      have e73 : y.1 73 = x.1 73 := my.2.1 73 (by decide) (by decide)
      have e74 : y.1 74 = x.1 74 := my.2.1 74 (by decide) (by decide)
      have e77 : y.1 77 = x.1 77 := my.2.1 77 (by decide) (by decide)
      have t1 : th t.toNatClampNeg x y := th_md my rfl rfl
      have z0 : ¬ x.1 73 t.toNatClampNeg = 1 → ∀ x5 : gd, x5 = si y 74 t.toNatClampNeg 0 → Dv Fv none x5 S := by
        intro q x5 e5
        refine Dv_i (h x5 ?_ ?_ ?_ (Or.inr ⟨?_, q⟩))
        · rw [e5]; exact th_tr t1 (th_si (by decide) _ _)
        · rw [e5, si_cell (by decide), e73]
        · rw [e5, si_cell (by decide), e77]
        · rw [e5, si_get, if_pos ⟨rfl, rfl⟩]
      rw [e73]
      refine ⟨ht, fun c => ⟨ht, z0 (by rw [c]; decide)⟩, fun _ => ⟨ht, fun _ => Dv_i (h y t1 e73 e77 (Or.inl (by rw [e74]))), fun c => ⟨ht, z0 (by rw [c]; decide)⟩⟩⟩
    intro n
    induction n with
    | zero =>
      intro y m i my i0 hi
      exact sd_clean_38 _ _ _ ⟨fun _ => last y my, fun c => absurd (t_le.mpr (by rw [k8]; omega)) c⟩
    | succ n ih =>
      intro y m i my i0 hi
      refine sd_clean_38 _ _ _ ⟨fun _ => last y my, fun c => ?_⟩
      rw [t_le, k8] at c
      have i1 : (i + 1).toInt = i.toInt + 1 := by rw [t_add (by omega) (by omega), k1]
      refine ⟨fun _ => ih y m (i + 1) my (by omega) (by omega), fun _ => ⟨?_, fun y2 e2 => ?_⟩⟩
      · have m1 : (8 * t).toInt = 8 * t.toInt := by rw [t_mul (by rw [k8]; omega) (by rw [k8]; omega), k8]
        rw [vp_in_iff, t_add (by omega) (by omega), m1]; omega
      · have m2 := md_a y 76 (8 * t + i).toNatClampNeg 0 (by decide)
        rw [← e2] at m2
        exact ih y2 m (i + 1) (md_tr my m2 rfl rfl) (by omega) (by omega)
  have go : ∀ m : Int32, MD d z_clean 38 [(0, vr 0), (1, vi t), (2, vi m), (3, vi 0)] [] S x (Dv Fv) := fun m => loop 8 x m 0 (md_w (md_rf x) (by decide) (by decide)) (by decide) (by decide)
  have g20 : MD d z_clean 20 [(0, vr 0), (1, vi t)] [] S x (Dv Fv) := sd_clean_20 _ ⟨ht, by rw [vp_in_iff]; omega, go _⟩
  exact sd_clean_0 _ ⟨ht, fun _ => g20, fun _ => ⟨ht, fun _ => go _, fun _ => g20⟩⟩
/-- how far a thread's step is from a step that counts -/
def gg (x : gd) (a : Int32) : Int := if x.1 54 a.toNatClampNeg = 3 then 1501 - a.toInt else 0
theorem ds_own (t : Int32) (ht : vp_in t 6) (cp : CP x) (ha : 0 ≤ (x.1 74 t.toNatClampNeg).toInt ∧ (x.1 74 t.toNatClampNeg).toInt < 1500) (h1 : x.1 73 t.toNatClampNeg = 1 → (x.1 74 t.toNatClampNeg).toInt < (x.1 0 52).toInt) (hw : x.1 77 t.toNatClampNeg = 0) (h : ∀ x' S', th t.toNatClampNeg x x' → ssub S S' → ra x' t.toNatClampNeg → x'.1 77 t.toNatClampNeg = 0 → Fv x' S') : MD (d + 3) z_own 0 [(0, vr 0), (1, vi t)] [] S x (Dv Fv) := by
  obtain ⟨T, eT⟩ : ∃ T, T = t.toNatClampNeg := ⟨_, rfl⟩
  rw [← eT] at ha h1 hw h
  have k1 : (1 : Int32).toInt = 1 := rfl
  have k8 : (8 : Int32).toInt = 8 := rfl
  have k300 : (300 : Int32).toInt = 300 := rfl
  have tv := vp_in_iff.mp ht
  obtain ⟨_, ⟨j1, j2, j3, j4, j5, _⟩, _⟩ := id cp
  -- the loop's state
  let I : gd → gS → Prop := fun y S1 => th T x y ∧ ssub S S1 ∧ (0 ≤ (y.1 74 T).toInt ∧ (y.1 74 T).toInt < 1500) ∧ (y.1 73 T = 1 → (y.1 74 T).toInt < (x.1 0 52).toInt) ∧ y.1 77 T = 0
  have out : ∀ (y : gd) (S1 : gS), I y S1 → (y.1 73 T = 1 → y.1 54 (y.1 74 T).toNatClampNeg = 6) → MD (d + 3) z_own 264 [(0, vr 0), (1, vi t)] [] S1 y (Dv Fv) := by
    intro y S1 iy q6
    obtain ⟨i1, i2, i3, i4, i5⟩ := iy
    refine sd_own_264 _ (ds_clean t ht (by rw [← eT]; exact i3) (fun z tz e73 e77 e74 => Dv_i (h z S1 ?_ i2 ?_ ?_)))
    · rw [← eT] at tz; exact th_tr i1 tz
    · rw [← eT] at e74 tz
      have f52 : z.1 0 52 = x.1 0 52 := by rw [tz.1.1 52 (by decide), i1.1.1 52 (by decide)]
      have f54 : z.1 54 = y.1 54 := tz.1.2.1 54 (by decide) (by decide)
      rcases e74 with e | ⟨e, ne⟩
      · refine ⟨by rw [e]; exact i3.1, by rw [e]; exact i3.2, fun q => ?_⟩
        rw [e73] at q
        rw [e, f52, f54]
        exact ⟨i4 q, q6 q⟩
      · refine ⟨by rw [e]; decide, by rw [e]; decide, fun q => ?_⟩
        rw [e73] at q
        exact absurd q ne
    · rw [e77]; exact i5
  have loop : ∀ (n : Nat) (y : gd) (S1 : gS) (m : Int32), I y S1 → 0 ≤ m.toInt → m.toInt ≤ 300 → (y.1 73 T = 1 → (300 - m.toInt) * 3001 + gg x (y.1 74 T) + 1 ≤ n) → MD (d + 3) z_own 2 [(0, vr 0), (1, vi t), (2, vi m)] [] S1 y (Dv Fv) := by
    have gone : ∀ (y : gd) (S1 : gS) (m : Int32), I y S1 → ¬ y.1 73 T = 1 → MD (d + 3) z_own 2 [(0, vr 0), (1, vi t), (2, vi m)] [] S1 y (Dv Fv) := by
      intro y S1 m iy ne
      refine sd_own_2 _ _ ⟨ht, fun _ => out y S1 iy (fun q => absurd q ne), fun q => ?_⟩
      rw [← eT] at q
      exact absurd q ne
    intro n
    induction n with
    | zero =>
      intro y S1 m iy m0 m3 hm
      by_cases q : y.1 73 T = 1
      · have := hm q
        have g0 : 0 ≤ gg x (y.1 74 T) := by
          unfold gg
          have := iy.2.2.1
          split <;> omega
        omega
      · exact gone y S1 m iy q
    | succ n ih =>
      intro y S1 m iy m0 m3 hm
      by_cases q : y.1 73 T = 1
      rotate_left
      · exact gone y S1 m iy q
      have hm := hm q
      obtain ⟨i1, i2, i3, i4, i5⟩ := id iy
      obtain ⟨k, ek⟩ : ∃ k, k = y.1 74 T := ⟨_, rfl⟩
      rw [← ek] at hm i3 i4
      have kv : vp_in k 1500 := by rw [vp_in_iff]; omega
      have kl := i4 q
      have ck := cl_i i3.1
      have f : ∀ c : Nat, c ≠ 0 → c ∉ hA → y.1 c = x.1 c := fun c c0 hc => i1.1.2.1 c c0 hc
      have f54 := f 54 (by decide) (by decide)
      have f59 := f 59 (by decide) (by decide)
      have f61 := f 61 (by decide) (by decide)
      obtain ⟨so, sc2, sc3⟩ := j5 k.toNatClampNeg (by omega)
      obtain ⟨wa, we, wf, sv, go⟩ := so
      have cpy : CP y := CP_th i1 cp
      -- at goes to a step
      have to : ∀ (z : gd) (S2 : gS) (m' a : Int32) (z2 : gd), th T x z → ssub S S2 → z.1 77 T = 0 → z2 = si z 74 T a → 0 ≤ a.toInt → a.toInt < (x.1 0 52).toInt → 0 ≤ m'.toInt → m'.toInt ≤ 300 → (300 - m'.toInt) * 3001 + gg x a + 1 ≤ n → MD (d + 3) z_own 2 [(0, vr 0), (1, vi t), (2, vi m')] [] S2 z2 (Dv Fv) := by
        intro z S2 m' a z2 tz s2 w0 e2 a0 a1 m1 m2 hg
        have ea : z2.1 74 T = a := by rw [e2, si_get, if_pos ⟨rfl, rfl⟩]
        have tz2 : th T x z2 := by rw [e2]; exact th_tr tz (th_si (by decide) _ _)
        refine ih z2 S2 m' ⟨tz2, s2, by rw [ea]; exact ⟨a0, by omega⟩, fun _ => by rw [ea]; exact a1, by rw [e2, si_cell (by decide)]; exact w0⟩ m1 m2 (fun _ => by rw [ea]; exact hg)
      -- the thread ends
      have fin : ∀ (z : gd) (S2 : gS) (m' : Int32) (z2 : gd), th T x z → ssub S S2 → z.1 77 T = 0 → z.1 74 T = k → z2 = si z 73 T 2 → MD (d + 3) z_own 2 [(0, vr 0), (1, vi t), (2, vi m')] [] S2 z2 (Dv Fv) := by
        intro z S2 m' z2 tz s2 w0 e74 e2
        have tz2 : th T x z2 := by rw [e2]; exact th_tr tz (th_si (by decide) _ _)
        have e73 : z2.1 73 T = 2 := by rw [e2, si_get, if_pos ⟨rfl, rfl⟩]
        refine gone z2 S2 m' ⟨tz2, s2, by rw [e2, si_cell (by decide), e74]; exact i3, fun q => by rw [e73] at q; exact absurd q (by decide), by rw [e2, si_cell (by decide)]; exact w0⟩ (by rw [e73]; decide)
      have fail : ∀ (z : gd) (S2 : gS) (m' n' : Int32), th T x z → ssub S S2 → z.1 74 T = k → MD (d + 2) z_failThread 0 [(0, vr 0), (1, vi t), (2, vi n')] [] S2 z (Dv (fun z2 S3 => MD (d + 3) z_own 2 [(0, vr 0), (1, vi t), (2, vi m')] [] S3 z2 (Dv Fv))) := by
        intro z S2 m' n' tz s2 e74
        refine ds_fail t n' ht (fun z2 t2 e3 e4 e7 => ?_)
        rw [← eT] at t2 e3 e4 e7
        exact gone z2 S2 m' ⟨th_tr tz t2, s2, by rw [e4, e74]; exact i3, fun q => by rw [e3] at q; exact absurd q (by decide), e7⟩ (by rw [e3]; decide)
      have g0 : ∀ a : Int32, 0 ≤ a.toInt → a.toInt < 1500 → 0 ≤ gg x a ∧ gg x a ≤ 1501 := fun a a0 a1 => by
        unfold gg
        split <;> omega
      have nx : ¬ x.1 54 k.toNatClampNeg = 5 → (k + 1).toInt = k.toInt + 1 ∧ k.toInt + 1 < (x.1 0 52).toInt := fun ne => by
        have := sc3.resolve_left ne
        exact ⟨by rw [t_add (by omega) (by omega), k1], by omega⟩
      have p153 : ¬ x.1 54 k.toNatClampNeg = 3 → ¬ x.1 54 k.toNatClampNeg = 5 → ¬ x.1 54 k.toNatClampNeg = 6 → ∀ (z : gd) (S2 : gS) (m' v : Int32), th T x z → ssub S S2 → z.1 77 T = 0 → z.1 74 T = k → 0 ≤ m'.toInt → m'.toInt ≤ 300 → m'.toInt = m.toInt + 1 → MD (d + 3) z_own 153 [(0, vr 0), (1, vi t), (2, vi m'), (3, vi k), (4, vi (x.1 54 k.toNatClampNeg)), (5, vi v)] [] S2 z (Dv Fv) := by
        intro n3 n5 n6 z S2 m' v tz s2 w0 e74 m1 m2 em
        obtain ⟨nx1, nx2⟩ := nx n5
        have fz61 : z.1 61 = x.1 61 := tz.1.2.1 61 (by decide) (by decide)
        have gk : gg x k = 0 := by unfold gg; rw [if_neg n3]
        have me : ∀ a : Int32, 0 ≤ a.toInt → a.toInt < 1500 → (300 - m'.toInt) * 3001 + gg x a + 1 ≤ n := fun a a0 a1 => by
          have := (g0 a a0 a1).2
          rw [gk] at hm
          omega
        refine sd_own_153 _ _ _ _ _ ⟨fun ne0 => ⟨fun ne2 => ⟨fun ne1 => ⟨ht, fun z2 e2 => ?_⟩, fun e1 => ⟨fun _ => ⟨ht, ht, fun z2 e2 => ?_⟩, fun _ => fail z S2 m' _ tz s2 e74⟩⟩, fun e2 => ⟨fun _ => ⟨kv, ht, fun z2 e3 => ?_⟩, fun _ => ⟨ht, fun z2 e3 => ?_⟩⟩⟩, fun e0 => ⟨kv, ?_, fun z2 e2 => ⟨ht, ht, fun z3 e3 => ?_⟩⟩⟩
        · rw [← eT] at e2
          exact fin z S2 m' z2 tz s2 w0 e74 e2
        · rw [← eT, e74] at e2
          exact to z S2 m' (k + 1) z2 tz s2 w0 e2 (by omega) (by omega) m1 m2 (me _ (by omega) (by omega))
        · have tw := sc2 (Or.inl e2)
          have t0 : 0 ≤ (x.1 61 k.toNatClampNeg).toInt := by
            rcases sv with ⟨s, _⟩ | s | ⟨_, s, _⟩ | s | s | ⟨s, _⟩
            · rw [s] at e2; exact absurd e2 (by decide)
            · rw [s] at e2; exact absurd e2 (by decide)
            · exact s
            · rw [s] at e2; exact absurd e2 (by decide)
            · rw [s] at e2; exact absurd e2 (by decide)
            · rw [s] at e2; exact absurd e2 (by decide)
          rw [← eT, fz61] at e3
          exact to z S2 m' _ z2 tz s2 w0 e3 t0 tw m1 m2 (me _ t0 (by omega))
        · rw [← eT] at e3
          exact to z S2 m' (k + 1) z2 tz s2 w0 e3 (by omega) (by omega) m1 m2 (me _ (by omega) (by omega))
        · rw [fz61]
          have s8 : 0 ≤ (x.1 61 k.toNatClampNeg).toInt ∧ (x.1 61 k.toNatClampNeg).toInt < 8 := by
            rcases sv with ⟨_, s⟩ | s | ⟨s, _⟩ | s | s | ⟨s, _⟩
            · exact s
            · rw [s] at e0; exact absurd e0 (by decide)
            · rw [e0] at s; exact absurd s (by decide)
            · rw [s] at e0; exact absurd e0 (by decide)
            · rw [s] at e0; exact absurd e0 (by decide)
            · rw [s] at e0; exact absurd e0 (by decide)
          have m9 : (8 * t).toInt = 8 * t.toInt := by rw [t_mul (by rw [k8]; omega) (by rw [k8]; omega), k8]
          rw [vp_in_iff, t_add (by omega) (by omega), m9]; omega
        · have m9 := md_a z 76 (8 * t + z.1 61 k.toNatClampNeg).toNatClampNeg v (by decide)
          rw [← e2] at m9
          have t2 : th T x z2 := th_tr tz (th_md m9 rfl rfl)
          rw [← eT, show z2.1 74 T = k by rw [m9.2.1 74 (by decide) (by decide)]; exact e74] at e3
          exact to z2 S2 m' (k + 1) z3 t2 s2 (by rw [m9.2.1 77 (by decide) (by decide)]; exact w0) e3 (by omega) (by omega) m1 m2 (me _ (by omega) (by omega))
      have p125 : ¬ x.1 54 k.toNatClampNeg = 3 → ¬ x.1 54 k.toNatClampNeg = 5 → ¬ x.1 54 k.toNatClampNeg = 6 → ∀ (z : gd) (S2 : gS) (m' v : Int32), th T x z → ssub S S2 → z.1 77 T = 0 → z.1 74 T = k → 0 ≤ m'.toInt → m'.toInt ≤ 300 → m'.toInt = m.toInt + 1 → (¬ x.1 59 k.toNatClampNeg = -1 → S2 0 82) → MD (d + 3) z_own 125 [(0, vr 0), (1, vi t), (2, vi m'), (3, vi k), (4, vi (x.1 54 k.toNatClampNeg))] [vi v] S2 z (Dv Fv) := by
        intro n3 n5 n6 z S2 m' v tz s2 w0 e74 m1 m2 em s82
        have fz59 : z.1 59 = x.1 59 := tz.1.2.1 59 (by decide) (by decide)
        refine sd_own_125 _ _ _ _ _ ⟨kv, ?_⟩
        rw [fz59]
        exact ⟨fun _ => p153 n3 n5 n6 z S2 m' v tz s2 w0 e74 m1 m2 em, fun ne => ⟨s82 ne, fun _ => p153 n3 n5 n6 z S2 m' v tz s2 w0 e74 m1 m2 em, fun _ => fail z S2 m' _ tz s2 e74⟩⟩
      refine sd_own_2 _ _ ⟨ht, fun c => ?_, fun _ => ⟨ht, ?_⟩⟩
      · rw [← eT] at c; exact absurd q c
      rw [← eT, ← ek]
      refine ⟨kv, fun c6 => out y S1 iy (fun _ => by rw [← ek]; exact c6), fun c6 => ⟨ht, kv, ?_⟩⟩
      rw [f54] at c6
      rw [f54]
      refine ⟨fun n3 => ⟨fun n5 => ?_, fun e5 => ⟨ht, fun z2 e2 => fin y S1 m z2 i1 i2 i5 ek.symm e2⟩⟩, fun e3 => ⟨kv, ht, fun z2 e2 => ?_⟩⟩
      · have mi : (m + 1).toInt = m.toInt + 1 := by rw [t_add (by omega) (by omega), k1]
        refine ⟨fun c3 => ⟨kv, ?_⟩, fun _ => fail y S1 (m + 1) _ i1 i2 ek.symm⟩
        rw [t_le, k300] at c3
        rw [f59]
        refine ⟨fun ne => ⟨kv, ?_⟩, fun _ => p125 n3 n5 c6 y S1 (m + 1) 0 i1 i2 i5 ek.symm (by omega) (by omega) mi (fun z => absurd (by assumption) z)⟩
        obtain ⟨w1, w2⟩ := we.resolve_left ne
        have w3 : cW y 0 (x.1 59 k.toNatClampNeg).toNatClampNeg (x.1 0 49).toInt := cW_keep (Int.le_refl _) (fun j _ => by rw [f 51 (by decide) (by decide), f 52 (by decide) (by decide)]; exact ⟨rfl, rfl⟩) w2
        refine ds_worked w1 w3 (by omega) (fun _ => ht) (fun r z S2 mz s2 s82 => ?_)
        exact p125 n3 n5 c6 z S2 (m + 1) r (th_tr i1 (th_md mz rfl rfl)) (ssub_tr i2 s2) (by rw [mz.2.1 77 (by decide) (by decide)]; exact i5) (by rw [mz.2.1 74 (by decide) (by decide)]; exact ek.symm) (by omega) (by omega) mi (fun _ => s82)
      · rw [f61] at e2
        have gk : gg x k = 1501 - k.toInt := by unfold gg; rw [if_pos e3]
        have tw := sc2 (Or.inr e3)
        have t0 : 0 ≤ (x.1 61 k.toNatClampNeg).toInt := by
          rcases sv with ⟨s, _⟩ | s | ⟨_, s, _⟩ | s | s | ⟨s, _⟩
          · rw [s] at e3; exact absurd e3 (by decide)
          · rw [s] at e3; exact absurd e3 (by decide)
          · exact s
          · rw [s] at e3; exact absurd e3 (by decide)
          · rw [s] at e3; exact absurd e3 (by decide)
          · rw [s] at e3; exact absurd e3 (by decide)
        refine to y S1 m _ z2 i1 i2 i5 e2 t0 tw m0 m3 ?_
        rcases go e3 with g | ⟨_, _, g⟩
        · have : gg x (x.1 61 k.toNatClampNeg) ≤ 1501 - (x.1 61 k.toNatClampNeg).toInt := by
            unfold gg
            split <;> omega
          omega
        · have : gg x (x.1 61 k.toNatClampNeg) = 0 := by
            unfold gg
            rw [if_neg (by rw [g]; decide)]
          omega
  refine sd_own_0 _ (loop ((300 - 0) * 3001 + gg x (x.1 74 T) + 1).toNat x S 0 ⟨th_rf T x, ssub_rf S, ha, h1, hw⟩ (by decide) (by decide) (fun _ => Int.self_le_toNat _))
end DSO
