/-! the model: a thread's own steps, wholly -/
/-- known locals stand in their slots, the others are 0 -/
def mLv (y : gd) (C : gCo) (T u s : Nat) (lv : Nat → Int32) : Prop := ((u = 1 ∨ u = 3) → ∀ p, p < (stN C s).2.1.length → y.1 76 (8 * T + slN (stN C s).2.1 p) = lv p) ∧ ∀ k, k < 8 → ¬ ((u = 1 ∨ u = 3) ∧ k ∈ (stN C s).2.1) → y.1 76 (8 * T + k) = 0
/-- what its own steps left of a thread -/
def owM (y : gd) (C : gCo) (T : Nat) (r : gTr) : Prop := y.1 73 T = Int32.ofNat r.1 ∧ (r.1 = 1 ∨ r.1 = 2 ∨ r.1 = 3) ∧ y.1 75 T = Int32.ofNat r.2.1 ∧ (y.1 74 T).toInt = (r.2.2.1 : Nat) ∧ mLv y C T r.1 r.2.2.1 r.2.2.2 ∧ (¬ r.1 = 2 → ∃ st, C.1[r.2.2.1]? = some st)
def q0 (z : gd) (T : Nat) : Prop := z.1 77 T = 0 ∧ z.1 78 T = 0 ∧ z.1 75 T = 0
theorem q0_si {z : gd} {T c k : Nat} {v : Int32} (h : c ≠ 77 ∧ c ≠ 78 ∧ c ≠ 75) (q : q0 z T) : q0 (si z c k v) T := by
  unfold q0
  rw [si_cell (fun e => h.1 e.symm), si_cell (fun e => h.2.1 e.symm), si_cell (fun e => h.2.2 e.symm)]
  exact q
def finP (C : gCo) (y : gd) (T : Nat) (r : gTr) : Prop := y.1 73 T = Int32.ofNat r.1 ∧ (r.1 = 1 ∨ r.1 = 2 ∨ r.1 = 3) ∧ y.1 75 T = Int32.ofNat r.2.1 ∧ (r.1 = 2 → r.2.2.1 = 0) ∧ (¬ r.1 = 2 → (y.1 74 T).toInt = (r.2.2.1 : Nat) ∧ ∃ st, C.1[r.2.2.1]? = some st ∧ ∀ p, p < st.2.1.length → y.1 76 (8 * T + slN st.2.1 p) = r.2.2.2 p)
theorem stN_is {C : gCo} {s : Nat} {st : gNs} (h : C.1[s]? = some st) : stN C s = st := by
  unfold stN
  rw [h]; rfl
section DOG
variable {d : Nat} {S : gS} {x : gd} {F : Int32 → gd → gS → Prop} {Fv : gd → gS → Prop} {C : gCo}
theorem ds_own3 (t : Int32) (ht : vp_in t 6) (cp : CP x) (ha : 0 ≤ (x.1 74 t.toNatClampNeg).toInt ∧ (x.1 74 t.toNatClampNeg).toInt < 1500) (h1 : x.1 73 t.toNatClampNeg = 1 → (x.1 74 t.toNatClampNeg).toInt < (x.1 0 52).toInt) (hw : q0 x t.toNatClampNeg) (hK : MK x C) (hN : NC C) (hg : x.1 73 t.toNatClampNeg = 1) {st0 : gNs} {lv0 : Nat → Int32} (hst0 : C.1[(x.1 74 t.toNatClampNeg).toNatClampNeg]? = some st0) (hlv0 : ∀ p, p < st0.2.1.length → x.1 76 (8 * t.toNatClampNeg + slN st0.2.1 p) = lv0 p) (h : ∀ x' S', th3 t.toNatClampNeg x x' → ssub S S' → ra x' t.toNatClampNeg → x'.1 77 t.toNatClampNeg = 0 → x'.1 78 t.toNatClampNeg = 0 → owM x' C t.toNatClampNeg (owR C (Int32.ofNat t.toNatClampNeg) (x.1 74 t.toNatClampNeg).toNatClampNeg lv0) → Fv x' S') : MD (d + 3) z_own 0 [(0, vr 0), (1, vi t)] [] S x (Dv Fv) := by
  obtain ⟨T, eT⟩ : ∃ T, T = t.toNatClampNeg := ⟨_, rfl⟩
  rw [← eT] at ha h1 hw h hg hst0 hlv0
  have k1 : (1 : Int32).toInt = 1 := rfl
  have k8 : (8 : Int32).toInt = 8 := rfl
  have k300 : (300 : Int32).toInt = 300 := rfl
  have tv := vp_in_iff.mp ht
  have tT : t = Int32.ofNat T := i32_of (by rw [eT, t_cl]; omega)
  have tTi : t.toInt = (T : Nat) := by rw [eT, t_cl]; omega
  obtain ⟨G0, eG0⟩ : ∃ G0 : gTr → Prop, G0 = fun r => ∃ n, setP C (Int32.ofNat T) n 0 (x.1 74 T).toNatClampNeg lv0 = some r := ⟨_, rfl⟩
  obtain ⟨J, eJ⟩ : ∃ J : Int32 → gd → Prop, J = fun m y => (y.1 73 T = 1 ∧ ∃ st lv, C.1[(y.1 74 T).toNatClampNeg]? = some st ∧ (∀ p, p < st.2.1.length → y.1 76 (8 * T + slN st.2.1 p) = lv p) ∧ ∀ r, (∃ n, setP C (Int32.ofNat T) n m.toInt.toNat (y.1 74 T).toNatClampNeg lv = some r) → G0 r) ∨ (¬ y.1 73 T = 1 ∧ ∃ r, G0 r ∧ finP C y T r) := ⟨_, rfl⟩
  have noJ : ∀ {m : Int32} {y : gd}, ¬ y.1 73 T = 1 → J m y → ∃ r, G0 r ∧ finP C y T r := fun {m y} hn hJ => by
    rw [eJ] at hJ
    rcases hJ with ⟨c, -⟩ | ⟨-, c⟩
    · exact absurd c hn
    · exact c
  obtain ⟨_, ⟨j1, j2, j3, j4, j5, _⟩, _⟩ := id cp
  -- the loop's state
  let I : gd → gS → Prop := fun y S1 => th3 T x y ∧ ssub S S1 ∧ (0 ≤ (y.1 74 T).toInt ∧ (y.1 74 T).toInt < 1500) ∧ (y.1 73 T = 1 → (y.1 74 T).toInt < (x.1 0 52).toInt) ∧ y.1 77 T = 0 ∧ y.1 78 T = 0 ∧ (y.1 73 T = 1 → y.1 75 T = 0)
  have out : ∀ (y : gd) (S1 : gS), I y S1 → (y.1 73 T = 1 → y.1 54 (y.1 74 T).toNatClampNeg = 6) → (∃ r, G0 r ∧ finP C y T r) → MD (d + 3) z_own 264 [(0, vr 0), (1, vi t)] [] S1 y (Dv Fv) := by
    intro y S1 iy q6 hfin
    obtain ⟨i1, i2, i3, i4, i5⟩ := iy
    obtain ⟨r, hr, f1, f3, f5, f2, fn⟩ := hfin
    rw [eG0] at hr
    obtain ⟨n, hn⟩ := hr
    have hr := owR_is hn
    have hsl : ∃ sl : List Nat, (∀ k ∈ sl, k < 8) ∧ (y.1 73 T = 1 ∨ y.1 73 T = 3 → y.1 62 (y.1 74 T).toNatClampNeg = kmN sl) ∧ (¬ r.1 = 2 → sl = (stN C r.2.2.1).2.1) := by
      by_cases c2 : r.1 = 2
      · refine ⟨[], (fun k hk => nomatch hk), fun c => ?_, fun c => absurd c2 c⟩
        rw [f1, c2] at c
        exact absurd c (by decide)
      · obtain ⟨g1, st, g2, g3⟩ := fn c2
        have ns := hN.1 _ st g2
        obtain ⟨-, pm, p8⟩ := ns.2.2.2.2.1
        obtain ⟨-, -, -, -, -, -, -, -, h62⟩ := hK.1.2 _ st g2
        refine ⟨st.2.1, fun k hk => by have := pm k hk; omega, fun _ => ?_, fun _ => by rw [stN_is g2]⟩
        rw [i1.1.2.1 62 (by decide) (by decide), show (y.1 74 T).toNatClampNeg = r.2.2.1 by rw [t_cl, g1]; rfl]
        exact h62
    obtain ⟨sl, sl8, slm, slr⟩ := hsl
    have st3 : ∀ v : Nat, v = 1 ∨ v = 2 ∨ v = 3 → ((Int32.ofNat v = 1 ∨ Int32.ofNat v = 3) ↔ (v = 1 ∨ v = 3)) ∧ ((Int32.ofNat v = 0 ∨ Int32.ofNat v = 2) ↔ v = 2) := by
      intro v hv
      rcases hv with e | e | e <;> rw [e] <;> decide
    obtain ⟨s13, s02⟩ := st3 r.1 f3
    rw [← f1] at s13 s02
    refine sd_own_264 _ (ds_clean3 t ht (by rw [← eT]; exact i3) sl8 (by rw [← eT]; exact slm) (fun z tz e73 e75 e77 e78 e74 e74' e76 => Dv_i (h z S1 ?_ i2 ?_ ?_ ?_ ?_)))
    · rw [← eT] at tz; exact th3_tr i1 tz
    · rw [← eT] at e74 e74' tz
      have f52 : z.1 0 52 = x.1 0 52 := by rw [tz.1.1 52 (by decide), i1.1.1 52 (by decide)]
      have f54 : z.1 54 = y.1 54 := tz.1.2.1 54 (by decide) (by decide)
      by_cases c : y.1 73 T = 0 ∨ y.1 73 T = 2
      · have e := e74' c
        refine ⟨by rw [e]; decide, by rw [e]; decide, fun q => ?_⟩
        rw [e73] at q
        rw [q] at c
        exact absurd c (by decide)
      · have e := e74 c
        refine ⟨by rw [e]; exact i3.1, by rw [e]; exact i3.2, fun q => ?_⟩
        rw [e73] at q
        rw [e, f52, f54]
        exact ⟨i4 q, q6 q⟩
    · rw [e77]; exact i5.1
    · rw [e78]; exact i5.2.1
    · rw [← eT] at e74 e74' e76
      rw [hr]
      refine ⟨by rw [e73]; exact f1, f3, by rw [e75]; exact f5, ?_, ⟨fun c p hp => ?_, fun k hk c => ?_⟩, fun c => ?_⟩
      · by_cases c : r.1 = 2
        · rw [e74' (s02.mpr c), f2 c]; rfl
        · rw [e74 (fun z => c (s02.mp z))]; exact (fn c).1
      · have c2 : ¬ r.1 = 2 := by omega
        obtain ⟨g1, st, g2, g3⟩ := fn c2
        have es := slr c2
        rw [stN_is g2] at es hp ⊢
        have hm := slN_mem hp
        rw [e76 _ (sl8 _ (by rw [es]; exact hm)), if_pos ⟨s13.mpr c, by rw [es]; exact hm⟩]
        exact g3 p hp
      · rw [e76 k hk, if_neg (fun z => c ⟨s13.mp z.1, by rw [← slr (by have := s13.mp z.1; omega)]; exact z.2⟩)]
      · obtain ⟨-, st, g2, -⟩ := fn c
        exact ⟨st, g2⟩
  have loop : ∀ (n : Nat) (y : gd) (S1 : gS) (m : Int32), I y S1 → 0 ≤ m.toInt → m.toInt ≤ 300 → (y.1 73 T = 1 → (300 - m.toInt) * 3001 + gg x (y.1 74 T) + 1 ≤ n) → J m y → MD (d + 3) z_own 2 [(0, vr 0), (1, vi t), (2, vi m)] [] S1 y (Dv Fv) := by
    have gone : ∀ (y : gd) (S1 : gS) (m : Int32), I y S1 → ¬ y.1 73 T = 1 → (∃ r, G0 r ∧ finP C y T r) → MD (d + 3) z_own 2 [(0, vr 0), (1, vi t), (2, vi m)] [] S1 y (Dv Fv) := by
      intro y S1 m iy ne hfin
      refine sd_own_2 _ _ ⟨ht, fun _ => out y S1 iy (fun q => absurd q ne) hfin, fun q => ?_⟩
      rw [← eT] at q
      exact absurd q ne
    intro n
    induction n with
    | zero =>
      intro y S1 m iy m0 m3 hm hJ
      by_cases q : y.1 73 T = 1
      · have := hm q
        have g0 : 0 ≤ gg x (y.1 74 T) := by
          unfold gg
          have := iy.2.2.1
          split <;> omega
        omega
      · exact gone y S1 m iy q (noJ q hJ)
    | succ n ih =>
      intro y S1 m iy m0 m3 hm hJ
      by_cases q : y.1 73 T = 1
      rotate_left
      · exact gone y S1 m iy q (noJ q hJ)
      have hm := hm q
      obtain ⟨i1, i2, i3, i4, i5⟩ := id iy
      have q5 : q0 y T := ⟨i5.1, i5.2.1, i5.2.2 q⟩
      obtain ⟨st, lv, hst, hlv, lift⟩ : ∃ st lv, C.1[(y.1 74 T).toNatClampNeg]? = some st ∧ (∀ p, p < st.2.1.length → y.1 76 (8 * T + slN st.2.1 p) = lv p) ∧ ∀ r, (∃ n, setP C (Int32.ofNat T) n m.toInt.toNat (y.1 74 T).toNatClampNeg lv = some r) → G0 r := by
        rw [eJ] at hJ
        rcases hJ with ⟨-, c⟩ | ⟨c, -⟩
        · exact c
        · exact absurd q c
      clear hJ
      obtain ⟨k, ek⟩ : ∃ k, k = y.1 74 T := ⟨_, rfl⟩
      rw [← ek] at hm i3 i4 hst lift
      have kv : vp_in k 1500 := by rw [vp_in_iff]; omega
      have kl := i4 q
      have ck := cl_i i3.1
      have f : ∀ c : Nat, c ≠ 0 → c ∉ hA → y.1 c = x.1 c := fun c c0 hc => i1.1.2.1 c c0 hc
      have f54 := f 54 (by decide) (by decide)
      have f59 := f 59 (by decide) (by decide)
      have f61 := f 61 (by decide) (by decide)
      obtain ⟨so, sc2, sc3⟩ := j5 k.toNatClampNeg (by omega)
      obtain ⟨wa, we, wf, sv, go⟩ := so
      have cpy : CP y := CP_th (th3_th i1) cp
      have ns := hN.1 _ st hst
      have n22 := ns.1.1
      obtain ⟨h54, -, -, -, -, h59, -, h61, -⟩ := hK.1.2 _ st hst
      obtain ⟨w6, w3, w5, w0, w2, w1⟩ := mWh_i st.1 n22
      rw [← h54] at w6 w3 w5 w0 w2 w1
      have l52 : (x.1 0 52).toInt = C.1.length := hK.1.1
      have len : ∀ {j : Nat} {s9 : gNs}, C.1[j]? = some s9 → (Int32.ofNat j).toInt = (j : Nat) ∧ (Int32.ofNat j).toNatClampNeg = j := fun {j s9} hj => by
        have := gt_lt hj
        have e9 : (Int32.ofNat j).toInt = (j : Nat) := Int32.toInt_ofNat_of_lt (by omega)
        exact ⟨e9, by rw [t_cl, e9]; rfl⟩
      -- it goes on at a step
      have onJ : ∀ (m' a : Int32) (n2 : Nat) (z2 : gd) (st' : gNs) (lv2 : Nat → Int32) (l9 : List Nat), z2.1 73 T = 1 → z2.1 74 T = a → a.toNatClampNeg = n2 → C.1[n2]? = some st' → st'.2.1 <:+ l9 → (∀ p, p < l9.length → z2.1 76 (8 * T + slN l9 p) = lv2 p) → (∀ r, (∃ n, setP C (Int32.ofNat T) n m'.toInt.toNat n2 lv2 = some r) → G0 r) → J m' z2 := fun m' a n2 z2 st' lv2 l9 z3 z4 ea hs' hsf hl9 hlift => by
        rw [eJ]
        refine Or.inl ⟨z3, st', lv2, by rw [z4, ea]; exact hs', fun p hp => ?_, fun r hr => hlift r (by rw [z4, ea] at hr; exact hr)⟩
        rw [slN_suf hsf hp]
        exact hl9 p (by have := hsf.length_le; omega)
      -- at goes to a step
      have to : ∀ (z : gd) (S2 : gS) (m' a : Int32) (z2 : gd), th3 T x z → ssub S S2 → q0 z T → z2 = si z 74 T a → 0 ≤ a.toInt → a.toInt < (x.1 0 52).toInt → 0 ≤ m'.toInt → m'.toInt ≤ 300 → (300 - m'.toInt) * 3001 + gg x a + 1 ≤ n → J m' z2 → MD (d + 3) z_own 2 [(0, vr 0), (1, vi t), (2, vi m')] [] S2 z2 (Dv Fv) := by
        intro z S2 m' a z2 tz s2 w0 e2 a0 a1 m1 m2 hg hJ2
        have ea : z2.1 74 T = a := by rw [e2, si_get, if_pos ⟨rfl, rfl⟩]
        have tz2 : th3 T x z2 := by rw [e2]; exact th3_tr tz (th3_si (by decide) _ _)
        refine ih z2 S2 m' ⟨tz2, s2, by rw [ea]; exact ⟨a0, by omega⟩, fun _ => by rw [ea]; exact a1, by rw [e2, si_cell (by decide)]; exact w0.1, by rw [e2, si_cell (by decide)]; exact w0.2.1, fun _ => by rw [e2, si_cell (by decide)]; exact w0.2.2⟩ m1 m2 (fun _ => by rw [ea]; exact hg) hJ2
      -- the thread ends
      have fin : ∀ (z : gd) (S2 : gS) (m' : Int32) (z2 : gd), th3 T x z → ssub S S2 → q0 z T → z.1 74 T = k → z2 = si z 73 T 2 → G0 (2, 0, 0, lv) → MD (d + 3) z_own 2 [(0, vr 0), (1, vi t), (2, vi m')] [] S2 z2 (Dv Fv) := by
        intro z S2 m' z2 tz s2 w0 e74 e2 hG
        have tz2 : th3 T x z2 := by rw [e2]; exact th3_tr tz (th3_si (by decide) _ _)
        have e73 : z2.1 73 T = 2 := by rw [e2, si_get, if_pos ⟨rfl, rfl⟩]
        refine gone z2 S2 m' ⟨tz2, s2, by rw [e2, si_cell (by decide), e74]; exact i3, fun q => by rw [e73] at q; exact absurd q (by decide), by rw [e2, si_cell (by decide)]; exact w0.1, by rw [e2, si_cell (by decide)]; exact w0.2.1, fun q => by rw [e73] at q; exact absurd q (by decide)⟩ (by rw [e73]; decide) ⟨_, hG, e73, Or.inr (Or.inl rfl), by rw [e2, si_cell (by decide)]; exact w0.2.2, fun _ => rfl, fun c => absurd rfl c⟩
      have fail : ∀ (z : gd) (S2 : gS) (m' n' : Int32), th3 T x z → ssub S S2 → z.1 74 T = k → z.1 76 = y.1 76 → (∃ j, n' = Int32.ofNat j ∧ G0 (3, j, k.toNatClampNeg, lv)) → MD (d + 2) z_failThread 0 [(0, vr 0), (1, vi t), (2, vi n')] [] S2 z (Dv (fun z2 S3 => MD (d + 3) z_own 2 [(0, vr 0), (1, vi t), (2, vi m')] [] S3 z2 (Dv Fv))) := by
        intro z S2 m' n' tz s2 e74 z76 hG
        refine ds_fail3 t n' ht (fun z2 t2 e3 e4 e7 e5 e8 e6 => ?_)
        rw [← eT] at t2 e3 e4 e7 e5 e8
        exact gone z2 S2 m' ⟨th3_tr tz t2, s2, by rw [e4, e74]; exact i3, fun q => by rw [e3] at q; exact absurd q (by decide), e7, e8, fun q => by rw [e3] at q; exact absurd q (by decide)⟩ (by rw [e3]; decide) (by
          obtain ⟨j, ej, hG⟩ := hG
          exact ⟨_, hG, e3, Or.inr (Or.inr rfl), e5.trans ej, fun c => absurd c (by show ¬ 3 = 2; decide), fun _ => ⟨by rw [e4, e74]; exact ck.symm, st, hst, fun p hp => by rw [e6, z76]; exact hlv p hp⟩⟩)
      have g0 : ∀ a : Int32, 0 ≤ a.toInt → a.toInt < 1500 → 0 ≤ gg x a ∧ gg x a ≤ 1501 := fun a a0 a1 => by
        unfold gg
        split <;> omega
      have nx : ¬ x.1 54 k.toNatClampNeg = 5 → (k + 1).toInt = k.toInt + 1 ∧ k.toInt + 1 < (x.1 0 52).toInt := fun ne => by
        have := sc3.resolve_left ne
        exact ⟨by rw [t_add (by omega) (by omega), k1], by omega⟩
      have p153 : ¬ x.1 54 k.toNatClampNeg = 3 → ¬ x.1 54 k.toNatClampNeg = 5 → ¬ x.1 54 k.toNatClampNeg = 6 → ∀ (z : gd) (S2 : gS) (m' v : Int32), th3 T x z → ssub S S2 → q0 z T → z.1 74 T = k → 0 ≤ m'.toInt → m'.toInt ≤ 300 → m'.toInt = m.toInt + 1 → z.1 73 T = 1 → z.1 76 = y.1 76 → (st.1 = 19 ∨ ∃ Q, st.2.2.2.2.2.2.2.2.1 = some Q ∧ wkQ lv (fun _ => 0) (Int32.ofNat T) Q = some v) → MD (d + 3) z_own 153 [(0, vr 0), (1, vi t), (2, vi m'), (3, vi k), (4, vi (x.1 54 k.toNatClampNeg)), (5, vi v)] [] S2 z (Dv Fv) := by
        intro n3 n5 n6 z S2 m' v tz s2 z77 e74 m1 m2 em z73 z76 hv
        obtain ⟨nx1, nx2⟩ := nx n5
        have o16 : ¬ st.1 < 16 := fun z => n6 (w6.mpr z)
        have o20 : ¬ st.1 = 20 := fun z => n3 (w3.mpr z)
        have o21 : ¬ st.1 = 21 := fun z => n5 (w5.mpr z)
        have c2 : ¬ (st.1 < 20 ∧ 300 ≤ m.toInt.toNat) := by omega
        have eown : (if st.1 < 20 then m.toInt.toNat + 1 else m.toInt.toNat) = m'.toInt.toNat := by rw [if_pos (by omega)]; omega
        have ow : ¬ st.1 = 19 → ow1 (Int32.ofNat T) k.toNatClampNeg st lv = (if st.1 = 18 ∧ v = 0 then .inl (3, 5, k.toNatClampNeg, lv) else .inr (if st.1 = 17 ∧ v = 0 then st.2.2.2.1.getD 0 else k.toNatClampNeg + 1, if st.1 = 16 then fup lv (st.2.2.2.1.getD 0) v else lv)) := fun n19 => by
          rcases hv with hv | ⟨Q, hQ, hv⟩
          · exact absurd hv n19
          · unfold ow1
            rw [if_neg (by omega), if_neg o20, hQ]
            show (match wkQ lv (fun _ => 0) (Int32.ofNat T) Q with | none => _ | some v => _) = _
            rw [hv]
        have goR : ∀ {s2 : Nat} {lv2 : Nat → Int32}, ow1 (Int32.ofNat T) k.toNatClampNeg st lv = .inr (s2, lv2) → ∀ r, (∃ n, setP C (Int32.ofNat T) n m'.toInt.toNat s2 lv2 = some r) → G0 r := fun {s2 lv2} how r hr => by
          obtain ⟨n9, hn9⟩ := hr
          refine lift r ⟨n9 + 1, ?_⟩
          rw [set_r hst o16 c2 how, eown]
          exact hn9
        have nxt : ∃ st', C.1[k.toNatClampNeg + 1]? = some st' ∧ st'.2.1 <:+ aftN st := ns.2.1 (by omega)
        have ek1 : (k + 1).toNatClampNeg = k.toNatClampNeg + 1 := by rw [t_cl]; omega
        have lz : ∀ p, p < st.2.1.length → z.1 76 (8 * T + slN st.2.1 p) = lv p := fun p hp => by rw [z76]; exact hlv p hp
        have ean : ¬ st.1 = 16 → aftN st = st.2.1 := fun n16 => if_neg (fun z => by omega)
        have fz61 : z.1 61 = x.1 61 := tz.1.2.1 61 (by decide) (by decide)
        have gk : gg x k = 0 := by unfold gg; rw [if_neg n3]
        have me : ∀ a : Int32, 0 ≤ a.toInt → a.toInt < 1500 → (300 - m'.toInt) * 3001 + gg x a + 1 ≤ n := fun a a0 a1 => by
          have := (g0 a a0 a1).2
          rw [gk] at hm
          omega
        refine sd_own_153 _ _ _ _ _ ⟨fun ne0 => ⟨fun ne2 => ⟨fun ne1 => ⟨ht, fun z2 e2 => ?_⟩, fun e1 => ⟨fun nv => ⟨ht, ht, fun z2 e2 => ?_⟩, fun v0 => fail z S2 m' _ tz s2 e74 z76 ⟨5, rfl, lift _ ⟨1, set_l hst o16 c2 ?_⟩⟩⟩⟩, fun e2 => ⟨fun v0 => ⟨kv, ht, fun z2 e3 => ?_⟩, fun nv => ⟨ht, fun z2 e3 => ?_⟩⟩⟩, fun e0 => ⟨kv, ?_, fun z2 e2 => ⟨ht, ht, fun z3 e3 => ?_⟩⟩⟩
        · rw [← eT] at e2
          have s19 : st.1 = 19 := by
            have a1 : ¬ st.1 = 16 := fun z => ne0 (w0.mpr z)
            have a2 : ¬ st.1 = 17 := fun z => ne2 (w2.mpr z)
            have a3 : ¬ st.1 = 18 := fun z => ne1 (w1.mpr z)
            omega
          refine fin z S2 m' z2 tz s2 z77 e74 e2 (lift _ ⟨1, set_l hst o16 c2 ?_⟩)
          unfold ow1
          rw [if_pos (Or.inl s19)]
        · rw [← eT, e74] at e2
          have s18 : st.1 = 18 := w1.mp e1
          have how : ow1 (Int32.ofNat T) k.toNatClampNeg st lv = .inr (k.toNatClampNeg + 1, lv) := by rw [ow (by omega), if_neg (fun z => nv z.2), if_neg (by omega), if_neg (by omega)]
          obtain ⟨st', hs', hsf⟩ := nxt
          rw [ean (by omega)] at hsf
          refine to z S2 m' (k + 1) z2 tz s2 z77 e2 (by omega) (by omega) m1 m2 (me _ (by omega) (by omega)) (onJ m' (k + 1) _ z2 st' lv st.2.1 (by rw [e2, si_cell (by decide)]; exact z73) (by rw [e2, si_get, if_pos ⟨rfl, rfl⟩]) ek1 hs' hsf (fun p hp => by rw [e2, si_cell (by decide)]; exact lz p hp) (goR how))
        · have s18 : st.1 = 18 := w1.mp e1
          rw [ow (by omega), if_pos ⟨s18, v0⟩]
        · have tw := sc2 (Or.inl e2)
          have s17 : st.1 = 17 := w2.mp e2
          obtain ⟨n2, st', hto, hs', hsf⟩ := ns.2.2.1 (Or.inl s17)
          have h61' : x.1 61 k.toNatClampNeg = Int32.ofNat n2 := by
            rw [h61]
            unfold mNt
            rw [hto]
            show (if st.1 = 17 ∨ st.1 = 20 then Int32.ofNat n2 else _) = _
            rw [if_pos (Or.inl s17)]
          obtain ⟨l1, l2⟩ := len hs'
          have t0 : 0 ≤ (x.1 61 k.toNatClampNeg).toInt := by rw [h61', l1]; omega
          rw [← eT, fz61] at e3
          have how : ow1 (Int32.ofNat T) k.toNatClampNeg st lv = .inr (n2, lv) := by rw [ow (by omega), if_neg (fun z => by omega), if_pos ⟨s17, v0⟩, if_neg (by omega), hto]; rfl
          refine to z S2 m' _ z2 tz s2 z77 e3 t0 tw m1 m2 (me _ t0 (by omega)) (onJ m' _ n2 z2 st' lv st.2.1 (by rw [e3, si_cell (by decide)]; exact z73) (by rw [e3, si_get, if_pos ⟨rfl, rfl⟩]) (by rw [h61']; exact l2) hs' hsf (fun p hp => by rw [e3, si_cell (by decide)]; exact lz p hp) (goR how))
        · rw [← eT] at e3
          have s17 : st.1 = 17 := w2.mp e2
          have how : ow1 (Int32.ofNat T) k.toNatClampNeg st lv = .inr (k.toNatClampNeg + 1, lv) := by rw [ow (by omega), if_neg (fun z => by omega), if_neg (fun z => nv z.2), if_neg (by omega)]
          obtain ⟨st', hs', hsf⟩ := nxt
          rw [ean (by omega)] at hsf
          refine to z S2 m' (k + 1) z2 tz s2 z77 e3 (by omega) (by omega) m1 m2 (me _ (by omega) (by omega)) (onJ m' (k + 1) _ z2 st' lv st.2.1 (by rw [e3, si_cell (by decide)]; exact z73) (by rw [e3, si_get, if_pos ⟨rfl, rfl⟩]) ek1 hs' hsf (fun p hp => by rw [e3, si_cell (by decide)]; exact lz p hp) (goR how))
        · rw [fz61]
          have s8 : 0 ≤ (x.1 61 k.toNatClampNeg).toInt ∧ (x.1 61 k.toNatClampNeg).toInt < 8 := by
            rcases sv with ⟨_, s⟩ | s | ⟨s, _⟩ | s | s | ⟨s, _⟩
            · exact s
            · rw [s] at e0; exact absurd e0 (by decide)
            · rw [e0] at s; exact absurd s (by decide)
            · rw [s] at e0; exact absurd e0 (by decide)
            · rw [s] at e0; exact absurd e0 (by decide)
            · rw [s] at e0; exact absurd e0 (by decide)
          have m9 : (8 * t).toInt = 8 * t.toInt := by rw [t_mul (by rw [k8]; omega) (by rw [k8]; omega), k8]
          rw [vp_in_iff, t_add (by omega) (by omega), m9]; omega
        · have m9 := md_a z 76 (8 * t + z.1 61 k.toNatClampNeg).toNatClampNeg v (by decide)
          rw [← e2] at m9
          rw [← eT, show z2.1 74 T = k by rw [m9.2.1 74 (by decide) (by decide)]; exact e74] at e3
          have s16 : st.1 = 16 := w0.mp e0
          obtain ⟨p, hto, hp⟩ := ns.2.2.2.1 (Or.inr (Or.inr s16))
          obtain ⟨pw, pm, p8⟩ := ns.2.2.2.2.1
          have how : ow1 (Int32.ofNat T) k.toNatClampNeg st lv = .inr (k.toNatClampNeg + 1, fup lv p v) := by rw [ow (by omega), if_neg (fun z => by omega), if_neg (fun z => by omega), if_pos s16, hto]; rfl
          obtain ⟨st', hs', hsf⟩ := nxt
          -- the slot that is set
          have ap : (aftN st).Pairwise (fun a b => b < a) ∧ (∀ s ∈ aftN st, s < 8) ∧ p < (aftN st).length ∧ x.1 61 k.toNatClampNeg = Int32.ofNat (slN (aftN st) p) ∧ ∀ j, j < (aftN st).length → ¬ j = p → j < st.2.1.length ∧ slN (aftN st) j = slN st.2.1 j := by
            have h61' : x.1 61 k.toNatClampNeg = Int32.ofNat (if p = st.2.1.length then st.2.2.1 else slN st.2.1 p) := by
              rw [h61]
              unfold mNt
              rw [hto]
              show (if st.1 = 17 ∨ st.1 = 20 then _ else Int32.ofNat (if p = st.2.1.length then st.2.2.1 else slN st.2.1 p)) = _
              rw [if_neg (by omega)]
            rcases hp with hp | ⟨hp, hp8⟩
            · have ea : aftN st = st.2.1 := if_neg (fun z => by rw [hto] at z; have := Option.some.inj z.2; omega)
              rw [ea]
              refine ⟨pw, fun s hs => by have := pm s hs; omega, hp, by rw [h61', if_neg (by omega)], fun j hj _ => ⟨hj, rfl⟩⟩
            · have ea : aftN st = st.2.2.1 :: st.2.1 := if_pos ⟨Or.inr (Or.inr s16), by rw [hto, hp]⟩
              rw [ea]
              refine ⟨List.Pairwise.cons pm pw, fun s hs => ?_, by rw [hp]; exact Nat.lt_succ_self _, ?_, fun j hj hne => ?_⟩
              · rcases List.mem_cons.mp hs with e | hs
                · rw [e]; exact hp8
                · have := pm s hs; omega
              · rw [h61', if_pos hp]
                show _ = Int32.ofNat (if p = st.2.1.length then st.2.2.1 else slN st.2.1 p)
                rw [if_pos hp]
              · have hj : j < st.2.1.length + 1 := hj
                refine ⟨by omega, ?_⟩
                show (if j = st.2.1.length then st.2.2.1 else slN st.2.1 j) = _
                rw [if_neg (by omega)]
          obtain ⟨apw, ap8, app, ap61, apj⟩ := ap
          have sl8 := ap8 _ (slN_mem app)
          have ei : (8 * t + z.1 61 k.toNatClampNeg).toNatClampNeg = 8 * T + slN (aftN st) p := by
            have m8 : (8 * t).toInt = 8 * t.toInt := by rw [t_mul (by rw [k8]; omega) (by rw [k8]; omega), k8]
            have eo : (Int32.ofNat (slN (aftN st) p)).toInt = (slN (aftN st) p : Nat) := Int32.toInt_ofNat_of_lt (by omega)
            rw [fz61, ap61, t_cl, t_add (by omega) (by omega), m8, eo, tTi]
            omega
          rw [ei] at e2
          have t2 : th3 T x z2 := th3_tr tz (by rw [e2]; exact th3_76 (by omega) _ _)
          refine to z2 S2 m' (k + 1) z3 t2 s2 (by rw [e2]; exact q0_si (by decide) z77) e3 (by omega) (by omega) m1 m2 (me _ (by omega) (by omega)) (onJ m' (k + 1) _ z3 st' (fup lv p v) (aftN st) (by rw [e3, si_cell (by decide), m9.2.1 73 (by decide) (by decide)]; exact z73) (by rw [e3, si_get, if_pos ⟨rfl, rfl⟩]) ek1 hs' hsf (fun j hj => ?_) (goR how))
          rw [e3, si_cell (by decide), e2, si_get]
          unfold fup
          by_cases c : j = p
          · rw [c, if_pos ⟨rfl, rfl⟩, if_pos rfl]
          · obtain ⟨j1', j2'⟩ := apj j hj c
            rw [if_neg (fun z => c (slN_inj apw hj app (by have := z.2; omega))), if_neg c, j2']
            exact lz j j1'
      have ne19 : st.1 = 19 → ¬ ¬ x.1 59 k.toNatClampNeg = -1 := fun c19 nn => by
        have e1 := ns.2.2.2.2.2.2.2.2.2.2 (by omega)
        rw [e1] at h59
        exact nn h59
      have p125 : ¬ x.1 54 k.toNatClampNeg = 3 → ¬ x.1 54 k.toNatClampNeg = 5 → ¬ x.1 54 k.toNatClampNeg = 6 → ∀ (z : gd) (S2 : gS) (m' v : Int32), th3 T x z → ssub S S2 → q0 z T → z.1 74 T = k → 0 ≤ m'.toInt → m'.toInt ≤ 300 → m'.toInt = m.toInt + 1 → z.1 73 T = 1 → z.1 76 = y.1 76 → (x.1 59 k.toNatClampNeg = -1 → st.1 = 19) → (¬ x.1 59 k.toNatClampNeg = -1 → S2 0 82 ∧ ∃ Q, st.2.2.2.2.2.2.2.2.1 = some Q ∧ wkM z (wkQ lv (fun _ => 0) (Int32.ofNat T) Q) v) → MD (d + 3) z_own 125 [(0, vr 0), (1, vi t), (2, vi m'), (3, vi k), (4, vi (x.1 54 k.toNatClampNeg))] [vi v] S2 z (Dv Fv) := by
        intro n3 n5 n6 z S2 m' v tz s2 z77 e74 m1 m2 em z73 z76 hno hyes
        have o16 : ¬ st.1 < 16 := fun z => n6 (w6.mpr z)
        have o20 : ¬ st.1 = 20 := fun z => n3 (w3.mpr z)
        have o21 : ¬ st.1 = 21 := fun z => n5 (w5.mpr z)
        have fz59 : z.1 59 = x.1 59 := tz.1.2.1 59 (by decide) (by decide)
        refine sd_own_125 _ _ _ _ _ ⟨kv, ?_⟩
        rw [fz59]
        refine ⟨fun e => p153 n3 n5 n6 z S2 m' v tz s2 z77 e74 m1 m2 em z73 z76 (Or.inl (hno e)), fun ne => ⟨(hyes ne).1, fun c => ?_, fun c => ?_⟩⟩
        · obtain ⟨-, Q, hQ, hw⟩ := hyes ne
          rcases hw with ⟨v9, hw, er, -⟩ | ⟨-, e82⟩
          · exact p153 n3 n5 n6 z S2 m' v tz s2 z77 e74 m1 m2 em z73 z76 (Or.inr ⟨Q, hQ, by rw [er]; exact hw⟩)
          · rw [e82] at c; exact absurd c (by decide)
        · obtain ⟨-, Q, hQ, hw⟩ := hyes ne
          rcases hw with ⟨v9, hw, er, e82⟩ | ⟨hw, -⟩
          · rw [e82] at c; exact absurd (by decide) c
          · refine fail z S2 m' _ tz s2 e74 z76 ⟨1, rfl, lift _ ⟨1, set_l hst o16 (by omega) ?_⟩⟩
            by_cases c19 : st.1 = 19
            · exfalso
              exact ne19 c19 ne
            unfold ow1
            rw [if_neg (by omega), if_neg o20, hQ]
            show (match wkQ lv (fun _ => 0) (Int32.ofNat T) Q with | none => _ | some v => _) = _
            rw [hw]
      refine sd_own_2 _ _ ⟨ht, fun c => ?_, fun _ => ⟨ht, ?_⟩⟩
      · rw [← eT] at c; exact absurd q c
      rw [← eT, ← ek]
      refine ⟨kv, fun c6 => out y S1 iy (fun _ => by rw [← ek]; exact c6) ⟨(1, 0, k.toNatClampNeg, lv), lift _ ⟨1, set_act hst (w6.mp (by rw [← f54]; exact c6))⟩, q, Or.inl rfl, q5.2.2, fun c => absurd c (by show ¬ 1 = 2; decide), fun _ => ⟨by rw [← ek]; exact ck.symm, st, hst, hlv⟩⟩, fun c6 => ⟨ht, kv, ?_⟩⟩
      rw [f54] at c6
      rw [f54]
      refine ⟨fun n3 => ⟨fun n5 => ?_, fun e5 => ⟨ht, fun z2 e2 => fin y S1 m z2 i1 i2 q5 ek.symm e2 (lift _ ⟨1, set_l hst (fun z => c6 (w6.mpr z)) (fun z => by have := w5.mp e5; omega) (by unfold ow1; rw [if_pos (Or.inr (w5.mp e5))])⟩)⟩⟩, fun e3 => ⟨kv, ht, fun z2 e2 => ?_⟩⟩
      · have mi : (m + 1).toInt = m.toInt + 1 := by rw [t_add (by omega) (by omega), k1]
        refine ⟨fun c3 => ⟨kv, ?_⟩, fun c3 => fail y S1 (m + 1) _ i1 i2 ek.symm rfl ⟨6, rfl, lift _ ⟨1, set_6 hst (fun z => c6 (w6.mpr z)) ⟨?_, ?_⟩⟩⟩⟩
        rotate_left
        · have a1 : ¬ st.1 = 20 := fun z => n3 (w3.mpr z)
          have a2 : ¬ st.1 = 21 := fun z => n5 (w5.mpr z)
          omega
        · rw [t_le, k300] at c3
          omega
        rw [t_le, k300] at c3
        have a0 : ¬ st.1 < 16 := fun z => c6 (w6.mpr z)
        have a1 : ¬ st.1 = 20 := fun z => n3 (w3.mpr z)
        have a2 : ¬ st.1 = 21 := fun z => n5 (w5.mpr z)
        rw [f59]
        refine ⟨fun ne => ⟨kv, ?_⟩, fun e59 => p125 n3 n5 c6 y S1 (m + 1) 0 i1 i2 q5 ek.symm (by omega) (by omega) mi q rfl (fun _ => ?_) (fun z => absurd e59 z)⟩
        · have n19 : ¬ st.1 = 19 := fun c => ne19 c ne
          obtain ⟨Q, hQ⟩ := ns.2.2.2.2.2.1 (by omega)
          obtain ⟨q1, q2⟩ := ns.2.2.2.2.2.2.2.2.1 Q hQ
          obtain ⟨pw, pm, p8⟩ := ns.2.2.2.2.1
          rw [hQ] at h59
          have h59 : SUm x (x.1 59 k.toNatClampNeg) (Q.map (mQp st.2.1)) := h59
          have f49 : y.1 0 49 = x.1 0 49 := i1.1.1 49 (by decide)
          refine ds_workedf (lv := lv) (cv := fun _ => 0) (SUm_f h59 f49 (f 51 (by decide) (by decide)) (f 52 (by decide) (by decide))) (by rw [f49]; omega) q1 (fun p hp => ?_) (fun r z S2 mz s2 s82 hwk => ?_)
          · obtain ⟨b1, b2, b3⟩ := q2 p hp
            refine ⟨b1, fun c => ?_, fun c => absurd c b3⟩
            have pl := b2 c
            have sm := pm _ (slN_mem pl)
            have m8 : (8 * t).toInt = 8 * t.toInt := by rw [t_mul (by rw [k8]; omega) (by rw [k8]; omega), k8]
            have eo : (Int32.ofNat (slN st.2.1 p.2.1)).toInt = (slN st.2.1 p.2.1 : Nat) := Int32.toInt_ofNat_of_lt (by omega)
            have es : (8 * t + Int32.ofNat (slN st.2.1 p.2.1)).toInt = 8 * t.toInt + (slN st.2.1 p.2.1 : Nat) := by rw [t_add (by omega) (by omega), m8, eo]
            refine ⟨by rw [vp_in_iff, es]; omega, ?_⟩
            have ei : (8 * t + Int32.ofNat (slN st.2.1 p.2.1)).toNatClampNeg = 8 * T + slN st.2.1 p.2.1 := by rw [t_cl, es, tTi]; omega
            rw [ei]
            exact hlv _ pl
          · rw [tT] at hwk
            exact p125 n3 n5 c6 z S2 (m + 1) r (th3_tr i1 (th3_md mz rfl rfl)) (ssub_tr i2 s2) (by unfold q0; rw [mz.2.1 77 (by decide) (by decide), mz.2.1 78 (by decide) (by decide), mz.2.1 75 (by decide) (by decide)]; exact q5) (by rw [mz.2.1 74 (by decide) (by decide)]; exact ek.symm) (by omega) (by omega) mi (by rw [mz.2.1 73 (by decide) (by decide)]; exact q) (mz.2.1 76 (by decide) (by decide)) (fun z => absurd z ne) (fun _ => ⟨s82, Q, hQ, hwk⟩)
        · by_cases n19 : st.1 = 19
          · exact n19
          · exfalso
            obtain ⟨Q, hQ⟩ := ns.2.2.2.2.2.1 (by omega)
            rw [hQ] at h59
            have h59 : SUm x (x.1 59 k.toNatClampNeg) (Q.map (mQp st.2.1)) := h59
            have := h59.1
            rw [e59] at this
            exact absurd this (by decide)
      · rw [f61] at e2
        have gk : gg x k = 1501 - k.toInt := by unfold gg; rw [if_pos e3]
        have tw := sc2 (Or.inr e3)
        have s20 : st.1 = 20 := w3.mp e3
        obtain ⟨n2, st', hto, hs', hsf⟩ := ns.2.2.1 (Or.inr s20)
        have h61' : x.1 61 k.toNatClampNeg = Int32.ofNat n2 := by
          rw [h61]
          unfold mNt
          rw [hto]
          show (if st.1 = 17 ∨ st.1 = 20 then Int32.ofNat n2 else _) = _
          rw [if_pos (Or.inr s20)]
        obtain ⟨l1, l2⟩ := len hs'
        have t0 : 0 ≤ (x.1 61 k.toNatClampNeg).toInt := by rw [h61', l1]; omega
        have how : ow1 (Int32.ofNat T) k.toNatClampNeg st lv = .inr (n2, lv) := by
          unfold ow1
          rw [if_neg (by omega), if_pos s20, hto]
          rfl
        refine to y S1 m _ z2 i1 i2 q5 e2 t0 tw m0 m3 ?_ (onJ m _ n2 z2 st' lv st.2.1 (by rw [e2, si_cell (by decide)]; exact q) (by rw [e2, si_get, if_pos ⟨rfl, rfl⟩]) (by rw [h61']; exact l2) hs' hsf (fun p hp => by rw [e2, si_cell (by decide)]; exact hlv p hp) (fun r hr => ?_))
        rotate_left
        · obtain ⟨n9, hn9⟩ := hr
          refine lift r ⟨n9 + 1, ?_⟩
          rw [set_r hst (by omega) (by omega) how, if_neg (by omega)]
          exact hn9
        rcases go e3 with g | ⟨_, _, g⟩
        · have : gg x (x.1 61 k.toNatClampNeg) ≤ 1501 - (x.1 61 k.toNatClampNeg).toInt := by
            unfold gg
            split <;> omega
          omega
        · have : gg x (x.1 61 k.toNatClampNeg) = 0 := by
            unfold gg
            rw [if_neg (by rw [g]; decide)]
          omega
  refine sd_own_0 _ (loop ((300 - 0) * 3001 + gg x (x.1 74 T) + 1).toNat x S 0 ⟨th3_rf T x, ssub_rf S, ha, h1, hw.1, hw.2.1, fun _ => hw.2.2⟩ (by decide) (by decide) (fun _ => Int.self_le_toNat _) ?_)
  rw [eJ]
  refine Or.inl ⟨hg, st0, lv0, hst0, hlv0, fun r hr => ?_⟩
  rw [eG0]
  exact hr
end DOG
