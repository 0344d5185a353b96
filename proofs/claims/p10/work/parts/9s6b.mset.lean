/-! the model: a run's beginning is the machine's -/
section DS3
variable {d : Nat} {S : gS} {x : gd} {F : Int32 → gd → gS → Prop} {Fv : gd → gS → Prop} {C : gCo}
theorem fs_idle {T : Nat} {q : Nat × Nat} (h : C.2.1[T]? = some q) (c : q.2 = 1) : (fsM C).2.2 T = th0 := by
  show (match C.2.1[T]? with | some q => if q.2 = 1 then th0 else thN C T th0 q.1 (fun _ => 0) | none => th0) = th0
  rw [h]
  exact if_pos c
theorem fs_go {T : Nat} {q : Nat × Nat} (h : C.2.1[T]? = some q) (c : ¬ q.2 = 1) : (fsM C).2.2 T = thN C T th0 q.1 (fun _ => 0) := by
  show (match C.2.1[T]? with | some q => if q.2 = 1 then th0 else thN C T th0 q.1 (fun _ => 0) | none => th0) = _
  rw [h]
  exact if_neg c
theorem fs_out {T : Nat} (h : C.2.1.length ≤ T) : (fsM C).2.2 T = th0 := by
  show (match C.2.1[T]? with | some q => if q.2 = 1 then th0 else thN C T th0 q.1 (fun _ => 0) | none => th0) = th0
  rw [List.getElem?_eq_none h]
theorem ds_setTail3 (cp : CP x) (i4 : ∀ j : Nat, j < 6 → iniT x j) (i3 : ∀ j : Nat, j < 6 → iniL x j) (i2 : ∀ j : Nat, j < 24 → x.1 70 j = (fsM C).1 j) (i5 : ∀ j : Nat, j < 48 → x.1 76 j = 0) (hK : MK x C) (hN : NC C) (h : ∀ y S1, RI y S1 → MM1 y C (fsM C) → Fv y S1) : MD 4 z_setFirst 157 [(0, vr 0), (1, vi 0)] [] S x (Dv Fv) := by
  have k0 : (0 : Int32).toInt = 0 := rfl
  have k1 : (1 : Int32).toInt = 1 := rfl
  have b25 := cp.1.2.2.2.2.2.1
  have nT : (x.1 0 25).toInt = C.2.1.length := hK.2.1.1
  have fin : ∀ (y : gd) (S1 : gS) (t : Int32), 0 ≤ t.toInt → RI y S1 → md hL hA x y → (∀ t' : Nat, t' < 6 → mTq y C t' (if (t' : Int) < t.toInt then (fsM C).2.2 t' else th0)) → (x.1 0 25).toInt ≤ t.toInt → Fv y S1 := by
    intro y S1 t t0 ry my hf hle
    refine h y S1 ry ⟨fun c hc => by rw [my.2.1 70 (by decide) (by decide)]; exact i2 c hc, fun l hl => ?_, fun t' ht' => ?_⟩
    · rw [my.2.1 71 (by decide) (by decide), my.2.1 72 (by decide) (by decide), (i3 l hl).1, (i3 l hl).2]
      exact ⟨rfl, Nat.zero_le _, rfl⟩
    · have q := hf t' ht'
      by_cases c : (t' : Int) < t.toInt
      · rw [if_pos c] at q; exact q
      · rw [if_neg c] at q
        rw [fs_out (by omega)]; exact q
  have ri0 : RI x S := by
    refine ⟨cp, fun t ht => ?_⟩
    obtain ⟨a1, a2, a3, a4, a5, a6, a7⟩ := i4 t ht
    refine ⟨⟨by rw [a2]; decide, by rw [a2]; decide, fun q => by rw [a1] at q; exact absurd q (by decide)⟩, Or.inl a4, by rw [a7]; decide, by rw [a7]; decide, fun k hk => ?_⟩
    rw [a7, k0] at hk; omega
  have loop : ∀ (n : Nat) (y : gd) (S1 : gS) (t : Int32), 0 ≤ t.toInt → (x.1 0 25).toInt - t.toInt ≤ n → y.1 0 25 = x.1 0 25 → RI y S1 → md hL hA x y → (∀ t' : Nat, t' < 6 → mTq y C t' (if (t' : Int) < t.toInt then (fsM C).2.2 t' else th0)) → MD 4 z_setFirst 157 [(0, vr 0), (1, vi t)] [] S1 y (Dv Fv) := by
    intro n
    induction n with
    | zero =>
      intro y S1 t t0 hn e25 ry my hf
      exact sd_setFirst_157 _ ⟨fun _ => Dv_i (fin y S1 t t0 ry my hf (by omega)), fun c => absurd (t_le.mpr (by rw [e25]; omega)) c⟩
    | succ n ih =>
      intro y S1 t t0 hn e25 ry my hf
      refine sd_setFirst_157 _ ⟨fun c => Dv_i (fin y S1 t t0 ry my hf (by rw [t_le, e25] at c; exact c)), fun c => ?_⟩
      rw [t_le, e25] at c
      have tv : vp_in t 6 := by rw [vp_in_iff]; omega
      have ct := cl_i t0
      have ti : (t + 1).toInt = t.toInt + 1 := by rw [t_add (by omega) (by omega), k1]
      obtain ⟨T, eT⟩ : ∃ T, T = t.toNatClampNeg := ⟨_, rfl⟩
      rw [← eT] at ct
      have T6 : T < 6 := by omega
      have tl : T < C.2.1.length := by omega
      obtain ⟨q9, hq9⟩ : ∃ q9, C.2.1[T]? = some q9 := ⟨_, List.getElem?_eq_getElem tl⟩
      have hKy : MK y C := MK_md my rfl rfl hK
      obtain ⟨k64, k38⟩ := hKy.2.1.2 T q9 hq9
      obtain ⟨⟨st, s1, s2⟩, q1⟩ := hN.2.1 q9 (List.mem_of_getElem? hq9)
      have mT := hf T T6
      rw [if_neg (by omega)] at mT
      have ext : ∀ (u : gd), mTq u C T ((fsM C).2.2 T) → (∀ t' : Nat, t' < 6 → ¬ t' = T → ∀ hh, mTq y C t' hh → mTq u C t' hh) → ∀ t' : Nat, t' < 6 → mTq u C t' (if (t' : Int) < (t + 1).toInt then (fsM C).2.2 t' else th0) := fun u hu ho t' ht' => by
        by_cases c9 : t' = T
        · rw [c9, if_pos (by omega)]; exact hu
        · have q := ho t' ht' c9 _ (hf t' ht')
          by_cases c8 : (t' : Int) < t.toInt
          · rw [if_pos c8] at q
            rw [if_pos (by omega)]; exact q
          · rw [if_neg c8] at q
            rw [if_neg (by omega)]; exact q
      refine ⟨tv, fun n0 => ih y S1 (t + 1) (by omega) (by omega) e25 ry my (ext y ?_ (fun _ _ _ _ q => q)), fun c0 => ⟨tv, fun y5 e5 => ⟨tv, tv, fun y8 e8 => ?_⟩⟩⟩
      · rw [← eT, k38] at n0
        have : ¬ q9.2 = 0 := fun z => n0 (by rw [z]; rfl)
        rw [fs_idle hq9 (by omega)]; exact mT
      rw [← eT] at c0 e5 e8
      have ni : ¬ q9.2 = 1 := fun z => by
        rw [k38, z] at c0
        exact absurd c0 (by decide)
      have t5 : th3 T y y5 := by rw [e5]; exact th3_si (by decide) _ _
      have t8 : th3 T y5 y8 := by rw [e8]; exact th3_si (by decide) _ _
      have t58 := th3_tr t5 t8
      have bg := ry.1.2.1.2.2.2.2.2 T (by have := t_cl (y.1 0 25); rw [e25] at this; rw [e25]; omega)
      have j2 := ry.1.2.1.2.1
      have a74 : y8.1 74 T = y.1 64 T := by rw [e8, si_get, if_pos ⟨rfl, rfl⟩, e5, si_cell (by decide)]
      have oth : ∀ c9, ¬ c9 = 73 → ¬ c9 = 74 → y8.1 c9 = y.1 c9 := fun c9 n1 n2 => by rw [e8, si_cell n2, e5, si_cell n1]
      have a52 : y8.1 0 52 = y.1 0 52 := t58.1.1 52 (by decide)
      have g73 : y8.1 73 T = 1 := by rw [e8, si_cell (by decide), e5, si_get, if_pos ⟨rfl, rfl⟩]
      have n64 : (y.1 64 T).toNatClampNeg = q9.1 := by rw [t_cl, k64]; rfl
      have hq : q0 y8 T := by
        unfold q0
        rw [oth 77 (by decide) (by decide), oth 78 (by decide) (by decide), oth 75 (by decide) (by decide)]
        exact ⟨mT.2.2.2.2.1, mT.2.2.2.2.2.2.1, mT.2.2.1⟩
      refine ds_own3 (d := 0) (lv0 := fun _ => 0) t tv (CP_th (th3_th t58) ry.1) (by rw [← eT, a74]; exact ⟨bg.1, by omega⟩) (fun _ => by rw [← eT, a74, a52]; exact bg.2) (by rw [← eT]; exact hq) (MK_th3 hKy t58) hN (by rw [← eT]; exact g73) (by rw [← eT, a74, n64]; exact s1) (fun p hp => by rw [s2] at hp; exact absurd hp (Nat.not_lt_zero _)) (fun u S2 tu su ra' w' u78 ow => ?_)
      rw [← eT] at tu ra' w' u78 ow
      rw [a74, n64] at ow
      have tt := th3_tr t58 tu
      have f := fun q (h0 : q ≠ 0) hq => tt.1.2.1 q h0 hq
      refine ih u S2 (t + 1) (by omega) (by omega) (by rw [tt.1.1 25 (by decide)]; exact e25) ⟨CP_th (th3_th tt) ry.1, fun t' ht' => ?_⟩ (md_tr my tt.1 rfl rfl) (ext u ?_ (fun t' ht' ne hh q => mTq_th hN tt ne q))
      · by_cases q : t' = T
        · rw [q]; exact ⟨ra', Or.inl w', rl_th (th3_th tt) su (ry.2 T T6).2.2⟩
        · exact rT_th (th3_th tt) su q (ry.2 t' ht')
      · rw [fs_go hq9 ni]
        exact mTq_own ow w' u78 rfl rfl (by rw [f 79 (by decide) (by decide)]; exact mT.2.2.2.2.2.2.2.1) (mLt_eq mT.2.2.2.2.2.2.2.2.1 (f 80 (by decide) (by decide)) (f 81 (by decide) (by decide)) (f 82 (by decide) (by decide)))
  refine loop 6 x S 0 (by decide) (by rw [k0]; omega) rfl ri0 (md_w (md_rf x) (by decide) (by decide)) (fun t' ht' => ?_)
  rw [if_neg (by rw [k0]; omega)]
  obtain ⟨a1, a2, a3, a4, a5, a6, a7⟩ := i4 t' ht'
  refine ⟨a1, Nat.zero_le _, a3, by rw [a2]; rfl, a4, Nat.zero_le _, a5, a6, ⟨by rw [a7]; rfl, fun j q hj => nomatch hj⟩, fun c => ?_, fun k hk _ => i5 _ (by omega)⟩
  have c : 0 = 1 ∨ 0 = 3 := c
  omega
end DS3
