/-! the model: what an act answers is kept; the thread goes on -/
section DAC
variable {d : Nat} {S : gS} {x y : gd} {F : Int32 → gd → gS → Prop} {Fv : gd → gS → Prop} {C : gCo} {E : gMa}
/-- the slot that an act sets, and the others -/
theorem aft_slot (hN : NC C) {K p : Nat} {st : gNs} (hst : C.1[K]? = some st) (o4 : st.1 = 0 ∨ (2 ≤ st.1 ∧ st.1 ≤ 4)) (hto : st.2.2.2.1 = some p) : (aftN st).Pairwise (fun a b => b < a) ∧ (∀ s ∈ aftN st, s < 8) ∧ p < (aftN st).length ∧ mNt st = Int32.ofNat (slN (aftN st) p) ∧ ∀ j, j < (aftN st).length → ¬ j = p → j < st.2.1.length ∧ slN (aftN st) j = slN st.2.1 j := by
  have ns := hN.1 _ st hst
  obtain ⟨p', hto', hp⟩ := ns.2.2.2.1 (by omega)
  rw [hto] at hto'
  have ep := Option.some.inj hto'
  rw [← ep] at hp
  obtain ⟨pw, pm, p8⟩ := ns.2.2.2.2.1
  have h61' : mNt st = Int32.ofNat (if p = st.2.1.length then st.2.2.1 else slN st.2.1 p) := by
    unfold mNt
    rw [hto]
    show (if st.1 = 17 ∨ st.1 = 20 then _ else Int32.ofNat (if p = st.2.1.length then st.2.2.1 else slN st.2.1 p)) = _
    rw [if_neg (by omega)]
  rcases hp with hp | ⟨hp, hp8⟩
  · have ea : aftN st = st.2.1 := if_neg (fun z => by rw [hto] at z; have := Option.some.inj z.2; omega)
    rw [ea]
    exact ⟨pw, fun s hs => by have := pm s hs; omega, hp, by rw [h61', if_neg (by omega)], fun j hj _ => ⟨hj, rfl⟩⟩
  · have ea : aftN st = st.2.2.1 :: st.2.1 := if_pos ⟨by omega, by rw [hto, hp]⟩
    rw [ea]
    refine ⟨List.Pairwise.cons pm pw, fun s hs => ?_, by rw [hp]; exact Nat.lt_succ_self _, ?_, fun j hj hne => ?_⟩
    · rcases List.mem_cons.mp hs with e | hs
      · rw [e]; exact hp8
      · have := pm s hs; omega
    · rw [h61', if_pos hp]
      show _ = Int32.ofNat (if p = st.2.1.length then st.2.2.1 else slN st.2.1 p)
      rw [if_pos hp]
    · have hj : j < st.2.1.length + 1 := hj
      refine ⟨by omega, ?_⟩
      show (if j = st.2.1.length then st.2.2.1 else slN st.2.1 j) = _
      rw [if_neg (by omega)]
theorem ds_act667 (t k c s v : Int32) (ht : vp_in t 6) {T K : Nat} (eT : T = t.toNatClampNeg) (eK : k.toInt = (K : Nat)) (cp : CP y) (hK : MK y C) (hN : NC C) (hX : NXc C) {st : gNs} (hst : C.1[K]? = some st) (o16 : st.1 < 16) (K2 : (K : Int) + 1 < (y.1 0 52).toInt ∧ (y.1 0 52).toInt ≤ 1500) (mc : MMc y E) (mT : ∀ t' : Nat, t' < 6 → (s = 9 → ¬ t' = c.toNatClampNeg) → mTq y C t' (E.2.2 t')) (cT : s = 9 → ¬ c.toNatClampNeg = T) (e0 : (E.2.2 T).1 = 1) (e1 : (E.2.2 T).2.1 = 0) (e2 : (E.2.2 T).2.2.1 = K) (e3 : (E.2.2 T).2.2.2.1 = 0) (e4 : (E.2.2 T).2.2.2.2.1 = 0)
    (hc : s = 9 → vp_in c 6 ∧ y.1 73 c.toNatClampNeg = 1 ∧ q0 y c.toNatClampNeg ∧ ∃ (h : gTq) (b : Nat) (lc : Nat → Int32), E.2.2 c.toNatClampNeg = thN C c.toNatClampNeg h b lc ∧ (y.1 74 c.toNatClampNeg).toInt = (b : Nat) ∧ b < C.1.length ∧ (∀ p, p < (stN C b).2.1.length → y.1 76 (8 * c.toNatClampNeg + slN (stN C b).2.1 p) = lc p) ∧ h.2.2.2.1 = 0 ∧ h.2.2.2.2.1 = 0 ∧ y.1 79 c.toNatClampNeg = h.2.2.2.2.2.1 ∧ mLt y c.toNatClampNeg h.2.2.2.2.2.2.1)
    (rt : ∀ t' : Nat, t' < 6 → (s = 9 → ¬ t' = c.toNatClampNeg) → rT y S t') (rlc : s = 9 → rl y S c.toNatClampNeg)
    (h : ∀ x' S', RI x' S' → ssub S S' → md hL hA y x' → MM1 x' C (upT E T (thN C T (E.2.2 T) (K + 1) (toV st (E.2.2 T).2.2.2.2.2.2.2 v))) → Fv x' S') : MD (d + 4) z_doAct 667 [(0, vr 0), (1, vi t), (3, vi k), (4, vi s), (5, vi c), (6, vi v)] [] S y (Dv Fv) := by
  have k8 : (8 : Int32).toInt = 8 := rfl
  have tv := vp_in_iff.mp ht
  have T6 : T < 6 := by rw [eT]; exact vt ht
  have tTi : t.toInt = (T : Nat) := by rw [eT, t_cl]; omega
  have kK : k.toNatClampNeg = K := by rw [t_cl, eK]; rfl
  have kv : vp_in k 1500 := by rw [vp_in_iff]; omega
  have cT' : s = 9 → ¬ T = c.toNatClampNeg := fun z q => cT z q.symm
  obtain ⟨a1, a2, a3, a4, a5, a6, a7, a8, a9, b1, b2⟩ := mT T T6 cT'
  rw [e0] at a1
  rw [e1] at a3
  rw [e2] at a4
  rw [e3] at a5
  rw [e4] at a7
  rw [e0, e2] at b1
  have b1 := b1 (Or.inl rfl)
  rw [stN_is hst] at b1
  have ns := hN.1 _ st hst
  obtain ⟨-, -, -, -, -, -, -, g61, -⟩ := hK.1.2 _ st hst
  obtain ⟨-, -, -, -, nx6, -⟩ := hX _ st hst
  obtain ⟨st1, hst1, hsf⟩ := ns.2.1 (by omega)
  have es1 := stN_is hst1
  have fin : ∀ z : gd, th3 T y z → z.1 73 = y.1 73 → z.1 74 = y.1 74 → z.1 75 = y.1 75 → z.1 77 = y.1 77 → z.1 78 = y.1 78 → (∀ p, p < (aftN st).length → z.1 76 (8 * T + slN (aftN st) p) = toV st (E.2.2 T).2.2.2.2.2.2.2 v p) → MD (d + 4) z_doAct 695 [(0, vr 0), (1, vi t), (4, vi s), (5, vi c)] [] S z (Dv Fv) := by
    intro z tz f73 f74 f75 f77 f78 hl
    have f := fun q (h0 : q ≠ 0) hq => tz.1.2.1 q h0 hq
    have f52 : z.1 0 52 = y.1 0 52 := tz.1.1 52 (by decide)
    have lt : ∀ {n : Nat} {l : List (Nat × Int32)}, mLt y n l → mLt z n l := fun q => mLt_eq q (f 80 (by decide) (by decide)) (f 81 (by decide) (by decide)) (f 82 (by decide) (by decide))
    refine ds_act695 t c s ht eT (CP_th (th3_th tz) cp) (MK_th3 hK tz) hN (by rw [f73]; exact a1) (by rw [f74]; exact a4) (by rw [f52]; exact K2) (by unfold q0; rw [f77, f78, f75]; exact ⟨a5, a7, a3⟩) (fun p hp => ?_) (MMc_th mc tz) (fun t' ht' ne hc' => mTq_th hN tz ne (mT t' ht' hc')) e3 e4 (by rw [f 79 (by decide) (by decide)]; exact a8) (lt a9) (fun e9 => ?_) (fun t' ht' ne hc' => rT_th (th3_th tz) (ssub_rf _) ne (rt t' ht' hc')) (rl_th (th3_th tz) (ssub_rf _) (rt T T6 cT').2.2) (fun e9 => rl_th (th3_th tz) (ssub_rf _) (rlc e9)) (fun x' S' r ss m mm => h x' S' r ss (md_tr tz.1 m rfl rfl) mm)
    · rw [es1] at hp ⊢
      rw [slN_suf hsf hp]
      exact hl p (by have := hsf.length_le; omega)
    · obtain ⟨c1, c3, c4, hh, b, lc, g1, g2, g3, g4, g5, g6, g7, g8⟩ := hc e9
      refine ⟨c1, cT e9, by rw [f73]; exact c3, by unfold q0; rw [f77, f78, f75]; exact c4, hh, b, lc, g1, by rw [f74]; exact g2, g3, fun p hp => ?_, g5, g6, by rw [f 79 (by decide) (by decide)]; exact g7, lt g8⟩
      have q8 := kn_8 hN b _ (slN_mem hp)
      have cne := cT e9
      rw [tz.2.2 _ (by omega)]
      exact g4 p hp
  rw [← kK] at g61
  refine sd_doAct_667 _ _ _ _ _ ⟨kv, ?_⟩
  rw [g61]
  cases hto : st.2.2.2.1 with
  | none =>
    have em : mNt st = -1 := by unfold mNt; rw [hto]
    have ea : aftN st = st.2.1 := if_neg (fun z => by rw [hto] at z; exact nomatch z.2)
    rw [em]
    refine ⟨fun _ => fin y (th3_rf T y) rfl rfl rfl rfl rfl (fun p hp => ?_), fun ne => absurd rfl ne⟩
    rw [ea] at hp ⊢
    unfold toV
    rw [hto]
    exact b1 p hp
  | some p =>
    have o4 : st.1 = 0 ∨ (2 ≤ st.1 ∧ st.1 ≤ 4) := Classical.byContradiction (fun n4 => by
      rw [nx6 (by omega)] at hto
      exact nomatch hto)
    obtain ⟨apw, ap8, app, ap61, apj⟩ := aft_slot hN hst o4 hto
    have sl8 := ap8 _ (slN_mem app)
    have eo : (Int32.ofNat (slN (aftN st) p)).toInt = (slN (aftN st) p : Nat) := Int32.toInt_ofNat_of_lt (by omega)
    have m8 : (8 * t).toInt = 8 * t.toInt := by rw [t_mul (by rw [k8]; omega) (by rw [k8]; omega), k8]
    have ei : (8 * t + Int32.ofNat (slN (aftN st) p)).toInt = 8 * t.toInt + (slN (aftN st) p : Nat) := by rw [t_add (by omega) (by omega), m8, eo]
    have ei' : (8 * t + Int32.ofNat (slN (aftN st) p)).toNatClampNeg = 8 * T + slN (aftN st) p := by rw [t_cl, ei, tTi]; omega
    rw [ap61]
    refine ⟨fun q => ?_, fun ne => ⟨kv, by rw [vp_in_iff, ei]; omega, fun z ez => ?_⟩⟩
    · rw [t_eq, eo, show (-1 : Int32).toInt = -1 from rfl] at q
      omega
    · rw [ei'] at ez
      have tz : th3 T y z := by rw [ez]; exact th3_76 (by omega) _ _
      refine fin z tz (by rw [ez, si_cell (by decide)]) (by rw [ez, si_cell (by decide)]) (by rw [ez, si_cell (by decide)]) (by rw [ez, si_cell (by decide)]) (by rw [ez, si_cell (by decide)]) (fun j hj => ?_)
      unfold toV
      rw [hto, ez, si_get]
      show _ = fup _ p v j
      unfold fup
      by_cases c9 : j = p
      · rw [c9, if_pos ⟨rfl, rfl⟩, if_pos rfl]
      · obtain ⟨j1', j2'⟩ := apj j hj c9
        rw [if_neg (fun z => c9 (slN_inj apw hj app (by have := z.2; omega))), if_neg c9, j2']
        exact b1 j j1'
end DAC
