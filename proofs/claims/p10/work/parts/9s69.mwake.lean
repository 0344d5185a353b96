/-! the model: threads are woken -/
def wkT (C : gCo) (M : gMa) (t c : Nat) (wk : Option Nat) : Nat → gTq := fun o => if o < C.2.1.length ∧ (M.2.2 o).2.2.2.1 = 1 ∧ obM C (M.2.2 o).2.2.1 = c ∧ ((stN C (M.2.2 t).2.2.1).2.2.2.2.2.2.1 = true ∨ wk = some o) then ((M.2.2 o).1, (M.2.2 o).2.1, (M.2.2 o).2.2.1, 2, (M.2.2 o).2.2.2.2) else M.2.2 o
theorem ef_8 {C : gCo} {M : gMa} {w t c : Nat} {e f : Int32} {wk : Option Nat} : efM C w M t 8 c e f wk = ((M.1, M.2.1, wkT C M t c wk), 0) := by unfold efM; rfl
theorem mTq_77 {C : gCo} {y z : gd} {o v : Nat} {h : gTq} (q : mTq y C o h) (e : z = si y 77 o (Int32.ofNat v)) (hv : v ≤ 2) : mTq z C o (h.1, h.2.1, h.2.2.1, v, h.2.2.2.2) := by
  obtain ⟨a1, a2, a3, a4, a5, a6, a7, a8, a9, b1⟩ := q
  have f : ∀ c, c ≠ 77 → z.1 c = y.1 c := fun c hc => by rw [e, si_cell hc]
  refine ⟨by rw [f 73 (by decide)]; exact a1, a2, by rw [f 75 (by decide)]; exact a3, by rw [f 74 (by decide)]; exact a4, by rw [e, si_get, if_pos ⟨rfl, rfl⟩], hv, by rw [f 78 (by decide)]; exact a7, by rw [f 79 (by decide)]; exact a8, mLt_eq a9 (f 80 (by decide)) (f 81 (by decide)) (f 82 (by decide)), ?_⟩
  unfold mLv at b1 ⊢
  rw [f 76 (by decide)]; exact b1
section DWK
variable {d : Nat} {S : gS} {x : gd} {F : Int32 → gd → gS → Prop} {Fv : gd → gS → Prop} {C : gCo} {M : gMa}
theorem ds_one3 (v : Int32) (h : F (if v = 0 then 0 else 1) x S) : MD d z_one 0 [(0, vi v)] [] S x (Di F) := sd_one_0 _ ⟨fun c => Di_i (by first | (rw [if_pos c] at h; exact h) | (rw [if_neg c] at h; exact h)), fun c => Di_i (by first | (rw [if_pos c] at h; exact h) | (rw [if_neg c] at h; exact h))⟩
theorem ds_wake3 (t w k c s : Int32) {T K : Nat} (ri : RI x S) (hK : MK x C) (hN : NC C) (hX : NXc C) (hM : MM1 x C M) (eK : k.toInt = (K : Nat)) (K15 : K < 1500) (hKT : (M.2.2 T).2.2.1 = K) {st : gNs} (hst : C.1[K]? = some st) (o8 : st.1 = 8) (hc : 0 ≤ c.toInt ∧ c.toInt < 6) (w9 : x.1 77 T = 0) {wk : Option Nat} (hwk : (wk = none ∧ w = -1) ∨ ∃ o : Nat, wk = some o ∧ o < 6 ∧ w = Int32.ofNat o)
    (kk : ∀ z, RI z S → md [] [77] x z → z.1 77 T = 0 → (∀ t' : Nat, t' < 6 → mTq z C t' (wkT C M T c.toNatClampNeg wk t')) → MD (d + 4) z_doAct 667 [(0, vr 0), (1, vi t), (3, vi k), (4, vi s), (5, vi c), (6, vi 0)] [] S z (Dv Fv)) : MD (d + 4) z_doAct 513 [(0, vr 0), (1, vi t), (2, vi w), (3, vi k), (4, vi s), (5, vi c), (6, vi 0), (8, vi 0)] [] S x (Dv Fv) := by
  have k0 : (0 : Int32).toInt = 0 := rfl
  have k1 : (1 : Int32).toInt = 1 := rfl
  have h25 := ri.1.1.2.2.2.2.2.1
  have l25 : (x.1 0 25).toInt = C.2.1.length := hK.2.1.1
  have kv : vp_in k 1500 := by rw [vp_in_iff]; omega
  have kK : k.toNatClampNeg = K := by rw [t_cl, eK]; rfl
  have esT : stN C (M.2.2 T).2.2.1 = st := by rw [hKT]; exact stN_is hst
  obtain ⟨-, -, -, g57, -⟩ := hK.1.2 _ st hst
  obtain ⟨-, -, -, nx4, -⟩ := hX _ st hst
  have nx4 := nx4 o8
  rw [← g57, ← kK] at nx4
  have loop : ∀ (n : Nat) (y : gd) (o : Int32), RI y S → md [] [77] x y → y.1 77 T = 0 → 0 ≤ o.toInt → (x.1 0 25).toInt - o.toInt ≤ n → (∀ t' : Nat, t' < 6 → mTq y C t' (if (t' : Int) < o.toInt then wkT C M T c.toNatClampNeg wk t' else M.2.2 t')) → MD (d + 4) z_doAct 513 [(0, vr 0), (1, vi t), (2, vi w), (3, vi k), (4, vi s), (5, vi c), (6, vi 0), (8, vi o)] [] S y (Dv Fv) := by
    have fin : ∀ (y : gd) (o : Int32), RI y S → md [] [77] x y → y.1 77 T = 0 → (x.1 0 25).toInt ≤ o.toInt → (∀ t' : Nat, t' < 6 → mTq y C t' (if (t' : Int) < o.toInt then wkT C M T c.toNatClampNeg wk t' else M.2.2 t')) → MD (d + 4) z_doAct 667 [(0, vr 0), (1, vi t), (3, vi k), (4, vi s), (5, vi c), (6, vi 0)] [] S y (Dv Fv) := fun y o ry my yT ho mt => kk y ry my yT (fun t' ht' => by
      have q := mt t' ht'
      by_cases c9 : (t' : Int) < o.toInt
      · rw [if_pos c9] at q; exact q
      · rw [if_neg c9] at q
        have : wkT C M T c.toNatClampNeg wk t' = M.2.2 t' := if_neg (fun z => by have := z.1; omega)
        rw [this]; exact q)
    intro n
    induction n with
    | zero =>
      intro y o ry my yT o0 hn mt
      have e25 : y.1 0 25 = x.1 0 25 := my.1 25 (by decide)
      exact sd_doAct_513 _ _ _ _ _ _ _ ⟨fun _ => fin y o ry my yT (by omega) mt, fun cc => absurd (t_le.mpr (by rw [e25]; omega)) cc⟩
    | succ n ih =>
      intro y o ry my yT o0 hn mt
      have e25 : y.1 0 25 = x.1 0 25 := my.1 25 (by decide)
      refine sd_doAct_513 _ _ _ _ _ _ _ ⟨fun cc => fin y o ry my yT (by rw [t_le, e25] at cc; exact cc) mt, fun cc => ?_⟩
      rw [t_le, e25] at cc
      have ov : vp_in o 6 := by rw [vp_in_iff]; omega
      have oi : (o + 1).toInt = o.toInt + 1 := by rw [t_add (by omega) (by omega), k1]
      obtain ⟨O, eO⟩ : ∃ O, O = o.toNatClampNeg := ⟨_, rfl⟩
      have oO : (O : Int) = o.toInt := by rw [eO]; exact cl_i o0
      have O6 : O < 6 := by omega
      have oI : o = Int32.ofNat O := i32_of (by omega)
      have ra' := (ry.2 O O6).1
      have q := mt O O6
      rw [if_neg (by omega)] at q
      have m77 := q.2.2.2.2.1
      have l77 := q.2.2.2.2.2.1
      have m74 := q.2.2.2.1
      obtain ⟨-, b1, -⟩ := wai_2 _ (show (M.2.2 O).2.2.2.1 < 3 by omega)
      rw [← m77] at b1
      have f56 : y.1 56 = x.1 56 := my.2.1 56 (by decide) (by decide)
      have f57 : y.1 57 = x.1 57 := my.2.1 57 (by decide) (by decide)
      -- set, and go on
      have set : ∀ (v : Nat) (z : gd), z = si y 77 O (Int32.ofNat v) → v ≤ 2 → wkT C M T c.toNatClampNeg wk O = ((M.2.2 O).1, (M.2.2 O).2.1, (M.2.2 O).2.2.1, v, (M.2.2 O).2.2.2.2) → (v = (M.2.2 O).2.2.2.1 ∨ (v = 2 ∧ y.1 77 O = 1)) → MD (d + 4) z_doAct 513 [(0, vr 0), (1, vi t), (2, vi w), (3, vi k), (4, vi s), (5, vi c), (6, vi 0), (8, vi (o + 1))] [] S z (Dv Fv) := by
        intro v z ez v2 hwv hv
        have tz : th3 O y z := by rw [ez]; exact th3_si (by decide) _ _
        have mz := md_a y 77 O (Int32.ofNat v) (by decide)
        rw [← ez] at mz
        have c73 : z.1 73 = y.1 73 := by rw [ez, si_cell (by decide)]
        have c74 : z.1 74 = y.1 74 := by rw [ez, si_cell (by decide)]
        have wo' : z.1 77 O = Int32.ofNat v := by rw [ez, si_get, if_pos ⟨rfl, rfl⟩]
        have wT' : z.1 77 T = 0 := by
          by_cases q9 : T = O
          · rw [q9] at yT ⊢
            rw [wo']
            rcases hv with hv | ⟨_, hv⟩
            · rw [hv, ← m77]; exact yT
            · rw [yT] at hv; exact absurd hv (by decide)
          · rw [tz.2.1 77 T (by omega) q9]; exact yT
        refine ih z (o + 1) ⟨CP_th (th3_th tz) ry.1, fun t' ht' => ?_⟩ (md_tr my mz rfl rfl) wT' (by omega) (by omega) (fun t' ht' => ?_)
        · by_cases q9 : t' = O
          · obtain ⟨q1, q2, q3⟩ := ry.2 t' ht'
            rw [q9] at q1 q2 q3 ⊢
            refine ⟨?_, ?_, rl_th (th3_th tz) (ssub_rf _) q3⟩
            · unfold ra
              rw [c73, c74, tz.1.1 52 (by decide), tz.1.2.1 54 (by decide) (by decide)]
              exact q1
            · unfold rw'
              rw [c73, c74, wo', tz.1.2.1 55 (by decide) (by decide)]
              rcases hv with hv | ⟨hv, hv1⟩
              · rw [hv, ← m77]; exact q2
              · rcases q2 with q2 | ⟨_, q2⟩
                · rw [hv1] at q2; exact absurd q2 (by decide)
                · exact Or.inr ⟨Or.inr (by rw [hv]; rfl), q2⟩
          · exact rT_th (th3_th tz) (ssub_rf _) q9 (ry.2 t' ht')
        · by_cases q9 : t' = O
          · rw [q9, if_pos (by omega), hwv]
            exact mTq_77 q ez v2
          · have q8 := mTq_th hN tz q9 (mt t' ht')
            by_cases c9 : (t' : Int) < o.toInt
            · rw [if_pos c9] at q8
              rw [if_pos (by omega)]; exact q8
            · rw [if_neg c9] at q8
              rw [if_neg (by omega)]; exact q8
      have p571 : ∀ b : Int32, (¬ b = 0 → y.1 77 O = 1 ∧ wkT C M T c.toNatClampNeg wk O = ((M.2.2 O).1, (M.2.2 O).2.1, (M.2.2 O).2.2.1, 2, (M.2.2 O).2.2.2.2)) → (b = 0 → wkT C M T c.toNatClampNeg wk O = M.2.2 O) → MD (d + 4) z_doAct 571 [(0, vr 0), (1, vi t), (2, vi w), (3, vi k), (4, vi s), (5, vi c), (6, vi 0), (8, vi o)] [vi b] S y (Dv Fv) := by
        intro b hb hb0
        refine sd_doAct_571 _ _ _ _ _ _ _ _ ⟨fun c0 => ⟨ov, ov, fun z ez => ?_⟩, fun nb => ⟨ov, fun z ez => ?_⟩⟩
        · rw [← eO] at ez
          exact set (M.2.2 O).2.2.2.1 z (by rw [ez, m77]) l77 (by rw [hb0 c0]) (Or.inl rfl)
        · rw [← eO] at ez
          exact set 2 z ez (Nat.le_refl _) (hb nb).2 (Or.inr ⟨rfl, (hb nb).1⟩)
      have no : ¬ ((M.2.2 O).2.2.2.1 = 1 ∧ obM C (M.2.2 O).2.2.1 = c.toNatClampNeg ∧ (st.2.2.2.2.2.2.1 = true ∨ wk = some O)) → wkT C M T c.toNatClampNeg wk O = M.2.2 O := fun n9 => if_neg (fun z => n9 ⟨z.2.1, z.2.2.1, by have := z.2.2.2; rw [esT] at this; exact this⟩)
      have yes : (M.2.2 O).2.2.2.1 = 1 → obM C (M.2.2 O).2.2.1 = c.toNatClampNeg → (st.2.2.2.2.2.2.1 = true ∨ wk = some O) → wkT C M T c.toNatClampNeg wk O = ((M.2.2 O).1, (M.2.2 O).2.1, (M.2.2 O).2.2.1, 2, (M.2.2 O).2.2.2.2) := fun y1 y2 y3 => if_pos ⟨by omega, y1, y2, by rw [esT]; exact y3⟩
      have fl : x.1 57 k.toNatClampNeg = 1 ↔ st.2.2.2.2.2.2.1 = true := by
        rw [nx4]
        by_cases c9 : st.2.2.2.2.2.2.1 = true
        · rw [if_pos c9]; exact ⟨fun _ => c9, fun _ => rfl⟩
        · rw [if_neg c9]; exact ⟨fun z => absurd z (by decide), fun z => absurd z c9⟩
      have wo : w = o ↔ wk = some O := by
        rcases hwk with ⟨h1, h2⟩ | ⟨o9, h1, h2, h3⟩
        · rw [h1, h2]
          refine ⟨fun z => ?_, fun z => nomatch z⟩
          rw [← z] at o0
          exact absurd o0 (by decide)
        · have e9 : (Int32.ofNat o9).toInt = (o9 : Nat) := op_16 o9 (by omega)
          rw [h1, h3, t_eq, e9]
          refine ⟨fun z => by congr 1; omega, fun z => ?_⟩
          have := Option.some.inj z
          omega
      rw [← eO]
      refine ⟨ov, fun n1 => p571 0 (fun q => absurd rfl q) (fun _ => no (fun z => n1 (b1.mpr z.1))), fun w1 => ⟨ov, by rw [vp_in_iff]; exact ⟨ra'.1, ra'.2.1⟩, ?_⟩⟩
      have g1 : y.1 73 O = 1 := by
        rcases (ry.2 O O6).2.1 with z | ⟨-, z, -⟩
        · rw [w1] at z; exact absurd z (by decide)
        · exact z
      have g5 : y.1 55 (y.1 74 O).toNatClampNeg = 7 := by
        rcases (ry.2 O O6).2.1 with z | ⟨-, -, z⟩
        · rw [w1] at z; exact absurd z (by decide)
        · exact z
      have av := (RI_step ry O6 g1).2.2.2
      rw [g5] at av
      have ob : y.1 56 (y.1 74 O).toNatClampNeg = c ↔ obM C (M.2.2 O).2.2.1 = c.toNatClampNeg := by
        have lo : 0 ≤ (y.1 56 (y.1 74 O).toNatClampNeg).toInt := by
          rcases av.2 with z | z | z
          · exact z.2.2.1
          · exact z.2.2.1
          · exact absurd z.1 (by decide)
        have l52 : (x.1 0 52).toInt = C.1.length := hK.1.1
        have kl : (M.2.2 O).2.2.1 < C.1.length := by
          have := (RI_step ry O6 g1).2.1
          rw [m74, my.1 52 (by decide)] at this
          omega
        obtain ⟨so, hso⟩ : ∃ so, C.1[(M.2.2 O).2.2.1]? = some so := ⟨_, List.getElem?_eq_getElem kl⟩
        obtain ⟨-, -, g56, -⟩ := hK.1.2 _ so hso
        have ec : (y.1 74 O).toNatClampNeg = (M.2.2 O).2.2.1 := by rw [t_cl, m74]; rfl
        rw [ec, f56, g56] at lo ⊢
        unfold obM
        rw [stN_is hso, t_cl, t_cl, t_eq]
        omega
      refine ⟨fun n5 => p571 0 (fun q => absurd rfl q) (fun _ => no (fun z => n5 (ob.mpr z.2.1))), fun e5 => ⟨kv, ?_⟩⟩
      rw [f57]
      refine ⟨fun e1 => p571 1 (fun _ => ⟨w1, yes (b1.mp w1) (ob.mp e5) (Or.inl (fl.mp e1))⟩) (fun z => absurd z (by decide)), fun n1 => ⟨fun nw => p571 0 (fun q => absurd rfl q) (fun _ => no (fun z => z.2.2.elim (fun z => n1 (fl.mpr z)) (fun z => nw (wo.mpr z)))), fun ew => p571 1 (fun _ => ⟨w1, yes (b1.mp w1) (ob.mp e5) (Or.inr (wo.mp ew))⟩) (fun z => absurd z (by decide))⟩⟩
  refine loop (x.1 0 25).toInt.toNat x 0 ri (md_w (md_rf x) (by decide) (by decide)) w9 (by decide) (by rw [k0]; omega) (fun t' ht' => ?_)
  rw [if_neg (by rw [k0]; omega)]
  exact hM.2.2 t' ht'
end DWK
