/-! the class: whether an access fails; what a thread may access -/
section KFL
variable {G : kG} {q : kP} {d : Nat} {x y z : gd} {o : Nat} {F : Int32 → gd → Prop} {Fv : gd → Prop} {C : gCo} {M : gMa} {T w : Nat}
theorem kh_accessFails (hq : kV q) (ho : kiM q o) (hM : MM x o) (hK : CK x C) (hN : NC C) (hX : NXc C) (hX3 : NX3 C) (g : KMm x o C M) (wy : x.1 o 3 = Int32.ofNat w) (w01 : w = 0 ∨ w = 1) (t : Int32) (et : t.toInt = T) (hT : T < C.2.1.length) (h1 : (M.2.2 T).1 = 1) (hw0 : (M.2.2 T).2.2.2.1 = 0) (o4 : (stN C (M.2.2 T).2.2.1).1 ≤ 4) (hF : ∀ r y, fm (sLk o) x y → (¬ r = 0 ↔ ¬ (lkM C w M T).1 = 0) → F r y) : KT G q (d + 3) zk_X5_accessFails 0 [(0, vr o), (1, vi t)] [] x (ri F) := by
  have hO := kiM_O ho
  have nT : (x.1 60 10).toInt = C.2.1.length := hK.2.1.1
  have nC : (x.1 60 6).toInt = C.2.2.1.length := hK.2.2.1.1
  have hT6 := MM_6 hM.1 (t := T) (by omega)
  have hA := (hM.2.2 T (by omega)).1
  have c24 := hM.1.1.1
  have k8 : (8 : Int32).toInt = 8 := rfl
  have k1 : ¬ (1 : Int32) = 0 := by decide
  have gT := g.2 T hT
  obtain ⟨st, s1, s2, s3, s4, s5, kn, ns⟩ := kst_at hM hK hN hT gT
  obtain ⟨vs, eN, -⟩ := MM_st hM.1 hA
  rw [s3] at eN
  have o4' := o4
  rw [s2] at o4
  have hml := gT.2.2.2.2.2.2.2.2 (Or.inl h1)
  rw [s2] at hml
  have es2 : (rg x o T 2).toInt = ((M.2.2 T).2.2.1 : Nat) := gT.2.2.1
  have sW : ∀ {y z : gd}, fm sWk y z → fm (sLk o) y z := fun f => fm_w f (fun c k q => by unfold sWk at q; unfold sLk; omega)
  have ag : ∀ y, fm (sLk o) x y → MM y o ∧ CK y C ∧ KMm y o C M ∧ y.1 o 3 = Int32.ofNat w ∧ y.1 60 13 = x.1 60 13 := fun y fy => ⟨MM_Lk hO fy hM, CK_f hK (fun c k hc => fy c k (by unfold sLk; omega)), KMm_Lk hO hM hK fy g, by rw [fy o 3 (by unfold sLk; omega)]; exact wy, fy _ _ (by unfold sLk; omega)⟩
  have p122 : ∀ (y : gd) (e f : Int32), fm (sLk o) x y → (lkI C M T).1 = 0 → evO (M.2.2 T).2.2.2.2.2.2.2 (Int32.ofNat T) st.2.2.2.2.2.2.2.2.1 = some e → evO (M.2.2 T).2.2.2.2.2.2.2 (Int32.ofNat T) st.2.2.2.2.2.2.2.2.2 = some f → KT G q (d + 3) zk_X5_accessFails 122 [(0, vr o), (1, vi t), (2, vi (rg x o T 2))] [] y (ri F) := by
    intro y e f fy l0 e1 e2
    obtain ⟨hy, hKy, gy, wyy, -⟩ := ag y fy
    have ll := lkM_3 (w := w) hw0 l0 (by rw [s2]; exact e1) (by rw [s2]; exact e2)
    have lk : (lkM C w M T).1 = rsF C w M T st.1 (lkI C M T).2.toNatClampNeg := by rw [ll, s2]
    have su := su_row hX hX3 s1 s2 o4 (by omega) l0
    refine kg_X5_accessFails_122 hq ho _ _ (kh_goesLate hq ho hy hKy hN wyy w01 _ es2 s1 (fun r hr => ⟨fun r0 => ri_i (hF _ y fy ⟨fun z => absurd rfl z, fun z => ?_⟩), fun rn => ?_⟩))
    · rw [lk] at z
      by_cases c1 : st.1 = 1
      · rw [c1, rsF_1, su] at z
        by_cases c2 : w = 1 ∧ suM C st.2.2.2.2.1.toNatClampNeg = false ∧ 8 ≤ (M.2.2 T).2.2.2.2.2.2.1.length
        · exact absurd r0 (hr.mpr ⟨c2.1, c1, c2.2.1⟩)
        · rw [if_neg c2] at z; exact absurd rfl z
      · rw [rsF_a o4 c1] at z; exact absurd rfl z
    · obtain ⟨r1, r2, r3⟩ := hr.mp rn
      have l7 : (rg y o T 7).toInt = ((M.2.2 T).2.2.2.2.2.2.1.length : Nat) := (gy.2 T hT).2.2.2.2.2.2.1.1
      rw [r2, rsF_1, su] at lk
      refine kp_get hq ho hy.1 hy.2.1 _ _ et (show (7 : Int32).toInt = ((7 : Nat) : Int) from rfl) hT6 (by omega) ⟨fun c => ri_i (hF _ y fy ⟨fun z => absurd rfl z, fun z => ?_⟩), fun c => ri_i (hF _ y fy ⟨fun _ => ?_, fun _ => k1⟩)⟩
      · rw [lk, if_neg (fun z => by rw [t_lt, k8] at c; omega)] at z
        exact absurd rfl z
      · rw [lk, if_pos ⟨r1, r3, by rw [t_lt, k8] at c; omega⟩]
        decide
  have p70 : ∀ (y : gd) (e : Int32), fm (sLk o) x y → (lkI C M T).1 = 0 → evO (M.2.2 T).2.2.2.2.2.2.2 (Int32.ofNat T) st.2.2.2.2.2.2.2.2.1 = some e → KT G q (d + 3) zk_X5_accessFails 70 [(0, vr o), (1, vi t), (2, vi (rg x o T 2))] [] y (ri F) := by
    intro y e fy l0 e1
    obtain ⟨hy, hKy, gy, wyy, y13⟩ := ag y fy
    have k89 := kn.2.2.2.2.2.2.2.2
    refine kg_X5_accessFails_70 hq ho _ _ ⟨vs, ?_⟩
    rw [eN, fy 89 _ (by unfold sLk; omega)]
    cases hz : st.2.2.2.2.2.2.2.2.2 with
    | none =>
      rw [hz] at k89
      refine ⟨fun _ => p122 y e 0 fy l0 e1 (by rw [hz]; rfl), fun c => absurd k89 c⟩
    | some Q =>
      rw [hz] at k89
      have k89 : SUk x (x.1 89 (M.2.2 T).2.2.1) (Q.map cQ) := k89
      obtain ⟨q1, q2⟩ := ns.2.2.2.2.2.2.2.2.2.1 Q hz
      refine ⟨fun c => ?_, fun _ => ⟨vs, kh_ev hq ho hy hKy hT (gy.2 T hT) _ _ et (SUk_f k89 (fun c k hc => fy c k (by unfold sLk; omega))) q1 q2 (by rw [y13]; exact hml) (fun r z fz hwk => ?_)⟩⟩
      · have := k89.1
        rw [c, tm1] at this
        omega
      · have fz' := fm_tr fy (sW fz)
        rcases hwk with ⟨v, hv, er, y5⟩ | ⟨hv, y5⟩
        · exact ⟨fun _ => p122 z e v fz' l0 e1 (by rw [hz]; exact hv), fun c => absurd y5 c⟩
        · have ll := lkM_2 (w := w) hw0 l0 (by rw [s2]; exact e1) (by rw [s2, hz]; exact hv)
          refine ⟨fun c => ?_, fun _ => ri_i (hF _ z fz' ⟨fun _ => by rw [ll]; show ¬ 1 = 0; decide, fun _ => k1⟩)⟩
          rw [y5] at c; exact absurd c k1
  refine kg_X5_accessFails_0 hq ho _ (kp_get hq ho hM.1 hM.2.1 _ _ et (show (2 : Int32).toInt = ((2 : Nat) : Int) from rfl) hT6 (by omega) (kh_placeOf hq ho hM hK hN g _ et hT h1 o4' (fun r y fy hr => ?_)))
  obtain ⟨hy, hKy, gy, wyy, y13⟩ := ag y fy
  rcases hr with ⟨l0, lc, lc0, lc1⟩ | ⟨ln, lc, l14⟩
  · refine ⟨fun _ => ⟨vs, ?_⟩, fun c => by rw [c, tm1] at lc0; omega⟩
    have k88 := kn.2.2.2.2.2.2.2.1
    rw [eN, fy 88 _ (by unfold sLk; omega)]
    cases hz : st.2.2.2.2.2.2.2.2.1 with
    | none =>
      rw [hz] at k88
      refine ⟨fun _ => p70 y 0 fy l0 (by rw [hz]; rfl), fun c => absurd k88 c⟩
    | some Q =>
      rw [hz] at k88
      have k88 : SUk x (x.1 88 (M.2.2 T).2.2.1) (Q.map cQ) := k88
      obtain ⟨q1, q2⟩ := ns.2.2.2.2.2.2.2.2.1 Q hz
      refine ⟨fun c => ?_, fun _ => ⟨vs, kh_ev hq ho hy hKy hT (gy.2 T hT) _ _ et (SUk_f k88 (fun c k hc => fy c k (by unfold sLk; omega))) q1 q2 (by rw [y13]; exact hml) (fun r z fz hwk => ?_)⟩⟩
      · have := k88.1
        rw [c, tm1] at this
        omega
      · have fz' := fm_tr fy (sW fz)
        rcases hwk with ⟨v, hv, er, y5⟩ | ⟨hv, y5⟩
        · exact ⟨fun _ => p70 z v fz' l0 (by rw [hz]; exact hv), fun c => absurd y5 c⟩
        · have ll := lkM_1 (w := w) hw0 l0 (by rw [s2, hz]; exact hv)
          refine ⟨fun c => ?_, fun _ => ri_i (hF _ z fz' ⟨fun _ => by rw [ll]; show ¬ 1 = 0; decide, fun _ => k1⟩)⟩
          rw [y5] at c; exact absurd c k1
  · refine ⟨fun c => absurd lc c, fun _ => ri_i (hF _ y fy ⟨fun _ => ?_, fun _ => k1⟩)⟩
    rw [lkM_i (w := w) hw0 ln]; exact ln
/-- the cell of a going thread's next act, if it is an access -/
theorem kh_objectOf (hq : kV q) (ho : kiM q o) (hM : MM x o) (hK : CK x C) (hN : NC C) (g : KMm x o C M) (t : Int32) (et : t.toInt = T) (hT : T < C.2.1.length) (h1 : (M.2.2 T).1 = 1) (hF : ∀ r y, fm (sLk o) x y → (soM C (M.2.2 T) ≤ 4 → ((lkI C M T).1 = 0 ∧ r = (lkI C M T).2 ∧ 0 ≤ r.toInt ∧ r.toInt < (x.1 60 6).toInt) ∨ (¬ (lkI C M T).1 = 0 ∧ r = -1)) → (¬ soM C (M.2.2 T) ≤ 4 → r = (stN C (M.2.2 T).2.2.1).2.2.2.2.1 ∨ (stN C (M.2.2 T).2.2.1).1 = 16) → F r y) : KT G q (d + 3) zk_X5_objectOf 0 [(0, vr o), (1, vi t)] [] x (ri F) := by
  have nT : (x.1 60 10).toInt = C.2.1.length := hK.2.1.1
  have hT6 := MM_6 hM.1 (t := T) (by omega)
  have hA := (hM.2.2 T (by omega)).1
  have k4 : (4 : Int32).toInt = 4 := rfl
  have gT := g.2 T hT
  obtain ⟨st, s1, s2, s3, s4, s5, kn, ns⟩ := kst_at hM hK hN hT gT
  obtain ⟨vs, eN, -⟩ := MM_st hM.1 hA
  rw [s3] at eN
  have e81 : (x.1 81 (rg x o T 2).toInt.toNat).toInt = (st.1 : Nat) := by rw [s3]; exact s5
  have w3 : rg x o T 3 = 0 ↔ (M.2.2 T).2.2.2.1 = 0 := kst_w3 hM hK hN hT gT
  have pg : ¬ soM C (M.2.2 T) ≤ 4 → KT G q (d + 2) zk_X5_get 0 [(0, vr o), (1, vi t), (2, vi 2)] [] x (ri (fun r5 x4 => vp_in r5 400 ∧ ri F (some (vi (x4.1 85 (r5 : Int32).toNatClampNeg))) x4)) := fun hn => kp_get hq ho hM.1 hM.2.1 _ _ et (show (2 : Int32).toInt = ((2 : Nat) : Int) from rfl) hT6 (by omega) ⟨vs, ri_i (hF _ x (fm_rf _ _) (fun c => absurd c hn) (fun _ => by
    rw [eN, s2]
    by_cases c16 : st.1 = 16
    · exact Or.inr c16
    · exact Or.inl (kn.2.2.2.2.1 c16)))⟩
  refine kg_X5_objectOf_0 hq ho _ (kp_sortOf hq ho hM.1 hM.2.1 _ et hT6 hA (fun c3 => ⟨fun c4 => pg ?_, fun c4 => ?_⟩) (fun c3 => ⟨fun _ => pg ?_, fun c => absurd (by decide) c⟩))
  · rw [t_lt, k4] at c4
    unfold soM; rw [if_pos (w3.mp c3), s2]; omega
  · rw [t_lt, k4] at c4
    have so : soM C (M.2.2 T) = st.1 := by unfold soM; rw [if_pos (w3.mp c3), s2]
    refine kh_placeOf hq ho hM hK hN g _ et hT h1 (by rw [s2]; omega) (fun r y fy hr => ri_i (hF r y fy (fun _ => hr.imp id (fun z => ⟨z.1, z.2.1⟩)) (fun c => ?_)))
    rw [so] at c; omega
  · unfold soM; rw [if_neg (fun z => c3 (w3.mpr z))]; omega
end KFL
