section
/-! the class: a new state is added, one that is kept is not -/
section KAD
variable {G : kG} {q : kP} {d : Nat} {x y z : gd} {F : Int32 → gd → Prop} {Fv : gd → Prop} {Fm : gd → kP → Prop} {X : String → gd → kP → Prop} {C : gCo} {M : gMa} {T : gTy} {nl w n s o : Nat}
theorem kx_keep3 (hu : kU q) (he : q.ex = true) (ho : kiT q o) (ht : q.et = some o) (hX : XI x q o) (hM : MM x 220) (hK : CK x C) (g : KMm x 220 C M) (qi : MIv C w M) (qc : MCn C nl M) (qn : NBm M) (hT : KX3 C nl w x o T) (hs : 0 ≤ (x.1 200 5).toInt ∧ (x.1 200 5).toInt < 8192) (h6 : x.1 200 6 = mxO x 220) (h0 : x.1 205 (x.1 200 5).toNatClampNeg = 0) (hp : ∃ p, p < 8192 ∧ (x.1 200 5).toNatClampNeg = ((mxO x 220 &&& 8191).toNatClampNeg + p) % 8192 ∧ ∀ i, i < p → ¬ x.1 205 (((mxO x 220 &&& 8191).toNatClampNeg + i) % 8192) = 0) (a b : Int32) {A B : Nat} (ha : (a = -1 ∧ T.1.length = 0) ∨ (a.toInt = (A : Nat) ∧ A < T.1.length ∧ b.toInt = (B : Nat))) (hl3 : T.1.length < 3000) (h : ∀ y q1, kU q1 → kle q q1 → q1.et = q.et → fm (sKe o) x y → XI y q1 o → (∀ s k : Nat, (s : Int) < (x.1 o 0).toInt → y.1 (1000 + s) k = x.1 (1000 + s) k) → KX3 C nl w y o (T.1 ++ [(M, A, B)], T.2) → Fm y q1) : KM G q (d + 2) zk_X2_keep 0 [(0, vr 200), (1, vi a), (2, vi b)] [] x (rm q Fm) X := by
  have hO := iT_O ho
  have k3 : (3000 : Int32).toInt = 3000 := rfl
  have k0 : (0 : Int32).toInt = 0 := rfl
  have k1 : (1 : Int32).toInt = 1 := rfl
  have km : (-1 : Int32).toInt = -1 := rfl
  obtain ⟨⟨hC, hG⟩, ⟨hz, hT0⟩, hn, hr, hb⟩ := hX
  obtain ⟨⟨T0, T1⟩, T2, T3, T4⟩ := hT
  have bz := hz.1
  have bsz := sz_b hC hG
  obtain ⟨S, hS⟩ : ∃ S : Nat, S = T.1.length := ⟨_, rfl⟩
  rw [← hS] at T0 T3 hl3 ha
  have haX : a = -1 ∨ (0 ≤ a.toInt ∧ a.toInt < (x.1 o 0).toInt) := by
    rcases ha with c | c
    · exact Or.inl c.1
    · exact Or.inr (by omega)
  have tS : (x.1 o 0).toNatClampNeg = S := by rw [t_cl, T0]; rfl
  have tS2 : (x.1 o 0).toInt.toNat = S := by omega
  have part2 : ∀ (q1 : kP) (z : gd), kU q1 → kle q q1 → q1.et = q.et → fm (fun c k => c = 1000 + S) x z → S < q1.kn → KM G q1 (d + 2) zk_X2_keep 36 [(0, vr 200), (1, vi a), (2, vi b), (3, vi (x.1 o 0))] [] z (rm q Fm) X := by
    intro q1 z hu1 hl1 et1 fz hN
    have ho1 := kle_T hl1 ho
    have he1 := hl1.2.1.2.1 he
    have ht1 : q1.et = some o := by rw [et1]; exact ht
    refine kg_X2_keep_36 hu1 he1 a b _ ⟨by rw [vp_in_iff]; omega, fun u eu => ?_⟩
    rw [tS, ke_r hN] at eu
    rw [tS, fz 220 5 (by omega)]
    refine ⟨_, eu, ke_k hl3, ke_m hu1.1 hN, by decide, by decide, by rw [t_lt, k0]; omega, by rw [tn0, t_cl]; omega, by rw [tn0, t_cl]; omega, fun x11 e11 => ⟨by rw [vp_in_iff]; omega, fun x13 e13 => ?_⟩⟩
    have g13 : ∀ c k, ¬ c = 1000 + S → ¬ (c = 204 ∧ k = S) → x13.1 c k = x.1 c k := by
      intro c k h1 h2
      rw [e13, si_get, if_neg h2, e11, scp_get, if_neg (fun z => h1 z.1)]; exact fz c k h1
    have m13 : x13.1 204 S = mxO x 220 := by rw [e13, si_get, if_pos ⟨rfl, rfl⟩, e11, scp_get, if_neg (by omega), fz 200 6 (by omega)]; exact h6
    rw [g13 200 5 (by omega) (by omega)]
    refine ⟨by rw [vp_in_iff]; omega, fun x15 e15 u16 e16 => ⟨o, by rw [e16, et_r ht1], ho1, ?_⟩⟩
    have e01 : (x.1 o 0 + 1).toInt = (x.1 o 0).toInt + 1 := by rw [t_add (by rw [k1]; omega) (by rw [k1]; omega), k1]
    obtain ⟨J, hJ⟩ : ∃ J, J = (x.1 200 5).toNatClampNeg := ⟨_, rfl⟩
    have hJ8 : J < 8192 := by rw [hJ, t_cl]; omega
    rw [← hJ] at e15 h0 hp
    have g15 : ∀ c k, ¬ c = 1000 + S → ¬ (c = 204 ∧ k = S) → ¬ (c = 205 ∧ k = J) → x15.1 c k = x.1 c k := by
      intro c k h1 h2 h3
      rw [e15, si_get, if_neg h3]; exact g13 c k h1 h2
    have f15 : fm (fun c k => c = 1000 + S ∨ c = 204 ∨ c = 205) x x15 := fun c k hc => g15 c k (fun z => hc (Or.inl z)) (fun z => hc (Or.inr (Or.inl z.1))) (fun z => hc (Or.inr (Or.inr z.1)))
    have row : ∀ k, k < (x.1 220 5).toNatClampNeg → x15.1 (1000 + S) k = x.1 225 k := by
      intro k hk
      rw [e15, si_get, if_neg (by omega), e13, si_get, if_neg (by omega), e11, scp_get, if_pos ⟨rfl, by rw [tn0]; omega, by rw [tn0]; omega⟩, tn0, fz _ _ (by omega), show 0 + (k - 0) = k by omega]
    have z15 : TZ x15 o := TZ_fm f15 (by omega) (fun c k hc => by omega) hz
    have o15 : x15.1 o 0 = x.1 o 0 := g15 o 0 (by omega) (by omega) (by omega)
    refine kt_addState3 hu1.1 ho1 a b z15 (by rw [o15]; exact haX) (by rw [o15]; omega) (fun y fy hzy hey y10 y11 y12 y12' => ?_)
    rw [o15, tS2] at fy y10 y11 y12 y12'
    rw [o15] at hey
    have fall : fm (sKe o) x y := fun c k hc => by
      unfold sKe at hc
      rw [fy c k (by omega)]; exact g15 c k (by omega) (by omega) (by omega)
    obtain ⟨ac, am⟩ := sKe_C hO fall
    have hrow : ∀ s k : Nat, (s : Int) < (x.1 o 0).toInt → y.1 (1000 + s) k = x.1 (1000 + s) k := fun s k hs2 => by
      rw [fy _ k (by omega)]; exact g15 _ k (by omega) (by omega) (by omega)
    have hyr : ∀ k : Nat, (k : Int) < (x.1 220 5).toInt → y.1 (1000 + S) k = x.1 225 k := fun k hk => by
      rw [fy _ _ (by omega)]; exact row k (by rw [t_cl]; omega)
    have hKR : KR y S := by
      unfold KR
      have y5 : y.1 220 5 = x.1 220 5 := am 5 (by omega) (by omega)
      rw [y5]
      refine MM_ag ?_ ?_ ?_ hM
      · intro c k hc
        rw [scp_get, if_neg (by omega)]; exact ac c k hc
      · intro k h1 h2
        rw [scp_get, if_neg (by omega)]; exact am k h1 h2
      · intro k hk
        have hk2 : k < (x.1 220 5).toNatClampNeg := by rw [t_cl]; omega
        rw [scp_get, if_pos ⟨rfl, by omega, by omega⟩, show 0 + (k - 0) = k by omega]
        exact hyr k hk
    have y4 : ∀ s, ¬ s = S → y.1 204 s = x.1 204 s := fun s hs => by rw [fy _ _ (by omega)]; exact g15 _ _ (by omega) (by omega) (by omega)
    have y4S : y.1 204 S = mxO x 220 := by rw [fy _ _ (by omega), e15, si_get, if_neg (by omega)]; exact m13
    have y5J : (y.1 205 J).toInt = (S : Int) + 1 := by rw [fy _ _ (by omega), e15, si_get, if_pos ⟨rfl, rfl⟩, e01, T0]
    have y5 : ∀ j, ¬ j = J → y.1 205 j = x.1 205 j := fun j hj => by rw [fy _ _ (by omega)]; exact g15 _ _ (by omega) (by omega) (by omega)
    refine rm_i hu1 hl1 (h y q1 hu1 hl1 et1 fall ⟨⟨CO_fm hC ac, MG_ag ac am hG⟩, ⟨hzy, ?_⟩, by omega, fun s hs2 => ?_, fun j hj => ?_⟩ hrow ⟨⟨?_, ?_⟩, fun s p hp9 => ?_, ?_, fun s p hp9 => ?_⟩)
    · refine TO_le hu1 hl1 (TO_fm fall (by unfold sKe; omega) (fun k => by unfold sKe; omega) hT0)
    · by_cases hsS : s = S
      · rw [hsS]; exact hKR
      · exact KR_ag ac am (fun k hk => hrow s k (by omega)) (hr s (by omega))
    · by_cases hj2 : j = J
      · rw [hj2, y5J]; omega
      · rw [y5 j hj2]
        have := hb j hj
        omega
    · show _ = (((T.1 ++ [(M, A, B)]).length : Nat) : Int)
      rw [List.length_append, List.length_singleton, hey, T0, hS]
      rfl
    · show y.1 o 1 = _
      rw [fy _ _ (by omega), g15 _ _ (by omega) (by omega) (by omega)]
      exact T1
    · have hp9 : (T.1 ++ [(M, A, B)])[s]? = some p := hp9
      by_cases c : s < T.1.length
      · rw [List.getElem?_append_left c] at hp9
        exact KPs_ag hK ac am (fun k => hrow s k (by omega)) (y4 s (by omega)) (T2 s p hp9)
      · have hlen := gt_lt hp9
        rw [List.length_append, List.length_singleton] at hlen
        have es : s = S := by omega
        rw [es, hS, List.getElem?_append_right (Nat.le_refl _), Nat.sub_self] at hp9
        have hp9 : (M, A, B) = p := Option.some.inj hp9
        rw [es, ← hp9]
        exact KPs_new hM hK g qi qc qn ac am hyr y4S hKR
    · show TBx y (T.1 ++ [(M, A, B)]).length
      rw [List.length_append, List.length_singleton, ← hS]
      exact TB_ins T3 hJ8 h0 (fun s hs => y4 s (by omega)) y5J y5 (by rw [y4S]; exact hp)
    · have hp9 : (T.1 ++ [(M, A, B)])[s]? = some p := hp9
      have yk : ∀ c k, ¬ k = S → (c = o + 10 ∨ c = o + 11 ∨ c = o + 12) → y.1 c k = x.1 c k := fun c k hk hc => by rw [fy _ _ (by omega)]; exact g15 _ _ (by omega) (by omega) (by omega)
      by_cases c : s < T.1.length
      · rw [List.getElem?_append_left c] at hp9
        obtain ⟨t1, t2⟩ := T4 s p hp9
        refine ⟨fun e => ?_, fun e => ?_⟩
        · rw [yk _ 0 (by omega) (by omega)]; exact t1 e
        · have t2 := t2 e
          rw [yk _ s (by omega) (by omega), yk _ s (by omega) (by omega), yk _ s (by omega) (by omega), yk _ p.2.1 (by omega) (by omega)]; exact t2
      · have hlen := gt_lt hp9
        rw [List.length_append, List.length_singleton] at hlen
        have es : s = S := by omega
        rw [es, hS, List.getElem?_append_right (Nat.le_refl _), Nat.sub_self] at hp9
        have hp9 : (M, A, B) = p := Option.some.inj hp9
        rw [es, ← hp9]
        rcases ha with ⟨a1, a2⟩ | ⟨a1, a2, a3⟩
        · refine ⟨fun e => ?_, fun e => by omega⟩
          rw [e] at y12
          rw [y12 a1]; rfl
        · have na : ¬ a = -1 := fun e => by rw [e, km] at a1; omega
          refine ⟨fun e => by omega, fun e => ⟨a2, by rw [y10]; exact a1, by rw [y11]; exact a3, ?_⟩⟩
          rw [y12' na, show a.toInt.toNat = A by omega, yk _ A (by omega) (by omega), g15 _ _ (by omega) (by omega) (by omega)]
  refine kg_X2_keep_0 hu he a b (fun u eu => ⟨o, by rw [eu, et_r ht], ho, fun c => ?_, fun c => ?_⟩)
  rotate_left
  · rw [t_lt, k3] at c; omega
  have v3 : vp_in (x.1 o 0) 3000 := by rw [vp_in_iff]; omega
  rw [tS]
  refine ⟨v3, fun u6 e6 => ⟨fun hno => ?_, fun c8 h8 => part2 q x hu (kle_rf q) rfl (fm_rf _ _) ?_⟩⟩
  · have hN : S = q.kn := by
      by_cases hl : S < q.kn
      · rw [e6, ke_r hl] at hno; cases hno
      · omega
    refine ⟨hN, v3, fun q9 x10 e9 e10 hu9 hl9 => part2 q9 x10 hu9 hl9 (by rw [e9]; rfl) (fun c k hc => ?_) (by rw [e9]; show S < q.kn + 1; omega)⟩
    rw [e10, zn_get, if_neg (by omega)]
  · by_cases hl : S < q.kn
    · exact hl
    · rw [e6, ke_no hl] at h8; cases h8
theorem KX3_Kp (hO : o = 260 ∨ o = 280) (hK : CK x C) (fy : fm sKp x y) (hT : KX3 C nl w x o T) : KX3 C nl w y o T := KX3_f hK (fun c k hc => fy c k (by unfold sKp; omega)) (fun k h1 h2 => fy _ _ (by unfold sKp; omega)) (fun s k _ => fy _ _ (by unfold sKp; omega)) (fun k => fy _ _ (by unfold sKp; omega)) (fun k => fy _ _ (by unfold sKp; omega)) (fy _ _ (by unfold sKp; omega)) (fy _ _ (by unfold sKp; omega)) (fun k => fy _ _ (by unfold sKp; omega)) (fun k => fy _ _ (by unfold sKp; omega)) (fun k => fy _ _ (by unfold sKp; omega)) hT
theorem KX3_p (hO : o = 260 ∨ o = 280) (hK : CK x C) (ez : y = si x o 1 1) (hT : KX3 C nl w x o T) : KX3 C nl w y o (T.1, true) := by
  have zc : ∀ c k, ¬ (c = o ∧ k = 1) → y.1 c k = x.1 c k := fun c k hc => by rw [ez, si_get, if_neg hc]
  obtain ⟨⟨u0, u1⟩, u2, u3, u4⟩ := hT
  refine ⟨⟨by rw [zc _ _ (by omega)]; exact u0, by rw [ez, si_get, if_pos ⟨rfl, rfl⟩]; rfl⟩, fun s p hp => KPs_ag hK (fun c k hc => zc c k (by omega)) (fun k h1 h2 => zc _ _ (by omega)) (fun k => zc _ _ (by omega)) (zc _ _ (by omega)) (u2 s p hp), ?_, fun s p hp => ?_⟩
  · unfold TBx
    rw [show y.1 205 = x.1 205 from funext (fun k => zc _ _ (by omega)), show y.1 204 = x.1 204 from funext (fun k => zc _ _ (by omega))]
    exact u3
  · rw [zc _ _ (by omega), zc _ _ (by omega), zc _ _ (by omega), zc _ _ (by omega), zc _ _ (by omega)]; exact u4 s p hp
theorem kx_addState3 (hu : kU q) (he : q.ex = true) (ho : kiT q o) (ht : q.et = some o) (hX : XI x q o) (hM : MM x 220) (hK : CK x C) (hN : NC C) (en : (x.1 60 9).toInt = (nl : Nat)) (g : KMm x 220 C M) (qi : MIv C w M) (qc : MCn C nl M) (qn : NBm M) (hT : KX3 C nl w x o T) (a b l : Int32) {A B lim : Nat} (ha : (a = -1 ∧ T.1.length = 0) ∨ (a.toInt = (A : Nat) ∧ A < T.1.length ∧ b.toInt = (B : Nat))) (el : l.toInt = (lim : Nat)) (hl3 : lim ≤ 3000) (h : ∀ y q1, kU q1 → kle q q1 → q1.et = q.et → fm (sKe o) x y → XI y q1 o → (∀ s k : Nat, (s : Int) < (x.1 o 0).toInt → y.1 (1000 + s) k = x.1 (1000 + s) k) → KX3 C nl w y o (adS lim A B T M) → Fm y q1) : KM G q (d + 4) zk_X2_addState 0 [(0, vr 200), (1, vi a), (2, vi b), (3, vi l)] [] x (rm q Fm) X := by
  have hO := iT_O ho
  have hkn := hu.2.2.2.2.1
  have T0 := hT.1.1
  have nk : T.1.length ≤ q.kn := by have := hX.2.2.1; omega
  obtain ⟨Ms, eMs⟩ : ∃ Ms : Nat → gMa, ∀ s p, T.1[s]? = some p → Ms s = p.1 := ⟨fun s => ((T.1[s]?).getD (M, 0, 0)).1, fun s p hp => congrArg (fun z : Option (gMa × Nat × Nat) => (z.getD (M, 0, 0)).1) hp⟩
  have hMs : ∀ s, s < T.1.length → KPs C nl w x s (Ms s) := fun s hs => by
    rw [eMs s _ (List.getElem?_eq_getElem hs)]
    exact hT.2.1 s _ (List.getElem?_eq_getElem hs)
  refine kg_X2_addState_0 hu he a b l (kx_isKept3 (Ms := Ms) hu.1 he hM hkn nk hK hN en g qc qn hMs hT.2.2.1 (fun r y gb fy hy hy6 hres => ?_))
  have fk : fm (sKe o) x y := fm_w fy (fun c k q => by unfold sKp at q; unfold sKe; omega)
  have hXy : XI y q o := XI_q hO (fm_w fy (fun c k q => by unfold sKp at q; unfold sQu; omega)) hX hkn
  have e0 : y.1 o 0 = x.1 o 0 := fy o 0 (by unfold sKp; omega)
  have row : ∀ s k : Nat, (s : Int) < (x.1 o 0).toInt → y.1 (1000 + s) k = x.1 (1000 + s) k := fun s k _ => fy _ _ (by unfold sKp; omega)
  obtain ⟨ac, am⟩ := sKe_C hO fk
  have hTy : KX3 C nl w y o T := KX3_Kp hO hK fy hT
  have hMy : MM y 220 := MM_ag ac am (fun k hk => fy _ _ (by unfold sKp; omega)) hM
  have hrY : ∀ k : Nat, (k : Int) < (x.1 220 5).toInt → y.1 (220 + 5) k = x.1 (220 + 5) k := fun k hk => fy _ _ (by unfold sKp; omega)
  have gy : KMm y 220 C M := KMm_in hM hK (gm_ag ac am) hrY g
  have emx : mxO y 220 = mxO x 220 := mx_same hM (gm_ag ac am) (rw_in hM hrY)
  have f205 : ∀ j, y.1 205 j = x.1 205 j := fun j => fy _ _ (by unfold sKp; omega)
  have hKy : CK y C := CK_f hK ac
  refine ⟨fun r0 => ?_, fun rn => ?_⟩
  · have nw : ¬ ∃ p ∈ T.1, p.1 = M := by
      rcases hres with ⟨c, -⟩ | ⟨-, c, -⟩
      · exact absurd r0 c
      · rintro ⟨p, p1, p2⟩
        obtain ⟨s, hs⟩ := List.mem_iff_getElem?.mp p1
        exact c s (gt_lt hs) (by rw [eMs s p hs]; exact p2)
    have sl : x.1 205 (y.1 200 5).toNatClampNeg = 0 ∧ ∃ p, p < 8192 ∧ (y.1 200 5).toNatClampNeg = ((mxO x 220 &&& 8191).toNatClampNeg + p) % 8192 ∧ ∀ i, i < p → ¬ x.1 205 (((mxO x 220 &&& 8191).toNatClampNeg + i) % 8192) = 0 := by
      rcases hres with ⟨c, -⟩ | ⟨-, -, c⟩
      · exact absurd r0 c
      · exact c
    intro u4 e4
    refine ⟨o, by rw [e4, et_r ht], ho, fun cl => ?_, fun cl u10 e10 => ⟨o, by rw [e10, et_r ht], ho, fun z ez => ?_⟩⟩
    · rw [t_lt, e0, el] at cl
      refine kx_keep3 (d := d + 1) (A := A) (B := B) hu he ho ht hXy hMy hKy gy qi qc qn hTy hy (by rw [hy6, emx]) (by rw [f205]; exact sl.1) (by rw [emx, show y.1 205 = x.1 205 from funext f205]; exact sl.2) a b ha (by omega) (fun z q1 hu1 hl1 et1 fz hXz hrz hTz => rm_i hu1 hl1 (h z q1 hu1 hl1 et1 (fm_tr fk fz) hXz (fun s k hs => (hrz s k (by rw [e0]; exact hs)).trans (row s k hs)) ?_))
      rw [adS_new nw (by omega)]; exact hTz
    · rw [t_lt, e0, el] at cl
      have fz : fm (sQu o) y z := by rw [ez]; exact fm_si (fm_rf _ _) (by unfold sQu; omega)
      refine rm_i hu (kle_rf q) (h z q hu (kle_rf q) rfl (fm_tr fk (by rw [ez]; exact fm_si (fm_rf _ _) (by unfold sKe; omega))) (XI_q hO fz hXy hkn) (fun s k hs => ?_) ?_)
      · rw [fz _ _ (by clear sl hres; unfold sQu; omega)]; exact row s k hs
      · rw [adS_full nw (by omega)]
        exact KX3_p hO hKy ez hTy
  · have od : ∃ p ∈ T.1, p.1 = M := by
      rcases hres with ⟨-, s, s1, s2⟩ | ⟨c, -⟩
      · have hg := List.getElem?_eq_getElem s1
        exact ⟨_, List.mem_of_getElem? hg, by rw [← eMs s _ hg]; exact s2⟩
      · exact absurd c rn
    refine rm_i hu (kle_rf q) (h y q hu (kle_rf q) rfl fk hXy row ?_)
    rw [adS_old od]; exact hTy
end KAD
end
section
/-! what a state shows; the class's looks at it -/
/-- a claim's sum -/
def evC (M : gMa) (Q : List gQ) : Option Int32 := wkQ (fun _ => 0) (fun c => M.1 c.toNatClampNeg) 0 Q
def badC (M : gMa) (Q : List gQ) : Prop := evC M Q = none ∨ evC M Q = some 0
/-- whether two accesses of one cell can be a race -/
def srM (a b : Nat) : Prop := ¬ (a = 0 ∧ b = 0) ∧ ¬ (2 ≤ a ∧ 2 ≤ b)
/-- a thread may access a cell that is not sure, and doesn't fail -/
def axM (C : gCo) (w : Nat) (M : gMa) (t : Nat) : Prop := canM C w M t ∧ soM C (M.2.2 t) ≤ 4 ∧ (lkM C w M t).1 = 0 ∧ suM C (lkM C w M t).2.1.toNatClampNeg = false
def rcM (C : gCo) (w : Nat) (M : gMa) : Prop := ∃ t u, u < t ∧ t < C.2.1.length ∧ axM C w M t ∧ axM C w M u ∧ (lkM C w M t).2.1 = (lkM C w M u).2.1 ∧ srM (soM C (M.2.2 t)) (soM C (M.2.2 u))
def goM (C : gCo) (M : gMa) : Prop := ∃ t, t < C.2.1.length ∧ (M.2.2 t).1 = 1
/-- the findings of a state -/
def fnM (C : gCo) (w : Nat) (M : gMa) (f : Nat) : Prop := (f < 4 ∧ ∃ Q, C.2.2.2.1[f]? = some Q ∧ badC M Q) ∨ (4 ≤ f ∧ f < 8 ∧ chM C w M = [] ∧ ¬ goM C M ∧ ∃ Q, C.2.2.2.2[f - 4]? = some Q ∧ badC M Q) ∨ (f = 8 ∧ chM C w M = [] ∧ goM C M) ∨ (f = 9 ∧ ∃ t, t < C.2.1.length ∧ (M.2.2 t).1 = 3) ∨ (f = 10 ∧ rcM C w M)
/-- what else claims are like -/
def NCq (C : gCo) : Prop := ∀ Q, Q ∈ C.2.2.2.1 ∨ Q ∈ C.2.2.2.2 → ∀ p ∈ Q, ¬ p.1 = 3 ∧ (p.1 = 4 → 0 ≤ p.2.2.toInt ∧ p.2.2.toInt < C.2.2.1.length)
section PFN
variable {G : kG} {q : kP} {d : Nat} {x y z : gd} {o : Nat} {F : Int32 → gd → Prop} {Fv : gd → Prop} {C : gCo} {M : gMa} {T w : Nat}
theorem kst0 (g : kTq x o C T (M.2.2 T)) {n : Nat} (hn : n ≤ 3) : rg x o T 0 = Int32.ofNat n ↔ (M.2.2 T).1 = n := by
  have s : ∀ a, a < 4 → ∀ b, b < 4 → ((Int32.ofNat a = Int32.ofNat b) ↔ a = b) := by decide +kernel
  rw [g.1.1]
  exact s _ (by have := g.1.2; omega) _ (by omega)
theorem kh_anyGoing (hq : kV q) (ho : kiM q o) (h : MM x o) (hK : CK x C) (g : KMm x o C M) (hF : ∀ r : Int32, (¬ r = 0 ↔ goM C M) → F r x) : KT G q (d + 2) zk_X5_anyGoing 0 [(0, vr o)] [] x (ri F) := by
  have t6 := h.1.1.2.2.1
  have nT : (x.1 60 10).toInt = C.2.1.length := hK.2.1.1
  have loop : ∀ (n k : Nat) (i : Int32), i.toInt = k → (x.1 60 10).toInt - k ≤ n → (∀ t, t < k → ¬ (M.2.2 t).1 = 1) → KT G q (d + 2) zk_X5_anyGoing 2 [(0, vr o), (1, vi i)] [] x (ri F) := by
    intro n
    have fin : ∀ (k : Nat) (i : Int32), i.toInt = k → (∀ t, t < k → ¬ (M.2.2 t).1 = 1) → x.1 60 10 ≤ i → ri F (some (vi 0)) x := fun k i ei hno c => ri_i (hF _ ⟨fun z => absurd rfl z, fun ⟨t, t1, t2⟩ => absurd t2 (hno t (by rw [t_le] at c; omega))⟩)
    induction n with
    | zero =>
      intro k i ei hn hno
      refine kg_X5_anyGoing_2 hq ho _ ⟨fun c => fin k i ei hno c, fun c => ?_⟩
      exfalso; rw [t_le] at c; omega
    | succ n ih =>
      intro k i ei hn hno
      refine kg_X5_anyGoing_2 hq ho _ ⟨fun c => fin k i ei hno c, fun c => ?_⟩
      rw [t_le] at c
      have hk : k < C.2.1.length := by omega
      have e1 : (i + 1).toInt = ((k + 1 : Nat) : Int) := by rw [t_add (by show _ ≤ _ + (1 : Int); omega) (by show _ + (1 : Int) ≤ _; omega), ei]; rfl
      refine kp_isGoing hq ho h.1 h.2.1 _ ei (by omega) (fun c1 => ⟨fun z => absurd z (by decide), fun _ => ri_i (hF _ ⟨fun _ => ⟨k, hk, (kst0 (g.2 k hk) (by omega)).mp c1⟩, fun _ => by decide⟩)⟩) (fun c1 => ⟨fun _ => ih (k + 1) _ e1 (by push_cast; omega) (fun t ht => ?_), fun z => absurd rfl z⟩)
      by_cases e : t = k
      · rw [e]; exact fun z => c1 ((kst0 (n := 1) (g.2 k hk) (by omega)).mpr z)
      · exact hno t (by omega)
  exact kg_X5_anyGoing_0 hq ho (loop 6 0 _ rfl (by omega) (fun t ht => absurd ht (Nat.not_lt_zero _)))
theorem kh_anyFailed (hq : kV q) (ho : kiM q o) (h : MM x o) (hK : CK x C) (g : KMm x o C M) (hF : ∀ r : Int32, (¬ r = 0 ↔ ∃ t, t < C.2.1.length ∧ (M.2.2 t).1 = 3) → F r x) : KT G q (d + 1) zk_X5_anyFailed 0 [(0, vr o)] [] x (ri F) := by
  have t6 := h.1.1.2.2.1
  have nT : (x.1 60 10).toInt = C.2.1.length := hK.2.1.1
  have loop : ∀ (n k : Nat) (i : Int32), i.toInt = k → (x.1 60 10).toInt - k ≤ n → (∀ t, t < k → ¬ (M.2.2 t).1 = 3) → KT G q (d + 1) zk_X5_anyFailed 2 [(0, vr o), (1, vi i)] [] x (ri F) := by
    intro n
    have fin : ∀ (k : Nat) (i : Int32), i.toInt = k → (∀ t, t < k → ¬ (M.2.2 t).1 = 3) → x.1 60 10 ≤ i → ri F (some (vi 0)) x := fun k i ei hno c => ri_i (hF _ ⟨fun z => absurd rfl z, fun ⟨t, t1, t2⟩ => absurd t2 (hno t (by rw [t_le] at c; omega))⟩)
    induction n with
    | zero =>
      intro k i ei hn hno
      refine kg_X5_anyFailed_2 hq ho _ ⟨fun c => fin k i ei hno c, fun c => ?_⟩
      exfalso; rw [t_le] at c; omega
    | succ n ih =>
      intro k i ei hn hno
      refine kg_X5_anyFailed_2 hq ho _ ⟨fun c => fin k i ei hno c, fun c => ?_⟩
      rw [t_le] at c
      have hk : k < C.2.1.length := by omega
      have e1 : (i + 1).toInt = ((k + 1 : Nat) : Int) := by rw [t_add (by show _ ≤ _ + (1 : Int); omega) (by show _ + (1 : Int) ≤ _; omega), ei]; rfl
      refine kp_get hq ho h.1 h.2.1 _ _ ei (show (0 : Int32).toInt = ((0 : Nat) : Int) from rfl) (by omega) (by omega) ⟨fun c1 => ih (k + 1) _ e1 (by push_cast; omega) (fun t ht => ?_), fun c1 => ri_i (hF _ ⟨fun _ => ⟨k, hk, (kst0 (n := 3) (g.2 k hk) (by omega)).mp c1⟩, fun _ => by decide⟩)⟩
      by_cases e : t = k
      · rw [e]; exact fun z => c1 ((kst0 (n := 3) (g.2 k hk) (by omega)).mpr z)
      · exact hno t (by omega)
  exact kg_X5_anyFailed_0 hq ho (loop 6 0 _ rfl (by omega) (fun t ht => absurd ht (Nat.not_lt_zero _)))
theorem kh_isFalse (hq : kV q) (he : q.ex = true) (hM : MM x 220) (hK : CK x C) (hN : NC C) (hq2 : NCq C) (g : KMm x 220 C M) (s : Int32) {Q : List gQ} (hS : SUk x s (Q.map cQ)) (hQ : Q ∈ C.2.2.2.1 ∨ Q ∈ C.2.2.2.2) (h : ∀ r y, gbool r → fm sWk x y → (¬ r = 0 ↔ badC M Q) → F r y) : KT G q (d + 2) zk_X2_isFalse 0 [(0, vr 200), (1, vi s)] [] x (ri F) := by
  have nC : (x.1 60 6).toInt = C.2.2.1.length := hK.2.2.1.1
  have c24 := hM.1.1.1
  obtain ⟨n1, n2⟩ := hN.2.2 Q hQ
  refine kg_X2_isFalse_0 hq he _ (kf_work hq kk_225 (kl_225 hq he) (by decide) _ _ _ (Q := Q) (lv := fun _ => 0) (cv := fun c => M.1 c.toNatClampNeg) hM.1.2.1.1.2 hS n1 (fun p hp => ?_) (fun r y fy hwk => ?_))
  · refine ⟨(n2 p hp).1, fun c => absurd c (n2 p hp).2, fun c => ?_⟩
    obtain ⟨c0, c1⟩ := (hq2 Q hQ p hp).2 c
    rw [Int32.zero_add]
    refine ⟨by rw [vp_in_iff]; omega, ?_⟩
    exact g.1.1 _ (by rw [t_cl]; omega)
  · have k1 : ¬ (1 : Int32) = 0 := by decide
    rcases hwk with ⟨v, hv, er, y5⟩ | ⟨hv, y5⟩
    · have hv : evC M Q = some v := hv
      refine ⟨fun r0 => ri_i (h _ y gbool_1 fy ⟨fun _ => Or.inr (by rw [hv, ← er, r0]), fun _ => k1⟩), fun rn => ⟨fun _ => ri_i (h _ y gbool_0 fy ⟨fun z => absurd rfl z, fun z => ?_⟩), fun c => absurd y5 c⟩⟩
      rcases z with z | z
      · rw [hv] at z; cases z
      · rw [hv] at z; exact absurd (er.trans (Option.some.inj z)) rn
    · have hv : evC M Q = none := hv
      have b : badC M Q := Or.inl hv
      refine ⟨fun r0 => ri_i (h _ y gbool_1 fy ⟨fun _ => b, fun _ => k1⟩), fun rn => ⟨fun c => ?_, fun _ => ri_i (h _ y gbool_1 fy ⟨fun _ => b, fun _ => k1⟩)⟩⟩
      rw [y5] at c; exact absurd c k1
theorem kh_sortsRace (hq : kV q) {a b : Nat} (ha : a < 22) (hb : b < 22) (h : ∀ r : Int32, (¬ r = 0 ↔ srM a b) → F r x) : KT G q d zk_X4_sortsRace 0 [(0, vi (Int32.ofNat a)), (1, vi (Int32.ofNat b))] [] x (ri F) := by
  have k2 : (2 : Int32).toInt = 2 := rfl
  have k1 : ¬ (1 : Int32) = 0 := by decide
  have ea : (Int32.ofNat a).toInt = (a : Nat) := Int32.toInt_ofNat_of_lt (by omega)
  have eb : (Int32.ofNat b).toInt = (b : Nat) := Int32.toInt_ofNat_of_lt (by omega)
  have z0 : ∀ n, n < 22 → (Int32.ofNat n = 0 ↔ n = 0) := by decide +kernel
  have p29 : ∀ s u : Int32, (¬ s = 0 ↔ a = 0 ∧ b = 0) → (¬ u = 0 ↔ 2 ≤ a ∧ 2 ≤ b) → KT G q d zk_X4_sortsRace 29 [(2, vi s)] [vi u] x (ri F) := fun s u hs hu => kg_X4_sortsRace_29 hq _ _ ⟨fun c => ri_i (h _ ⟨fun z => absurd rfl z, fun z => absurd (hs.mp c) z.1⟩), fun c => ⟨fun c2 => ri_i (h _ ⟨fun z => absurd rfl z, fun z => absurd (hu.mp c2) z.2⟩), fun c2 => ri_i (h _ ⟨fun _ => ⟨fun z => hs.mpr z c, fun z => hu.mpr z c2⟩, fun _ => k1⟩)⟩⟩
  have p13 : ∀ s : Int32, (¬ s = 0 ↔ a = 0 ∧ b = 0) → KT G q d zk_X4_sortsRace 13 [(0, vi (Int32.ofNat a)), (1, vi (Int32.ofNat b))] [vi s] x (ri F) := fun s hs => kg_X4_sortsRace_13 hq _ _ _ ⟨fun c => p29 _ _ hs ⟨fun z => absurd rfl z, fun z => by rw [t_lt, k2] at c; omega⟩, fun c => ⟨fun c2 => p29 _ _ hs ⟨fun z => absurd rfl z, fun z => by rw [t_lt, k2] at c2; omega⟩, fun c2 => p29 _ _ hs ⟨fun _ => by rw [t_lt, k2] at c c2; omega, fun _ => k1⟩⟩⟩
  exact kg_X4_sortsRace_0 hq _ _ ⟨fun c => p13 _ ⟨fun z => absurd rfl z, fun z => absurd ((z0 a ha).mpr z.1) c⟩, fun c => ⟨fun c2 => p13 _ ⟨fun z => absurd rfl z, fun z => absurd ((z0 b hb).mpr z.2) c2⟩, fun c2 => p13 _ ⟨fun _ => ⟨(z0 a ha).mp c, (z0 b hb).mp c2⟩, fun _ => k1⟩⟩⟩
/-- a row's cells are sure alike -/
theorem su_row (hX : NXc C) (hX3 : NX3 C) {st : gNs} (s1 : C.1[(M.2.2 T).2.2.1]? = some st) (s2 : stN C (M.2.2 T).2.2.1 = st) (o4 : st.1 ≤ 4) (c24 : C.2.2.1.length ≤ 24) (l0 : (lkI C M T).1 = 0) : suM C (lkI C M T).2.toNatClampNeg = suM C st.2.2.2.2.1.toNatClampNeg := by
  obtain ⟨x1, x2, x3, -, x5, x6⟩ := hX _ st s1
  cases hix : st.2.2.2.2.2.2.2.1 with
  | none => rw [lkI_n (by rw [s2]; exact hix), s2]
  | some Q =>
    have hix' : (stN C (M.2.2 T).2.2.1).2.2.2.2.2.2.2.1 = some Q := by rw [s2]; exact hix
    cases hwk : wkQ (M.2.2 T).2.2.2.2.2.2.2 (fun _ => 0) (Int32.ofNat T) Q with
    | none => rw [lkI_1 hix' hwk] at l0; exact absurd l0 (by decide)
    | some v =>
      by_cases cv : v < 0 ∨ (stN C (M.2.2 T).2.2.1).2.2.2.2.2.1 ≤ v
      · rw [lkI_2 hix' hwk cv] at l0; exact absurd l0 (by decide)
      · rw [lkI_0 hix' hwk cv, s2]
        rw [s2] at cv
        have v0 : 0 ≤ v.toInt := by
          have : ¬ v < 0 := fun z => cv (Or.inl z)
          rw [t_lt] at this
          have k0 : (0 : Int32).toInt = 0 := rfl
          omega
        have v1 : v.toInt < st.2.2.2.2.2.1.toInt := by
          have : ¬ st.2.2.2.2.2.1 ≤ v := fun z => cv (Or.inr z)
          rw [t_le] at this
          omega
        obtain ⟨z1, z2, z3⟩ := x6 o4
        have z3 := z3 (by rw [hix]; exact fun z => nomatch z)
        have e5 : (st.2.2.2.2.1 + v).toInt = st.2.2.2.2.1.toInt + v.toInt := t_add (by omega) (by omega)
        have := hX3 _ st s1 o4 (by rw [hix]; exact fun z => nomatch z) v.toInt.toNat (by omega)
        rw [← this]
        show suM C (st.2.2.2.2.1 + v).toNatClampNeg = _
        congr 1
        rw [t_cl, t_cl]
        omega
end PFN
end
section
/-! the class: whether an access fails; what a thread may access -/
section KFL
variable {G : kG} {q : kP} {d : Nat} {x y z : gd} {o : Nat} {F : Int32 → gd → Prop} {Fv : gd → Prop} {C : gCo} {M : gMa} {T w : Nat}
theorem kh_accessFails (hq : kV q) (ho : kiM q o) (hM : MM x o) (hK : CK x C) (hN : NC C) (hX : NXc C) (hX3 : NX3 C) (g : KMm x o C M) (wy : x.1 o 3 = Int32.ofNat w) (w01 : w = 0 ∨ w = 1) (t : Int32) (et : t.toInt = T) (hT : T < C.2.1.length) (h1 : (M.2.2 T).1 = 1) (hw0 : (M.2.2 T).2.2.2.1 = 0) (o4 : (stN C (M.2.2 T).2.2.1).1 ≤ 4) (hF : ∀ r y, fm (sLk o) x y → (¬ r = 0 ↔ ¬ (lkM C w M T).1 = 0) → F r y) : KT G q (d + 3) zk_X5_accessFails 0 [(0, vr o), (1, vi t)] [] x (ri F) := by
  have hO := kiM_O ho
  have nT : (x.1 60 10).toInt = C.2.1.length := hK.2.1.1
  have nC : (x.1 60 6).toInt = C.2.2.1.length := hK.2.2.1.1
  have hT6 := MM_6 hM.1 (t := T) (by omega)
  have hA := (hM.2.2 T (by omega)).1
  have c24 := hM.1.1.1
  have k8 : (8 : Int32).toInt = 8 := rfl
  have k1 : ¬ (1 : Int32) = 0 := by decide
  have gT := g.2 T hT
  obtain ⟨st, s1, s2, s3, s4, s5, kn, ns⟩ := kst_at hM hK hN hT gT
  obtain ⟨vs, eN, -⟩ := MM_st hM.1 hA
  rw [s3] at eN
  have o4' := o4
  rw [s2] at o4
  have hml := gT.2.2.2.2.2.2.2.2 (Or.inl h1)
  rw [s2] at hml
  have es2 : (rg x o T 2).toInt = ((M.2.2 T).2.2.1 : Nat) := gT.2.2.1
  have sW : ∀ {y z : gd}, fm sWk y z → fm (sLk o) y z := fun f => fm_w f (fun c k q => by unfold sWk at q; unfold sLk; omega)
  have ag : ∀ y, fm (sLk o) x y → MM y o ∧ CK y C ∧ KMm y o C M ∧ y.1 o 3 = Int32.ofNat w ∧ y.1 60 13 = x.1 60 13 := fun y fy => ⟨MM_Lk hO fy hM, CK_f hK (fun c k hc => fy c k (by unfold sLk; omega)), KMm_Lk hO hM hK fy g, by rw [fy o 3 (by unfold sLk; omega)]; exact wy, fy _ _ (by unfold sLk; omega)⟩
  have p122 : ∀ (y : gd) (e f : Int32), fm (sLk o) x y → (lkI C M T).1 = 0 → evO (M.2.2 T).2.2.2.2.2.2.2 (Int32.ofNat T) st.2.2.2.2.2.2.2.2.1 = some e → evO (M.2.2 T).2.2.2.2.2.2.2 (Int32.ofNat T) st.2.2.2.2.2.2.2.2.2 = some f → KT G q (d + 3) zk_X5_accessFails 122 [(0, vr o), (1, vi t), (2, vi (rg x o T 2))] [] y (ri F) := by
    intro y e f fy l0 e1 e2
    obtain ⟨hy, hKy, gy, wyy, -⟩ := ag y fy
    have ll := lkM_3 (w := w) hw0 l0 (by rw [s2]; exact e1) (by rw [s2]; exact e2)
    have lk : (lkM C w M T).1 = rsF C w M T st.1 (lkI C M T).2.toNatClampNeg := by rw [ll, s2]
    have su := su_row hX hX3 s1 s2 o4 (by omega) l0
    refine kg_X5_accessFails_122 hq ho _ _ (kh_goesLate hq ho hy hKy hN wyy w01 _ es2 s1 (fun r hr => ⟨fun r0 => ri_i (hF _ y fy ⟨fun z => absurd rfl z, fun z => ?_⟩), fun rn => ?_⟩))
    · rw [lk] at z
      by_cases c1 : st.1 = 1
      · rw [c1, rsF_1, su] at z
        by_cases c2 : w = 1 ∧ suM C st.2.2.2.2.1.toNatClampNeg = false ∧ 8 ≤ (M.2.2 T).2.2.2.2.2.2.1.length
        · exact absurd r0 (hr.mpr ⟨c2.1, c1, c2.2.1⟩)
        · rw [if_neg c2] at z; exact absurd rfl z
      · rw [rsF_a o4 c1] at z; exact absurd rfl z
    · obtain ⟨r1, r2, r3⟩ := hr.mp rn
      have l7 : (rg y o T 7).toInt = ((M.2.2 T).2.2.2.2.2.2.1.length : Nat) := (gy.2 T hT).2.2.2.2.2.2.1.1
      rw [r2, rsF_1, su] at lk
      refine kp_get hq ho hy.1 hy.2.1 _ _ et (show (7 : Int32).toInt = ((7 : Nat) : Int) from rfl) hT6 (by omega) ⟨fun c => ri_i (hF _ y fy ⟨fun z => absurd rfl z, fun z => ?_⟩), fun c => ri_i (hF _ y fy ⟨fun _ => ?_, fun _ => k1⟩)⟩
      · rw [lk, if_neg (fun z => by rw [t_lt, k8] at c; omega)] at z
        exact absurd rfl z
      · rw [lk, if_pos ⟨r1, r3, by rw [t_lt, k8] at c; omega⟩]
        decide
  have p70 : ∀ (y : gd) (e : Int32), fm (sLk o) x y → (lkI C M T).1 = 0 → evO (M.2.2 T).2.2.2.2.2.2.2 (Int32.ofNat T) st.2.2.2.2.2.2.2.2.1 = some e → KT G q (d + 3) zk_X5_accessFails 70 [(0, vr o), (1, vi t), (2, vi (rg x o T 2))] [] y (ri F) := by
    intro y e fy l0 e1
    obtain ⟨hy, hKy, gy, wyy, y13⟩ := ag y fy
    have k89 := kn.2.2.2.2.2.2.2.2
    refine kg_X5_accessFails_70 hq ho _ _ ⟨vs, ?_⟩
    rw [eN, fy 89 _ (by unfold sLk; omega)]
    cases hz : st.2.2.2.2.2.2.2.2.2 with
    | none =>
      rw [hz] at k89
      refine ⟨fun _ => p122 y e 0 fy l0 e1 (by rw [hz]; rfl), fun c => absurd k89 c⟩
    | some Q =>
      rw [hz] at k89
      have k89 : SUk x (x.1 89 (M.2.2 T).2.2.1) (Q.map cQ) := k89
      obtain ⟨q1, q2⟩ := ns.2.2.2.2.2.2.2.2.2.1 Q hz
      refine ⟨fun c => ?_, fun _ => ⟨vs, kh_ev hq ho hy hKy hT (gy.2 T hT) _ _ et (SUk_f k89 (fun c k hc => fy c k (by unfold sLk; omega))) q1 q2 (by rw [y13]; exact hml) (fun r z fz hwk => ?_)⟩⟩
      · have := k89.1
        rw [c, tm1] at this
        omega
      · have fz' := fm_tr fy (sW fz)
        rcases hwk with ⟨v, hv, er, y5⟩ | ⟨hv, y5⟩
        · exact ⟨fun _ => p122 z e v fz' l0 e1 (by rw [hz]; exact hv), fun c => absurd y5 c⟩
        · have ll := lkM_2 (w := w) hw0 l0 (by rw [s2]; exact e1) (by rw [s2, hz]; exact hv)
          refine ⟨fun c => ?_, fun _ => ri_i (hF _ z fz' ⟨fun _ => by rw [ll]; show ¬ 1 = 0; decide, fun _ => k1⟩)⟩
          rw [y5] at c; exact absurd c k1
  refine kg_X5_accessFails_0 hq ho _ (kp_get hq ho hM.1 hM.2.1 _ _ et (show (2 : Int32).toInt = ((2 : Nat) : Int) from rfl) hT6 (by omega) (kh_placeOf hq ho hM hK hN g _ et hT h1 o4' (fun r y fy hr => ?_)))
  obtain ⟨hy, hKy, gy, wyy, y13⟩ := ag y fy
  rcases hr with ⟨l0, lc, lc0, lc1⟩ | ⟨ln, lc, l14⟩
  · refine ⟨fun _ => ⟨vs, ?_⟩, fun c => by rw [c, tm1] at lc0; omega⟩
    have k88 := kn.2.2.2.2.2.2.2.1
    rw [eN, fy 88 _ (by unfold sLk; omega)]
    cases hz : st.2.2.2.2.2.2.2.2.1 with
    | none =>
      rw [hz] at k88
      refine ⟨fun _ => p70 y 0 fy l0 (by rw [hz]; rfl), fun c => absurd k88 c⟩
    | some Q =>
      rw [hz] at k88
      have k88 : SUk x (x.1 88 (M.2.2 T).2.2.1) (Q.map cQ) := k88
      obtain ⟨q1, q2⟩ := ns.2.2.2.2.2.2.2.2.1 Q hz
      refine ⟨fun c => ?_, fun _ => ⟨vs, kh_ev hq ho hy hKy hT (gy.2 T hT) _ _ et (SUk_f k88 (fun c k hc => fy c k (by unfold sLk; omega))) q1 q2 (by rw [y13]; exact hml) (fun r z fz hwk => ?_)⟩⟩
      · have := k88.1
        rw [c, tm1] at this
        omega
      · have fz' := fm_tr fy (sW fz)
        rcases hwk with ⟨v, hv, er, y5⟩ | ⟨hv, y5⟩
        · exact ⟨fun _ => p70 z v fz' l0 (by rw [hz]; exact hv), fun c => absurd y5 c⟩
        · have ll := lkM_1 (w := w) hw0 l0 (by rw [s2, hz]; exact hv)
          refine ⟨fun c => ?_, fun _ => ri_i (hF _ z fz' ⟨fun _ => by rw [ll]; show ¬ 1 = 0; decide, fun _ => k1⟩)⟩
          rw [y5] at c; exact absurd c k1
  · refine ⟨fun c => absurd lc c, fun _ => ri_i (hF _ y fy ⟨fun _ => ?_, fun _ => k1⟩)⟩
    rw [lkM_i (w := w) hw0 ln]; exact ln
/-- the cell of a going thread's next act, if it is an access -/
theorem kh_objectOf (hq : kV q) (ho : kiM q o) (hM : MM x o) (hK : CK x C) (hN : NC C) (g : KMm x o C M) (t : Int32) (et : t.toInt = T) (hT : T < C.2.1.length) (h1 : (M.2.2 T).1 = 1) (hF : ∀ r y, fm (sLk o) x y → (soM C (M.2.2 T) ≤ 4 → ((lkI C M T).1 = 0 ∧ r = (lkI C M T).2 ∧ 0 ≤ r.toInt ∧ r.toInt < (x.1 60 6).toInt) ∨ (¬ (lkI C M T).1 = 0 ∧ r = -1)) → (¬ soM C (M.2.2 T) ≤ 4 → r = (stN C (M.2.2 T).2.2.1).2.2.2.2.1 ∨ (stN C (M.2.2 T).2.2.1).1 = 16) → F r y) : KT G q (d + 3) zk_X5_objectOf 0 [(0, vr o), (1, vi t)] [] x (ri F) := by
  have nT : (x.1 60 10).toInt = C.2.1.length := hK.2.1.1
  have hT6 := MM_6 hM.1 (t := T) (by omega)
  have hA := (hM.2.2 T (by omega)).1
  have k4 : (4 : Int32).toInt = 4 := rfl
  have gT := g.2 T hT
  obtain ⟨st, s1, s2, s3, s4, s5, kn, ns⟩ := kst_at hM hK hN hT gT
  obtain ⟨vs, eN, -⟩ := MM_st hM.1 hA
  rw [s3] at eN
  have e81 : (x.1 81 (rg x o T 2).toInt.toNat).toInt = (st.1 : Nat) := by rw [s3]; exact s5
  have w3 : rg x o T 3 = 0 ↔ (M.2.2 T).2.2.2.1 = 0 := kst_w3 hM hK hN hT gT
  have pg : ¬ soM C (M.2.2 T) ≤ 4 → KT G q (d + 2) zk_X5_get 0 [(0, vr o), (1, vi t), (2, vi 2)] [] x (ri (fun r5 x4 => vp_in r5 400 ∧ ri F (some (vi (x4.1 85 (r5 : Int32).toNatClampNeg))) x4)) := fun hn => kp_get hq ho hM.1 hM.2.1 _ _ et (show (2 : Int32).toInt = ((2 : Nat) : Int) from rfl) hT6 (by omega) ⟨vs, ri_i (hF _ x (fm_rf _ _) (fun c => absurd c hn) (fun _ => by
    rw [eN, s2]
    by_cases c16 : st.1 = 16
    · exact Or.inr c16
    · exact Or.inl (kn.2.2.2.2.1 c16)))⟩
  refine kg_X5_objectOf_0 hq ho _ (kp_sortOf hq ho hM.1 hM.2.1 _ et hT6 hA (fun c3 => ⟨fun c4 => pg ?_, fun c4 => ?_⟩) (fun c3 => ⟨fun _ => pg ?_, fun c => absurd (by decide) c⟩))
  · rw [t_lt, k4] at c4
    unfold soM; rw [if_pos (w3.mp c3), s2]; omega
  · rw [t_lt, k4] at c4
    have so : soM C (M.2.2 T) = st.1 := by unfold soM; rw [if_pos (w3.mp c3), s2]
    refine kh_placeOf hq ho hM hK hN g _ et hT h1 (by rw [s2]; omega) (fun r y fy hr => ri_i (hF r y fy (fun _ => hr.imp id (fun z => ⟨z.1, z.2.1⟩)) (fun c => ?_)))
    rw [so] at c; omega
  · unfold soM; rw [if_neg (fun z => c3 (w3.mpr z))]; omega
end KFL
end
section
/-! the class: which accesses a state has before it, and whether they race -/
def ACx (x : gd) (C : gCo) (w : Nat) (M : gMa) (t : Nat) : Prop := (axM C w M t ∧ x.1 209 t = (lkM C w M t).2.1 ∧ 0 ≤ (x.1 209 t).toInt ∧ x.1 210 t = Int32.ofNat (soM C (M.2.2 t))) ∨ (¬ axM C w M t ∧ x.1 209 t = -1)
/-- all but what is said of a thread's access -/
def sI0 (o c k : Nat) : Prop := sIn o c k ∧ ¬ c = 209 ∧ ¬ c = 210
def sI1 (o T c k : Nat) : Prop := sIn o c k ∧ (c = 209 ∨ c = 210 → k = T)
section KIN
variable {G : kG} {q : kP} {d : Nat} {x y z : gd} {o : Nat} {F : Int32 → gd → Prop} {Fv : gd → Prop} {C : gCo} {M : gMa} {T w : Nat}
theorem lkM_c (h : (M.2.2 T).2.2.2.1 = 0) : (lkM C w M T).2.1 = (lkI C M T).2 := by
  unfold lkM
  rw [if_neg (fun z => z h)]
  split
  · rfl
  · split
    · rfl
    · split
      · rfl
      · rfl
theorem can_ch {t : Nat} (ht : t < C.2.1.length) : canM C w M t ↔ ∃ ch ∈ chM C w M, ch.2.1 = none ∧ ch.1 = t := by
  constructor
  · intro h
    have : ∃ ch ∈ ch1 C w M t, ch.2.1 = none ∧ ch.1 = t := by
      unfold ch1
      rw [if_pos h]
      split
      · next c =>
        obtain ⟨a, l, e⟩ : ∃ a l, waM C M (obM C (M.2.2 t).2.2.1) = a :: l := by
          cases hw : waM C M (obM C (M.2.2 t).2.2.1) with
          | nil => exact absurd hw c.2.2.2
          | cons a l => exact ⟨a, l, rfl⟩
        refine ⟨(t, none, some a), ?_, rfl, rfl⟩
        rw [e]
        exact List.mem_append_left _ (List.mem_map.mpr ⟨a, List.mem_cons_self .., rfl⟩)
      · exact ⟨(t, none, none), List.mem_append_left _ (List.mem_singleton.mpr rfl), rfl, rfl⟩
    obtain ⟨ch, h1, h2⟩ := this
    exact ⟨ch, List.mem_flatMap.mpr ⟨t, List.mem_range.mpr ht, h1⟩, h2⟩
  · rintro ⟨ch, h1, h2, h3⟩
    obtain ⟨u, hu, h1⟩ := List.mem_flatMap.mp h1
    unfold ch1 at h1
    rcases List.mem_append.mp h1 with h1 | h1
    · by_cases c : canM C w M u
      · rw [if_pos c] at h1
        have : ch.1 = u := by
          split at h1
          · obtain ⟨a, -, e⟩ := List.mem_map.mp h1
            rw [← e]
          · rw [List.mem_singleton.mp h1]
        rw [← h3, this]; exact c
      · rw [if_neg c] at h1; cases h1
    · obtain ⟨a, -, e⟩ := List.mem_map.mp h1
      rw [← e] at h2
      cases h2
theorem sI0_In {c k : Nat} (h : sI0 o c k) : sIn o c k := h.1
theorem sI1_In {c k : Nat} (h : sI1 o T c k) : sIn o c k := h.1
theorem sI0_1 {c k : Nat} (h : sI0 o c k) : sI1 o T c k := ⟨h.1, fun c => absurd c (fun c => c.elim h.2.1 h.2.2)⟩
/-- what the machine holds stays -/
theorem KM_In (ho : kiT q o) (hM : MM x 220) (hK : CK x C) (f : fm (sIn o) x y) (g : KMm x 220 C M) : CK y C ∧ KMm y 220 C M := by
  have hO := iT_O ho
  exact ⟨CK_f hK (fun c k hc => f c k (by unfold sIn; omega)), KMm_in hM hK (gm_ag (fun c k hc => f c k (by unfold sIn; omega)) (fun k h1 h2 => f _ _ (by unfold sIn; omega))) (fun k _ => f _ _ (by unfold sIn; omega)) g⟩
theorem kh_inspectAct (hq : kV q) (he : q.ex = true) (ho : kiT q o) (ht : q.et = some o) (hM : MM x 220) (hK : CK x C) (hN : NC C) (hX : NXc C) (hX3 : NX3 C) (g : KMm x 220 C M) (wy : x.1 220 3 = Int32.ofNat w) (w01 : w = 0 ∨ w = 1) (t : Int32) (et : t.toInt = T) (hT : T < C.2.1.length) (hcan : canM C w M T) (h9 : x.1 209 T = -1) (h : ∀ y, fm (sI1 o T) x y → ACx y C w M T → Fv y) : KT G q (d + 4) zk_X2_inspectAct 0 [(0, vr 200), (1, vi t)] [] x (rv Fv) := by
  have hO := iT_O ho
  have hm : kiM q 220 := Or.inr ⟨rfl, he⟩
  have t6 := hM.1.1.2.2.1
  have c24 := hM.1.1.1
  have nT : (x.1 60 10).toInt = C.2.1.length := hK.2.1.1
  have nC : (x.1 60 6).toInt = C.2.2.1.length := hK.2.2.1.1
  have v6 : vp_in t 6 := by rw [vp_in_iff]; omega
  have tT : t.toNatClampNeg = T := by rw [t_cl, et]; rfl
  have k4 : (4 : Int32).toInt = 4 := rfl
  have h1 : (M.2.2 T).1 = 1 := hcan.1
  have hA := (hM.2.2 T (by omega)).1
  obtain ⟨st, s1, s2, s3, s4, s5, kn, ns⟩ := kst_at hM hK hN hT (g.2 T hT)
  have n22 := ns.1.1
  have so22 : soM C (M.2.2 T) < 22 := by
    unfold soM
    split
    · rw [s2]; exact n22
    · omega
  have eso : (Int32.ofNat (soM C (M.2.2 T))).toInt = (soM C (M.2.2 T) : Nat) := Int32.toInt_ofNat_of_lt (by omega)
  have no : ∀ y, fm (sI0 o) x y → ¬ axM C w M T → rv Fv none y := fun y fy hn => rv_i (h y (fm_w fy (fun c k => sI0_1)) (Or.inr ⟨hn, by rw [fy 209 T (fun z => z.2.1 rfl)]; exact h9⟩))
  have p39 : ∀ (ob : Int32) (y : gd), fm (sI0 o) x y → (soM C (M.2.2 T) ≤ 4 → ((lkI C M T).1 = 0 ∧ ob = (lkI C M T).2 ∧ 0 ≤ ob.toInt ∧ ob.toInt < (x.1 60 6).toInt) ∨ (¬ (lkI C M T).1 = 0 ∧ ob = -1)) → KT G q (d + 4) zk_X2_inspectAct 39 [(0, vr 200), (1, vi t), (2, vi (Int32.ofNat (soM C (M.2.2 T)))), (3, vi ob)] [] y (rv Fv) := by
    intro ob y fy hs
    have hMy := sIn_MM ho (fm_w fy (fun c k => sI0_In)) hM
    have wOf : soM C (M.2.2 T) ≤ 4 → (M.2.2 T).2.2.2.1 = 0 := fun c => by
      by_cases w0 : (M.2.2 T).2.2.2.1 = 0
      · exact w0
      · unfold soM at c; rw [if_neg w0] at c; omega
    refine kg_X2_inspectAct_39 hq he _ _ _ ⟨fun c => no y fy (fun z => ?_), fun c => ?_⟩
    · rw [t_lt, k4, eso] at c
      have := z.2.1
      omega
    rw [t_lt, k4, eso] at c
    have so4 : soM C (M.2.2 T) ≤ 4 := by omega
    have w0 := wOf so4
    have sst : soM C (M.2.2 T) = st.1 := by unfold soM; rw [if_pos w0, s2]
    have hs := hs so4
    refine ⟨fun c2 u eu => ?_, fun c2 => no y fy (fun z => ?_)⟩
    rotate_left
    · rcases hs with ⟨-, -, e0, -⟩ | ⟨e, -⟩
      · rw [c2, tm1] at e0; omega
      · have := z.2.2.1
        rw [lkM_i w0 e] at this
        exact e this
    rw [et_r ht] at eu
    obtain ⟨l0, eob, ob0, ob1⟩ : (lkI C M T).1 = 0 ∧ ob = (lkI C M T).2 ∧ 0 ≤ ob.toInt ∧ ob.toInt < (x.1 60 6).toInt := by
      rcases hs with e | e
      · exact e
      · exact absurd e.2 c2
    have vo : vp_in ob 24 := by rw [vp_in_iff]; omega
    refine ⟨o, eu, ho, vo, kp_heldBy hq hm hMy.1 hMy.2.1 _ (fun r => ⟨vo, fun x10 e10 => ⟨vo, ?_⟩⟩)⟩
    have f10 : fm (sI0 o) x x10 := by rw [e10]; exact fm_si fy ⟨by unfold sIn; omega, by omega, by omega⟩
    have g10 := fm_w f10 (fun c k => sI0_In)
    have hM10 := sIn_MM ho g10 hM
    obtain ⟨hK10, gm10⟩ := KM_In ho hM hK g10 g
    have e69 : x10.1 69 ob.toNatClampNeg = if suM C ob.toNatClampNeg = true then 1 else 0 := by
      have hl : ob.toNatClampNeg < C.2.2.1.length := by rw [t_cl]; omega
      have hg := List.getElem?_eq_getElem hl
      rw [(hK10.2.2.1.2 _ _ hg).2]
      unfold suM
      rw [hg]
    have lc : (lkM C w M T).2.1 = ob := by rw [lkM_c w0, eob]
    refine ⟨fun cs => no x10 f10 (fun z => ?_), fun cs => ?_⟩
    · have := z.2.2.2
      rw [lc] at this
      rw [e69, this] at cs
      exact cs rfl
    have su : suM C ob.toNatClampNeg = false := by
      cases hsu : suM C ob.toNatClampNeg with
      | false => rfl
      | true => rw [e69, hsu] at cs; exact absurd cs (by decide)
    refine kh_accessFails hq hm hM10 hK10 hN hX hX3 gm10 (by rw [g10 220 3 (by unfold sIn; omega)]; exact wy) w01 _ et hT h1 w0 (by rw [s2]; omega) (fun r14 w9 fw hr => ?_)
    have fw2 : fm (sI0 o) x w9 := fm_tr f10 (fm_w fw (fun c k q => by unfold sLk at q; unfold sI0 sIn; omega))
    refine ⟨fun rn => no w9 fw2 (fun z => (hr.mp rn) z.2.2.1), fun r0 => ⟨v6, fun x17 e17 => ⟨v6, fun x19 e19 => rv_i (h _ ?_ (Or.inl ?_))⟩⟩⟩
    · rw [e19, e17, tT]
      exact fm_si (fm_si (fm_w fw2 (fun c k => sI0_1)) ⟨by unfold sIn; omega, fun _ => rfl⟩) ⟨by unfold sIn; omega, fun _ => rfl⟩
    · have lk0 : (lkM C w M T).1 = 0 := by
        apply Classical.byContradiction
        intro z
        exact hr.mpr z r0
      have n9 : x19.1 209 T = ob := by rw [e19, si_cell (by omega), e17, si_get, if_pos ⟨rfl, tT.symm⟩]
      refine ⟨⟨hcan, so4, lk0, by rw [lc]; exact su⟩, by rw [n9, lc], by rw [n9]; exact ob0, by rw [e19, si_get, if_pos ⟨rfl, tT.symm⟩]⟩
  have after : ∀ s : Int32, s = Int32.ofNat (soM C (M.2.2 T)) → KT G q (d + 3) zk_X5_objectOf 0 [(0, vr 220), (1, vi t)] [] x (ri (fun r4 x3 => ((¬ (s = (5 : Int32)) → KT G q (d + 4) zk_X2_inspectAct 39 [(0, vr 200), (1, vi t), (2, vi s), (3, vi r4)] [] x3 (rv Fv)) ∧ (s = (5 : Int32) → (∀ u6, u6 = (kf q).1 200 7 → gokv (kf q).2.1 (vo u6) = true ∧ KT G q (d + 3) zk_X5_heldBy 0 [(0, vr 220), (1, vi t)] [] x3 (ri (fun r9 x8 => ∃ c10, u6 = some c10 ∧ kiT q c10 ∧ KT G q (d + 3) zk_X10_addTake 0 [(0, vr c10), (1, vi r9), (2, vi r4)] [] x8 (rv (fun x12 => KT G q (d + 4) zk_X2_inspectAct 39 [(0, vr 200), (1, vi t), (2, vi s), (3, vi r4)] [] x12 (rv Fv)))))))))) := by
    intro s hs
    subst hs
    refine kh_objectOf hq hm hM hK hN g _ et hT h1 (fun ob w9 fw hob _ => ?_)
    have fw2 : fm (sI0 o) x w9 := fm_w fw (fun c k q => by unfold sLk at q; unfold sI0 sIn; omega)
    refine ⟨fun _ => p39 _ _ fw2 hob, fun _ u eu => ?_⟩
    rw [et_r ht] at eu
    have hMw := sIn_MM ho (fm_w fw2 (fun c k => sI0_In)) hM
    refine ⟨?_, kp_heldBy hq hm hMw.1 hMw.2.1 _ (fun r9 => ⟨o, eu, ho, kt_addTake hq ho _ _ (fun v fv => p39 _ v (fm_tr fw2 (fm_w fv (fun c k q => by unfold sI0 sIn; omega))) hob)⟩)⟩
    rw [eu]; exact gkr (kl_T0 hq ho)
  have w3 : rg x 220 T 3 = 0 ↔ (M.2.2 T).2.2.2.1 = 0 := kst_w3 hM hK hN hT (g.2 T hT)
  refine kg_X2_inspectAct_0 hq he _ (kp_sortOf hq hm hM.1 hM.2.1 _ et (by omega) hA (fun h0 => after _ ?_) (fun h0 => after _ ?_))
  · rw [s3, kn.1]
    unfold soM
    rw [if_pos (w3.mp h0), s2]
  · unfold soM
    rw [if_neg (fun z => h0 (w3.mpr z))]
    rfl
end KIN
end
section
/-! the class: all threads' accesses; races -/
section KIB
variable {G : kG} {q : kP} {d : Nat} {x y z : gd} {o : Nat} {F : Int32 → gd → Prop} {Fv : gd → Prop} {C : gCo} {M : gMa} {T w : Nat}
theorem AC_f (e9 : y.1 209 T = x.1 209 T) (e10 : y.1 210 T = x.1 210 T) (h : ACx x C w M T) : ACx y C w M T := by
  unfold ACx
  rw [e9, e10]
  exact h
theorem t_and1 (a : Int32) : a &&& 1 = 0 ∨ a &&& 1 = 1 := by
  have e : (a &&& 1).toBitVec.toNat = a.toBitVec.toNat % 2 := by
    rw [Int32.toBitVec_and, BitVec.toNat_and]
    exact Nat.and_two_pow_sub_one_eq_mod _ 1
  rcases Nat.mod_two_eq_zero_or_one a.toBitVec.toNat with h | h
  · exact Or.inl (Int32.toBitVec_inj.mp (BitVec.eq_of_toNat_eq (by rw [e, h]; rfl)))
  · exact Or.inr (Int32.toBitVec_inj.mp (BitVec.eq_of_toNat_eq (by rw [e, h]; rfl)))
theorem bit_or (a : Int32) {u t : Nat} (hu : u < 8) (ht : t < 8) : ((a ||| ((1 : Int32) <<< (Int32.ofNat u &&& 31))) >>> (Int32.ofNat t &&& 31)) &&& 1 = 1 ↔ ((a >>> (Int32.ofNat t &&& 31)) &&& 1 = 1 ∨ t = u) := by
  rw [or_sr, km_1 u hu t ht]
  have b : (a >>> (Int32.ofNat t &&& 31)) &&& 1 = 0 ∨ (a >>> (Int32.ofNat t &&& 31)) &&& 1 = 1 := t_and1 _
  by_cases c : t = u
  · rw [if_pos c]
    refine ⟨fun _ => Or.inr c, fun _ => ?_⟩
    rcases b with b | b <;> rw [b] <;> decide
  · rw [if_neg c]
    rcases b with b | b <;> rw [b]
    · exact ⟨fun z => absurd z (by decide), fun z => z.elim (fun z => absurd z (by decide)) (fun z => absurd z c)⟩
    · exact ⟨fun _ => Or.inl rfl, fun _ => by decide⟩
theorem kh_inspectActs (hq : kV q) (he : q.ex = true) (ho : kiT q o) (ht : q.et = some o) (hM : MM x 220) (hK : CK x C) (hN : NC C) (hX : NXc C) (hX3 : NX3 C) (g : KMm x 220 C M) (wy : x.1 220 3 = Int32.ofNat w) (w01 : w = 0 ∨ w = 1) (hL : LSk x 220) (hc : kchL x 220 (chM C w M)) (h : ∀ y, fm (sIn o) x y → (∀ t, t < C.2.1.length → ACx y C w M t) → Fv y) : KT G q (d + 5) zk_X2_inspectActs 0 [(0, vr 200)] [] x (rv Fv) := by
  have hO := iT_O ho
  have hm : kiM q 220 := Or.inr ⟨rfl, he⟩
  have t6 := hM.1.1.2.2.1
  have nT : (x.1 60 10).toInt = C.2.1.length := hK.2.1.1
  have l84 := hL.1
  obtain ⟨c13, cch⟩ := hc
  have loop2 : ∀ (n k : Nat) (i l1 l2 : Int32) (y : gd), (∀ t, t < C.2.1.length → ((l1 >>> (Int32.ofNat t &&& 31)) &&& 1 = 1 ↔ canM C w M t)) → i.toInt = k → (x.1 60 10).toInt - k ≤ n → fm (sIn o) x y → (∀ t, t < k → ACx y C w M t) → KT G q (d + 5) zk_X2_inspectActs 52 [(0, vr 200), (1, vi l1), (2, vi l2), (3, vi i)] [] y (rv Fv) := by
    intro n
    have out : ∀ (k : Nat) (i l2 : Int32) (y : gd), i.toInt = k → x.1 60 10 ≤ i → fm (sIn o) x y → (∀ t, t < k → ACx y C w M t) → ((l2 = (0 : Int32) → rv Fv none y) ∧ (¬ (l2 = (0 : Int32)) → (∀ u3, u3 = (kf q).1 200 7 → ∃ c4, u3 = some c4 ∧ kiT q c4 ∧ (∀ x6, x6 = si y c4 4 ((y.1 c4 4) + 1) → rv Fv none x6)))) := by
      intro k i l2 y ei c fy hac
      rw [t_le] at c
      have hac : ∀ t, t < C.2.1.length → ACx y C w M t := fun t ht => hac t (by omega)
      refine ⟨fun _ => rv_i (h y fy hac), fun _ u eu => ?_⟩
      rw [et_r ht] at eu
      exact ⟨o, eu, ho, fun z ez => rv_i (h z (by rw [ez]; exact fm_si fy (by unfold sIn; omega)) (fun t ht => AC_f (by rw [ez, si_cell (by omega)]) (by rw [ez, si_cell (by omega)]) (hac t ht)))⟩
    induction n with
    | zero =>
      intro k i l1 l2 y hb ei hn fy hac
      refine kg_X2_inspectActs_52 hq he _ _ _ ⟨fun c => out k i l2 y ei (by rw [fy 60 10 (by unfold sIn; omega)] at c; exact c) fy hac, fun c => ?_⟩
      rw [t_le, fy 60 10 (by unfold sIn; omega)] at c; omega
    | succ n ih =>
      intro k i l1 l2 y hb ei hn fy hac
      refine kg_X2_inspectActs_52 hq he _ _ _ ⟨fun c => out k i l2 y ei (by rw [fy 60 10 (by unfold sIn; omega)] at c; exact c) fy hac, fun c => ?_⟩
      rw [t_le, fy 60 10 (by unfold sIn; omega)] at c
      have hk : k < C.2.1.length := by omega
      have e1 : (i + 1).toInt = ((k + 1 : Nat) : Int) := by rw [t_add (by show _ ≤ _ + (1 : Int); omega) (by show _ + (1 : Int) ≤ _; omega), ei]; rfl
      have iK : i.toNatClampNeg = k := by rw [t_cl, ei]; rfl
      have iO : i = Int32.ofNat k := i32_of ei
      refine ⟨by rw [vp_in_iff]; omega, fun z ez => ?_⟩
      rw [iK] at ez
      have fz : fm (sIn o) x z := by rw [ez]; exact fm_si fy (by unfold sIn; omega)
      have hMz := sIn_MM ho fz hM
      obtain ⟨hKz, gz⟩ := KM_In ho hM hK fz g
      have z9 : z.1 209 k = -1 := by rw [ez, si_get, if_pos ⟨rfl, rfl⟩]
      have hbk := hb k hk
      rw [← iO] at hbk
      have zac : ∀ t, t < k → ACx z C w M t := fun t ht => AC_f (by rw [ez, si_get, if_neg (by omega)]) (by rw [ez, si_get, if_neg (by omega)]) (hac t ht)
      have go : ∀ l2 w9, fm (sIn o) x w9 → (∀ t, t < k → ACx w9 C w M t) → ACx w9 C w M k → KT G q (d + 5) zk_X2_inspectActs 52 [(0, vr 200), (1, vi l1), (2, vi l2), (3, vi (i + 1))] [] w9 (rv Fv) := fun l2 w9 fw a1 a2 => ih (k + 1) _ _ _ w9 hb e1 (by push_cast; omega) fw (fun t ht => by
        by_cases e : t = k
        · rw [e]; exact a2
        · exact a1 t (by omega))
      refine ⟨fun nb => ?_, fun b => kh_inspectAct hq he ho ht hMz hKz hN hX hX3 gz (by rw [fz 220 3 (by unfold sIn; omega)]; exact wy) w01 _ ei hk (hbk.mp b) z9 (fun w9 fw a2 => go _ _ (fm_tr fz (fm_w fw (fun c k => sI1_In))) (fun t ht => AC_f (fw _ _ (fun q => by have := q.2 (Or.inl rfl); omega)) (fw _ _ (fun q => by have := q.2 (Or.inr rfl); omega)) (zac t ht)) a2)⟩
      have na : ACx z C w M k := Or.inr ⟨fun q => nb (hbk.mpr q.1), z9⟩
      exact kp_isGoing hq hm hMz.1 hMz.2.1 _ ei (by omega) (fun _ => ⟨fun _ => go _ _ fz zac na, fun _ => go _ _ fz zac na⟩) (fun _ => ⟨fun _ => go _ _ fz zac na, fun _ => go _ _ fz zac na⟩)
  have bits : ∀ (l1 : Int32), (∀ t, t < C.2.1.length → ((l1 >>> (Int32.ofNat t &&& 31)) &&& 1 = 1 ↔ ∃ i ch, i < (chM C w M).length ∧ (chM C w M)[i]? = some ch ∧ ch.2.1 = none ∧ ch.1 = t)) → ∀ t, t < C.2.1.length → ((l1 >>> (Int32.ofNat t &&& 31)) &&& 1 = 1 ↔ canM C w M t) := by
    intro l1 hb t ht
    rw [hb t ht, can_ch ht]
    constructor
    · rintro ⟨i, ch, -, h1, h2⟩
      exact ⟨ch, List.mem_of_getElem? h1, h2⟩
    · rintro ⟨ch, h1, h2⟩
      obtain ⟨i, hi⟩ := List.mem_iff_getElem?.mp h1
      exact ⟨i, ch, gt_lt hi, hi, h2⟩
  have loop : ∀ (n k : Nat) (i l1 : Int32), i.toInt = k → (x.1 220 13).toInt - k ≤ n → k ≤ (chM C w M).length → (∀ t, t < C.2.1.length → ((l1 >>> (Int32.ofNat t &&& 31)) &&& 1 = 1 ↔ ∃ i ch, i < k ∧ (chM C w M)[i]? = some ch ∧ ch.2.1 = none ∧ ch.1 = t)) → KT G q (d + 5) zk_X2_inspectActs 4 [(0, vr 200), (1, vi l1), (2, vi i)] [] x (rv Fv) := by
    intro n
    have fin : ∀ (k : Nat) (i l1 : Int32), i.toInt = k → k ≤ (chM C w M).length → (∀ t, t < C.2.1.length → ((l1 >>> (Int32.ofNat t &&& 31)) &&& 1 = 1 ↔ ∃ i ch, i < k ∧ (chM C w M)[i]? = some ch ∧ ch.2.1 = none ∧ ch.1 = t)) → x.1 220 13 ≤ i → KT G q (d + 5) zk_X2_inspectActs 52 [(0, vr 200), (1, vi l1), (2, vi 0), (3, vi 0)] [] x (rv Fv) := by
      intro k i l1 ei hkl hb c
      rw [t_le] at c
      have ek : k = (chM C w M).length := by clear hb; omega
      rw [ek] at hb
      exact loop2 6 0 _ _ _ x (bits l1 hb) rfl (by clear hb; omega) (fm_rf _ _) (fun t ht => absurd ht (Nat.not_lt_zero _))
    induction n with
    | zero =>
      intro k i l1 ei hn hkl hb
      refine kg_X2_inspectActs_4 hq he _ _ ⟨fun c => fin k i l1 ei hkl hb c, fun c => ?_⟩
      clear hb
      rw [t_le] at c; omega
    | succ n ih =>
      intro k i l1 ei hn hkl hb
      refine kg_X2_inspectActs_4 hq he _ _ ⟨fun c => fin k i l1 ei hkl hb c, fun c => ?_⟩
      rw [t_le] at c
      have hk : k < (chM C w M).length := by clear hb; omega
      have e1 : (i + 1).toInt = ((k + 1 : Nat) : Int) := by clear hb; rw [t_add (by show _ ≤ _ + (1 : Int); omega) (by show _ + (1 : Int) ≤ _; omega), ei]; rfl
      have v84 : vp_in i 84 := by clear hb; rw [vp_in_iff]; omega
      have iK : i.toNatClampNeg = k := by rw [t_cl, ei]; rfl
      obtain ⟨ch, hch⟩ : ∃ ch, (chM C w M)[k]? = some ch := ⟨_, List.getElem?_eq_getElem hk⟩
      obtain ⟨q1, q2, q3, -, -⟩ := cch k ch hch
      have cin := ch_in (List.mem_of_getElem? hch)
      have h6 : ch.1 < 6 := by have := cin.1; clear hb; omega
      have nxt : ∀ t, (∃ i ch', i < k + 1 ∧ (chM C w M)[i]? = some ch' ∧ ch'.2.1 = none ∧ ch'.1 = t) ↔ ((∃ i ch', i < k ∧ (chM C w M)[i]? = some ch' ∧ ch'.2.1 = none ∧ ch'.1 = t) ∨ (ch.2.1 = none ∧ ch.1 = t)) := by
        intro t
        constructor
        · rintro ⟨i, ch', i1, i2, i3⟩
          by_cases e : i = k
          · rw [e, hch] at i2
            rw [Option.some.inj i2]
            exact Or.inr i3
          · exact Or.inl ⟨i, ch', by omega, i2, i3⟩
        · rintro (⟨i, ch', i1, i2, i3⟩ | i3)
          · exact ⟨i, ch', by omega, i2, i3⟩
          · exact ⟨k, ch, by omega, hch, i3⟩
      rw [iK]
      refine ⟨v84, fun cn => ih (k + 1) _ _ e1 (by clear hb nxt; push_cast; omega) hk (fun t ht => ?_), fun cn => ⟨v84, ih (k + 1) _ _ e1 (by clear hb nxt; push_cast; omega) hk (fun t ht => ?_)⟩⟩
      · rw [hb t ht, nxt t]
        exact ⟨Or.inl, fun z => z.elim id (fun z => absurd (q2 z.1) cn)⟩
      · have cn : x.1 (220 + 12) k = -1 := cn
        have q1 : x.1 231 k = Int32.ofNat ch.1 := q1
        have c0 : ch.2.1 = none := by
          cases hz : ch.2.1 with
          | none => rfl
          | some j =>
            have jl := cin.2.2 j hz
            have l7 := (g.2 _ cin.1).2.2.2.2.2.2.1.1
            have l8 := (hM.2.2 ch.1 (by have := cin.1; clear hb nxt; omega)).1.2.1
            have e := q3 j hz
            rw [cn] at e
            have e2 : (Int32.ofNat j).toInt = (j : Nat) := Int32.toInt_ofNat_of_lt (by clear hb nxt; omega)
            rw [← e, tm1] at e2
            clear hb nxt
            omega
        have ht6 : t < 6 := by clear hb nxt; omega
        rw [q1, bit_or _ (by omega) (by omega), hb t ht, nxt t]
        exact or_congr Iff.rfl ⟨fun e => ⟨c0, e.symm⟩, fun e => e.2.symm⟩
  refine kg_X2_inspectActs_0 hq he (loop 84 0 _ _ rfl (by omega) (Nat.zero_le _) (fun t ht => ?_))
  rw [km_0 t (by omega)]
  exact ⟨fun z => absurd z (by decide), fun ⟨i, ch, z, _⟩ => absurd z (Nat.not_lt_zero _)⟩
theorem kh_isRacing (hq : kV q) (he : q.ex = true) (hM : MM x 220) (hK : CK x C) (hN : NC C) (g : KMm x 220 C M) (hac : ∀ t, t < C.2.1.length → ACx x C w M t) (h : ∀ r : Int32, (¬ r = 0 ↔ rcM C w M) → F r x) : KT G q (d + 1) zk_X2_isRacing 0 [(0, vr 200)] [] x (ri F) := by
  have t6 := hM.1.1.2.2.1
  have nT : (x.1 60 10).toInt = C.2.1.length := hK.2.1.1
  have so22 : ∀ t, t < C.2.1.length → soM C (M.2.2 t) < 22 := fun t ht => by
    obtain ⟨st, s1, s2, s3, s4, s5, kn, ns⟩ := kst_at hM hK hN ht (g.2 t ht)
    have n22 := ns.1.1
    unfold soM
    split
    · rw [s2]; exact n22
    · omega
  obtain ⟨P, hP⟩ : ∃ P : Nat → Nat → Prop, ∀ t u, P t u ↔ (axM C w M t ∧ axM C w M u ∧ (lkM C w M t).2.1 = (lkM C w M u).2.1 ∧ srM (soM C (M.2.2 t)) (soM C (M.2.2 u))) := ⟨_, fun t u => Iff.rfl⟩
  have yes : ∀ t u, u < t → t < C.2.1.length → P t u → ri F (some (vi 1)) x := fun t u h1 h2 h3 => ri_i (h _ ⟨fun _ => ⟨t, u, h1, h2, (hP t u).mp h3⟩, fun _ => by decide⟩)
  have outer : ∀ (m j : Nat) (t : Int32), t.toInt = j → (x.1 60 10).toInt - j ≤ m → (∀ t, t < j → ∀ u, u < t → ¬ P t u) → KT G q (d + 1) zk_X2_isRacing 2 [(0, vr 200), (1, vi t)] [] x (ri F) := by
    intro m
    have fin : ∀ (j : Nat) (t : Int32), t.toInt = j → (∀ t, t < j → ∀ u, u < t → ¬ P t u) → x.1 60 10 ≤ t → ri F (some (vi 0)) x := fun j t ej hno c => ri_i (h _ ⟨fun z => absurd rfl z, fun ⟨t9, u, a1, a2, a3⟩ => absurd ((hP t9 u).mpr a3) (hno t9 (by rw [t_le] at c; omega) u a1)⟩)
    induction m with
    | zero =>
      intro j t ej hm hno
      refine kg_X2_isRacing_2 hq he _ ⟨fun c => fin j t ej hno c, fun c => ?_⟩
      rw [t_le] at c; omega
    | succ m ih =>
      intro j t ej hm hno
      refine kg_X2_isRacing_2 hq he _ ⟨fun c => fin j t ej hno c, fun c => ?_⟩
      rw [t_le] at c
      have hj : j < C.2.1.length := by omega
      have e1 : (t + 1).toInt = ((j + 1 : Nat) : Int) := by rw [t_add (by show _ ≤ _ + (1 : Int); omega) (by show _ + (1 : Int) ≤ _; omega), ej]; rfl
      have vt : vp_in t 6 := by rw [vp_in_iff]; omega
      have tJ : t.toNatClampNeg = j := by rw [t_cl, ej]; rfl
      have loop : ∀ (n k : Nat) (u : Int32), u.toInt = k → (j : Int) - k ≤ n → (∀ u, u < k → ¬ P j u) → KT G q (d + 1) zk_X2_isRacing 15 [(0, vr 200), (1, vi t), (2, vi u)] [] x (ri F) := by
        intro n
        have nx : ∀ (k : Nat) (u : Int32), u.toInt = k → (∀ u, u < k → ¬ P j u) → t ≤ u → KT G q (d + 1) zk_X2_isRacing 2 [(0, vr 200), (1, vi (t + 1))] [] x (ri F) := fun k u eu hnu c => ih (j + 1) _ e1 (by push_cast; omega) (fun t9 h9 u9 hu9 => by
          rw [t_le] at c
          by_cases e : t9 = j
          · rw [e]; exact hnu u9 (by omega)
          · exact hno t9 (by omega) u9 hu9)
        induction n with
        | zero =>
          intro k u eu hn hnu
          refine kg_X2_isRacing_15 hq he _ _ ⟨fun c => nx k u eu hnu c, fun c => ?_⟩
          rw [t_le] at c; omega
        | succ n ihn =>
          intro k u eu hn hnu
          refine kg_X2_isRacing_15 hq he _ _ ⟨fun c => nx k u eu hnu c, fun c => ?_⟩
          rw [t_le] at c
          have hk : k < j := by omega
          have eu1 : (u + 1).toInt = ((k + 1 : Nat) : Int) := by rw [t_add (by show _ ≤ _ + (1 : Int); omega) (by show _ + (1 : Int) ≤ _; omega), eu]; rfl
          have vu : vp_in u 6 := by rw [vp_in_iff]; omega
          have uK : u.toNatClampNeg = k := by rw [t_cl, eu]; rfl
          have go : ¬ P j k → KT G q (d + 1) zk_X2_isRacing 15 [(0, vr 200), (1, vi t), (2, vi (u + 1))] [] x (ri F) := fun np => ihn (k + 1) _ eu1 (by push_cast; omega) (fun u9 hu9 => by
            by_cases e : u9 = k
            · rw [e]; exact np
            · exact hnu u9 (by omega))
          rw [tJ, uK]
          have aj := hac j hj
          have ak := hac k (by omega)
          refine ⟨vt, fun cj => go (fun p => ?_), fun cj => ⟨vt, vu, fun ce => go (fun p => ?_), fun ce => ⟨vt, vu, ?_⟩⟩⟩
          · have p := (hP _ _).mp p
            rcases aj with ⟨-, -, a0, -⟩ | ⟨a, -⟩
            · rw [cj, tm1] at a0; omega
            · exact a p.1
          · have p := (hP _ _).mp p
            rcases aj with ⟨-, a1, -⟩ | ⟨a, -⟩
            · rcases ak with ⟨-, b1, -⟩ | ⟨b, -⟩
              · exact ce (by rw [a1, b1]; exact p.2.2.1)
              · exact b p.2.1
            · exact a p.1
          · rcases aj with ⟨a0, a1, a2, a3⟩ | ⟨a, a9⟩
            rotate_left
            · exact absurd a9 cj
            rcases ak with ⟨b0, b1, b2, b3⟩ | ⟨b, b9⟩
            rotate_left
            · rw [b9] at ce; exact absurd ce cj
            rw [a3, b3]
            refine kh_sortsRace hq (so22 j hj) (so22 k (by omega)) (fun r hr => ⟨fun r0 => go (fun p => ?_), fun rn => yes j k hk hj ((hP _ _).mpr ⟨a0, b0, ?_, hr.mp rn⟩)⟩)
            · exact hr.mpr ((hP _ _).mp p).2.2.2 r0
            · rw [← a1, ← b1]; exact ce
      exact loop 6 0 _ rfl (by omega) (fun u hu => absurd hu (Nat.not_lt_zero _))
  exact kg_X2_isRacing_0 hq he (outer 6 0 _ rfl (by omega) (fun t ht => absurd ht (Nat.not_lt_zero _)))
end KIB
end
