/-! the class: a new state is added, one that is kept is not -/
section KAD
variable {G : kG} {q : kP} {d : Nat} {x y z : gd} {F : Int32 → gd → Prop} {Fv : gd → Prop} {Fm : gd → kP → Prop} {X : String → gd → kP → Prop} {C : gCo} {M : gMa} {T : gTy} {nl w n s o : Nat}
theorem kx_keep3 (hu : kU q) (he : q.ex = true) (ho : kiT q o) (ht : q.et = some o) (hX : XI x q o) (hM : MM x 220) (hK : CK x C) (g : KMm x 220 C M) (qi : MIv C w M) (qc : MCn C nl M) (qn : NBm M) (hT : KX3 C nl w x o T) (hs : 0 ≤ (x.1 200 5).toInt ∧ (x.1 200 5).toInt < 8192) (h6 : x.1 200 6 = mxO x 220) (h0 : x.1 205 (x.1 200 5).toNatClampNeg = 0) (hp : ∃ p, p < 8192 ∧ (x.1 200 5).toNatClampNeg = ((mxO x 220 &&& 8191).toNatClampNeg + p) % 8192 ∧ ∀ i, i < p → ¬ x.1 205 (((mxO x 220 &&& 8191).toNatClampNeg + i) % 8192) = 0) (a b : Int32) {A B : Nat} (ha : (a = -1 ∧ T.1.length = 0) ∨ (a.toInt = (A : Nat) ∧ A < T.1.length ∧ b.toInt = (B : Nat))) (hl3 : T.1.length < 3000) (h : ∀ y q1, kU q1 → kle q q1 → q1.et = q.et → fm (sKe o) x y → XI y q1 o → (∀ s k : Nat, (s : Int) < (x.1 o 0).toInt → y.1 (1000 + s) k = x.1 (1000 + s) k) → KX3 C nl w y o (T.1 ++ [(M, A, B)], T.2) → Fm y q1) : KM G q (d + 2) zk_X2_keep 0 [(0, vr 200), (1, vi a), (2, vi b)] [] x (rm q Fm) X := by
  have hO := iT_O ho
  have k3 : (3000 : Int32).toInt = 3000 := rfl
  have k0 : (0 : Int32).toInt = 0 := rfl
  have k1 : (1 : Int32).toInt = 1 := rfl
  have km : (-1 : Int32).toInt = -1 := rfl
  obtain ⟨⟨hC, hG⟩, ⟨hz, hT0⟩, hn, hr, hb⟩ := hX
  obtain ⟨⟨T0, T1⟩, T2, T3, T4⟩ := hT
  have bz := hz.1
  have bsz := sz_b hC hG
  obtain ⟨S, hS⟩ : ∃ S : Nat, S = T.1.length := ⟨_, rfl⟩
  rw [← hS] at T0 T3 hl3 ha
  have haX : a = -1 ∨ (0 ≤ a.toInt ∧ a.toInt < (x.1 o 0).toInt) := by
    rcases ha with c | c
    · exact Or.inl c.1
    · exact Or.inr (by omega)
  have tS : (x.1 o 0).toNatClampNeg = S := by rw [t_cl, T0]; rfl
  have tS2 : (x.1 o 0).toInt.toNat = S := by omega
  have part2 : ∀ (q1 : kP) (z : gd), kU q1 → kle q q1 → q1.et = q.et → fm (fun c k => c = 1000 + S) x z → S < q1.kn → KM G q1 (d + 2) zk_X2_keep 36 [(0, vr 200), (1, vi a), (2, vi b), (3, vi (x.1 o 0))] [] z (rm q Fm) X := by
    intro q1 z hu1 hl1 et1 fz hN
    have ho1 := kle_T hl1 ho
    have he1 := hl1.2.1.2.1 he
    have ht1 : q1.et = some o := by rw [et1]; exact ht
    refine kg_X2_keep_36 hu1 he1 a b _ ⟨by rw [vp_in_iff]; omega, fun u eu => ?_⟩
    rw [tS, ke_r hN] at eu
    rw [tS, fz 220 5 (by omega)]
    refine ⟨_, eu, ke_k hl3, ke_m hu1.1 hN, by decide, by decide, by rw [t_lt, k0]; omega, by rw [tn0, t_cl]; omega, by rw [tn0, t_cl]; omega, fun x11 e11 => ⟨by rw [vp_in_iff]; omega, fun x13 e13 => ?_⟩⟩
    have g13 : ∀ c k, ¬ c = 1000 + S → ¬ (c = 204 ∧ k = S) → x13.1 c k = x.1 c k := by
      intro c k h1 h2
      rw [e13, si_get, if_neg h2, e11, scp_get, if_neg (fun z => h1 z.1)]; exact fz c k h1
    have m13 : x13.1 204 S = mxO x 220 := by rw [e13, si_get, if_pos ⟨rfl, rfl⟩, e11, scp_get, if_neg (by omega), fz 200 6 (by omega)]; exact h6
    rw [g13 200 5 (by omega) (by omega)]
    refine ⟨by rw [vp_in_iff]; omega, fun x15 e15 u16 e16 => ⟨o, by rw [e16, et_r ht1], ho1, ?_⟩⟩
    have e01 : (x.1 o 0 + 1).toInt = (x.1 o 0).toInt + 1 := by rw [t_add (by rw [k1]; omega) (by rw [k1]; omega), k1]
    obtain ⟨J, hJ⟩ : ∃ J, J = (x.1 200 5).toNatClampNeg := ⟨_, rfl⟩
    have hJ8 : J < 8192 := by rw [hJ, t_cl]; omega
    rw [← hJ] at e15 h0 hp
    have g15 : ∀ c k, ¬ c = 1000 + S → ¬ (c = 204 ∧ k = S) → ¬ (c = 205 ∧ k = J) → x15.1 c k = x.1 c k := by
      intro c k h1 h2 h3
      rw [e15, si_get, if_neg h3]; exact g13 c k h1 h2
    have f15 : fm (fun c k => c = 1000 + S ∨ c = 204 ∨ c = 205) x x15 := fun c k hc => g15 c k (fun z => hc (Or.inl z)) (fun z => hc (Or.inr (Or.inl z.1))) (fun z => hc (Or.inr (Or.inr z.1)))
    have row : ∀ k, k < (x.1 220 5).toNatClampNeg → x15.1 (1000 + S) k = x.1 225 k := by
      intro k hk
      rw [e15, si_get, if_neg (by omega), e13, si_get, if_neg (by omega), e11, scp_get, if_pos ⟨rfl, by rw [tn0]; omega, by rw [tn0]; omega⟩, tn0, fz _ _ (by omega), show 0 + (k - 0) = k by omega]
    have z15 : TZ x15 o := TZ_fm f15 (by omega) (fun c k hc => by omega) hz
    have o15 : x15.1 o 0 = x.1 o 0 := g15 o 0 (by omega) (by omega) (by omega)
    refine kt_addState3 hu1.1 ho1 a b z15 (by rw [o15]; exact haX) (by rw [o15]; omega) (fun y fy hzy hey y10 y11 y12 y12' => ?_)
    rw [o15, tS2] at fy y10 y11 y12 y12'
    rw [o15] at hey
    have fall : fm (sKe o) x y := fun c k hc => by
      unfold sKe at hc
      rw [fy c k (by omega)]; exact g15 c k (by omega) (by omega) (by omega)
    obtain ⟨ac, am⟩ := sKe_C hO fall
    have hrow : ∀ s k : Nat, (s : Int) < (x.1 o 0).toInt → y.1 (1000 + s) k = x.1 (1000 + s) k := fun s k hs2 => by
      rw [fy _ k (by omega)]; exact g15 _ k (by omega) (by omega) (by omega)
    have hyr : ∀ k : Nat, (k : Int) < (x.1 220 5).toInt → y.1 (1000 + S) k = x.1 225 k := fun k hk => by
      rw [fy _ _ (by omega)]; exact row k (by rw [t_cl]; omega)
    have hKR : KR y S := by
      unfold KR
      have y5 : y.1 220 5 = x.1 220 5 := am 5 (by omega) (by omega)
      rw [y5]
      refine MM_ag ?_ ?_ ?_ hM
      · intro c k hc
        rw [scp_get, if_neg (by omega)]; exact ac c k hc
      · intro k h1 h2
        rw [scp_get, if_neg (by omega)]; exact am k h1 h2
      · intro k hk
        have hk2 : k < (x.1 220 5).toNatClampNeg := by rw [t_cl]; omega
        rw [scp_get, if_pos ⟨rfl, by omega, by omega⟩, show 0 + (k - 0) = k by omega]
        exact hyr k hk
    have y4 : ∀ s, ¬ s = S → y.1 204 s = x.1 204 s := fun s hs => by rw [fy _ _ (by omega)]; exact g15 _ _ (by omega) (by omega) (by omega)
    have y4S : y.1 204 S = mxO x 220 := by rw [fy _ _ (by omega), e15, si_get, if_neg (by omega)]; exact m13
    have y5J : (y.1 205 J).toInt = (S : Int) + 1 := by rw [fy _ _ (by omega), e15, si_get, if_pos ⟨rfl, rfl⟩, e01, T0]
    have y5 : ∀ j, ¬ j = J → y.1 205 j = x.1 205 j := fun j hj => by rw [fy _ _ (by omega)]; exact g15 _ _ (by omega) (by omega) (by omega)
    refine rm_i hu1 hl1 (h y q1 hu1 hl1 et1 fall ⟨⟨CO_fm hC ac, MG_ag ac am hG⟩, ⟨hzy, ?_⟩, by omega, fun s hs2 => ?_, fun j hj => ?_⟩ hrow ⟨⟨?_, ?_⟩, fun s p hp9 => ?_, ?_, fun s p hp9 => ?_⟩)
    · refine TO_le hu1 hl1 (TO_fm fall (by unfold sKe; omega) (fun k => by unfold sKe; omega) hT0)
    · by_cases hsS : s = S
      · rw [hsS]; exact hKR
      · exact KR_ag ac am (fun k hk => hrow s k (by omega)) (hr s (by omega))
    · by_cases hj2 : j = J
      · rw [hj2, y5J]; omega
      · rw [y5 j hj2]
        have := hb j hj
        omega
    · show _ = (((T.1 ++ [(M, A, B)]).length : Nat) : Int)
      rw [List.length_append, List.length_singleton, hey, T0, hS]
      rfl
    · show y.1 o 1 = _
      rw [fy _ _ (by omega), g15 _ _ (by omega) (by omega) (by omega)]
      exact T1
    · have hp9 : (T.1 ++ [(M, A, B)])[s]? = some p := hp9
      by_cases c : s < T.1.length
      · rw [List.getElem?_append_left c] at hp9
        exact KPs_ag hK ac am (fun k => hrow s k (by omega)) (y4 s (by omega)) (T2 s p hp9)
      · have hlen := gt_lt hp9
        rw [List.length_append, List.length_singleton] at hlen
        have es : s = S := by omega
        rw [es, hS, List.getElem?_append_right (Nat.le_refl _), Nat.sub_self] at hp9
        have hp9 : (M, A, B) = p := Option.some.inj hp9
        rw [es, ← hp9]
        exact KPs_new hM hK g qi qc qn ac am hyr y4S hKR
    · show TBx y (T.1 ++ [(M, A, B)]).length
      rw [List.length_append, List.length_singleton, ← hS]
      exact TB_ins T3 hJ8 h0 (fun s hs => y4 s (by omega)) y5J y5 (by rw [y4S]; exact hp)
    · have hp9 : (T.1 ++ [(M, A, B)])[s]? = some p := hp9
      have yk : ∀ c k, ¬ k = S → (c = o + 10 ∨ c = o + 11 ∨ c = o + 12) → y.1 c k = x.1 c k := fun c k hk hc => by rw [fy _ _ (by omega)]; exact g15 _ _ (by omega) (by omega) (by omega)
      by_cases c : s < T.1.length
      · rw [List.getElem?_append_left c] at hp9
        obtain ⟨t1, t2⟩ := T4 s p hp9
        refine ⟨fun e => ?_, fun e => ?_⟩
        · rw [yk _ 0 (by omega) (by omega)]; exact t1 e
        · have t2 := t2 e
          rw [yk _ s (by omega) (by omega), yk _ s (by omega) (by omega), yk _ s (by omega) (by omega), yk _ p.2.1 (by omega) (by omega)]; exact t2
      · have hlen := gt_lt hp9
        rw [List.length_append, List.length_singleton] at hlen
        have es : s = S := by omega
        rw [es, hS, List.getElem?_append_right (Nat.le_refl _), Nat.sub_self] at hp9
        have hp9 : (M, A, B) = p := Option.some.inj hp9
        rw [es, ← hp9]
        rcases ha with ⟨a1, a2⟩ | ⟨a1, a2, a3⟩
        · refine ⟨fun e => ?_, fun e => by omega⟩
          rw [e] at y12
          rw [y12 a1]; rfl
        · have na : ¬ a = -1 := fun e => by rw [e, km] at a1; omega
          refine ⟨fun e => by omega, fun e => ⟨a2, by rw [y10]; exact a1, by rw [y11]; exact a3, ?_⟩⟩
          rw [y12' na, show a.toInt.toNat = A by omega, yk _ A (by omega) (by omega), g15 _ _ (by omega) (by omega) (by omega)]
  refine kg_X2_keep_0 hu he a b (fun u eu => ⟨o, by rw [eu, et_r ht], ho, fun c => ?_, fun c => ?_⟩)
  rotate_left
  · rw [t_lt, k3] at c; omega
  have v3 : vp_in (x.1 o 0) 3000 := by rw [vp_in_iff]; omega
  rw [tS]
  refine ⟨v3, fun u6 e6 => ⟨fun hno => ?_, fun c8 h8 => part2 q x hu (kle_rf q) rfl (fm_rf _ _) ?_⟩⟩
  · have hN : S = q.kn := by
      by_cases hl : S < q.kn
      · rw [e6, ke_r hl] at hno; cases hno
      · omega
    refine ⟨hN, v3, fun q9 x10 e9 e10 hu9 hl9 => part2 q9 x10 hu9 hl9 (by rw [e9]; rfl) (fun c k hc => ?_) (by rw [e9]; show S < q.kn + 1; omega)⟩
    rw [e10, zn_get, if_neg (by omega)]
  · by_cases hl : S < q.kn
    · exact hl
    · rw [e6, ke_no hl] at h8; cases h8
theorem KX3_Kp (hO : o = 260 ∨ o = 280) (hK : CK x C) (fy : fm sKp x y) (hT : KX3 C nl w x o T) : KX3 C nl w y o T := KX3_f hK (fun c k hc => fy c k (by unfold sKp; omega)) (fun k h1 h2 => fy _ _ (by unfold sKp; omega)) (fun s k _ => fy _ _ (by unfold sKp; omega)) (fun k => fy _ _ (by unfold sKp; omega)) (fun k => fy _ _ (by unfold sKp; omega)) (fy _ _ (by unfold sKp; omega)) (fy _ _ (by unfold sKp; omega)) (fun k => fy _ _ (by unfold sKp; omega)) (fun k => fy _ _ (by unfold sKp; omega)) (fun k => fy _ _ (by unfold sKp; omega)) hT
theorem KX3_p (hO : o = 260 ∨ o = 280) (hK : CK x C) (ez : y = si x o 1 1) (hT : KX3 C nl w x o T) : KX3 C nl w y o (T.1, true) := by
  have zc : ∀ c k, ¬ (c = o ∧ k = 1) → y.1 c k = x.1 c k := fun c k hc => by rw [ez, si_get, if_neg hc]
  obtain ⟨⟨u0, u1⟩, u2, u3, u4⟩ := hT
  refine ⟨⟨by rw [zc _ _ (by omega)]; exact u0, by rw [ez, si_get, if_pos ⟨rfl, rfl⟩]; rfl⟩, fun s p hp => KPs_ag hK (fun c k hc => zc c k (by omega)) (fun k h1 h2 => zc _ _ (by omega)) (fun k => zc _ _ (by omega)) (zc _ _ (by omega)) (u2 s p hp), ?_, fun s p hp => ?_⟩
  · unfold TBx
    rw [show y.1 205 = x.1 205 from funext (fun k => zc _ _ (by omega)), show y.1 204 = x.1 204 from funext (fun k => zc _ _ (by omega))]
    exact u3
  · rw [zc _ _ (by omega), zc _ _ (by omega), zc _ _ (by omega), zc _ _ (by omega), zc _ _ (by omega)]; exact u4 s p hp
theorem kx_addState3 (hu : kU q) (he : q.ex = true) (ho : kiT q o) (ht : q.et = some o) (hX : XI x q o) (hM : MM x 220) (hK : CK x C) (hN : NC C) (en : (x.1 60 9).toInt = (nl : Nat)) (g : KMm x 220 C M) (qi : MIv C w M) (qc : MCn C nl M) (qn : NBm M) (hT : KX3 C nl w x o T) (a b l : Int32) {A B lim : Nat} (ha : (a = -1 ∧ T.1.length = 0) ∨ (a.toInt = (A : Nat) ∧ A < T.1.length ∧ b.toInt = (B : Nat))) (el : l.toInt = (lim : Nat)) (hl3 : lim ≤ 3000) (h : ∀ y q1, kU q1 → kle q q1 → q1.et = q.et → fm (sKe o) x y → XI y q1 o → (∀ s k : Nat, (s : Int) < (x.1 o 0).toInt → y.1 (1000 + s) k = x.1 (1000 + s) k) → KX3 C nl w y o (adS lim A B T M) → Fm y q1) : KM G q (d + 4) zk_X2_addState 0 [(0, vr 200), (1, vi a), (2, vi b), (3, vi l)] [] x (rm q Fm) X := by
  have hO := iT_O ho
  have hkn := hu.2.2.2.2.1
  have T0 := hT.1.1
  have nk : T.1.length ≤ q.kn := by have := hX.2.2.1; omega
  obtain ⟨Ms, eMs⟩ : ∃ Ms : Nat → gMa, ∀ s p, T.1[s]? = some p → Ms s = p.1 := ⟨fun s => ((T.1[s]?).getD (M, 0, 0)).1, fun s p hp => congrArg (fun z : Option (gMa × Nat × Nat) => (z.getD (M, 0, 0)).1) hp⟩
  have hMs : ∀ s, s < T.1.length → KPs C nl w x s (Ms s) := fun s hs => by
    rw [eMs s _ (List.getElem?_eq_getElem hs)]
    exact hT.2.1 s _ (List.getElem?_eq_getElem hs)
  refine kg_X2_addState_0 hu he a b l (kx_isKept3 (Ms := Ms) hu.1 he hM hkn nk hK hN en g qc qn hMs hT.2.2.1 (fun r y gb fy hy hy6 hres => ?_))
  have fk : fm (sKe o) x y := fm_w fy (fun c k q => by unfold sKp at q; unfold sKe; omega)
  have hXy : XI y q o := XI_q hO (fm_w fy (fun c k q => by unfold sKp at q; unfold sQu; omega)) hX hkn
  have e0 : y.1 o 0 = x.1 o 0 := fy o 0 (by unfold sKp; omega)
  have row : ∀ s k : Nat, (s : Int) < (x.1 o 0).toInt → y.1 (1000 + s) k = x.1 (1000 + s) k := fun s k _ => fy _ _ (by unfold sKp; omega)
  obtain ⟨ac, am⟩ := sKe_C hO fk
  have hTy : KX3 C nl w y o T := KX3_Kp hO hK fy hT
  have hMy : MM y 220 := MM_ag ac am (fun k hk => fy _ _ (by unfold sKp; omega)) hM
  have hrY : ∀ k : Nat, (k : Int) < (x.1 220 5).toInt → y.1 (220 + 5) k = x.1 (220 + 5) k := fun k hk => fy _ _ (by unfold sKp; omega)
  have gy : KMm y 220 C M := KMm_in hM hK (gm_ag ac am) hrY g
  have emx : mxO y 220 = mxO x 220 := mx_same hM (gm_ag ac am) (rw_in hM hrY)
  have f205 : ∀ j, y.1 205 j = x.1 205 j := fun j => fy _ _ (by unfold sKp; omega)
  have hKy : CK y C := CK_f hK ac
  refine ⟨fun r0 => ?_, fun rn => ?_⟩
  · have nw : ¬ ∃ p ∈ T.1, p.1 = M := by
      rcases hres with ⟨c, -⟩ | ⟨-, c, -⟩
      · exact absurd r0 c
      · rintro ⟨p, p1, p2⟩
        obtain ⟨s, hs⟩ := List.mem_iff_getElem?.mp p1
        exact c s (gt_lt hs) (by rw [eMs s p hs]; exact p2)
    have sl : x.1 205 (y.1 200 5).toNatClampNeg = 0 ∧ ∃ p, p < 8192 ∧ (y.1 200 5).toNatClampNeg = ((mxO x 220 &&& 8191).toNatClampNeg + p) % 8192 ∧ ∀ i, i < p → ¬ x.1 205 (((mxO x 220 &&& 8191).toNatClampNeg + i) % 8192) = 0 := by
      rcases hres with ⟨c, -⟩ | ⟨-, -, c⟩
      · exact absurd r0 c
      · exact c
    intro u4 e4
    refine ⟨o, by rw [e4, et_r ht], ho, fun cl => ?_, fun cl u10 e10 => ⟨o, by rw [e10, et_r ht], ho, fun z ez => ?_⟩⟩
    · rw [t_lt, e0, el] at cl
      refine kx_keep3 (d := d + 1) (A := A) (B := B) hu he ho ht hXy hMy hKy gy qi qc qn hTy hy (by rw [hy6, emx]) (by rw [f205]; exact sl.1) (by rw [emx, show y.1 205 = x.1 205 from funext f205]; exact sl.2) a b ha (by omega) (fun z q1 hu1 hl1 et1 fz hXz hrz hTz => rm_i hu1 hl1 (h z q1 hu1 hl1 et1 (fm_tr fk fz) hXz (fun s k hs => (hrz s k (by rw [e0]; exact hs)).trans (row s k hs)) ?_))
      rw [adS_new nw (by omega)]; exact hTz
    · rw [t_lt, e0, el] at cl
      have fz : fm (sQu o) y z := by rw [ez]; exact fm_si (fm_rf _ _) (by unfold sQu; omega)
      refine rm_i hu (kle_rf q) (h z q hu (kle_rf q) rfl (fm_tr fk (by rw [ez]; exact fm_si (fm_rf _ _) (by unfold sKe; omega))) (XI_q hO fz hXy hkn) (fun s k hs => ?_) ?_)
      · rw [fz _ _ (by clear sl hres; unfold sQu; omega)]; exact row s k hs
      · rw [adS_full nw (by omega)]
        exact KX3_p hO hKy ez hTy
  · have od : ∃ p ∈ T.1, p.1 = M := by
      rcases hres with ⟨-, s, s1, s2⟩ | ⟨c, -⟩
      · have hg := List.getElem?_eq_getElem s1
        exact ⟨_, List.mem_of_getElem? hg, by rw [← eMs s _ hg]; exact s2⟩
      · exact absurd c rn
    refine rm_i hu (kle_rf q) (h y q hu (kle_rf q) rfl fk hXy row ?_)
    rw [adS_old od]; exact hTy
end KAD
