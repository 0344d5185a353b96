/-! the class: all that can be done is tried -/
/-- what stands while states are looked at -/
def XI (x : gd) (q : kP) (o : Nat) : Prop := (CO x ∧ MG x 220) ∧ (TZ x o ∧ TO x q o) ∧ (x.1 o 0).toInt ≤ q.kn ∧ (∀ s : Nat, (s : Int) < (x.1 o 0).toInt → KR x s) ∧ ∀ j : Nat, j < 8192 → 0 ≤ (x.1 205 j).toInt ∧ (x.1 205 j).toInt ≤ (x.1 o 0).toInt
/-- what the list says of the state that is looked at -/
def LK (x : gd) (s : Nat) : Prop := LSk (scp x (1000 + s) 225 0 0 (x.1 220 5).toNatClampNeg) 220
def sQu (o c k : Nat) : Prop := c = 225 ∨ (c = 220 ∧ (k = 13 ∨ k = 14)) ∨ (231 ≤ c ∧ c ≤ 233) ∨ c = 209 ∨ c = 210 ∨ c = 240 ∨ (c = 200 ∧ (k = 5 ∨ k = 6)) ∨ (c = o ∧ (k = 1 ∨ k = 2 ∨ k = 4 ∨ k = 5)) ∨ c = o + 8 ∨ c = o + 9 ∨ (c = 60 ∧ k = 5) ∨ c = 65
def sWd (o c k : Nat) : Prop := sQu o c k ∨ c = o + 7 ∨ (c = o ∧ k = 3) ∨ c = o + 14 ∨ 4000 ≤ c
/-- all that a trying changes -/
def sEx (o c k : Nat) : Prop := (200 ≤ c ∧ c ≤ 259) ∨ (o ≤ c ∧ c ≤ o + 14) ∨ 1000 ≤ c ∨ (c = 60 ∧ k = 5) ∨ c = 65
section KAL
variable {G : kG} {q q0 q1 : kP} {d : Nat} {x x0 y z : gd} {o : Nat} {F : Int32 → gd → Prop} {Fv : gd → Prop} {Fm : gd → kP → Prop} {X : String → gd → kP → Prop}
theorem sWd_C (hO : o = 260 ∨ o = 280) (f : fm (sWd o) x y) : agC x y ∧ agM 220 x y := ⟨fun c k hc => f c k (by unfold sWd sQu; omega), fun k h1 h2 => f _ _ (by unfold sWd sQu; omega)⟩
theorem XI_w (hO : o = 260 ∨ o = 280) (f : fm (sWd o) x y) (hz : TZ y o) (ht : TO y q1 o) (hk : q.kn ≤ q1.kn) (h : XI x q o) (h3 : q.kn ≤ 3000) : XI y q1 o := by
  obtain ⟨⟨hC, hG⟩, -, hn, hr, hb⟩ := h
  obtain ⟨hc, hm⟩ := sWd_C hO f
  have e0 : y.1 o 0 = x.1 o 0 := f o 0 (by unfold sWd sQu; omega)
  refine ⟨⟨CO_fm hC hc, MG_ag hc hm hG⟩, ⟨hz, ht⟩, by rw [e0]; omega, fun s hs => ?_, fun j hj => ?_⟩
  · rw [e0] at hs
    exact KR_ag hc hm (fun k hk => f _ _ (by unfold sWd sQu; omega)) (hr s hs)
  · rw [e0, f 205 j (by unfold sWd sQu; omega)]; exact hb j hj
theorem XI_q (hO : o = 260 ∨ o = 280) (f : fm (sQu o) x y) (h : XI x q o) (h3 : q.kn ≤ 3000) : XI y q o :=
  XI_w hO (fm_w f (fun c k q => Or.inl q)) (TZ_fm f (by unfold sQu; omega) (fun c k hc => by unfold sQu; omega) h.2.1.1) (TO_fm f (by unfold sQu; omega) (fun k => by unfold sQu; omega) h.2.1.2) (Nat.le_refl _) h h3
theorem LK_ag {s : Nat} (hk : KR x s) (hc : agC x y) (hm : agM 220 x y) (hr : ∀ k : Nat, k < (x.1 220 5).toNatClampNeg → y.1 (1000 + s) k = x.1 (1000 + s) k) (h13 : y.1 220 13 = x.1 220 13) (h1 : ∀ k, y.1 231 k = x.1 231 k) (h2 : ∀ k, y.1 232 k = x.1 232 k) (h : LK x s) : LK y s := by
  unfold LK at h ⊢
  rw [hm 5 (by omega) (by omega)]
  refine LSk_ag hk ?_ ?_ ?_ ?_ ?_ ?_ h
  · intro c k hk
    rw [scp_get, if_neg (by omega), scp_get, if_neg (by omega)]; exact hc c k hk
  · intro k h1 h2
    rw [scp_get, if_neg (by omega), scp_get, if_neg (by omega)]; exact hm k h1 h2
  · intro k hk
    have h5 : (scp x (1000 + s) 225 0 0 (x.1 220 5).toNatClampNeg).1 220 5 = x.1 220 5 := by rw [scp_get, if_neg (by omega)]
    rw [h5] at hk
    have hk2 : k < (x.1 220 5).toNatClampNeg := by rw [t_cl]; omega
    rw [scp_get, if_pos ⟨rfl, by omega, by omega⟩, scp_get, if_pos ⟨rfl, by omega, by omega⟩]
    exact hr _ (by omega)
  · rw [scp_get, if_neg (by omega), scp_get, if_neg (by omega)]; exact h13
  · intro k
    rw [scp_get, if_neg (by omega), scp_get, if_neg (by omega)]; exact h1 k
  · intro k
    rw [scp_get, if_neg (by omega), scp_get, if_neg (by omega)]; exact h2 k
/-- after a state was recalled the list speaks of the machine -/
theorem LK_of {s : Nat} (e : y = scp x (1000 + s) 225 0 0 (x.1 220 5).toNatClampNeg) (h : LK x s) : LSk y 220 := by rw [e]; exact h
/-- a state that was recalled, and listed: the list speaks of what was kept -/
theorem LK_to {s : Nat} (e : y = scp x (1000 + s) 225 0 0 (x.1 220 5).toNatClampNeg) (hy : MM y 220) (f : fm (sLi 220) y z) (h : LSk z 220) : LK z s := by
  have hMz : MM z 220 := MM_Li (Or.inr rfl) f hy
  unfold LK
  refine LSk_ag hMz (fun c k hc => by rw [scp_get, if_neg (by omega)]) (fun k h1 h2 => by rw [scp_get, if_neg (by omega)]) (fun k hk => ?_) (by rw [scp_get, if_neg (by omega)]) (fun k => by rw [scp_get, if_neg (by omega)]) (fun k => by rw [scp_get, if_neg (by omega)]) h
  have e5 : z.1 220 5 = x.1 220 5 := by rw [f 220 5 (by unfold sLi; omega), e, scp_get, if_neg (by omega)]
  rw [e5] at hk
  have hk2 : k < (x.1 220 5).toNatClampNeg := by rw [t_cl]; omega
  show (scp z (1000 + s) 225 0 0 (z.1 220 5).toNatClampNeg).1 225 k = z.1 225 k
  rw [scp_get, e5, if_pos ⟨rfl, by omega, by omega⟩, f 225 k (by unfold sLi; omega), f _ _ (by unfold sLi; omega), e, scp_get, if_neg (by omega), scp_get, if_pos ⟨rfl, by omega, by omega⟩]
def sKe (o c k : Nat) : Prop := (c = 200 ∧ (k = 5 ∨ k = 6)) ∨ (c = o ∧ (k = 0 ∨ k = 1)) ∨ (o + 10 ≤ c ∧ c ≤ o + 12) ∨ c = 204 ∨ c = 205 ∨ (1000 ≤ c ∧ c < 4000)
theorem sKe_C (hO : o = 260 ∨ o = 280) (f : fm (sKe o) x y) : agC x y ∧ agM 220 x y := ⟨fun c k hc => f c k (by unfold sKe; omega), fun k h1 h2 => f _ _ (by unfold sKe; omega)⟩
theorem kx_keep (hu : kU q) (he : q.ex = true) (ho : kiT q o) (ht : q.et = some o) (hX : XI x q o) (hM : MM x 220) (hs : 0 ≤ (x.1 200 5).toInt ∧ (x.1 200 5).toInt < 8192) (a b : Int32) (ha : a = -1 ∨ (0 ≤ a.toInt ∧ a.toInt < (x.1 o 0).toInt)) (h : ∀ y q1, kU q1 → kle q q1 → q1.et = q.et → fm (sKe o) x y → XI y q1 o → (x.1 o 0).toInt ≤ (y.1 o 0).toInt → (∀ s k : Nat, (s : Int) < (x.1 o 0).toInt → y.1 (1000 + s) k = x.1 (1000 + s) k) → Fm y q1) : KM G q (d + 2) zk_X2_keep 0 [(0, vr 200), (1, vi a), (2, vi b)] [] x (rm q Fm) X := by
  have hO := iT_O ho
  have k3 : (3000 : Int32).toInt = 3000 := rfl
  have k0 : (0 : Int32).toInt = 0 := rfl
  have k1 : (1 : Int32).toInt = 1 := rfl
  have hX0 := hX
  obtain ⟨⟨hC, hG⟩, ⟨hz, hT⟩, hn, hr, hb⟩ := hX
  have bz := hz.1
  have bsz := sz_b hC hG
  obtain ⟨S, hS⟩ : ∃ S : Nat, (x.1 o 0).toInt = S := ⟨(x.1 o 0).toInt.toNat, by omega⟩
  have part2 : ∀ (q1 : kP) (z : gd), kU q1 → kle q q1 → q1.et = q.et → fm (fun c k => c = 1000 + S) x z → S < q1.kn → S < 3000 → KM G q1 (d + 2) zk_X2_keep 36 [(0, vr 200), (1, vi a), (2, vi b), (3, vi (x.1 o 0))] [] z (rm q Fm) X := by
    intro q1 z hu1 hl1 et1 fz hN hS3
    have ho1 := kle_T hl1 ho
    have he1 := hl1.2.1.2.1 he
    have ht1 : q1.et = some o := by rw [et1]; exact ht
    refine kg_X2_keep_36 hu1 he1 a b _ ⟨by rw [vp_in_iff]; omega, fun u eu => ?_⟩
    have tS : (x.1 o 0).toNatClampNeg = S := by rw [t_cl, hS]; rfl
    rw [tS, ke_r hN] at eu
    rw [tS, fz 220 5 (by omega)]
    refine ⟨_, eu, ke_k hS3, ke_m hu1.1 hN, by decide, by decide, by rw [t_lt, k0]; omega, by rw [tn0, t_cl]; omega, by rw [tn0, t_cl]; omega, fun x11 e11 => ⟨by rw [vp_in_iff]; omega, fun x13 e13 => ?_⟩⟩
    have g13 : ∀ c k, ¬ c = 1000 + S → ¬ c = 204 → x13.1 c k = x.1 c k := by
      intro c k h1 h2
      rw [e13, si_get, if_neg (fun z => h2 z.1), e11, scp_get, if_neg (fun z => h1 z.1)]; exact fz c k h1
    rw [g13 200 5 (by omega) (by omega)]
    refine ⟨by rw [vp_in_iff]; omega, fun x15 e15 u16 e16 => ⟨o, by rw [e16, et_r ht1], ho1, ?_⟩⟩
    have e01 : (x.1 o 0 + 1).toInt = (x.1 o 0).toInt + 1 := by rw [t_add (by rw [k1]; omega) (by rw [k1]; omega), k1]
    have g15 : ∀ c k, ¬ c = 1000 + S → ¬ c = 204 → ¬ c = 205 → x15.1 c k = x.1 c k := by
      intro c k h1 h2 h3
      rw [e15, si_get, if_neg (fun z => h3 z.1)]; exact g13 c k h1 h2
    have f15 : fm (fun c k => c = 1000 + S ∨ c = 204 ∨ c = 205) x x15 := fun c k hc => g15 c k (fun z => hc (Or.inl z)) (fun z => hc (Or.inr (Or.inl z))) (fun z => hc (Or.inr (Or.inr z)))
    have row : ∀ k, k < (x.1 220 5).toNatClampNeg → x15.1 (1000 + S) k = x.1 225 k := by
      intro k hk
      rw [e15, si_get, if_neg (by omega), e13, si_get, if_neg (by omega), e11, scp_get, if_pos ⟨rfl, by rw [tn0]; omega, by rw [tn0]; omega⟩, tn0, fz _ _ (by omega), show 0 + (k - 0) = k by omega]
    have z15 : TZ x15 o := TZ_fm f15 (by omega) (fun c k hc => by omega) hz
    refine kt_addState hu1.1 ho1 a b z15 (by rw [g15 o 0 (by omega) (by omega) (by omega)]; exact ha) (fun y fy hzy hey => ?_)
    rw [g15 o 0 (by omega) (by omega) (by omega)] at hey
    have hey := hey (by omega)
    have fall : fm (sKe o) x y := fun c k hc => by
      unfold sKe at hc
      rw [fy c k (by unfold sTs; omega)]; exact g15 c k (by omega) (by omega) (by omega)
    obtain ⟨ac, am⟩ := sKe_C hO fall
    have hrow : ∀ s k : Nat, (s : Int) < (x.1 o 0).toInt → y.1 (1000 + s) k = x.1 (1000 + s) k := fun s k hs2 => by
      rw [fy _ k (by unfold sTs; omega)]; exact g15 _ k (by omega) (by omega) (by omega)
    refine rm_i hu1 hl1 (h y q1 hu1 hl1 et1 fall ⟨⟨CO_fm hC ac, MG_ag ac am hG⟩, ⟨hzy, ?_⟩, by omega, fun s hs2 => ?_, fun j hj => ?_⟩ (by omega) hrow)
    · refine TO_le hu1 hl1 (TO_fm fall (by unfold sKe; omega) (fun k => by unfold sKe; omega) hT)
    · by_cases hsS : s = S
      · subst hsS
        unfold KR
        have y5 : y.1 220 5 = x.1 220 5 := am 5 (by omega) (by omega)
        rw [y5]
        refine MM_ag ?_ ?_ ?_ hM
        · intro c k hc
          rw [scp_get, if_neg (by omega)]; exact ac c k hc
        · intro k h1 h2
          rw [scp_get, if_neg (by omega)]; exact am k h1 h2
        · intro k hk
          have hk2 : k < (x.1 220 5).toNatClampNeg := by rw [t_cl]; omega
          rw [scp_get, if_pos ⟨rfl, by omega, by omega⟩, fy _ _ (by unfold sTs; omega), show 0 + (k - 0) = k by omega]
          exact row k hk2
      · exact KR_ag ac am (fun k hk => hrow s k (by omega)) (hr s (by omega))
    · rw [fy 205 j (by unfold sTs; omega), e15, si_get, hey]
      by_cases hj2 : j = (x.1 200 5).toNatClampNeg
      · rw [if_pos ⟨rfl, hj2⟩, e01]; omega
      · rw [if_neg (fun z => hj2 z.2), g13 205 j (by omega) (by omega)]
        have := hb j hj
        omega
  refine kg_X2_keep_0 hu he a b (fun u eu => ⟨o, by rw [eu, et_r ht], ho, fun c => ?_, fun c => rm_i hu (kle_rf q) (h x q hu (kle_rf q) rfl (fm_rf _ _) hX0 (Int.le_refl _) (fun _ _ _ => rfl))⟩)
  rw [t_lt, k3] at c
  have v3 : vp_in (x.1 o 0) 3000 := by rw [vp_in_iff]; omega
  have tS : (x.1 o 0).toNatClampNeg = S := by rw [t_cl, hS]; rfl
  rw [tS]
  refine ⟨v3, fun u6 e6 => ⟨fun hno => ?_, fun c8 h8 => part2 q x hu (kle_rf q) rfl (fm_rf _ _) ?_ (by omega)⟩⟩
  · have hN : S = q.kn := by
      by_cases hl : S < q.kn
      · rw [e6, ke_r hl] at hno; cases hno
      · omega
    refine ⟨hN, v3, fun q9 x10 e9 e10 hu9 hl9 => part2 q9 x10 hu9 hl9 (by rw [e9]; rfl) (fun c k hc => ?_) (by rw [e9]; show S < q.kn + 1; omega) (by omega)⟩
    rw [e10, zn_get, if_neg (by omega)]
  · by_cases hl : S < q.kn
    · exact hl
    · rw [e6, ke_no hl] at h8; cases h8
theorem kx_addState (hu : kU q) (he : q.ex = true) (ho : kiT q o) (ht : q.et = some o) (hX : XI x q o) (hM : MM x 220) (a b l : Int32) (ha : a = -1 ∨ (0 ≤ a.toInt ∧ a.toInt < (x.1 o 0).toInt)) (h : ∀ y q1, kU q1 → kle q q1 → q1.et = q.et → fm (sKe o) x y → XI y q1 o → (x.1 o 0).toInt ≤ (y.1 o 0).toInt → (∀ s k : Nat, (s : Int) < (x.1 o 0).toInt → y.1 (1000 + s) k = x.1 (1000 + s) k) → Fm y q1) : KM G q (d + 4) zk_X2_addState 0 [(0, vr 200), (1, vi a), (2, vi b), (3, vi l)] [] x (rm q Fm) X := by
  have hO := iT_O ho
  have hkn := hu.2.2.2.2.1
  refine kg_X2_addState_0 hu he a b l (kx_isKept hu.1 he hM hkn (fun j hj => by have := hX.2.2.2.2 j hj; have := hX.2.2.1; omega) (fun r y gb fy hy => ?_))
  have fk : fm (sKe o) x y := fm_w fy (fun c k q => by unfold sKp at q; unfold sKe; omega)
  have hXy : XI y q o := XI_q hO (fm_w fy (fun c k q => by unfold sKp at q; unfold sQu; omega)) hX hkn
  have e0 : y.1 o 0 = x.1 o 0 := fy o 0 (by unfold sKp; omega)
  have row : ∀ s k : Nat, (s : Int) < (x.1 o 0).toInt → y.1 (1000 + s) k = x.1 (1000 + s) k := fun s k _ => fy _ _ (by unfold sKp; omega)
  refine ⟨fun _ u4 e4 => ⟨o, by rw [e4, et_r ht], ho, fun _ => ?_, fun _ u10 e10 => ⟨o, by rw [e10, et_r ht], ho, fun z ez => ?_⟩⟩, fun _ => rm_i hu (kle_rf q) (h y q hu (kle_rf q) rfl fk hXy (by rw [e0]; exact Int.le_refl _) row)⟩
  · have hMy : MM y 220 := MM_ag (fun c k hc => fy c k (by unfold sKp; omega)) (fun k h1 h2 => fy _ _ (by unfold sKp; omega)) (fun k hk => fy _ _ (by unfold sKp; omega)) hM
    exact kx_keep (d := d + 1) hu he ho ht hXy hMy hy a b (by rw [e0]; exact ha) (fun w q1 hu1 hl1 et1 fw hXw hle hrw => rm_i hu1 hl1 (h w q1 hu1 hl1 et1 (fm_tr fk fw) hXw (by rw [e0] at hle; exact hle) (fun s k hs => (hrw s k (by rw [e0]; exact hs)).trans (row s k hs))))
  · have fz : fm (sQu o) y z := by rw [ez]; exact fm_si (fm_rf _ _) (by unfold sQu; omega)
    refine rm_i hu (kle_rf q) (h z q hu (kle_rf q) rfl (fm_tr fk (by rw [ez]; exact fm_si (fm_rf _ _) (by unfold sKe; omega))) (XI_q hO fz hXy hkn) ?_ (fun s k hs => ?_))
    · rw [fz o 0 (by unfold sQu; omega), e0]; exact Int.le_refl _
    · rw [fz _ _ (by unfold sQu; omega)]; exact row s k hs
end KAL
