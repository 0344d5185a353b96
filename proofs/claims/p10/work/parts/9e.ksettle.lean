/-! the class: a thread settles -/
section KSE
variable {G : kG} {q : kP} {d : Nat} {x x0 y z : gd} {o : Nat} {R : Nat → Nat → Int32} {F : Int32 → gd → Prop} {Fv : gd → Prop}
def sSt (o c k : Nat) : Prop := c = o + 5 ∨ (c = 60 ∧ k = 5) ∨ c = 65
theorem sSt_M {c k : Nat} (h : sSt o c k) : sMk o c k := by unfold sSt at h; unfold sMk; omega
theorem TA_set (hO : o = 120 ∨ o = 220) (hC : CO x) (hG : MG x o) {T K t : Nat} {v : Int32} (hK : (K : Int) < (x.1 o 9).toInt) (h7 : K ≠ 7) (e : y = si x (o + 5) (pa x o T K) v) (hA : TA x o t) (c2 : t = T → K = 2 → 0 ≤ v.toInt ∧ v.toInt < ssm x) (c0 : t = T → K = 0 → v = 0 → rg x o T 3 = 0) (c3 : t = T → K = 3 → rg x o T 0 = 0 → v = 0) : TA y o t := by
  obtain ⟨b1, b2, b3, b4, b5, -⟩ := MG_b hC hG
  have g : ∀ k : Nat, (k : Int) < (x.1 o 8).toInt → rg y o t k = if t = T ∧ k = K then v else rg x o t k := fun k hk => rg_set hO hC hG (by omega) hk e
  have f : ∀ c k, c ≠ o + 5 → y.1 c k = x.1 c k := fun c k hc => by rw [e, si_cell hc]
  obtain ⟨a1, a2, a3, a4, a5⟩ := hA
  have e7 : rg y o t 7 = rg x o t 7 := by rw [g 7 (by omega), if_neg (fun q => h7 q.2.symm)]
  unfold TA ssm
  rw [e7, f 80 9 (by omega), f o 3 (by omega), f o 9 (by omega), f 60 6 (by omega)]
  refine ⟨?_, a2, a3, fun j hj => ?_, fun c => ?_⟩
  · rw [g 2 (by omega)]
    by_cases h : t = T ∧ 2 = K
    · rw [if_pos h]; exact c2 h.1 h.2.symm
    · rw [if_neg h]; exact a1
  · have hw : x.1 o 3 = 1 := by
      by_cases hw : x.1 o 3 = 1
      · exact hw
      · have h0 := a3 hw
        rw [h0] at hj
        have : (0 : Int32).toInt = 0 := rfl
        omega
    have := b5 hw
    rw [g _ (by omega), if_neg (fun q => by omega)]
    exact a4 j hj
  · rw [g 3 (by omega)]
    rw [g 0 (by omega)] at c
    by_cases h : t = T ∧ 3 = K
    · rw [if_pos h]
      rw [if_neg (fun q => by omega)] at c
      exact c3 h.1 h.2.symm (by rw [← h.1]; exact c)
    · rw [if_neg h]
      by_cases h0 : t = T ∧ 0 = K
      · rw [if_pos h0] at c
        rw [h0.1]; exact c0 h0.1 h0.2.symm c
      · rw [if_neg h0] at c
        exact a5 c
theorem TGo_set (hO : o = 120 ∨ o = 220) (hC : CO x) (hG : MG x o) {T K t : Nat} {v : Int32} (hK : (K : Int) < (x.1 o 8).toInt) (e : y = si x (o + 5) (pa x o T K) v) (hh : t ≠ T ∨ (K ≠ 0 ∧ K ≠ 2 ∧ K ≠ 3)) (h : TGo x o t) : TGo y o t := by
  obtain ⟨b1, b2, -⟩ := MG_b hC hG
  have g : ∀ k : Nat, k = 0 ∨ k = 2 ∨ k = 3 → rg y o t k = rg x o t k := fun k hk => by
    rw [rg_set hO hC hG hK (by omega) e, if_neg (fun q => by omega)]
  unfold TGo sop at h ⊢
  rw [g 0 (by omega), g 2 (by omega), g 3 (by omega), e, si_cell (by omega)]
  exact h
theorem st_f {z9 : Nat} {v : Int32} (e : y = si x (o + 5) z9 v) : fm (sSt o) x y := by rw [e]; exact fm_si (fm_rf _ _) (Or.inl rfl)
theorem MS_set (hO : o = 120 ∨ o = 220) {T K : Nat} {v : Int32} (h : MS R x o T) (hK : (K : Int) < (x.1 o 9).toInt) (h7 : K ≠ 7) (e : y = si x (o + 5) (pa x o T K) v) (c2 : K = 2 → 0 ≤ v.toInt ∧ v.toInt < ssm x) (c0 : K = 0 → v = 0 → rg x o T 3 = 0) (c3 : K = 3 → rg x o T 0 = 0 → v = 0) : MS R y o T := by
  have g := fm_w (st_f e) (fun c k q => sSt_M q)
  obtain ⟨b1, b2, b3, b4, -⟩ := MG_b h.1 h.2.1
  refine ⟨CO_M hO h.1 g, MG_M hO h.2.1 g, fun t ht => ?_, fun t k hne hk => ?_⟩
  · rw [g 60 10 (by unfold sMk; omega)] at ht
    exact ⟨TA_set hO h.1 h.2.1 hK h7 e (h.2.2.1 t ht).1 (fun _ => c2) (fun _ => c0) (fun _ => c3), fun hne => TGo_set hO h.1 h.2.1 (by omega) e (Or.inl hne) ((h.2.2.1 t ht).2 hne)⟩
  · rw [g o 8 (by unfold sMk; omega)] at hk
    rw [rg_set hO h.1 h.2.1 (by omega) hk e, if_neg (fun q => hne q.1)]
    exact h.2.2.2 t k hne hk
theorem MS_St (hO : o = 120 ∨ o = 220) {T : Nat} (f : fm sWk x y) (h : MS R x o T) : MS R y o T := by
  have g : fm (sMk o) x y := fm_w f (fun c k q => by unfold sWk at q; unfold sMk; omega)
  have e : ∀ t k, rg y o t k = rg x o t k := fun t k => rg_eq hO (fm_w f (fun c k q => by unfold sWk at q; omega)) t k
  refine ⟨CO_M hO h.1 g, MG_M hO h.2.1 g, fun t ht => ?_, fun t k hne hk => ?_⟩
  · rw [g 60 10 (by unfold sMk; omega)] at ht
    exact ⟨TA_eq hO g (h.2.2.1 t ht).1 (e t), fun hne => TGo_eq hO g ((h.2.2.1 t ht).2 hne) (fun k _ => e t k)⟩
  · rw [g o 8 (by unfold sMk; omega)] at hk
    rw [e]; exact h.2.2.2 t k hne hk
/-- a set field of the settling thread -/
theorem ks_set (hq : kV q) (ho : kiM q o) {T K : Nat} (hM : MS R x o T) (hT : T < 6) (t f v : Int32) (et : t.toInt = T) (ef : f.toInt = K) (hK : (K : Int) < (x.1 o 9).toInt) (h7 : K ≠ 7) (c2 : K = 2 → 0 ≤ v.toInt ∧ v.toInt < ssm x) (c0 : K = 0 → v = 0 → rg x o T 3 = 0) (c3 : K = 3 → rg x o T 0 = 0 → v = 0) (h : ∀ y, MS R y o T → fm (sSt o) x y → (∀ k : Nat, (k : Int) < (x.1 o 9).toInt → rg y o T k = if k = K then v else rg x o T k) → Fv y) : KT G q d zk_X5_set 0 [(0, vr o), (1, vi t), (2, vi f), (3, vi v)] [] x (rv Fv) := by
  have hO := kiM_O ho
  obtain ⟨b1, b2, b3, b4, -⟩ := MG_b hM.1 hM.2.1
  refine kp_set hq ho hM.1 hM.2.1 _ _ _ et ef hT (by omega) (fun y ey => h y (MS_set hO hM hK h7 ey c2 c0 c3) (st_f ey) (fun k hk => ?_))
  rw [rg_set hO hM.1 hM.2.1 (by omega) (by omega) ey]
  by_cases hh : k = K
  · rw [if_pos ⟨rfl, hh⟩, if_pos hh]
  · rw [if_neg (fun q => hh q.2), if_neg hh]
theorem ks_fail (hq : kV q) (ho : kiM q o) {T : Nat} (hM : MS R x o T) (hT : T < 6) (t n : Int32) (et : t.toInt = T) (h : ∀ y, MS R y o T → fm (sSt o) x y → rg y o T 0 = 3 → rg y o T 3 = rg x o T 3 → Fv y) : KT G q (d + 1) zk_X5_fail 0 [(0, vr o), (1, vi t), (2, vi n)] [] x (rv Fv) := by
  obtain ⟨-, -, b3, -⟩ := MG_b hM.1 hM.2.1
  refine kg_X5_fail_0 hq ho _ _ (ks_set hq ho hM hT _ _ _ et (show (0 : Int32).toInt = ((0 : Nat) : Int) from rfl) (by omega) (by omega) (fun c => by omega) (fun _ c => absurd c (by decide)) (fun c => by omega) (fun y hy fy gy => ?_))
  have y9 : y.1 o 9 = x.1 o 9 := fy _ _ (by unfold sSt; have := kiM_O ho; omega)
  refine ks_set hq ho hy hT _ _ _ et (show (1 : Int32).toInt = ((1 : Nat) : Int) from rfl) (by rw [y9]; omega) (by omega) (fun c => by omega) (fun c => by omega) (fun c => by omega) (fun z hz fz gz => rv_i (h z hz (fm_tr fy fz) ?_ ?_))
  · rw [gz 0 (by rw [y9]; omega), if_neg (by omega), gy 0 (by omega), if_pos rfl]
  · rw [gz 3 (by rw [y9]; omega), if_neg (by omega), gy 3 (by omega), if_neg (by omega)]
theorem ks_blank (hq : kV q) (ho : kiM q o) {T : Nat} (hM : MS R x o T) (hT : T < 6) (hTt : (T : Int) < (x.1 60 10).toInt) (t : Int32) (et : t.toInt = T) (h : ∀ y, MS R y o T → fm (sSt o) x y → (∀ k, k < 8 → rg y o T k = rg x o T k) → Fv y) : KT G q (d + 2) zk_X5_blankUnknown 0 [(0, vr o), (1, vi t)] [] x (rv Fv) := by
  have hO := kiM_O ho
  have k8 : (8 : Int32).toInt = 8 := rfl
  have m8 := hM.1.1.2.2.2.1
  have loop : ∀ (n : Nat) (i : Int32) (y : gd), MS R y o T → fm (sSt o) x y → (∀ k, k < 8 → rg y o T k = rg x o T k) → 0 ≤ i.toInt → (x.1 60 13).toInt - i.toInt ≤ n → KT G q (d + 2) zk_X5_blankUnknown 6 [(0, vr o), (1, vi t), (2, vi i)] [] y (rv Fv) := by
    intro n
    induction n with
    | zero =>
      intro i y hy fy gy i0 hn
      refine kg_X5_blankUnknown_6 hq ho _ _ ⟨fun _ => rv_i (h y hy fy gy), fun c => ?_⟩
      exfalso; rw [fy 60 13 (by unfold sSt; omega), t_le] at c; omega
    | succ n ih =>
      intro i y hy fy gy i0 hn
      refine kg_X5_blankUnknown_6 hq ho _ _ ⟨fun _ => rv_i (h y hy fy gy), fun c => ?_⟩
      rw [fy 60 13 (by unfold sSt; omega), t_le] at c
      have e1 : (i + 1).toInt = i.toInt + 1 := t_add (by show _ ≤ _ + (1 : Int); omega) (by show _ + (1 : Int) ≤ _; omega)
      have e2 : (8 + i).toInt = ((8 + i.toInt.toNat : Nat) : Int) := by rw [t_add (by rw [k8]; omega) (by rw [k8]; omega), k8]; omega
      have y9 : (y.1 o 9).toInt = 8 + (x.1 60 13).toInt := by rw [fy o 9 (by unfold sSt; omega)]; exact hM.2.1.2.2.2.1
      refine ks_set hq ho hy hT _ _ _ et e2 (by omega) (by omega) (fun c => by omega) (fun c => by omega) (fun c => by omega) (fun z hz fz gz => ih _ z hz (fm_tr fy fz) (fun k hk => ?_) (by omega) (by omega))
      rw [gz k (by omega), if_neg (by omega)]; exact gy k hk
  exact kg_X5_blankUnknown_0 hq ho _ (kp_known hq ho hM.1 hM.2.1 _ et hT (hM.2.2.1 T hTt).1 (fun r r0 r8 => loop 8 _ x hM (fm_rf _ _) (fun _ _ => rfl) r0 (by omega)))
theorem ks_own (hq : kV q) (ho : kiM q o) {T : Nat} (hM : MS R x o T) (hT : T < 6) (hTt : (T : Int) < (x.1 60 10).toInt) (t : Int32) (et : t.toInt = T) (h16 : 16 ≤ sop x (rg x o T 2).toInt.toNat) (h : ∀ r y, MS R y o T → fm (sSt o) x y → rg y o T 3 = rg x o T 3 → (r = 0 → 20 ≤ sop x (rg x o T 2).toInt.toNat → ¬ rg y o T 0 = 1 ∨ (rg x o T 2).toInt < (rg y o T 2).toInt ∨ sop x (rg y o T 2).toInt.toNat = 17) → F r y) : KT G q (d + 2) zk_X5_ownFailure 0 [(0, vr o), (1, vi t), (2, vi (rg x o T 2)), (3, vi (x.1 81 (rg x o T 2).toInt.toNat))] [] x (ri F) := by
  have hO := kiM_O ho
  have k8 : (8 : Int32).toInt = 8 := rfl
  have k1 : (1 : Int32).toInt = 1 := rfl
  obtain ⟨v, e, l⟩ := MM_st hM.1 (hM.2.2.1 T hTt).1
  obtain ⟨b1, b2, b3, b4, b5, b6, b7⟩ := MG_b hM.1 hM.2.1
  have hcs := (hM.1.2.2.2.1 _ l).2
  have s35 := hM.1.2.2.1.2
  have hA := (hM.2.2.1 T hTt).1
  obtain ⟨st, est⟩ : ∃ st, st = (rg x o T 2).toInt.toNat := ⟨_, rfl⟩
  rw [← est] at h h16 l hcs ⊢
  have est2 : (rg x o T 2).toInt = st := by have := hA.1.1; omega
  have eN : (rg x o T 2).toNatClampNeg = st := by rw [t_cl, est2]; rfl
  have p12 : KT G q (d + 2) zk_X5_ownFailure 12 [(0, vr o), (1, vi t)] [] x (ri F) := by
    refine kg_X5_ownFailure_12 hq ho _ (ks_set hq ho hM hT _ _ _ et (show (0 : Int32).toInt = ((0 : Nat) : Int) from rfl) (by omega) (by omega) (fun c => by omega) (fun _ c => absurd c (by decide)) (fun c => by omega) (fun y hy fy gy => ?_))
    have y9 : y.1 o 9 = x.1 o 9 := fy _ _ (by unfold sSt; omega)
    have ys : ssm y = ssm x := by unfold ssm; rw [fy 80 9 (by unfold sSt; omega)]
    refine ks_set hq ho hy hT _ _ _ et (show (2 : Int32).toInt = ((2 : Nat) : Int) from rfl) (by rw [y9]; omega) (by omega) (fun _ => ⟨by decide, by rw [ys]; show (0 : Int) < _; omega⟩) (fun c => by omega) (fun c => by omega) (fun z hz fz gz => ri_i (h _ z hz (fm_tr fy fz) ?_ (fun _ _ => Or.inl ?_)))
    · rw [gz 3 (by rw [y9]; omega), if_neg (by omega), gy 3 (by omega), if_neg (by omega)]
    · rw [gz 0 (by rw [y9]; omega), if_neg (by omega), gy 0 (by omega), if_pos rfl]; decide
  -- a step is set
  have setp : ∀ (y : gd) (s2 : Int32), MS R y o T → fm (sSt o) x y → rg y o T 3 = rg x o T 3 → (0 ≤ s2.toInt ∧ s2.toInt < ssm x) → (20 ≤ sop x st → (st : Int) < s2.toInt ∨ sop x s2.toInt.toNat = 17) → KT G q (d + 1) zk_X5_set 0 [(0, vr o), (1, vi t), (2, vi 2), (3, vi s2)] [] y (rv (fun x1 => ri F (some (vi 0)) x1)) := by
    intro y s2 hy fy gy hs hr
    have y9 : y.1 o 9 = x.1 o 9 := fy _ _ (by unfold sSt; omega)
    have ys : ssm y = ssm x := by unfold ssm; rw [fy 80 9 (by unfold sSt; omega)]
    refine ks_set hq ho hy hT _ _ _ et (show (2 : Int32).toInt = ((2 : Nat) : Int) from rfl) (by rw [y9]; omega) (by omega) (fun _ => by rw [ys]; exact hs) (fun c => by omega) (fun c => by omega) (fun z hz fz gz => ri_i (h _ z hz (fm_tr fy fz) ?_ (fun _ c => Or.inr ?_)))
    · rw [gz 3 (by rw [y9]; omega), if_neg (by omega)]; exact gy
    · rw [gz 2 (by rw [y9]; omega), if_pos rfl, est2]; exact hr c
  refine kg_X5_ownFailure_0 hq ho _ _ _ ⟨fun _ => p12, fun n21 => ⟨fun n19 => ⟨fun n20 => ⟨v, kp_localsAt hq ho hM.1 hM.2.1 _ et hT (fun r6 r0 r4 => kp_work hq hM.1 (kk_M5 ho) (kl_M5 hq ho) _ _ _ r0 r4 (fun r8 y fy => ?_))⟩, fun c20 => ⟨v, ?_⟩⟩, fun _ => p12⟩⟩
  · have hy : MS R y o T := MS_St hO fy hM
    have fS : fm (sSt o) x y := fm_w fy (fun c k q => by unfold sWk at q; unfold sSt; omega)
    have ry : ∀ k, rg y o T k = rg x o T k := fun k => rg_eq hO (fm_w fy (fun c k q => by unfold sWk at q; omega)) T k
    have n21' : ¬ sop x st = 21 := fun c => n21 (by rw [t_eq]; exact c)
    have nx1 : (rg x o T 2 + 1).toInt = st + 1 := by rw [t_add (by rw [k1]; omega) (by rw [k1]; omega), k1, est2]
    have okn := hcs.2.2.2.2 n21'
    have bad : ∀ v9 : Int32, ¬ v9 = 0 → ri F (some (vi v9)) y := fun v9 h9 => ri_i (h _ y hy fS (ry 3) (fun c => absurd c h9))
    · have p129 : ∀ z, MS R z o T → fm (sSt o) x z → rg z o T 3 = rg x o T 3 → KT G q (d + 2) zk_X5_ownFailure 129 [(0, vr o), (1, vi t), (2, vi (rg x o T 2)), (3, vi (x.1 81 st)), (4, vi r8)] [] z (ri F) := by
        intro z hz fz gz
        have up := setp z (rg x o T 2 + 1) hz fz gz (by omega) (fun _ => Or.inl (by omega))
        refine kg_X5_ownFailure_129 hq ho _ _ _ _ ⟨fun _ => kg_X5_ownFailure_158 hq ho _ _ _ up, fun c17 => ⟨fun _ => kg_X5_ownFailure_158 hq ho _ _ _ up, fun _ => ⟨v, ?_⟩⟩⟩
        rw [eN, fz 84 _ (by unfold sSt; omega)]
        have k17 : (17 : Int32).toInt = 17 := rfl
        have c17' : sop x st = 17 := by unfold sop; rw [c17]; rfl
        obtain ⟨t1, t2, -⟩ := hcs.2.2.2.1 (Or.inl c17')
        exact kg_X5_ownFailure_158 hq ho _ _ _ (setp z _ hz fz gz ⟨t1, t2⟩ (fun c => by omega))
      have p104 : KT G q (d + 2) zk_X5_ownFailure 104 [(0, vr o), (1, vi t), (2, vi (rg x o T 2)), (3, vi (x.1 81 st)), (4, vi r8)] [] y (ri F) := by
        refine kg_X5_ownFailure_104 hq ho _ _ _ _ ⟨fun _ => p129 y hy fS (ry 3), fun c16 => ⟨v, ?_⟩⟩
        rw [eN, fy 84 _ (by unfold sWk; omega)]
        have c16' : sop x st = 16 := by unfold sop; rw [c16]; rfl
        obtain ⟨t1, t2⟩ := hcs.2.2.1 (Or.inr (Or.inr c16'))
        have e8 : (8 + x.1 84 st).toInt = ((8 + (stg x st).toNat : Nat) : Int) := by rw [t_add (by rw [k8]; unfold stg at *; omega) (by rw [k8]; unfold stg at *; omega), k8]; unfold stg at *; omega
        have y9 : y.1 o 9 = x.1 o 9 := fS _ _ (by unfold sSt; omega)
        have m8 := hM.1.1.2.2.2.1
        refine ks_set hq ho hy hT _ _ _ et e8 (by rw [y9]; omega) (by omega) (fun c => by omega) (fun c => by omega) (fun c => by omega) (fun z hz fz gz => p129 z hz (fm_tr fS fz) ?_)
        rw [gz 3 (by rw [y9]; omega), if_neg (by omega)]; exact ry 3
      exact ⟨fun _ => ⟨fun _ => p104, fun _ => ⟨fun _ => p104, fun _ => bad _ (by decide)⟩⟩, fun _ => bad _ (by decide)⟩
  · have c20' : sop x st = 20 := by unfold sop; rw [c20]; rfl
    obtain ⟨t1, t2, t3⟩ := hcs.2.2.2.1 (Or.inr c20')
    rw [eN]
    exact setp x _ hM (fm_rf _ _) rfl ⟨t1, t2⟩ (fun _ => t3 c20')
theorem MS_MM {T9 : Nat} (h : MS R x o T9) (hT : (T9 : Int) < (x.1 60 10).toInt → TGo x o T9) : MM x o := ⟨h.1, h.2.1, fun t ht => ⟨(h.2.2.1 t ht).1, by
  by_cases e : t = T9
  · subst e; exact hT ht
  · exact (h.2.2.1 t ht).2 e⟩⟩
theorem MM_MS {T : Nat} (h : MM x o) : MS (rg x o) x o T := ⟨h.1, h.2.1, fun t ht => ⟨(h.2.2 t ht).1, fun _ => (h.2.2 t ht).2⟩, fun _ _ _ _ => rfl⟩
def rk (x : gd) (s : Nat) : Nat := if sop x s = 17 then 0 else 401 - s
theorem ks_settle (hq : kV q) (ho : kiM q o) {T : Nat} (hM : MS R x o T) (hTt : (T : Int) < (x.1 60 10).toInt) (t : Int32) (et : t.toInt = T) (h3 : rg x o T 3 = 0) (h : ∀ y, MM y o → fm (sSt o) x y → (∀ t k : Nat, t ≠ T → (k : Int) < (x.1 o 8).toInt → rg y o t k = R t k) → Fv y) : KT G q (d + 3) zk_X5_settle 0 [(0, vr o), (1, vi t)] [] x (rv Fv) := by
  have hO := kiM_O ho
  have hT : T < 6 := MM_6 hM.1 hTt
  have k300 : (300 : Int32).toInt = 300 := rfl
  have k1m : (1000000 : Int32).toInt = 1000000 := rfl
  have k16 : (16 : Int32).toInt = 16 := rfl
  have k20 : (20 : Int32).toInt = 20 := rfl
  have k1 : (1 : Int32).toInt = 1 := rfl
  have p100 : ∀ y, MS R y o T → fm (sSt o) x y → rg y o T 3 = 0 → (rg y o T 0 = 1 → sop y (rg y o T 2).toInt.toNat < 16) → KT G q (d + 3) zk_X5_settle 100 [(0, vr o), (1, vi t)] [] y (rv Fv) := by
    intro y hy fy y3 yg
    have hTy : (T : Int) < (y.1 60 10).toInt := by rw [fy 60 10 (by unfold sSt; omega)]; exact hTt
    refine kg_X5_settle_100 hq ho _ (ks_blank hq ho hy hT hTy _ et (fun z hz fz gz => rv_i (h z (MS_MM hz (fun _ => ?_)) (fm_tr fy fz) (fun t k hne hk => hz.2.2.2 t k hne (by rw [fz o 8 (by unfold sSt; omega), fy o 8 (by unfold sSt; omega)]; exact hk)))))
    unfold TGo sop at *
    rw [gz 0 (by omega), gz 2 (by omega), gz 3 (by omega), fz 81 _ (by unfold sSt; omega)]
    exact fun c => ⟨yg c, fun c3 => absurd y3 c3⟩
  have loop : ∀ (n : Nat) (own k : Int32) (y : gd), MS R y o T → fm (sSt o) x y → rg y o T 3 = 0 → 0 ≤ own.toInt → own.toInt ≤ 301 → 0 ≤ k.toInt → (rg y o T 0 = 1 → own.toInt ≤ 300 ∧ (302 - own.toInt) * 1000 + rk x (rg y o T 2).toInt.toNat ≤ n) → k.toInt + n ≤ 500000 → KT G q (d + 3) zk_X5_settle 4 [(0, vr o), (1, vi t), (2, vi own), (3, vi k)] [] y (rv Fv) := by
    intro n
    induction n with
    | zero =>
      intro own k y hy fy y3 o0 o1 k0 hr hk
      have hng : ¬ rg y o T 0 = 1 := fun c => by have := hr c; omega
      refine kg_X5_settle_4 hq ho _ _ _ ⟨fun _ => p100 y hy fy y3 (fun c => absurd c hng), fun _ => kp_isGoing hq ho hy.1 hy.2.1 _ et hT (fun c => absurd c hng) (fun _ => ⟨fun _ => p100 y hy fy y3 (fun c => absurd c hng), fun c => absurd rfl c⟩)⟩
    | succ n ih =>
      intro own k y hy fy y3 o0 o1 k0 hr hk
      have hTy : (T : Int) < (y.1 60 10).toInt := by rw [fy 60 10 (by unfold sSt; omega)]; exact hTt
      have hA := (hy.2.2.1 T hTy).1
      have ek : (k + 1).toInt = k.toInt + 1 := t_add (by rw [k1]; omega) (by rw [k1]; omega)
      refine kg_X5_settle_4 hq ho _ _ _ ⟨fun c => ?_, fun _ => kp_isGoing hq ho hy.1 hy.2.1 _ et hT (fun hg => ⟨fun c => absurd c (by decide), fun _ => kp_get hq ho hy.1 hy.2.1 _ _ et (show (2 : Int32).toInt = ((2 : Nat) : Int) from rfl) hT (by omega) ?_⟩) (fun hng => ⟨fun _ => p100 y hy fy y3 (fun c => absurd c hng), fun c => absurd rfl c⟩)⟩
      · exfalso; rw [t_le, k1m] at c; omega
      obtain ⟨v, e, l⟩ := MM_st hy.1 hA
      have s35 := hy.1.2.2.1.2
      have hrank := hr hg
      have es : ∀ j, sop y j = sop x j := fun j => by unfold sop; rw [fy 81 j (by unfold sSt; omega)]
      have rk1 : ∀ j, rk x j ≤ 401 := fun j => by unfold rk; split <;> omega
      -- the thread's own step is done, with own steps counted own2
      have p80 : ∀ (own2 r : Int32) (z : gd), MS R z o T → fm (sSt o) y z → rg z o T 3 = 0 → 0 ≤ own2.toInt → own2.toInt ≤ 301 → (r = 0 → rg z o T 0 = 1 → own2.toInt ≤ 300 ∧ (302 - own2.toInt) * 1000 + rk x (rg z o T 2).toInt.toNat ≤ n) → KT G q (d + 3) zk_X5_settle 80 [(0, vr o), (1, vi t), (2, vi own2), (3, vi k)] [vi r] z (rv Fv) := by
        intro own2 r z hz fz z3 q0 q1 hrz
        refine kg_X5_settle_80 hq ho _ _ _ _ ⟨fun c => ih own2 (k + 1) z hz (fm_tr fy fz) z3 q0 q1 (by omega) (hrz c) (by omega), fun _ => ks_fail hq ho hz hT _ _ et (fun w hw fw w0 w3 => ih own2 (k + 1) w hw (fm_tr fy (fm_tr fz fw)) (by rw [w3]; exact z3) q0 q1 (by omega) (fun c => ?_) (by omega))⟩
        rw [w0] at c; exact absurd c (by decide)
      have p59 : ∀ own2 : Int32, 0 ≤ own2.toInt → own2.toInt ≤ 301 → 16 ≤ sop y (rg y o T 2).toInt.toNat → (sop y (rg y o T 2).toInt.toNat < 20 → own2.toInt = own.toInt + 1) → (20 ≤ sop y (rg y o T 2).toInt.toNat → own2 = own) → KT G q (d + 3) zk_X5_settle 59 [(0, vr o), (1, vi t), (2, vi own2), (3, vi k), (4, vi (rg y o T 2)), (5, vi (y.1 81 (rg y o T 2).toInt.toNat))] [] y (rv Fv) := by
        intro own2 q0 q1 h16 hlt hge
        refine kg_X5_settle_59 hq ho _ _ _ _ _ ⟨fun c => ks_own hq ho hy hT hTy _ et h16 (fun r z hz fz z3 hzz => p80 own2 r z hz fz (by rw [z3]; exact y3) q0 q1 (fun hr0 hgz => ?_)), fun c => p80 own2 6 y hy (fm_rf _ _) y3 q0 q1 (fun c6 => absurd c6 (by decide))⟩
        rw [t_le, k300] at c
        refine ⟨c, ?_⟩
        by_cases h20 : 20 ≤ sop y (rg y o T 2).toInt.toNat
        · rw [hge h20]
          have h0 := hzz hr0 h20
          have hne : ¬ sop x (rg y o T 2).toInt.toNat = 17 := by rw [es] at h20; omega
          have hr1 : rk x (rg y o T 2).toInt.toNat = 401 - (rg y o T 2).toInt.toNat := by unfold rk; rw [if_neg hne]
          rcases h0 with g | g | g
          · exact absurd hgz g
          · have hAz := (hz.2.2.1 T (by rw [fz 60 10 (by unfold sSt; omega)]; exact hTy)).1
            have hz2 := hAz.1.1
            have : rk x (rg z o T 2).toInt.toNat ≤ 401 - (rg z o T 2).toInt.toNat := by unfold rk; split <;> omega
            have y0 := hA.1.1
            omega
          · have : rk x (rg z o T 2).toInt.toNat = 0 := by
              unfold rk
              rw [es] at g
              rw [if_pos g]
            omega
        · have e1 := hlt (by omega)
          have := rk1 (rg z o T 2).toInt.toNat
          rw [e1]
          omega
      refine ⟨v, ?_⟩
      rw [e]
      refine ⟨fun c16 => ⟨fun c20 => ?_, fun c20 => ?_⟩, fun c16 => p100 y hy fy y3 (fun _ => ?_)⟩
      · rw [t_le, k16] at c16
        rw [t_le, k20] at c20
        exact p59 own o0 o1 c16 (fun c => by unfold sop at c; omega) (fun _ => rfl)
      · rw [t_le, k16] at c16
        rw [t_le, k20] at c20
        have e1 : (own + 1).toInt = own.toInt + 1 := t_add (by rw [k1]; omega) (by rw [k1]; omega)
        exact p59 (own + 1) (by omega) (by omega) c16 (fun _ => e1) (fun c => by unfold sop at c; omega)
      · rw [t_le, k16] at c16; unfold sop; omega
  exact kg_X5_settle_0 hq ho _ (loop 400000 _ _ x hM (fm_rf _ _) h3 (by decide) (by decide) (by decide) (fun _ => by
    have : rk x (rg x o T 2).toInt.toNat ≤ 401 := by unfold rk; split <;> omega
    show (0 : Int) ≤ 300 ∧ (302 - (0 : Int)) * 1000 + _ ≤ _
    omega) (by decide))
end KSE
