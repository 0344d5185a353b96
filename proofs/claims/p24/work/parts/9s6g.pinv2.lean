section
/-! the machine: every choice keeps it -/
section PIO
variable {C : gCo} {M : gMa} {w t i : Nat} {wk : Option Nat}
theorem lkM_rs (w0 : (M.2.2 t).2.2.2.1 = 0) (h : (lkM C w M t).1 = 0) : rsF C w M t (stN C (M.2.2 t).2.2.1).1 (lkM C w M t).2.1.toNatClampNeg = 0 := by
  obtain ⟨p1, p2⟩ := lkM_pl w0 h
  cases e1 : evO (M.2.2 t).2.2.2.2.2.2.2 (Int32.ofNat t) (stN C (M.2.2 t).2.2.1).2.2.2.2.2.2.2.2.1 with
  | none =>
    rw [lkM_1 w0 p1 e1] at h
    exact absurd h (by show ¬ 1 = 0; decide)
  | some e =>
    cases e2 : evO (M.2.2 t).2.2.2.2.2.2.2 (Int32.ofNat t) (stN C (M.2.2 t).2.2.1).2.2.2.2.2.2.2.2.2 with
    | none =>
      rw [lkM_2 w0 p1 e1 e2] at h
      exact absurd h (by show ¬ 1 = 0; decide)
    | some f =>
      rw [lkM_3 w0 p1 e1 e2] at h ⊢
      exact h
theorem so_0 (n : ¬ soM C (M.2.2 t) = 15) : (M.2.2 t).2.2.2.1 = 0 ∧ soM C (M.2.2 t) = (stN C (M.2.2 t).2.2.1).1 := by
  unfold soM at n ⊢
  by_cases c : (M.2.2 t).2.2.2.1 = 0
  · exact ⟨c, if_pos c⟩
  · rw [if_neg c] at n
    exact absurd rfl n
theorem WMw_ac (q : WMw w M) (t6 : t < 6) (h1 : (M.2.2 t).1 = 1) : WMw w (acM C w M t wk) := by
  by_cases L0 : (lkM C w M t).1 = 0
  · by_cases c7 : soM C (M.2.2 t) = 7
    · rw [acM_7 L0 c7, ef_7]
      intro t' ht'
      show wTq w (upf M.2.2 t _ t')
      by_cases z : t' = t
      · rw [z, upf_eq]
        obtain ⟨a1, a2, a3, a4⟩ := q t t6
        exact ⟨a1, (fun z => nomatch z), fun z => absurd h1 z, a4⟩
      · rw [upf_ne z]; exact q t' ht'
    · have st9 : soM C (M.2.2 t) = 9 → (M.2.2 (lkM C w M t).2.1.toNatClampNeg).1 = 0 := fun e9 => by
        obtain ⟨w0, es⟩ := so_0 (C := C) (M := M) (t := t) (by omega)
        have rs := lkM_rs w0 L0
        rw [← es, e9] at rs
        unfold rsF at rs
        rw [if_neg (fun z => nomatch z.1), if_neg (fun z => z.1.elim (fun z => nomatch z) (fun z => nomatch z))] at rs
        exact Classical.byContradiction (fun n => by rw [if_pos ⟨rfl, n⟩] at rs; exact nomatch rs)
      obtain ⟨a, b1, b2, b3⟩ := WMw_ef (C := C) (s := soM C (M.2.2 t)) (c := (lkM C w M t).2.1.toNatClampNeg) (e := (lkM C w M t).2.2.1) (f := (lkM C w M t).2.2.2) (wk := wk) q t6 h1 (Classical.byCases Or.inl (fun n => Or.inr (so_0 n).1)) (fun e9 _ => st9 e9) (fun e9 z => by have := st9 e9; rw [z] at this; omega) c7
      rw [acM_is (E := (efM C w M t (soM C (M.2.2 t)) (lkM C w M t).2.1.toNatClampNeg (lkM C w M t).2.2.1 (lkM C w M t).2.2.2 wk).1) (v := (efM C w M t (soM C (M.2.2 t)) (lkM C w M t).2.1.toNatClampNeg (lkM C w M t).2.2.1 (lkM C w M t).2.2.2 wk).2) L0 c7 rfl]
      intro t' ht'
      show wTq w (upf _ t _ t')
      by_cases z : t' = t
      · rw [z, upf_eq]; exact wT_thN b1 b2 b3
      · rw [upf_ne z]; exact a t' ht' z
  · have w0 : (M.2.2 t).2.2.2.1 = 0 := Classical.byContradiction (fun n0 => L0 (by rw [lkM_15 n0]))
    rw [acM_F L0]
    intro t' ht'
    show wTq w (upf M.2.2 t _ t')
    by_cases z : t' = t
    · rw [z, upf_eq]
      obtain ⟨a1, a2, a3, a4⟩ := q t t6
      exact ⟨fun z => absurd rfl z, a2, fun _ => w0, a4⟩
    · rw [upf_ne z]; exact q t' ht'
theorem WMw_la (q : WMw w M) (t6 : t < 6) : WMw w (laM M t i) := by
  unfold laM
  cases hq : (M.2.2 t).2.2.2.2.2.2.1[i]? with
  | none => exact q
  | some z9 =>
    intro t' ht'
    show wTq w (upf M.2.2 t _ t')
    by_cases z : t' = t
    · rw [z, upf_eq]
      obtain ⟨a1, a2, a3, a4⟩ := q t t6
      refine ⟨a1, a2, a3, fun w0 => ?_⟩
      rw [a4 w0] at hq
      exact nomatch hq
    · rw [upf_ne z]; exact q t' ht'
end PIO
end
section
/-! the class: a thread that settles: its number, step, locals; its late ones stay -/
section KSH
variable {G : kG} {q : kP} {d : Nat} {x x0 y z : gd} {o : Nat} {R : Nat → Nat → Int32} {F : Int32 → gd → Prop} {Fv : gd → Prop} {C : gCo}
/-- a thread's late ones stay -/
def sVx (x y : gd) (o T : Nat) : Prop := ∀ k : Nat, (x.1 o 9).toInt ≤ k → (k : Int) < (x.1 o 8).toInt → rg y o T k = rg x o T k
theorem sVx_tr {T : Nat} (hO : o = 120 ∨ o = 220) (f : fm (sSt o) x y) (a : sVx x y o T) (b : sVx y z o T) : sVx x z o T := fun k k9 k8 => (b k (by rw [f o 9 (by unfold sSt; omega)]; exact k9) (by rw [f o 8 (by unfold sSt; omega)]; exact k8)).trans (a k k9 k8)
theorem sVx_rf {T : Nat} : sVx x x o T := fun _ _ _ => rfl
theorem kh_set (hq : kV q) (ho : kiM q o) {T K : Nat} (hM : MS R x o T) (hT : T < 6) (t f v : Int32) (et : t.toInt = T) (ef : f.toInt = K) (hK : (K : Int) < (x.1 o 9).toInt) (h7 : K ≠ 7) (c2 : K = 2 → 0 ≤ v.toInt ∧ v.toInt < ssm x) (c0 : K = 0 → v = 0 → rg x o T 3 = 0) (c3 : K = 3 → rg x o T 0 = 0 → v = 0) (h : ∀ y, MS R y o T → fm (sSt o) x y → lowE x y o → (∀ k : Nat, (k : Int) < (x.1 o 9).toInt → rg y o T k = if k = K then v else rg x o T k) → sVx x y o T → Fv y) : KT G q d zk_X5_set 0 [(0, vr o), (1, vi t), (2, vi f), (3, vi v)] [] x (rv Fv) := by
  have hO := kiM_O ho
  obtain ⟨b1, b2, b3, b4, -⟩ := MG_b hM.1 hM.2.1
  refine kp_set hq ho hM.1 hM.2.1 _ _ _ et ef hT (by omega) (fun y ey => h y (MS_set hO hM hK h7 ey c2 c0 c3) (st_f ey) (fun j hj => ?_) (fun k hk => ?_) (fun k k9 k8 => ?_))
  · rw [ey, si_get, if_neg (fun z => ?_)]
    have := z.2
    unfold pa at this
    omega
  · rw [rg_set hO hM.1 hM.2.1 (by omega) (by omega) ey]
    by_cases hh : k = K
    · rw [if_pos ⟨rfl, hh⟩, if_pos hh]
    · rw [if_neg (fun q => hh q.2), if_neg hh]
  · rw [rg_set hO hM.1 hM.2.1 (by omega) (by omega) ey, if_neg (fun z => by omega)]
/-- one own step is done -/
def OWh (x y : gd) (o T : Nat) (s : Nat) (st : gNs) (lv : Nat → Int32) (r : Int32) : Prop :=
  (∃ n, ow1 (Int32.ofNat T) s st lv = .inl (3, n, s, lv) ∧ ¬ r = 0 ∧ r = Int32.ofNat n ∧ ∀ k, rg y o T k = rg x o T k) ∨ (ow1 (Int32.ofNat T) s st lv = .inl (2, 0, 0, lv) ∧ r = 0 ∧ rg y o T 0 = 2 ∧ rg y o T 2 = 0) ∨ (∃ s2 lv2, ow1 (Int32.ofNat T) s st lv = .inr (s2, lv2) ∧ r = 0 ∧ rg y o T 0 = rg x o T 0 ∧ (rg y o T 2).toInt = (s2 : Nat) ∧ (((aftN st).length : Int) ≤ (x.1 60 13).toInt) ∧ ∀ p, p < (aftN st).length → rg y o T (8 + p) = lv2 p)
theorem kh_own (hq : kV q) (ho : kiM q o) {T : Nat} (hM : MS R x o T) (hT : T < 6) (hTt : (T : Int) < (x.1 60 10).toInt) (t : Int32) (et : t.toInt = T) (h16 : 16 ≤ sop x (rg x o T 2).toInt.toNat) (hK : CK x C) (hN : NC C) {st0 : gNs} {lv : Nat → Int32} (hst : C.1[(rg x o T 2).toInt.toNat]? = some st0) (hlv : ∀ p, p < st0.2.1.length → rg x o T (8 + p) = lv p) (hml : (st0.2.1.length : Int) ≤ (x.1 60 13).toInt) (h : ∀ r y, MS R y o T → fm (sSt o) x y → sUx x y o T → sVx x y o T → rg y o T 1 = rg x o T 1 → (r = 0 → 20 ≤ sop x (rg x o T 2).toInt.toNat → ¬ rg y o T 0 = 1 ∨ (rg x o T 2).toInt < (rg y o T 2).toInt ∨ sop x (rg y o T 2).toInt.toNat = 17) → OWh x y o T (rg x o T 2).toInt.toNat st0 lv r → F r y) : KT G q (d + 2) zk_X5_ownFailure 0 [(0, vr o), (1, vi t), (2, vi (rg x o T 2)), (3, vi (x.1 81 (rg x o T 2).toInt.toNat))] [] x (ri F) := by
  have hO := kiM_O ho
  have k8 : (8 : Int32).toInt = 8 := rfl
  have k1 : (1 : Int32).toInt = 1 := rfl
  have tT : t = Int32.ofNat T := i32_of et
  obtain ⟨v, e, l⟩ := MM_st hM.1 (hM.2.2.1 T hTt).1
  obtain ⟨b1, b2, b3, b4, b5, b6, b7⟩ := MG_b hM.1 hM.2.1
  have hcs := (hM.1.2.2.2.1 _ l).2
  have s35 := hM.1.2.2.1.2
  have hA := (hM.2.2.1 T hTt).1
  have m8 := hM.1.1.2.2.2.1
  obtain ⟨st, est⟩ : ∃ st, st = (rg x o T 2).toInt.toNat := ⟨_, rfl⟩
  rw [← est] at h h16 l hcs hst ⊢
  have est2 : (rg x o T 2).toInt = st := by have := hA.1.1; omega
  have eN : (rg x o T 2).toNatClampNeg = st := by rw [t_cl, est2]; rfl
  have ns := hN.1 st st0 hst
  have n1 := ns.1.1
  obtain ⟨k81, k83, k84, -, -, -, -, k88, -⟩ := hK.1.2 st st0 hst
  have so : sop x st = (st0.1 : Nat) := by
    show (x.1 81 st).toInt = _
    rw [k81]
    exact Int32.toInt_ofNat_of_lt (by omega)
  have op_i : ∀ w : Nat, w < 22 → (x.1 81 st = Int32.ofNat w ↔ st0.1 = w) := fun w hw => by
    have e1 : (Int32.ofNat w).toInt = (w : Nat) := Int32.toInt_ofNat_of_lt (by omega)
    rw [t_eq, e1]
    have : (x.1 81 st).toInt = (st0.1 : Nat) := so
    omega
  have p12 : (st0.1 = 19 ∨ st0.1 = 21) → KT G q (d + 2) zk_X5_ownFailure 12 [(0, vr o), (1, vi t)] [] x (ri F) := by
    intro c12
    refine kg_X5_ownFailure_12 hq ho _ (kh_set hq ho hM hT _ _ _ et (show (0 : Int32).toInt = ((0 : Nat) : Int) from rfl) (by omega) (by omega) (fun c => by omega) (fun _ c => absurd c (by decide)) (fun c => by omega) (fun y hy fy ly gy wy => ?_))
    have y9 : y.1 o 9 = x.1 o 9 := fy _ _ (by unfold sSt; omega)
    have ys : ssm y = ssm x := by unfold ssm; rw [fy 80 9 (by unfold sSt; omega)]
    refine kh_set hq ho hy hT _ _ _ et (show (2 : Int32).toInt = ((2 : Nat) : Int) from rfl) (by rw [y9]; omega) (by omega) (fun _ => ⟨by decide, by rw [ys]; show (0 : Int) < _; omega⟩) (fun c => by omega) (fun c => by omega) (fun z hz fz lz gz wz => ri_i (h _ z hz (fm_tr fy fz) ?_ (sVx_tr hO fy wy wz) ?_ (fun _ _ => Or.inl ?_) (Or.inr (Or.inl ⟨?_, rfl, ?_, ?_⟩))))
    · refine ⟨fun k k3 k8' => ?_, lowE_tr hO fy ly lz⟩
      rw [gz k (by rw [y9]; omega), if_neg (by omega), gy k (by omega), if_neg (by omega)]
    · rw [gz 1 (by rw [y9]; omega), if_neg (by omega), gy 1 (by omega), if_neg (by omega)]
    · rw [gz 0 (by rw [y9]; omega), if_neg (by omega), gy 0 (by omega), if_pos rfl]; decide
    · unfold ow1; rw [if_pos c12]
    · rw [gz 0 (by rw [y9]; omega), if_neg (by omega), gy 0 (by omega), if_pos rfl]
    · rw [gz 2 (by rw [y9]; omega), if_pos rfl]
  -- a step is set
  have setp : ∀ (y : gd) (s2 : Int32) (n2 : Nat) (lv2 : Nat → Int32), MS R y o T → fm (sSt o) x y → sUx x y o T → sVx x y o T → rg y o T 1 = rg x o T 1 → rg y o T 0 = rg x o T 0 → (∀ p, p < (aftN st0).length → rg y o T (8 + p) = lv2 p) → ((aftN st0).length : Int) ≤ (x.1 60 13).toInt → ow1 (Int32.ofNat T) st st0 lv = .inr (n2, lv2) → s2.toInt = (n2 : Nat) → (0 ≤ s2.toInt ∧ s2.toInt < ssm x) → (20 ≤ sop x st → (st : Int) < s2.toInt ∨ sop x s2.toInt.toNat = 17) → KT G q (d + 1) zk_X5_set 0 [(0, vr o), (1, vi t), (2, vi 2), (3, vi s2)] [] y (rv (fun x1 => ri F (some (vi 0)) x1)) := by
    intro y s2 n2 lv2 hy fy gy gyv gy1 gy0 gyl hal how es2 hs hr
    have y9 : y.1 o 9 = x.1 o 9 := fy _ _ (by unfold sSt; omega)
    have ys : ssm y = ssm x := by unfold ssm; rw [fy 80 9 (by unfold sSt; omega)]
    refine kh_set hq ho hy hT _ _ _ et (show (2 : Int32).toInt = ((2 : Nat) : Int) from rfl) (by rw [y9]; omega) (by omega) (fun _ => by rw [ys]; exact hs) (fun c => by omega) (fun c => by omega) (fun z hz fz lz gz wz => ri_i (h _ z hz (fm_tr fy fz) ?_ (sVx_tr hO fy gyv wz) ?_ (fun _ c => Or.inr ?_) (Or.inr (Or.inr ⟨n2, lv2, how, rfl, ?_, ?_, hal, fun p hp => ?_⟩))))
    · refine ⟨fun k k3 k8' => ?_, lowE_tr hO fy gy.2 lz⟩
      rw [gz k (by rw [y9]; omega), if_neg (by omega)]; exact gy.1 k k3 k8'
    · rw [gz 1 (by rw [y9]; omega), if_neg (by omega)]; exact gy1
    · rw [gz 2 (by rw [y9]; omega), if_pos rfl, est2]; exact hr c
    · rw [gz 0 (by rw [y9]; omega), if_neg (by omega)]; exact gy0
    · rw [gz 2 (by rw [y9]; omega), if_pos rfl]; exact es2
    · rw [gz (8 + p) (by rw [y9]; push_cast; omega), if_neg (by omega)]; exact gyl p hp
  refine kg_X5_ownFailure_0 hq ho _ _ _ ⟨fun c => p12 (Or.inr ((op_i 21 (by decide)).mp c)), fun n21 => ⟨fun n19 => ⟨fun n20 => ⟨v, kf_localsAt hq ho hM.1 hM.2.1 _ et hT (fun r6 r0 r4 => ?_)⟩, fun c20 => ⟨v, ?_⟩⟩, fun c => p12 (Or.inl ((op_i 19 (by decide)).mp c))⟩⟩
  · have o21 : ¬ st0.1 = 21 := fun z => n21 ((op_i 21 (by decide)).mpr z)
    have o19 : ¬ st0.1 = 19 := fun z => n19 ((op_i 19 (by decide)).mpr z)
    have o20 : ¬ st0.1 = 20 := fun z => n20 ((op_i 20 (by decide)).mpr z)
    obtain ⟨Q, hQ⟩ := ns.2.2.2.2.2.1 (by omega)
    obtain ⟨q1, q2⟩ := ns.2.2.2.2.2.2.2.2.1 Q hQ
    rw [hQ] at k88
    have k88 : SUk x (x.1 88 st) (Q.map cQ) := k88
    have h800 := hM.1.2.1.1.2
    rw [eN]
    refine kf_work hq (kk_M5 ho) (kl_M5 hq ho) (by omega) _ _ _ (Q := Q) (lv := lv) (cv := fun _ => 0) h800 k88 q1 (fun p hp => ?_) (fun r8 y fy hwk => ?_)
    · obtain ⟨a1, a2, a3⟩ := q2 p hp
      refine ⟨a1, fun c => ?_, fun c => absurd c a3⟩
      have pl := a2 c
      have e8 : (Int32.ofNat p.2.1).toInt = (p.2.1 : Nat) := Int32.toInt_ofNat_of_lt (by omega)
      have es : (r6 + Int32.ofNat p.2.1).toInt = r6.toInt + (p.2.1 : Nat) := by rw [t_add (by omega) (by omega), e8]
      refine ⟨by rw [vp_in_iff, es]; omega, ?_⟩
      have ep : (r6 + Int32.ofNat p.2.1).toNatClampNeg = pa x o T (8 + p.2.1) := by
        rw [t_cl, es, r0]
        unfold pa
        omega
      rw [ep]
      exact hlv _ pl
    have hwk : wkR x y (wkQ lv (fun _ => 0) (Int32.ofNat T) Q) r8 := by rw [← tT]; exact hwk
    have hy : MS R y o T := MS_St hO fy hM
    have fS : fm (sSt o) x y := fm_w fy (fun c k q => by unfold sWk at q; unfold sSt; omega)
    have ry : ∀ k, rg y o T k = rg x o T k := fun k => rg_eq hO (fm_w fy (fun c k q => by unfold sWk at q; omega)) T k
    have uy : sUx x y o T := ⟨fun k _ _ => ry k, fun j _ => fy _ _ (by unfold sWk; omega)⟩
    have uv : sVx x y o T := fun k _ _ => ry k
    have n21' : ¬ sop x st = 21 := by omega
    have nx1 : (rg x o T 2 + 1).toInt = ((st + 1 : Nat) : Int) := by rw [t_add (by rw [k1]; omega) (by rw [k1]; omega), k1, est2]; push_cast; rfl
    have okn := hcs.2.2.2.2 n21'
    have ow : ow1 (Int32.ofNat T) st st0 lv = (match wkQ lv (fun _ => 0) (Int32.ofNat T) Q with | none => .inl (3, 1, st, lv) | some v => if st0.1 = 18 ∧ v = 0 then .inl (3, 5, st, lv) else .inr (if st0.1 = 17 ∧ v = 0 then st0.2.2.2.1.getD 0 else st + 1, if st0.1 = 16 then fup lv (st0.2.2.2.1.getD 0) v else lv)) := by
      unfold ow1
      rw [if_neg (by omega), if_neg o20, hQ]
      rfl
    have bad : ∀ (v9 : Int32) (n : Nat), ¬ v9 = 0 → v9 = Int32.ofNat n → ow1 (Int32.ofNat T) st st0 lv = .inl (3, n, st, lv) → ri F (some (vi v9)) y := fun v9 n h9 e9 how => ri_i (h _ y hy fS uy uv (ry 1) (fun c => absurd c h9) (Or.inl ⟨n, how, h9, e9, ry⟩))
    rcases hwk with ⟨v9, hw, er, y5⟩ | ⟨hw, y5⟩
    · subst er
      rw [hw] at ow
      have ow : ow1 (Int32.ofNat T) st st0 lv = (if st0.1 = 18 ∧ r8 = 0 then .inl (3, 5, st, lv) else .inr (if st0.1 = 17 ∧ r8 = 0 then st0.2.2.2.1.getD 0 else st + 1, if st0.1 = 16 then fup lv (st0.2.2.2.1.getD 0) r8 else lv)) := ow
      have p129 : ¬ (st0.1 = 18 ∧ r8 = 0) → ∀ z, MS R z o T → fm (sSt o) x z → sUx x z o T → sVx x z o T → rg z o T 1 = rg x o T 1 → rg z o T 0 = rg x o T 0 → (∀ p, p < (aftN st0).length → rg z o T (8 + p) = (if st0.1 = 16 then fup lv (st0.2.2.2.1.getD 0) r8 else lv) p) → ((aftN st0).length : Int) ≤ (x.1 60 13).toInt → KT G q (d + 2) zk_X5_ownFailure 129 [(0, vr o), (1, vi t), (2, vi (rg x o T 2)), (3, vi (x.1 81 st)), (4, vi r8)] [] z (ri F) := by
        intro n18 z hz fz gz gzv gz1 gz0 gzl hal
        rw [if_neg n18] at ow
        have up : ¬ (st0.1 = 17 ∧ r8 = 0) → KT G q (d + 1) zk_X5_set 0 [(0, vr o), (1, vi t), (2, vi 2), (3, vi (rg x o T 2 + 1))] [] z (rv (fun x1 => ri F (some (vi 0)) x1)) := fun nn => setp z (rg x o T 2 + 1) (st + 1) _ hz fz gz gzv gz1 gz0 gzl hal (by rw [ow, if_neg nn]) nx1 (by omega) (fun _ => Or.inl (by omega))
        refine kg_X5_ownFailure_129 hq ho _ _ _ _ ⟨fun n17 => kg_X5_ownFailure_158 hq ho _ _ _ (up (fun z => n17 ((op_i 17 (by decide)).mpr z.1))), fun c17 => ⟨fun nr => kg_X5_ownFailure_158 hq ho _ _ _ (up (fun z => nr z.2)), fun r0' => ⟨v, ?_⟩⟩⟩
        rw [eN, fz 84 _ (by unfold sSt; omega)]
        have c17' : st0.1 = 17 := (op_i 17 (by decide)).mp c17
        have s17 : sop x st = 17 := by omega
        obtain ⟨t1, t2, -⟩ := hcs.2.2.2.1 (Or.inl s17)
        obtain ⟨n, st', hto, -, -⟩ := ns.2.2.1 (Or.inl c17')
        have k84 := k84 (Or.inr (Or.inr (Or.inr (Or.inl c17'))))
        rw [hto] at k84
        have k84 : (x.1 84 st).toInt = (n : Nat) := k84
        exact kg_X5_ownFailure_158 hq ho _ _ _ (setp z _ n _ hz fz gz gzv gz1 gz0 gzl hal (by rw [ow, if_pos ⟨c17', r0'⟩, hto]; rfl) k84 ⟨t1, t2⟩ (fun c => by omega))
      have p104 : ¬ (st0.1 = 18 ∧ r8 = 0) → KT G q (d + 2) zk_X5_ownFailure 104 [(0, vr o), (1, vi t), (2, vi (rg x o T 2)), (3, vi (x.1 81 st)), (4, vi r8)] [] y (ri F) := by
        intro n18
        refine kg_X5_ownFailure_104 hq ho _ _ _ _ ⟨fun n16 => ?_, fun c16 => ⟨v, ?_⟩⟩
        · have o16 : ¬ st0.1 = 16 := fun z => n16 ((op_i 16 (by decide)).mpr z)
          have ea : aftN st0 = st0.2.1 := if_neg (fun z => by omega)
          refine p129 n18 y hy fS uy uv (ry 1) (ry 0) (fun p hp => ?_) (by rw [ea]; exact hml)
          rw [if_neg o16, ry, hlv p (by rw [ea] at hp; exact hp)]
        · have o16 : st0.1 = 16 := (op_i 16 (by decide)).mp c16
          rw [eN, fy 84 _ (by unfold sWk; omega)]
          have s16 : sop x st = 16 := by omega
          obtain ⟨t1, t2⟩ := hcs.2.2.1 (Or.inr (Or.inr s16))
          obtain ⟨p, hto, hp⟩ := ns.2.2.2.1 (Or.inr (Or.inr o16))
          have k84 := k84 (Or.inr (Or.inr (Or.inl o16)))
          rw [hto] at k84
          have k84 : (x.1 84 st).toInt = (p : Nat) := k84
          have e8 : (8 + x.1 84 st).toInt = ((8 + p : Nat) : Int) := by rw [t_add (by rw [k8]; omega) (by rw [k8]; omega), k8, k84]; push_cast; rfl
          have y9 : y.1 o 9 = x.1 o 9 := fS _ _ (by unfold sSt; omega)
          have hp13 : (p : Int) < (x.1 60 13).toInt := by
            have : stg x st < (x.1 60 13).toInt := t2
            unfold stg at this
            omega
          refine kh_set hq ho hy hT _ _ _ et e8 (by rw [y9]; push_cast; omega) (by omega) (fun c => by omega) (fun c => by omega) (fun c => by omega) (fun z hz fz lz gz wz => p129 n18 z hz (fm_tr fS fz) ?_ (sVx_tr hO fS uv wz) ?_ ?_ (fun j hj => ?_) ?_)
          · refine ⟨fun k k3 k8' => ?_, lowE_tr hO fS uy.2 lz⟩
            rw [gz k (by rw [y9]; omega), if_neg (by omega)]; exact ry k
          · rw [gz 1 (by rw [y9]; omega), if_neg (by omega)]; exact ry 1
          · rw [gz 0 (by rw [y9]; omega), if_neg (by omega)]; exact ry 0
          · have hal := aftN_le (st := st0)
            have hj8 : j ≤ st0.2.1.length := by omega
            have hj13 : (j : Int) < (x.1 60 13).toInt := by
              by_cases c : j < st0.2.1.length
              · omega
              · have : (aftN st0).length = st0.2.1.length + 1 := by omega
                have : j = p := by
                  unfold aftN at this
                  split at this
                  · next cc =>
                    rw [hto] at cc
                    have := Option.some.inj cc.2
                    omega
                  · omega
                omega
            rw [gz (8 + j) (by rw [y9]; push_cast; omega), if_pos o16, hto]
            show (if 8 + j = 8 + p then r8 else rg y o T (8 + j)) = if j = p then r8 else lv j
            by_cases c : j = p
            · rw [if_pos (by omega), if_pos c]
            · rw [if_neg (by omega), if_neg c, ry]
              refine hlv j ?_
              rcases hp with hp | ⟨hp, -⟩
              · have ea : aftN st0 = st0.2.1 := if_neg (fun z => by rw [hto] at z; have := Option.some.inj z.2; omega)
                rw [ea] at hj
                exact hj
              · omega
          · rcases hp with hp | ⟨hp, -⟩
            · have ea : aftN st0 = st0.2.1 := if_neg (fun z => by rw [hto] at z; have := Option.some.inj z.2; omega)
              rw [ea]; exact hml
            · have := (aftN_le (st := st0)).2
              omega
      exact ⟨fun _ => ⟨fun n18 => p104 (fun z => n18 ((op_i 18 (by decide)).mpr z.1)), fun c18 => ⟨fun nr => p104 (fun z => nr z.2), fun r0' => bad _ 5 (by decide) rfl (by rw [ow, if_pos ⟨(op_i 18 (by decide)).mp c18, r0'⟩])⟩⟩, fun n5' => absurd y5 n5'⟩
    · refine ⟨fun z5 => ?_, fun _ => bad _ 1 (by decide) rfl (by rw [ow, hw])⟩
      rw [y5] at z5
      exact absurd z5 (by decide)
  · have c20' : st0.1 = 20 := (op_i 20 (by decide)).mp c20
    have s20 : sop x st = 20 := by omega
    obtain ⟨t1, t2, t3⟩ := hcs.2.2.2.1 (Or.inr s20)
    obtain ⟨n, st', hto, -, -⟩ := ns.2.2.1 (Or.inr c20')
    have k84 := k84 (Or.inr (Or.inr (Or.inr (Or.inr c20'))))
    rw [hto] at k84
    have k84 : (x.1 84 st).toInt = (n : Nat) := k84
    have ea : aftN st0 = st0.2.1 := if_neg (fun z => by omega)
    rw [eN]
    refine setp x _ n lv hM (fm_rf _ _) sUx_rf sVx_rf rfl rfl (fun p hp => hlv p (by rw [ea] at hp; exact hp)) (by rw [ea]; exact hml) ?_ k84 ⟨t1, t2⟩ (fun _ => t3 s20)
    unfold ow1
    rw [if_neg (by omega), if_pos c20', hto]
    rfl
/-- how a settled thread stands -/
def finH (C : gCo) (y : gd) (o T : Nat) (r : gTr) : Prop := rg y o T 0 = Int32.ofNat r.1 ∧ rg y o T 1 = Int32.ofNat r.2.1 ∧ (rg y o T 2).toInt = (r.2.2.1 : Nat) ∧ (r.1 = 1 ∨ r.1 = 2 ∨ r.1 = 3) ∧ (r.1 = 1 ∨ r.1 = 3 → ∃ st, C.1[r.2.2.1]? = some st ∧ (st.2.1.length : Int) ≤ (y.1 60 13).toInt ∧ ∀ p, p < st.2.1.length → rg y o T (8 + p) = r.2.2.2 p)
theorem kh_fail (hq : kV q) (ho : kiM q o) {T : Nat} (hM : MS R x o T) (hT : T < 6) (t n : Int32) (et : t.toInt = T) (h : ∀ y, MS R y o T → fm (sSt o) x y → rg y o T 0 = 3 → rg y o T 1 = n → (∀ k : Nat, 2 ≤ k → (k : Int) < (x.1 o 9).toInt → rg y o T k = rg x o T k) → lowE x y o → sVx x y o T → Fv y) : KT G q (d + 1) zk_X5_fail 0 [(0, vr o), (1, vi t), (2, vi n)] [] x (rv Fv) := by
  obtain ⟨-, -, b3, -⟩ := MG_b hM.1 hM.2.1
  refine kg_X5_fail_0 hq ho _ _ (kh_set hq ho hM hT _ _ _ et (show (0 : Int32).toInt = ((0 : Nat) : Int) from rfl) (by omega) (by omega) (fun c => by omega) (fun _ c => absurd c (by decide)) (fun c => by omega) (fun y hy fy ly gy wy => ?_))
  have y9 : y.1 o 9 = x.1 o 9 := fy _ _ (by unfold sSt; have := kiM_O ho; omega)
  refine kh_set hq ho hy hT _ _ _ et (show (1 : Int32).toInt = ((1 : Nat) : Int) from rfl) (by rw [y9]; omega) (by omega) (fun c => by omega) (fun c => by omega) (fun c => by omega) (fun z hz fz lz gz wz => rv_i (h z hz (fm_tr fy fz) ?_ ?_ (fun k k2 k8 => ?_) (lowE_tr (kiM_O ho) fy ly lz) (sVx_tr (kiM_O ho) fy wy wz)))
  · rw [gz 0 (by rw [y9]; omega), if_neg (by omega), gy 0 (by omega), if_pos rfl]
  · rw [gz 1 (by rw [y9]; omega), if_pos rfl]
  · rw [gz k (by rw [y9]; omega), if_neg (by omega), gy k (by omega), if_neg (by omega)]
theorem kh_known (hq : kV q) (ho : kiM q o) (hC : CO x) (hG : MG x o) (t : Int32) {T : Nat} (et : t.toInt = T) (hT : T < 6) (hA : TA x o T) (h : ∀ r : Int32, 0 ≤ r.toInt → r.toInt ≤ 8 → (rg x o T 0 = 1 ∨ rg x o T 0 = 3 → r = x.1 83 (rg x o T 2).toInt.toNat) → (¬ (rg x o T 0 = 1 ∨ rg x o T 0 = 3) → r = 0) → F r x) : KT G q (d + 1) zk_X5_known 0 [(0, vr o), (1, vi t)] [] x (ri F) := by
  have p17 : (rg x o T 0 = 1 ∨ rg x o T 0 = 3) → KT G q (d + 1) zk_X5_known 17 [(0, vr o), (1, vi t)] [] x (ri F) := fun c9 => kg_X5_known_17 hq ho _ (kp_get hq ho hC hG _ _ et (show (2 : Int32).toInt = ((2 : Nat) : Int) from rfl) hT (by omega) (by
    obtain ⟨v, e, l⟩ := MM_st hC hA
    refine ⟨v, ri_i ?_⟩
    rw [e]
    have := (hC.2.2.2.1 _ l).2.2.1
    exact h _ this.1 this.2 (fun _ => rfl) (fun c => absurd c9 c)))
  exact kg_X5_known_0 hq ho _ (kp_get hq ho hC hG _ _ et (show (0 : Int32).toInt = ((0 : Nat) : Int) from rfl) hT (by omega) ⟨fun c => p17 (Or.inl c), fun c1 => ⟨fun c3 => ri_i (h _ (by decide) (by decide) (fun c => absurd c (fun z => z.elim c1 c3)) (fun _ => rfl)), fun c => p17 (Or.inr c)⟩⟩)
theorem kh_blank (hq : kV q) (ho : kiM q o) {T : Nat} (hM : MS R x o T) (hT : T < 6) (hTt : (T : Int) < (x.1 60 10).toInt) (t : Int32) (et : t.toInt = T) (h : ∀ y, MS R y o T → fm (sSt o) x y → lowE x y o → sVx x y o T → (∀ k, k < 8 → rg y o T k = rg x o T k) → (∀ p : Nat, (p : Int) < (x.1 60 13).toInt → rg y o T (8 + p) = if ((rg x o T 0 = 1 ∨ rg x o T 0 = 3) ∧ (p : Int) < (x.1 83 (rg x o T 2).toInt.toNat).toInt) then rg x o T (8 + p) else 0) → Fv y) : KT G q (d + 2) zk_X5_blankUnknown 0 [(0, vr o), (1, vi t)] [] x (rv Fv) := by
  have hO := kiM_O ho
  have k8 : (8 : Int32).toInt = 8 := rfl
  have m8 := hM.1.1.2.2.2.1
  have loop : ∀ (a : Int32), (∀ p : Nat, (p : Int) < (x.1 60 13).toInt → ((p : Int) < a.toInt ↔ ((rg x o T 0 = 1 ∨ rg x o T 0 = 3) ∧ (p : Int) < (x.1 83 (rg x o T 2).toInt.toNat).toInt))) → ∀ (n : Nat) (i : Int32) (y : gd), MS R y o T → fm (sSt o) x y → lowE x y o → sVx x y o T → (∀ k, k < 8 → rg y o T k = rg x o T k) → (∀ p : Nat, (p : Int) < (x.1 60 13).toInt → ((p : Int) < a.toInt → rg y o T (8 + p) = rg x o T (8 + p)) ∧ (¬ (p : Int) < a.toInt → (p : Int) < i.toInt → rg y o T (8 + p) = 0)) → a.toInt ≤ i.toInt → 0 ≤ i.toInt → (x.1 60 13).toInt - i.toInt ≤ n → KT G q (d + 2) zk_X5_blankUnknown 6 [(0, vr o), (1, vi t), (2, vi i)] [] y (rv Fv) := by
    intro a ha
    have done : ∀ (i : Int32) (y : gd), MS R y o T → fm (sSt o) x y → lowE x y o → sVx x y o T → (∀ k, k < 8 → rg y o T k = rg x o T k) → (∀ p : Nat, (p : Int) < (x.1 60 13).toInt → ((p : Int) < a.toInt → rg y o T (8 + p) = rg x o T (8 + p)) ∧ (¬ (p : Int) < a.toInt → (p : Int) < i.toInt → rg y o T (8 + p) = 0)) → (x.1 60 13).toInt ≤ i.toInt → Fv y := fun i y hy fy ly vy gy py c => h y hy fy ly vy gy (fun p hp => by
      by_cases c9 : (p : Int) < a.toInt
      · rw [if_pos ((ha p hp).mp c9)]; exact (py p hp).1 c9
      · rw [if_neg (fun z => c9 ((ha p hp).mpr z))]; exact (py p hp).2 c9 (by omega))
    intro n
    induction n with
    | zero =>
      intro i y hy fy ly vy gy py ia i0 hn
      refine kg_X5_blankUnknown_6 hq ho _ _ ⟨fun _ => rv_i (done i y hy fy ly vy gy py (by omega)), fun c => ?_⟩
      exfalso; rw [fy 60 13 (by unfold sSt; omega), t_le] at c; omega
    | succ n ih =>
      intro i y hy fy ly vy gy py ia i0 hn
      refine kg_X5_blankUnknown_6 hq ho _ _ ⟨fun c => rv_i (done i y hy fy ly vy gy py (by rw [fy 60 13 (by unfold sSt; omega), t_le] at c; exact c)), fun c => ?_⟩
      rw [fy 60 13 (by unfold sSt; omega), t_le] at c
      have e1 : (i + 1).toInt = i.toInt + 1 := t_add (by show _ ≤ _ + (1 : Int); omega) (by show _ + (1 : Int) ≤ _; omega)
      have e2 : (8 + i).toInt = ((8 + i.toInt.toNat : Nat) : Int) := by rw [t_add (by rw [k8]; omega) (by rw [k8]; omega), k8]; omega
      have y9 : (y.1 o 9).toInt = 8 + (x.1 60 13).toInt := by rw [fy o 9 (by unfold sSt; omega)]; exact hM.2.1.2.2.2.1
      refine kh_set hq ho hy hT _ _ _ et e2 (by omega) (by omega) (fun c => by omega) (fun c => by omega) (fun c => by omega) (fun z hz fz lz gz wz => ih _ z hz (fm_tr fy fz) (lowE_tr hO fy ly lz) (sVx_tr hO fy vy wz) (fun k hk => ?_) (fun p hp => ⟨fun c9 => ?_, fun c9 c8 => ?_⟩) (by omega) (by omega) (by omega))
      · rw [gz k (by omega), if_neg (by omega)]; exact gy k hk
      · rw [gz (8 + p) (by rw [y9]; push_cast; omega), if_neg (by omega)]; exact (py p hp).1 c9
      · rw [gz (8 + p) (by rw [y9]; push_cast; omega)]
        by_cases c7 : (p : Int) < i.toInt
        · rw [if_neg (by omega)]; exact (py p hp).2 c9 c7
        · rw [if_pos (by omega)]
  refine kg_X5_blankUnknown_0 hq ho _ (kh_known hq ho hM.1 hM.2.1 _ et hT (hM.2.2.1 T hTt).1 (fun r r0 r8 e1 e2 => loop r (fun p hp => ?_) 8 _ x hM (fm_rf _ _) (fun _ _ => rfl) sVx_rf (fun _ _ => rfl) (fun p hp => ⟨fun _ => rfl, fun c9 c8 => absurd c8 c9⟩) (Int.le_refl _) r0 (by omega)))
  by_cases c : rg x o T 0 = 1 ∨ rg x o T 0 = 3
  · rw [e1 c]; exact ⟨fun z => ⟨c, z⟩, fun z => z.2⟩
  · rw [e2 c]
    refine ⟨fun z => ?_, fun z => absurd z.1 c⟩
    have z : (p : Int) < 0 := z
    omega
theorem kh_settle (hq : kV q) (ho : kiM q o) {T : Nat} (hM : MS R x o T) (hTt : (T : Int) < (x.1 60 10).toInt) (t : Int32) (et : t.toInt = T) (h3 : rg x o T 3 = 0) (hK : CK x C) (hN : NC C) (hg0 : rg x o T 0 = 1) (hn0 : rg x o T 1 = 0) {st0 : gNs} {lv0 : Nat → Int32} (hst0 : C.1[(rg x o T 2).toInt.toNat]? = some st0) (hlv0 : ∀ p, p < st0.2.1.length → rg x o T (8 + p) = lv0 p) (hml0 : (st0.2.1.length : Int) ≤ (x.1 60 13).toInt) (h : ∀ y, MM y o → fm (sSt o) x y → (∀ t k : Nat, t ≠ T → (k : Int) < (x.1 o 8).toInt → rg y o t k = R t k) → sUx x y o T → sVx x y o T → (∃ n r, setP C (Int32.ofNat T) n 0 (rg x o T 2).toInt.toNat lv0 = some r ∧ finH C y o T r ∧ ∀ p : Nat, (p : Int) < (x.1 60 13).toInt → rg y o T (8 + p) = kvL C r.1 r.2.2.1 r.2.2.2 p) → Fv y) : KT G q (d + 3) zk_X5_settle 0 [(0, vr o), (1, vi t)] [] x (rv Fv) := by
  have hO := kiM_O ho
  have hT : T < 6 := MM_6 hM.1 hTt
  have k300 : (300 : Int32).toInt = 300 := rfl
  have k1m : (1000000 : Int32).toInt = 1000000 := rfl
  have k16 : (16 : Int32).toInt = 16 := rfl
  have k20 : (20 : Int32).toInt = 20 := rfl
  have k1 : (1 : Int32).toInt = 1 := rfl
  obtain ⟨G0, eG0⟩ : ∃ G0 : gTr → Prop, G0 = fun r => ∃ n, setP C (Int32.ofNat T) n 0 (rg x o T 2).toInt.toNat lv0 = some r := ⟨_, rfl⟩
  have p100 : ∀ y, MS R y o T → fm (sSt o) x y → sUx x y o T → sVx x y o T → (rg y o T 0 = 1 → sop y (rg y o T 2).toInt.toNat < 16) → (∃ r, G0 r ∧ finH C y o T r) → KT G q (d + 3) zk_X5_settle 100 [(0, vr o), (1, vi t)] [] y (rv Fv) := by
    intro y hy fy yu yv yg hfin
    have hTy : (T : Int) < (y.1 60 10).toInt := by rw [fy 60 10 (by unfold sSt; omega)]; exact hTt
    have y3 : rg y o T 3 = 0 := by rw [yu.1 3 (by omega) (by omega)]; exact h3
    refine kg_X5_settle_100 hq ho _ (kh_blank hq ho hy hT hTy _ et (fun z hz fz lz wz gz pz => rv_i (h z (MS_MM hz (fun _ => ?_)) (fm_tr fy fz) (fun t k hne hk => hz.2.2.2 t k hne (by rw [fz o 8 (by unfold sSt; omega), fy o 8 (by unfold sSt; omega)]; exact hk)) ⟨fun k k3 k8 => by rw [gz k k8]; exact yu.1 k k3 k8, lowE_tr hO fy yu.2 lz⟩ (sVx_tr hO fy yv wz) ?_)))
    · unfold TGo sop at *
      rw [gz 0 (by omega), gz 2 (by omega), gz 3 (by omega), fz 81 _ (by unfold sSt; omega)]
      exact fun c => ⟨yg c, fun c3 => absurd y3 c3⟩
    · obtain ⟨r, hr, hf⟩ := hfin
      rw [eG0] at hr
      obtain ⟨n, hn⟩ := hr
      obtain ⟨f0, f1, f2, f3, f4⟩ := hf
      have hKy : CK y C := CK_St hO hK fy
      have y13 : y.1 60 13 = x.1 60 13 := fy _ _ (by unfold sSt; omega)
      have key : ∀ p : Nat, (p : Int) < (x.1 60 13).toInt → rg z o T (8 + p) = kvL C r.1 r.2.2.1 r.2.2.2 p := fun p hp => by
        rw [pz p (by rw [y13]; exact hp)]
        unfold kvL
        rcases f3 with c | c | c
        · obtain ⟨st, g1, -, g2⟩ := f4 (Or.inl c)
          have e0 : rg y o T 0 = 1 := by rw [f0, c]; rfl
          have e2 : (rg y o T 2).toInt.toNat = r.2.2.1 := by rw [f2]; rfl
          have e3 : (stN C r.2.2.1) = st := by unfold stN; rw [g1]; rfl
          have e4 := (hKy.1.2 _ st g1).2.1
          rw [e2, e3, e4]
          by_cases c9 : p < st.2.1.length
          · rw [if_pos ⟨Or.inl e0, by omega⟩, if_pos ⟨Or.inl c, c9⟩]; exact g2 p c9
          · rw [if_neg (fun z => by omega), if_neg (fun z => c9 z.2)]
        · have e0 : rg y o T 0 = 2 := by rw [f0, c]; rfl
          rw [if_neg (fun z => by rw [e0] at z; exact absurd z.1 (by decide)), if_neg (fun z => by omega)]
        · obtain ⟨st, g1, -, g2⟩ := f4 (Or.inr c)
          have e0 : rg y o T 0 = 3 := by rw [f0, c]; rfl
          have e2 : (rg y o T 2).toInt.toNat = r.2.2.1 := by rw [f2]; rfl
          have e3 : (stN C r.2.2.1) = st := by unfold stN; rw [g1]; rfl
          have e4 := (hKy.1.2 _ st g1).2.1
          rw [e2, e3, e4]
          by_cases c9 : p < st.2.1.length
          · rw [if_pos ⟨Or.inr e0, by omega⟩, if_pos ⟨Or.inr c, c9⟩]; exact g2 p c9
          · rw [if_neg (fun z => by omega), if_neg (fun z => c9 z.2)]
      refine ⟨n, r, hn, ⟨by rw [gz 0 (by omega)]; exact f0, by rw [gz 1 (by omega)]; exact f1, by rw [gz 2 (by omega)]; exact f2, f3, fun c => ?_⟩, key⟩
      obtain ⟨st, g1, g3, g2⟩ := f4 c
      clear f4
      refine ⟨st, g1, by rw [fz 60 13 (by unfold sSt; omega)]; exact g3, fun p hp => ?_⟩
      rw [key p (by rw [← y13]; omega)]
      unfold kvL
      rw [if_pos ⟨c, by unfold stN; rw [g1]; exact hp⟩]
  obtain ⟨I, eI⟩ : ∃ I : Int32 → gd → Prop, I = fun own y => (rg y o T 0 = 1 ∧ rg y o T 1 = 0 ∧ ∃ st lv, C.1[(rg y o T 2).toInt.toNat]? = some st ∧ (∀ p, p < st.2.1.length → rg y o T (8 + p) = lv p) ∧ (st.2.1.length : Int) ≤ (x.1 60 13).toInt ∧ ∀ r, (∃ n, setP C (Int32.ofNat T) n own.toInt.toNat (rg y o T 2).toInt.toNat lv = some r) → G0 r) ∨ (¬ rg y o T 0 = 1 ∧ ∃ r, G0 r ∧ finH C y o T r) := ⟨_, rfl⟩
  have loop : ∀ (n : Nat) (own k : Int32) (y : gd), MS R y o T → fm (sSt o) x y → sUx x y o T → sVx x y o T → 0 ≤ own.toInt → own.toInt ≤ 301 → 0 ≤ k.toInt → (rg y o T 0 = 1 → own.toInt ≤ 300 ∧ (302 - own.toInt) * 1000 + rk x (rg y o T 2).toInt.toNat ≤ n) → k.toInt + n ≤ 500000 → I own y → KT G q (d + 3) zk_X5_settle 4 [(0, vr o), (1, vi t), (2, vi own), (3, vi k)] [] y (rv Fv) := by
    have noI : ∀ {own : Int32} {y : gd}, ¬ rg y o T 0 = 1 → I own y → ∃ r, G0 r ∧ finH C y o T r := fun {own y} hng hI => by
      rw [eI] at hI
      rcases hI with ⟨c, -⟩ | ⟨-, c⟩
      · exact absurd c hng
      · exact c
    intro n
    induction n with
    | zero =>
      intro own k y hy fy yu yv o0 o1 k0 hr hk hI
      have hng : ¬ rg y o T 0 = 1 := fun c => by have := hr c; omega
      refine kg_X5_settle_4 hq ho _ _ _ ⟨fun _ => p100 y hy fy yu yv (fun c => absurd c hng) (noI hng hI), fun _ => kp_isGoing hq ho hy.1 hy.2.1 _ et hT (fun c => absurd c hng) (fun _ => ⟨fun _ => p100 y hy fy yu yv (fun c => absurd c hng) (noI hng hI), fun c => absurd rfl c⟩)⟩
    | succ n ih =>
      intro own k y hy fy yu yv o0 o1 k0 hr hk hI
      have hTy : (T : Int) < (y.1 60 10).toInt := by rw [fy 60 10 (by unfold sSt; omega)]; exact hTt
      have hA := (hy.2.2.1 T hTy).1
      have ek : (k + 1).toInt = k.toInt + 1 := t_add (by rw [k1]; omega) (by rw [k1]; omega)
      refine kg_X5_settle_4 hq ho _ _ _ ⟨fun c => ?_, fun _ => kp_isGoing hq ho hy.1 hy.2.1 _ et hT (fun hg => ⟨fun c => absurd c (by decide), fun _ => kp_get hq ho hy.1 hy.2.1 _ _ et (show (2 : Int32).toInt = ((2 : Nat) : Int) from rfl) hT (by omega) ?_⟩) (fun hng => ⟨fun _ => p100 y hy fy yu yv (fun c => absurd c hng) (noI hng hI), fun c => absurd rfl c⟩)⟩
      · exfalso; rw [t_le, k1m] at c; omega
      have hI0 := hI
      rw [eI] at hI0
      obtain ⟨hy1, st, lv, hst, hlv, hml, lift⟩ : rg y o T 1 = 0 ∧ ∃ st lv, C.1[(rg y o T 2).toInt.toNat]? = some st ∧ (∀ p, p < st.2.1.length → rg y o T (8 + p) = lv p) ∧ (st.2.1.length : Int) ≤ (x.1 60 13).toInt ∧ ∀ r, (∃ n, setP C (Int32.ofNat T) n own.toInt.toNat (rg y o T 2).toInt.toNat lv = some r) → G0 r := by
        rcases hI0 with ⟨-, c⟩ | ⟨c, -⟩
        · exact c
        · exact absurd hg c
      clear hI0
      obtain ⟨v, e, l⟩ := MM_st hy.1 hA
      have s35 := hy.1.2.2.1.2
      have hrank := hr hg
      have hKy : CK y C := CK_St hO hK fy
      have es : ∀ j, sop y j = sop x j := fun j => by unfold sop; rw [fy 81 j (by unfold sSt; omega)]
      have rk1 : ∀ j, rk x j ≤ 401 := fun j => by unfold rk; split <;> omega
      have est2 : (rg y o T 2).toInt = (((rg y o T 2).toInt.toNat : Nat) : Int) := by have := hA.1.1; omega
      have ns := hN.1 _ st hst
      have so : sop y (rg y o T 2).toInt.toNat = (st.1 : Nat) := by
        show (y.1 81 _).toInt = _
        rw [(hKy.1.2 _ st hst).1]
        exact Int32.toInt_ofNat_of_lt (by have := ns.1.1; omega)
      have y13 : y.1 60 13 = x.1 60 13 := fy _ _ (by unfold sSt; omega)
      -- the thread's own step is done, with own steps counted own2
      have p80 : ∀ (own2 r : Int32) (z : gd), MS R z o T → fm (sSt o) y z → sUx x z o T → sVx x z o T → 0 ≤ own2.toInt → own2.toInt ≤ 301 → (r = 0 → rg z o T 0 = 1 → own2.toInt ≤ 300 ∧ (302 - own2.toInt) * 1000 + rk x (rg z o T 2).toInt.toNat ≤ n) → (r = 0 → I own2 z) → (¬ r = 0 → ∃ r9, G0 r9 ∧ r9.1 = 3 ∧ r = Int32.ofNat r9.2.1 ∧ (rg z o T 2).toInt = (r9.2.2.1 : Nat) ∧ ∃ st, C.1[r9.2.2.1]? = some st ∧ (st.2.1.length : Int) ≤ (x.1 60 13).toInt ∧ ∀ p, p < st.2.1.length → rg z o T (8 + p) = r9.2.2.2 p) → KT G q (d + 3) zk_X5_settle 80 [(0, vr o), (1, vi t), (2, vi own2), (3, vi k)] [vi r] z (rv Fv) := by
        intro own2 r z hz fz zu zv q0 q1 hrz hI0 hI1
        have z9 : (z.1 o 9).toInt = 8 + (x.1 60 13).toInt := by rw [fz o 9 (by unfold sSt; omega), fy o 9 (by unfold sSt; omega)]; exact hM.2.1.2.2.2.1
        have m13 := hM.1.1.2.2.2.1.1
        refine kg_X5_settle_80 hq ho _ _ _ _ ⟨fun c => ih own2 (k + 1) z hz (fm_tr fy fz) zu zv q0 q1 (by omega) (hrz c) (by omega) (hI0 c), fun c => kh_fail hq ho hz hT _ _ et (fun w hw fw w0 w1 wu lw wv => ih own2 (k + 1) w hw (fm_tr fy (fm_tr fz fw)) ⟨fun k k3 k8 => by rw [wu k (by omega) (by rw [z9]; omega)]; exact zu.1 k k3 k8, lowE_tr hO (fm_tr fy fz) zu.2 lw⟩ (sVx_tr hO (fm_tr fy fz) zv wv) q0 q1 (by omega) (fun c => ?_) (by omega) ?_)⟩
        · rw [w0] at c; exact absurd c (by decide)
        · obtain ⟨r9, g1, g2, g4, g3, st9, a1, a2, a3⟩ := hI1 c
          rw [eI]
          refine Or.inr ⟨by rw [w0]; decide, r9, g1, ?_, ?_, ?_, Or.inr (Or.inr g2), fun _ => ⟨st9, a1, by rw [fw 60 13 (by unfold sSt; omega), fz 60 13 (by unfold sSt; omega), fy 60 13 (by unfold sSt; omega)]; exact a2, fun p hp => ?_⟩⟩
          · rw [w0, g2]; rfl
          · rw [w1]; exact g4
          · rw [wu 2 (by omega) (by rw [z9]; omega)]; exact g3
          · rw [wu (8 + p) (by omega) (by rw [z9]; push_cast; omega)]; exact a3 p hp
      have p59 : ∀ own2 : Int32, 0 ≤ own2.toInt → own2.toInt ≤ 301 → 16 ≤ sop y (rg y o T 2).toInt.toNat → (sop y (rg y o T 2).toInt.toNat < 20 → own2.toInt = own.toInt + 1) → (20 ≤ sop y (rg y o T 2).toInt.toNat → own2 = own) → KT G q (d + 3) zk_X5_settle 59 [(0, vr o), (1, vi t), (2, vi own2), (3, vi k), (4, vi (rg y o T 2)), (5, vi (y.1 81 (rg y o T 2).toInt.toNat))] [] y (rv Fv) := by
        intro own2 q0 q1 h16 hlt hge
        have n16 : ¬ st.1 < 16 := by omega
        have eown : (if st.1 < 20 then own.toInt.toNat + 1 else own.toInt.toNat) = own2.toInt.toNat := by
          by_cases c : st.1 < 20
          · rw [if_pos c]; have := hlt (by omega); omega
          · rw [if_neg c, hge (by omega)]
        refine kg_X5_settle_59 hq ho _ _ _ _ _ ⟨fun c => kh_own hq ho hy hT hTy _ et h16 hKy hN hst hlv (by rw [y13]; exact hml) (fun r z hz fz zu zv z1 hzz how => ?_), fun c => p80 own2 6 y hy (fm_rf _ _) yu yv q0 q1 (fun c6 => absurd c6 (by decide)) (fun c6 => absurd c6 (by decide)) (fun _ => ?_)⟩
        · rw [t_le, k300] at c
          have c2 : ¬ (st.1 < 20 ∧ 300 ≤ own.toInt.toNat) := fun z => by have := hlt (by omega); omega
          refine p80 own2 r z hz fz (sUx_tr hO fy yu zu) (sVx_tr hO fy yv zv) q0 q1 (fun hr0 hgz => ⟨c, ?_⟩) (fun hr0 => ?_) (fun hr0 => ?_)
          · by_cases h20 : 20 ≤ sop y (rg y o T 2).toInt.toNat
            · rw [hge h20]
              have h0 := hzz hr0 h20
              have hne : ¬ sop x (rg y o T 2).toInt.toNat = 17 := by rw [es] at h20; omega
              have hr1 : rk x (rg y o T 2).toInt.toNat = 401 - (rg y o T 2).toInt.toNat := by unfold rk; rw [if_neg hne]
              rcases h0 with g | g | g
              · exact absurd hgz g
              · have hAz := (hz.2.2.1 T (by rw [fz 60 10 (by unfold sSt; omega)]; exact hTy)).1
                have hz2 := hAz.1.1
                have : rk x (rg z o T 2).toInt.toNat ≤ 401 - (rg z o T 2).toInt.toNat := by unfold rk; split <;> omega
                have y0 := hA.1.1
                omega
              · have : rk x (rg z o T 2).toInt.toNat = 0 := by
                  unfold rk
                  rw [es] at g
                  rw [if_pos g]
                omega
            · have e1 := hlt (by omega)
              have := rk1 (rg z o T 2).toInt.toNat
              rw [e1]
              omega
          · rw [eI]
            rcases how with ⟨n9, how, hr9, -⟩ | ⟨how, -, hz0, hz2⟩ | ⟨s2, lv2, how, -, hz0, hz2, hza, hzl⟩
            · exact absurd hr0 hr9
            · refine Or.inr ⟨by rw [hz0]; decide, (2, 0, 0, lv), lift _ ⟨1, set_l hst n16 c2 how⟩, hz0, by rw [z1]; exact hy1, by rw [hz2]; rfl, Or.inr (Or.inl rfl), fun z => absurd z (by show ¬ (2 = 1 ∨ 2 = 3); decide)⟩
            · obtain ⟨st', a1, a2⟩ := ow1_next ns (by omega) how
              have e2 : (rg z o T 2).toInt.toNat = s2 := by rw [hz2]; rfl
              refine Or.inl ⟨by rw [hz0]; exact hg, by rw [z1]; exact hy1, st', lv2, by rw [e2]; exact a1, fun p hp => hzl p (by omega), by rw [y13] at hza; omega, fun r9 hr9 => lift r9 ?_⟩
              obtain ⟨m, hm⟩ := hr9
              refine ⟨m + 1, ?_⟩
              rw [set_r hst n16 c2 how, eown]
              rw [e2] at hm
              exact hm
          · rcases how with ⟨n9, how, -, en9, hz9⟩ | ⟨-, hr9, -⟩ | ⟨s2, lv2, -, hr9, -⟩
            · exact ⟨(3, n9, _, lv), lift _ ⟨1, set_l hst n16 c2 how⟩, rfl, en9, by rw [hz9]; exact est2, st, hst, hml, fun p hp => by rw [hz9]; exact hlv p hp⟩
            · exact absurd hr9 hr0
            · exact absurd hr9 hr0
        · rw [t_le, k300] at c
          have c20 : st.1 < 20 := by
            by_cases c9 : st.1 < 20
            · exact c9
            · have := hge (by omega)
              rw [this] at c
              omega
          have := hlt (by omega)
          exact ⟨(3, 6, _, lv), lift _ ⟨1, set_6 hst n16 ⟨c20, by omega⟩⟩, rfl, rfl, est2, st, hst, hml, hlv⟩
      refine ⟨v, ?_⟩
      rw [e]
      refine ⟨fun c16 => ⟨fun c20 => ?_, fun c20 => ?_⟩, fun c16 => p100 y hy fy yu yv (fun _ => ?_) ?_⟩
      · rw [t_le, k16] at c16
        rw [t_le, k20] at c20
        exact p59 own o0 o1 c16 (fun c => by unfold sop at c; omega) (fun _ => rfl)
      · rw [t_le, k16] at c16
        rw [t_le, k20] at c20
        have e1 : (own + 1).toInt = own.toInt + 1 := t_add (by rw [k1]; omega) (by rw [k1]; omega)
        exact p59 (own + 1) (by omega) (by omega) c16 (fun _ => e1) (fun c => by unfold sop at c; omega)
      · rw [t_le, k16] at c16; unfold sop; omega
      · rw [t_le, k16] at c16
        have s16 : sop y (rg y o T 2).toInt.toNat < 16 := by unfold sop; omega
        exact ⟨(1, 0, _, lv), lift _ ⟨1, set_act hst (by omega)⟩, by rw [hg]; rfl, by rw [hy1]; rfl, est2, Or.inl rfl, fun _ => ⟨st, hst, by rw [y13]; exact hml, hlv⟩⟩
  refine kg_X5_settle_0 hq ho _ (loop 400000 _ _ x hM (fm_rf _ _) sUx_rf sVx_rf (by decide) (by decide) (by decide) (fun _ => ?_) (by decide) ?_)
  · have : rk x (rg x o T 2).toInt.toNat ≤ 401 := by unfold rk; split <;> omega
    show (0 : Int) ≤ 300 ∧ (302 - (0 : Int)) * 1000 + _ ≤ _
    omega
  · rw [eI]
    refine Or.inl ⟨hg0, hn0, st0, lv0, hst0, hlv0, hml0, fun r hr => ?_⟩
    rw [eG0]
    exact hr
end KSH
end
section
/-! the class's machine holds the machine's state -/
def kTq (x : gd) (o : Nat) (C : gCo) (t : Nat) (h : gTq) : Prop :=
  (rg x o t 0 = Int32.ofNat h.1 ∧ h.1 ≤ 3) ∧ rg x o t 1 = Int32.ofNat h.2.1 ∧ (rg x o t 2).toInt = (h.2.2.1 : Nat) ∧
  (rg x o t 3 = (if h.2.2.2.1 = 0 then 0 else (stN C h.2.2.1).2.2.2.2.1 + 1) ∧ rg x o t 5 = (if h.2.2.2.1 = 2 then 1 else 0) ∧ h.2.2.2.1 ≤ 2 ∧ (¬ h.2.2.2.1 = 0 → (stN C h.2.2.1).1 = 7)) ∧
  rg x o t 4 = h.2.2.2.2.1 ∧ rg x o t 6 = h.2.2.2.2.2.1 + 1 ∧
  ((rg x o t 7).toInt = (h.2.2.2.2.2.2.1.length : Nat) ∧ ∀ i p, h.2.2.2.2.2.2.1[i]? = some p → (rg x o t ((x.1 o 9).toInt.toNat + 2 * i)).toInt = (p.1 : Nat) ∧ rg x o t ((x.1 o 9).toInt.toNat + 2 * i + 1) = p.2) ∧
  (∀ p : Nat, (p : Int) < (x.1 60 13).toInt → rg x o t (8 + p) = h.2.2.2.2.2.2.2 p) ∧
  (h.1 = 1 ∨ h.1 = 3 → ((stN C h.2.2.1).2.1.length : Int) ≤ (x.1 60 13).toInt)
/-- cells and locks -/
def KMl (x : gd) (o : Nat) (M : gMa) : Prop := (∀ c : Nat, (c : Int) < (x.1 60 6).toInt → x.1 (o + 5) c = M.1 c) ∧ ∀ l : Nat, (l : Int) < (x.1 60 9).toInt → x.1 (o + 5) ((x.1 60 6).toInt.toNat + 2 * l) = Int32.ofNat (M.2.1 l).1 ∧ (M.2.1 l).1 ≤ 6 ∧ x.1 (o + 5) ((x.1 60 6).toInt.toNat + 2 * l + 1) = (M.2.1 l).2
def KMm (x : gd) (o : Nat) (C : gCo) (M : gMa) : Prop := KMl x o M ∧ ∀ t, t < C.2.1.length → kTq x o C t (M.2.2 t)
section KMR
variable {G : kG} {q : kP} {d : Nat} {x x0 y z : gd} {o : Nat} {F : Int32 → gd → Prop} {Fv : gd → Prop} {C : gCo} {M : gMa} {h h' : gTq} {t T : Nat}
theorem sM_e (hO : o = 120 ∨ o = 220) (f : fm (sMk o) x y) : y.1 60 6 = x.1 60 6 ∧ y.1 60 9 = x.1 60 9 ∧ y.1 60 13 = x.1 60 13 ∧ y.1 o 9 = x.1 o 9 ∧ y.1 o 8 = x.1 o 8 ∧ y.1 o 7 = x.1 o 7 ∧ y.1 60 10 = x.1 60 10 := ⟨f _ _ (by unfold sMk; omega), f _ _ (by unfold sMk; omega), f _ _ (by unfold sMk; omega), f _ _ (by unfold sMk; omega), f _ _ (by unfold sMk; omega), f _ _ (by unfold sMk; omega), f _ _ (by unfold sMk; omega)⟩
theorem CK_M (hO : o = 120 ∨ o = 220) (hK : CK x C) (f : fm (sMk o) x y) : CK y C := CK_f hK (fun c k hc => f c k (by unfold sMk; omega))
/-- its late ones lie within the row -/
theorem lt_in (hC : CO x) (hG : MG x o) (hA : TA x o t) {i : Nat} (hi : (i : Int) < (rg x o t 7).toInt) : x.1 o 3 = 1 ∧ (((x.1 o 9).toInt.toNat + 2 * i + 1 : Nat) : Int) < (x.1 o 8).toInt := by
  obtain ⟨b1, b2, b3, b4, b5, -⟩ := MG_b hC hG
  have k0 : (0 : Int32).toInt = 0 := rfl
  have hw : x.1 o 3 = 1 := by
    by_cases hw : x.1 o 3 = 1
    · exact hw
    · have := hA.2.2.1 hw
      rw [this, k0] at hi; omega
  have := b5 hw
  have := hA.2.1
  exact ⟨hw, by omega⟩
theorem kTq_e (hC : CO x) (hG : MG x o) (hA : TA x o t) (e13 : y.1 60 13 = x.1 60 13) (e9 : y.1 o 9 = x.1 o 9) (e : ∀ k : Nat, (k : Int) < (x.1 o 8).toInt → rg y o t k = rg x o t k) (g : kTq x o C t h) : kTq y o C t h := by
  obtain ⟨b1, b2, b3, b4, b5, b6, b7⟩ := MG_b hC hG
  obtain ⟨⟨q0, q0'⟩, q1, q2, ⟨q3, q5, qw⟩, q4, q6, ⟨q7, ql⟩, qv, qk⟩ := g
  refine ⟨⟨by rw [e 0 (by omega)]; exact q0, q0'⟩, by rw [e 1 (by omega)]; exact q1, by rw [e 2 (by omega)]; exact q2, ⟨by rw [e 3 (by omega)]; exact q3, by rw [e 5 (by omega)]; exact q5, qw⟩, by rw [e 4 (by omega)]; exact q4, by rw [e 6 (by omega)]; exact q6, ⟨by rw [e 7 (by omega)]; exact q7, fun i p hp => ?_⟩, fun p hp => ?_, by rw [e13]; exact qk⟩
  · have hi := gt_lt hp
    have := (lt_in hC hG hA (i := i) (by rw [q7]; omega)).2
    rw [e9, e _ (by omega), e _ (by omega)]; exact ql i p hp
  · rw [e13] at hp; rw [e _ (by push_cast; omega)]; exact qv p hp
theorem KMl_e (hG : MG x o) (f6 : y.1 60 6 = x.1 60 6) (f9 : y.1 60 9 = x.1 60 9) (l : lowE x y o) (g : KMl x o M) (hC : CO x) : KMl y o M := by
  obtain ⟨g1, g2, g3, -⟩ := hG
  have c1 := hC.1.1
  have c2 := hC.1.2.1
  refine ⟨fun c hc => ?_, fun l' hl => ?_⟩
  · rw [f6] at hc; rw [l c (by omega)]; exact g.1 c hc
  · rw [f9] at hl
    rw [f6, l _ (by omega), l _ (by omega)]; exact g.2 l' hl
/-- nothing of the row changes -/
theorem KMm_fr (hO : o = 120 ∨ o = 220) (hM : MM x o) (hK : CK x C) (f6 : y.1 60 6 = x.1 60 6) (f9 : y.1 60 9 = x.1 60 9) (e13 : y.1 60 13 = x.1 60 13) (e9 : y.1 o 9 = x.1 o 9) (l : lowE x y o) (e : ∀ t k, rg y o t k = rg x o t k) (g : KMm x o C M) : KMm y o C M := by
  have nT : (x.1 60 10).toInt = C.2.1.length := hK.2.1.1
  exact ⟨KMl_e hM.2.1 f6 f9 l g.1 hM.1, fun t ht => kTq_e hM.1 hM.2.1 (hM.2.2 t (by omega)).1 e13 e9 (fun k _ => e t k) (g.2 t ht)⟩
/-- a thread's fields change -/
theorem KMm_T (hO : o = 120 ∨ o = 220) (hM : MM x o) (hK : CK x C) (f : fm (sMk o) x y) (l : lowE x y o) (e : ∀ t k : Nat, t ≠ T → (k : Int) < (x.1 o 8).toInt → rg y o t k = rg x o t k) (g : KMm x o C M) (g' : kTq y o C T h') : KMm y o C (upT M T h') := by
  have nT : (x.1 60 10).toInt = C.2.1.length := hK.2.1.1
  obtain ⟨f6, f9, e13, e9, -⟩ := sM_e hO f
  refine ⟨KMl_e hM.2.1 f6 f9 l g.1 hM.1, fun t ht => ?_⟩
  show kTq y o C t (upf M.2.2 T h' t)
  unfold upf
  by_cases c : t = T
  · rw [if_pos c, c]; exact g'
  · rw [if_neg c]; exact kTq_e hM.1 hM.2.1 (hM.2.2 t (by omega)).1 e13 e9 (fun k hk => e t k c hk) (g.2 t ht)
/-- a cell is written -/
theorem KMm_c (hO : o = 120 ∨ o = 220) (hM : MM x o) (hK : CK x C) {c : Nat} {v : Int32} (hc : (c : Int) < (x.1 60 6).toInt) (ey : y = si x (o + 5) c v) (g : KMm x o C M) : KMm y o C (upC M c v) := by
  have nT : (x.1 60 10).toInt = C.2.1.length := hK.2.1.1
  obtain ⟨g1, g2, g3, -⟩ := hM.2.1
  have c2 := hM.1.1.2.1
  have f : ∀ c' k, c' ≠ o + 5 → y.1 c' k = x.1 c' k := fun c' k hc' => by rw [ey, si_cell hc']
  have r : ∀ t k, rg y o t k = rg x o t k := fun t k => rg_low hO (by omega) ey
  refine ⟨⟨fun c' hc' => ?_, fun l hl => ?_⟩, fun t ht => kTq_e hM.1 hM.2.1 (hM.2.2 t (by omega)).1 (f _ _ (by omega)) (f _ _ (by omega)) (fun k _ => r t k) (g.2 t ht)⟩
  · rw [f 60 6 (by omega)] at hc'
    rw [ey, si_get]
    show _ = upf M.1 c v c'
    unfold upf
    by_cases e : c' = c
    · rw [if_pos ⟨rfl, e⟩, if_pos e]
    · rw [if_neg (fun z => e z.2), if_neg e]; exact g.1.1 c' hc'
  · rw [f 60 9 (by omega)] at hl
    rw [f 60 6 (by omega), ey, si_get, if_neg (fun z => by have := z.2; omega), si_get, if_neg (fun z => by have := z.2; omega)]
    exact g.1.2 l hl
theorem AR_KM {S : Nat → Prop} (hO : o = 120 ∨ o = 220) (hM : MM x o) (hK : CK x C) (a : AR S x y o) (l : lowE x y o) (e : ∀ t k, rg y o t k = rg x o t k) (g : KMm x o C M) : KMm y o C M := by
  obtain ⟨f6, f9, e13, e9, -⟩ := sM_e hO a.2.1
  exact KMm_fr hO hM hK f6 f9 e13 e9 l e g
/-- a lock is set -/
theorem kh_setLock {S : Nat → Prop} (hq : kV q) (ho : kiM q o) (hM : MM x o) (hK : CK x C) (g : KMm x o C M) (l a b : Int32) {L n : Nat} (eL : l.toInt = L) (hl : (L : Int) < (x.1 60 9).toInt) (ha : a + 1 = Int32.ofNat n) (hn : n ≤ 6) (hF : ∀ y, AR S x y o → (∀ t k, rg y o t k = rg x o t k) → KMm y o C (upL M L (n, b)) → Fv y) : KT G q d zk_X5_setLock 0 [(0, vr o), (1, vi l), (2, vi a), (3, vi b)] [] x (rv Fv) := by
  have nT : (x.1 60 10).toInt = C.2.1.length := hK.2.1.1
  have hO := kiM_O ho
  obtain ⟨e1, e2, e3, e4, e5⟩ := lk_ix hM.1 hM.2.1 (l := l) (by omega) (by omega)
  have c1 := hM.1.1.1
  refine kg_X5_setLock_0 hq ho _ _ _ ⟨by rw [vp_in_iff]; omega, fun x2 f2 => ?_⟩
  have q6 : x2.1 o 6 = x.1 o 6 := by rw [f2, si_cell (by omega)]
  have q7 : x2.1 o 7 = x.1 o 7 := by rw [f2, si_cell (by omega)]
  rw [q6]
  refine ⟨by rw [vp_in_iff]; omega, fun z fz => rv_i ?_⟩
  have n1 : (x.1 o 6 + 2 * l).toNatClampNeg = (x.1 60 6).toInt.toNat + 2 * L := by rw [t_cl, e1]; omega
  have n2 : (x.1 o 6 + 2 * l + 1).toNatClampNeg = (x.1 60 6).toInt.toNat + 2 * L + 1 := by rw [t_cl, e2]; omega
  rw [n1] at f2
  rw [n2] at fz
  have r : ∀ t k, rg z o t k = rg x o t k := fun t k => by
    rw [rg_low hO (j := (x.1 60 6).toInt.toNat + 2 * L + 1) (by rw [q7]; omega) fz, rg_low hO (by omega) f2]
  have fr : fm (fun c k => c = o + 5) x z := by rw [fz, f2]; exact fm_si (fm_si (fm_rf _ _) rfl) rfl
  have ar : AR S x z o := AR_row hO hM fr r
  have f : ∀ c' k, c' ≠ o + 5 → z.1 c' k = x.1 c' k := fun c' k hc' => fr _ _ hc'
  have gt : ∀ j, z.1 (o + 5) j = if j = (x.1 60 6).toInt.toNat + 2 * L + 1 then b else if j = (x.1 60 6).toInt.toNat + 2 * L then a + 1 else x.1 (o + 5) j := fun j => by
    rw [fz, si_get]
    by_cases c : j = (x.1 60 6).toInt.toNat + 2 * L + 1
    · rw [if_pos ⟨rfl, c⟩, if_pos c]
    · rw [if_neg (fun z => c z.2), if_neg c, f2, si_get]
      by_cases c' : j = (x.1 60 6).toInt.toNat + 2 * L
      · rw [if_pos ⟨rfl, c'⟩, if_pos c']
      · rw [if_neg (fun z => c' z.2), if_neg c']
  refine hF z ar r ⟨⟨fun c' hc' => ?_, fun l' hl' => ?_⟩, fun t ht => kTq_e hM.1 hM.2.1 (hM.2.2 t (by omega)).1 (f _ _ (by omega)) (f _ _ (by omega)) (fun k _ => r t k) (g.2 t ht)⟩
  · rw [f 60 6 (by omega)] at hc'
    rw [gt, if_neg (by omega), if_neg (by omega)]; exact g.1.1 c' hc'
  · rw [f 60 9 (by omega)] at hl'
    rw [f 60 6 (by omega), gt, gt]
    show _ = Int32.ofNat (upf M.2.1 L (n, b) l').1 ∧ (upf M.2.1 L (n, b) l').1 ≤ 6 ∧ _ = (upf M.2.1 L (n, b) l').2
    unfold upf
    by_cases c : l' = L
    · rw [if_pos c, if_neg (by omega), if_pos (by omega), if_pos (by omega)]; exact ⟨ha, hn, rfl⟩
    · rw [if_neg c, if_neg (by omega), if_neg (by omega), if_neg (by omega), if_neg (by omega)]; exact g.1.2 l' hl'
theorem kh_holder (hq : kV q) (ho : kiM q o) (hM : MM x o) (g : KMm x o C M) (l : Int32) {L : Nat} (eL : l.toInt = L) (hl : (L : Int) < (x.1 60 9).toInt) (h : F (Int32.ofNat (M.2.1 L).1 - 1) x) : KT G q d zk_X5_holder 0 [(0, vr o), (1, vi l)] [] x (ri F) := by
  obtain ⟨e1, e2, e3, e4, e5⟩ := lk_ix hM.1 hM.2.1 (l := l) (by omega) (by omega)
  have c1 := hM.1.1.1
  refine kg_X5_holder_0 hq ho _ ⟨by rw [vp_in_iff]; omega, ri_i ?_⟩
  have n1 : (x.1 o 6 + 2 * l).toNatClampNeg = (x.1 60 6).toInt.toNat + 2 * L := by rw [t_cl, e1]; omega
  rw [n1, (g.1.2 L hl).1]; exact h
theorem kh_often (hq : kV q) (ho : kiM q o) (hM : MM x o) (g : KMm x o C M) (l : Int32) {L : Nat} (eL : l.toInt = L) (hl : (L : Int) < (x.1 60 9).toInt) (h : F (M.2.1 L).2 x) : KT G q d zk_X5_often 0 [(0, vr o), (1, vi l)] [] x (ri F) := by
  obtain ⟨e1, e2, e3, e4, e5⟩ := lk_ix hM.1 hM.2.1 (l := l) (by omega) (by omega)
  have c1 := hM.1.1.1
  refine kg_X5_often_0 hq ho _ ⟨by rw [vp_in_iff]; omega, ri_i ?_⟩
  have n2 : (x.1 o 6 + 2 * l + 1).toNatClampNeg = (x.1 60 6).toInt.toNat + 2 * L + 1 := by rw [t_cl, e2]; omega
  rw [n2, (g.1.2 L hl).2.2]; exact h
/-- a lock's holder is nobody, or this thread -/
theorem hol_n : ∀ h, h < 7 → (Int32.ofNat h - 1 = -1 ↔ h = 0) := by decide +kernel
theorem kw_i (hA : TA x o t) (g : kTq x o C t h) : rg x o t 0 = 1 ↔ h.1 = 1 := by
  obtain ⟨⟨q0, q0'⟩, -⟩ := g
  have s : ∀ n, n < 4 → (Int32.ofNat n = 1 ↔ n = 1) := by decide +kernel
  rw [q0]; exact s _ (by omega)
end KMR
end
