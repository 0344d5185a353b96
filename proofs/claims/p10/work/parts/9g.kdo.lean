/-! the class: what acts do -/
section KDO
variable {G : kG} {q : kP} {d : Nat} {x x0 y z : gd} {o : Nat} {F : Int32 → gd → Prop} {Fv : gd → Prop}
/-- an act: status and step stay; of the deed only what S says changes -/
def AR (S : Nat → Prop) (x y : gd) (o : Nat) : Prop := MM y o ∧ fm (sMk o) x y ∧ (∀ t k : Nat, (k = 0 ∨ k = 2) → rg y o t k = rg x o t k) ∧ ∀ k, ¬ S k → y.1 (o + 20) k = x.1 (o + 20) k
theorem AR_tr {S : Nat → Prop} (a : AR S x y o) (b : AR S y z o) : AR S x z o := ⟨b.1, fm_tr a.2.1 b.2.1, fun t k h => (b.2.2.1 t k h).trans (a.2.2.1 t k h), fun k h => (b.2.2.2 k h).trans (a.2.2.2 k h)⟩
theorem AR_rf {S : Nat → Prop} (h : MM x o) : AR S x x o := ⟨h, fm_rf _ _, fun _ _ _ => rfl, fun _ _ => rfl⟩
theorem AR_w {S S' : Nat → Prop} (a : AR S x y o) (h : ∀ k, S k → S' k) : AR S' x y o := ⟨a.1, a.2.1, a.2.2.1, fun k hk => a.2.2.2 k (fun q => hk (h k q))⟩
theorem AR_deed {S : Nat → Prop} (hO : o = 120 ∨ o = 220) (h : MM x o) {k : Nat} {v : Int32} (hS : S k) (e : y = si x (o + 20) k v) : AR S x y o ∧ ∀ t j, rg y o t j = rg x o t j := by
  have f : fm (fun c j => c = o + 20 ∧ j = k) x y := by rw [e]; exact fm_si (fm_rf _ _) ⟨rfl, rfl⟩
  have fM : fm (sMk o) x y := fm_w f (fun c j q => by unfold sMk; omega)
  have r : ∀ t j, rg y o t j = rg x o t j := fun t j => rg_eq hO (fm_w f (fun c j q => by omega)) t j
  exact ⟨⟨MM_low hO h fM r, fM, fun t j _ => r t j, fun j hj => f _ _ (fun q => hj (by rw [q.2]; exact hS))⟩, r⟩
theorem AR_wk {S : Nat → Prop} (hO : o = 120 ∨ o = 220) (h : MM x o) (f : fm sWk x y) : AR S x y o ∧ ∀ t j, rg y o t j = rg x o t j := by
  have fM : fm (sMk o) x y := fm_w f (fun c j q => by unfold sWk at q; unfold sMk; omega)
  have r : ∀ t j, rg y o t j = rg x o t j := fun t j => rg_eq hO (fm_w f (fun c j q => by unfold sWk at q; omega)) t j
  exact ⟨⟨MM_low hO h fM r, fM, fun t j _ => r t j, fun j hj => f _ _ (by unfold sWk; omega)⟩, r⟩
theorem AR_row {S : Nat → Prop} (hO : o = 120 ∨ o = 220) (h : MM x o) (f : fm (fun c k => c = o + 5) x y) (r : ∀ t j, rg y o t j = rg x o t j) : AR S x y o := by
  have fM : fm (sMk o) x y := fm_w f (fun c j q => Or.inl q)
  exact ⟨MM_low hO h fM r, fM, fun t j _ => r t j, fun j hj => f _ _ (by omega)⟩
/-- a plain field is set -/
theorem ka_set {S : Nat → Prop} (hq : kV q) (ho : kiM q o) (h : MM x o) {T K : Nat} (t f v : Int32) (et : t.toInt = T) (ef : f.toInt = K) (hT : T < 6) (hK : (K : Int) < (x.1 o 9).toInt) (h0 : K ≠ 0 ∧ K ≠ 2 ∧ K ≠ 7) (h3 : K = 3 → v = 0 ∨ (rg x o T 0 = 1 ∧ sop x (rg x o T 2).toInt.toNat = 7)) (hF : ∀ y, AR S x y o → (∀ k : Nat, k < 8 → rg y o T k = if k = K then v else rg x o T k) → Fv y) : KT G q d zk_X5_set 0 [(0, vr o), (1, vi t), (2, vi f), (3, vi v)] [] x (rv Fv) := by
  obtain ⟨b1, b2, b3, b4, -⟩ := MG_b h.1 h.2.1
  have hO := kiM_O ho
  refine km_set hq ho h t f v et ef hT (by omega) ⟨h0.1, h0.2.1⟩ h3 (fun c => absurd c h0.2.2) (fun j hj c => by omega) (fun y hy fy gy => hF y ⟨hy, fm_w fy (fun c k q => sSt_M q), fun t k hk => ?_, fun k hk => fy _ _ (by unfold sSt; omega)⟩ (fun k hk => ?_))
  · rw [gy t k (by omega), if_neg (fun q => by omega)]
  · rw [gy T k (by omega)]
    by_cases e : k = K
    · rw [if_pos ⟨rfl, e⟩, if_pos e]
    · rw [if_neg (fun q => e q.2), if_neg e]
theorem ka_setLock {S : Nat → Prop} (hq : kV q) (ho : kiM q o) (h : MM x o) (l a b : Int32) (h0 : 0 ≤ l.toInt ∧ l.toInt < (x.1 60 9).toInt) (hF : ∀ y, AR S x y o → (∀ t k, rg y o t k = rg x o t k) → Fv y) : KT G q d zk_X5_setLock 0 [(0, vr o), (1, vi l), (2, vi a), (3, vi b)] [] x (rv Fv) :=
  kp_setLock hq ho h.1 h.2.1 l a b h0.1 h0.2 (fun y f r => hF y (AR_row (kiM_O ho) h f r) r)
theorem AR_lk {S : Nat → Prop} (hO : o = 120 ∨ o = 220) (a : AR S x y o) {l : Int32} (h : 0 ≤ l.toInt ∧ l.toInt < (x.1 60 9).toInt) : 0 ≤ l.toInt ∧ l.toInt < (y.1 60 9).toInt := by rw [a.2.1 60 9 (by unfold sMk; omega)]; exact h
theorem AR_9 {S : Nat → Prop} (hO : o = 120 ∨ o = 220) (a : AR S x y o) : y.1 o 9 = x.1 o 9 ∧ y.1 60 10 = x.1 60 10 ∧ y.1 60 6 = x.1 60 6 := ⟨a.2.1 _ _ (by unfold sMk; omega), a.2.1 _ _ (by unfold sMk; omega), a.2.1 _ _ (by unfold sMk; omega)⟩
theorem ka_doGive {S : Nat → Prop} (hq : kV q) (ho : kiM q o) (h : MM x o) (t l : Int32) (hl : 0 ≤ l.toInt ∧ l.toInt < (x.1 60 9).toInt) (hF : ∀ r y, AR S x y o → (∀ t k, rg y o t k = rg x o t k) → F r y) : KT G q (d + 1) zk_X5_doGive 0 [(0, vr o), (1, vi t), (2, vi l)] [] x (ri F) := by
  have p30 : ∀ a b : Int32, KT G q (d + 1) zk_X5_doGive 30 [(3, vi a)] [vi b, vi l, vr o] x (ri F) := fun a b => kg_X5_doGive_30 hq ho _ _ _ (ka_setLock hq ho h _ _ _ hl (fun y hy ry => ri_i (hF _ y hy ry)))
  exact kg_X5_doGive_0 hq ho _ _ (kp_holder hq ho h.1 h.2.1 _ hl.1 hl.2 (fun r => ⟨fun _ => kp_often hq ho h.1 h.2.1 _ hl.1 hl.2 (fun r5 => ⟨fun _ => p30 _ _, fun _ => p30 _ _⟩), fun _ => ri_i (hF _ x (AR_rf h) (fun _ _ => rfl))⟩))
theorem ka_doWait {S : Nat → Prop} (hq : kV q) (ho : kiM q o) (h : MM x o) {T : Nat} (t l : Int32) (et : t.toInt = T) (hT : T < 6) (hg : rg x o T 0 = 1 ∧ sop x (rg x o T 2).toInt.toNat = 7) (hl : 0 ≤ l.toInt ∧ l.toInt < (x.1 60 9).toInt) (hF : ∀ r y, AR S x y o → F r y) : KT G q (d + 1) zk_X5_doWait 0 [(0, vr o), (1, vi t), (2, vi l)] [] x (ri F) := by
  have hO := kiM_O ho
  obtain ⟨b1, b2, b3, b4, -⟩ := MG_b h.1 h.2.1
  refine kg_X5_doWait_0 hq ho _ _ (kp_holder hq ho h.1 h.2.1 _ hl.1 hl.2 (fun r => ⟨fun _ => ka_set (S := S) hq ho h _ _ _ et (show (3 : Int32).toInt = ((3 : Nat) : Int) from rfl) hT (by omega) (by omega) (fun _ => Or.inr hg) (fun y hy gy => ?_), fun _ => ri_i (hF _ x (AR_rf h))⟩))
  have ly := AR_lk hO hy hl
  refine kp_often hq ho hy.1.1 hy.1.2.1 _ ly.1 ly.2 (fun r6 => ka_set (S := S) hq ho hy.1 _ _ _ et (show (4 : Int32).toInt = ((4 : Nat) : Int) from rfl) hT (by rw [(AR_9 hO hy).1]; omega) (by omega) (fun c => by omega) (fun z hz gz => ?_))
  exact ka_setLock hq ho hz.1 _ _ _ (AR_lk hO hz ly) (fun w hw rw => ri_i (hF _ w (AR_tr (AR_tr hy hz) hw)))
theorem ka_doRetake {S : Nat → Prop} (hq : kV q) (ho : kiM q o) (h : MM x o) {T : Nat} (t l : Int32) (et : t.toInt = T) (hT : T < 6) (hl : 0 ≤ l.toInt ∧ l.toInt < (x.1 60 9).toInt) (hF : ∀ r y, AR S x y o → rg y o T 3 = 0 → F r y) : KT G q (d + 1) zk_X5_doRetake 0 [(0, vr o), (1, vi t), (2, vi l)] [] x (ri F) := by
  have hO := kiM_O ho
  obtain ⟨b1, b2, b3, b4, -⟩ := MG_b h.1 h.2.1
  refine kg_X5_doRetake_0 hq ho _ _ (kp_get hq ho h.1 h.2.1 _ _ et (show (4 : Int32).toInt = ((4 : Nat) : Int) from rfl) hT (by omega) (ka_setLock (S := S) hq ho h _ _ _ hl (fun y hy ry => ?_)))
  refine ka_set (S := S) hq ho hy.1 _ _ _ et (show (3 : Int32).toInt = ((3 : Nat) : Int) from rfl) hT (by rw [(AR_9 hO hy).1]; omega) (by omega) (fun _ => Or.inl rfl) (fun z hz gz => ?_)
  have e2 := (AR_9 hO (AR_tr hy hz)).1
  refine ka_set (S := S) hq ho hz.1 _ _ _ et (show (4 : Int32).toInt = ((4 : Nat) : Int) from rfl) hT (by rw [e2]; omega) (by omega) (fun c => by omega) (fun w hw gw => ?_)
  have e3 := (AR_9 hO (AR_tr (AR_tr hy hz) hw)).1
  refine ka_set (S := S) hq ho hw.1 _ _ _ et (show (5 : Int32).toInt = ((5 : Nat) : Int) from rfl) hT (by rw [e3]; omega) (by omega) (fun c => by omega) (fun v hv gv => ri_i (hF _ v (AR_tr (AR_tr (AR_tr hy hz) hw) hv) ?_))
  rw [gv 3 (by omega), if_neg (by omega), gw 3 (by omega), if_neg (by omega), gz 3 (by omega), if_pos rfl]
theorem ka_doWake {S : Nat → Prop} (hS : S 6) (hq : kV q) (ho : kiM q o) (h : MM x o) {T : Nat} (t l a u : Int32) (hT : T < 6) (hl : 0 ≤ l.toInt ∧ l.toInt < (x.1 60 9).toInt) (hF : ∀ r y, AR S x y o → rg y o T 3 = rg x o T 3 → F r y) : KT G q (d + 2) zk_X5_doWake 0 [(0, vr o), (1, vi t), (2, vi l), (3, vi a), (4, vi u)] [] x (ri F) := by
  have hO := kiM_O ho
  obtain ⟨b1, b2, b3, b4, -⟩ := MG_b h.1 h.2.1
  have t6 := h.1.1.2.2.1
  have loop : ∀ (n k : Nat) (i : Int32) (y : gd), i.toInt = k → (x.1 60 10).toInt - k ≤ n → AR S x y o → rg y o T 3 = rg x o T 3 → KT G q (d + 2) zk_X5_doWake 47 [(0, vr o), (5, vi i)] [] y (ri F) := by
    intro n
    induction n with
    | zero =>
      intro k i y ei hn hy y3
      refine kg_X5_doWake_47 hq ho _ ⟨fun _ => ri_i (hF _ y hy y3), fun c => ?_⟩
      exfalso; rw [(AR_9 hO hy).2.1, t_le] at c; omega
    | succ n ih =>
      intro k i y ei hn hy y3
      refine kg_X5_doWake_47 hq ho _ ⟨fun _ => ri_i (hF _ y hy y3), fun c => ?_⟩
      rw [(AR_9 hO hy).2.1, t_le] at c
      have e1 : (i + 1).toInt = ((k + 1 : Nat) : Int) := by rw [t_add (by show _ ≤ _ + (1 : Int); omega) (by show _ + (1 : Int) ≤ _; omega), ei]; rfl
      refine ⟨fun _ => ih (k + 1) _ y e1 (by push_cast; omega) hy y3, fun _ => ?_⟩
      have y9 := (AR_9 hO hy).1
      obtain ⟨c1, c2, c3, c4, -⟩ := MG_b hy.1.1 hy.1.2.1
      refine km_set hq ho hy.1 _ _ _ ei (show (5 : Int32).toInt = ((5 : Nat) : Int) from rfl) (by omega) (by omega) (by omega) (fun c => by omega) (fun c => by omega) (fun j hj c => by omega) (fun z hz fz gz => ih (k + 1) _ z e1 (by push_cast; omega) (AR_tr hy ⟨hz, fm_w fz (fun c k q => sSt_M q), fun t k hk => ?_, fun k hk => fz _ _ (by unfold sSt; omega)⟩) ?_)
      · rw [gz t k (by omega), if_neg (fun q => by omega)]
      · rw [gz T 3 (by omega), if_neg (fun q => by omega)]; exact y3
  have start : ∀ (v : Int32) (y : gd), y = si x (o + 20) 6 v → KT G q (d + 2) zk_X5_doWake 47 [(0, vr o), (5, vi 0)] [] y (ri F) := fun v y ey => by
    obtain ⟨g1, g2⟩ := AR_deed hO h hS ey
    exact loop 6 0 _ y rfl (by omega) g1 (g2 T 3)
  exact kg_X5_doWake_0 hq ho _ _ _ _ (kp_holder hq ho h.1 h.2.1 _ hl.1 hl.2 (fun r => ⟨fun _ => ⟨fun _ => ⟨fun _ y ey => start _ y ey, fun _ y ey => start _ y ey⟩, fun _ => kp_waiters hq ho h.1 h.2.1 _ (fun r9 y ey => start _ y ey)⟩, fun _ => ri_i (hF _ x (AR_rf h) rfl)⟩))
theorem ka_call {S : Nat → Prop} (hS : S 4) (hq : kV q) (ho : kiM q o) (h : MM x o) {T : Nat} (t s p : Int32) (et : t.toInt = T) (hT : T < 6) (vs : vp_in s 400) (hF : ∀ r y, AR S x y o → rg y o T 3 = rg x o T 3 → F r y) : KT G q (d + 2) zk_X5_doCallOrBack 0 [(0, vr o), (1, vi t), (2, vi s), (3, vi p)] [] x (ri F) := by
  have hO := kiM_O ho
  obtain ⟨b1, b2, b3, b4, -⟩ := MG_b h.1 h.2.1
  refine kg_X5_doCallOrBack_0 hq ho _ _ _ ⟨vs, kp_localsAt hq ho h.1 h.2.1 _ et hT (fun r3 r0 r4 => kp_work hq h.1 (kk_M5 ho) (kl_M5 hq ho) _ _ _ r0 r4 (fun r5 y fy => ?_))⟩
  obtain ⟨hy, ry⟩ := AR_wk (S := S) hO h fy
  have y9 := (AR_9 hO hy).1
  have p101 : ∀ v : Int32, KT G q (d + 2) zk_X5_doCallOrBack 101 [(0, vr o), (4, vi r5)] [vi v, vi 6, vi t, vr o] y (ri F) := by
    intro v
    refine kg_X5_doCallOrBack_101 hq ho _ _ _ _ (ka_set (S := S) hq ho hy.1 _ _ _ et (show (6 : Int32).toInt = ((6 : Nat) : Int) from rfl) hT (by rw [y9]; omega) (by omega) (fun c => by omega) (fun z hz gz w ew => ?_))
    obtain ⟨hw, rw9⟩ := AR_deed hO hz.1 hS ew
    refine ri_i (hF _ w (AR_tr (AR_tr hy hz) hw) ?_)
    rw [rw9, gz 3 (by omega), if_neg (by omega), ry]
  have p70 : ∀ a b : Int32, KT G q (d + 2) zk_X5_doCallOrBack 70 [(0, vr o), (1, vi t), (2, vi s), (3, vi p), (4, vi r5)] [vi a, vi b] y (ri F) := fun a b => kg_X5_doCallOrBack_70 hq ho _ _ _ _ _ _ ⟨fun _ => ⟨fun _ => p101 _, fun _ => ⟨vs, p101 _⟩⟩, fun _ => ri_i (hF _ y hy (ry T 3))⟩
  have p55 : ∀ a : Int32, KT G q (d + 2) zk_X5_doCallOrBack 55 [(0, vr o), (1, vi t), (2, vi s), (3, vi p), (4, vi r5)] [vi a] y (ri F) := fun a => kg_X5_doCallOrBack_55 hq ho _ _ _ _ _ ⟨fun _ => p70 _ _, fun _ => p70 _ _⟩
  exact ⟨fun _ => kp_get hq ho hy.1.1 hy.1.2.1 _ _ et (show (6 : Int32).toInt = ((6 : Nat) : Int) from rfl) hT (by omega) ⟨fun _ => p55 _, fun _ => p55 _⟩, fun _ => ri_i (hF _ y hy (ry T 3))⟩
theorem ka_write {S : Nat → Prop} (hS : S 4) (hq : kV q) (ho : kiM q o) (h : MM x o) {T st : Nat} (t s c v : Int32) (et : t.toInt = T) (hT : (T : Int) < (x.1 60 10).toInt) (es : s.toInt = st) (hst : (st : Int) < ssm x) (hc : 0 ≤ c.toInt ∧ c.toInt < (x.1 60 6).toInt) (hF : ∀ r y, AR S x y o → rg y o T 3 = rg x o T 3 → F r y) : KT G q (d + 2) zk_X5_doWrite 0 [(0, vr o), (1, vi t), (2, vi s), (3, vi c), (4, vi v)] [] x (ri F) := by
  have hO := kiM_O ho
  have hT6 := MM_6 h.1 hT
  have k8 : (8 : Int32).toInt = 8 := rfl
  have k1 : (1 : Int32).toInt = 1 := rfl
  obtain ⟨b1, b2, b3, b4, b5, b6, b7⟩ := MG_b h.1 h.2.1
  have c24 := h.1.1.1
  obtain ⟨a1, a2, a3, a4, a5⟩ := (h.2.2 T hT).1
  refine kg_X5_doWrite_0 hq ho _ _ _ _ (kp_goesLate hq ho h.1 _ es hst (fun r hr => ⟨fun c0 => kp_get hq ho h.1 h.2.1 _ _ et (show (7 : Int32).toInt = ((7 : Nat) : Int) from rfl) hT6 (by omega) ⟨fun c8 => ?_, fun _ => ri_i (hF _ x (AR_rf h) rfl)⟩, fun c0 => ⟨by rw [vp_in_iff]; omega, fun y ey z ez => ?_⟩⟩))
  · have hw := hr c0
    rw [t_lt, k8] at c8
    have b5 := b5 hw
    have eJ : (rg x o T 7).toInt = (((rg x o T 7).toInt.toNat : Nat) : Int) := by omega
    refine km_setLate hq ho h hw _ _ _ _ et eJ hT6 (by omega) hc (fun y hy fy gy hl => ?_)
    have hy' : AR S x y o := ⟨hy, fm_w fy (fun c k q => sSt_M q), fun t k hk => gy t k (by omega), fun k hk => fy _ _ (by unfold sSt; omega)⟩
    have f9 : y.1 o 9 = x.1 o 9 := fy _ _ (by unfold sSt; omega)
    have f8 : y.1 o 8 = x.1 o 8 := fy _ _ (by unfold sSt; omega)
    have f3 : y.1 o 3 = x.1 o 3 := fy _ _ (by unfold sSt; omega)
    have f6 : y.1 60 6 = x.1 60 6 := fy _ _ (by unfold sSt; omega)
    have e1 : (rg x o T 7 + 1).toInt = (rg x o T 7).toInt + 1 := by rw [t_add (by rw [k1]; omega) (by rw [k1]; omega), k1]
    refine km_set hq ho hy _ _ _ et (show (7 : Int32).toInt = ((7 : Nat) : Int) from rfl) hT6 (by rw [f8]; omega) (by omega) (fun c => by omega) (fun _ => ⟨by omega, fun q9 => absurd (by rw [f3]; exact hw) q9, fun j hj => ?_⟩) (fun j hj q9 => by rw [f9] at q9; omega) (fun z hz fz gz w ew => ?_)
    · rw [f9, f6, hl j (by omega)]
      by_cases hj2 : j = (rg x o T 7).toInt.toNat
      · rw [if_pos hj2]; exact hc
      · rw [if_neg hj2]; exact a4 j (by omega)
    · have hz' : AR S y z o := ⟨hz, fm_w fz (fun c k q => sSt_M q), fun t k hk => by rw [gz t k (by rw [f8]; omega), if_neg (fun q => by omega)], fun k hk => fz _ _ (by unfold sSt; omega)⟩
      obtain ⟨hw9, rw9⟩ := AR_deed hO hz hS ew
      refine ri_i (hF _ w (AR_tr (AR_tr hy' hz') hw9) ?_)
      rw [rw9, gz T 3 (by rw [f8]; omega), if_neg (fun q => by omega), gy T 3 (by omega)]
  · have ry : ∀ t k, rg y o t k = rg x o t k := fun t k => rg_low hO (by rw [t_cl]; omega) ey
    have hy : AR S x y o := AR_row hO h (by rw [ey]; exact fm_si (fm_rf _ _) rfl) ry
    obtain ⟨hz, rz⟩ := AR_deed hO hy.1 hS ez
    exact ri_i (hF _ z (AR_tr hy hz) (by rw [rz, ry]))
theorem ka_exchange {S : Nat → Prop} (hS3 : S 3) (hS : S 4) (hq : kV q) (ho : kiM q o) (h : MM x o) {T st : Nat} (t s c v : Int32) (et : t.toInt = T) (hT : (T : Int) < (x.1 60 10).toInt) (es : s.toInt = st) (hst : (st : Int) < ssm x) (htg : 0 ≤ stg x st ∧ stg x st < (x.1 60 13).toInt) (hc : 0 ≤ c.toInt ∧ c.toInt < (x.1 60 6).toInt) (hF : ∀ r y, AR S x y o → rg y o T 3 = rg x o T 3 → F r y) : KT G q (d + 2) zk_X5_doExchange 0 [(0, vr o), (1, vi t), (2, vi s), (3, vi c), (4, vi v)] [] x (ri F) := by
  have hO := kiM_O ho
  have hT6 := MM_6 h.1 hT
  have k8 : (8 : Int32).toInt = 8 := rfl
  obtain ⟨b1, b2, b3, b4, b5, b6, b7⟩ := MG_b h.1 h.2.1
  have c24 := h.1.1.1
  have m8 := h.1.1.2.2.2.1
  have s35 := h.1.2.2.1.2
  have vs : vp_in s 400 := by rw [vp_in_iff]; omega
  have vc : vp_in c 228 := by rw [vp_in_iff]; omega
  have eN : s.toNatClampNeg = st := by rw [t_cl, es]; rfl
  have p122 : ∀ (y : gd) (l5 l6 l7 : Int32), AR S x y o → rg y o T 3 = rg x o T 3 → KT G q (d + 2) zk_X5_doExchange 122 [(0, vr o), (1, vi t), (2, vi s), (3, vi c), (5, vi l5), (6, vi l6), (7, vi l7)] [] y (ri F) := by
    intro y l5 l6 l7 hy y3
    refine kg_X5_doExchange_122 hq ho _ _ _ _ _ _ ⟨vc, fun x2 e2 x3 e3 x4 e4 => ⟨vs, ?_⟩⟩
    have r2 : ∀ t k, rg x2 o t k = rg y o t k := fun t k => rg_low hO (by rw [hy.2.1 o 7 (by unfold sMk; omega), t_cl]; omega) e2
    have h2 : AR S y x2 o := AR_row hO hy.1 (by rw [e2]; exact fm_si (fm_rf _ _) rfl) r2
    obtain ⟨h3, r3⟩ := AR_deed hO h2.1 hS3 e3
    obtain ⟨h4, r4⟩ := AR_deed hO h3.1 hS e4
    have hh := AR_tr (AR_tr (AR_tr hy h2) h3) h4
    rw [eN, hh.2.1 84 st (by unfold sMk; omega)]
    have e8 : (8 + x.1 84 st).toInt = ((8 + (stg x st).toNat : Nat) : Int) := by rw [t_add (by rw [k8]; unfold stg at *; omega) (by rw [k8]; unfold stg at *; omega), k8]; unfold stg at *; omega
    refine ka_set (S := S) hq ho h4.1 _ _ _ et e8 hT6 (by rw [(AR_9 hO hh).1]; omega) (by omega) (fun q => by omega) (fun z hz gz => ri_i (hF _ z (AR_tr hh hz) ?_))
    rw [gz 3 (by omega), if_neg (by omega), r4, r3, r2]; exact y3
  have p104 : ∀ (y : gd) (l5 l8 a : Int32), AR S x y o → rg y o T 3 = rg x o T 3 → KT G q (d + 2) zk_X5_doExchange 104 [(0, vr o), (1, vi t), (2, vi s), (3, vi c), (4, vi v), (5, vi l5), (8, vi l8)] [vi a] y (ri F) := fun y l5 l8 a hy y3 => kg_X5_doExchange_104 hq ho _ _ _ _ _ _ _ ⟨fun _ => p122 y _ _ _ hy y3, fun _ => p122 y _ _ _ hy y3⟩
  refine kg_X5_doExchange_0 hq ho _ _ _ _ ⟨vc, vs, fun _ => ⟨vs, fun _ => p122 x _ _ _ (AR_rf h) rfl, fun _ => ⟨vs, kp_localsAt hq ho h.1 h.2.1 _ et hT6 (fun r8 r0 r4 => kp_work hq h.1 (kk_M5 ho) (kl_M5 hq ho) _ _ _ r0 r4 (fun r10 y fy => ?_))⟩⟩, fun _ => p122 x _ _ _ (AR_rf h) rfl⟩
  obtain ⟨hy, ry⟩ := AR_wk (S := S) hO h fy
  exact ⟨fun _ => ⟨fun _ => p104 y _ _ _ hy (ry T 3), fun _ => p104 y _ _ _ hy (ry T 3)⟩, fun _ => ri_i (hF _ y hy (ry T 3))⟩
end KDO
