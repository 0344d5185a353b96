/-! the class: a machine's row -/
theorem kiM_O {q : kP} {o : Nat} (h : kiM q o) : o = 120 ∨ o = 220 := by
  rcases h with e | ⟨e, -⟩
  · exact Or.inl e
  · exact Or.inr e
/-- where a machine's things lie -/
def MG (x : gd) (o : Nat) : Prop := (x.1 o 3 = 0 ∨ x.1 o 3 = 1) ∧ (x.1 o 6).toInt = (x.1 60 6).toInt ∧ (x.1 o 7).toInt = (x.1 60 6).toInt + 2 * (x.1 60 9).toInt ∧ (x.1 o 9).toInt = 8 + (x.1 60 13).toInt ∧ (x.1 o 8).toInt = 8 + (x.1 60 13).toInt + (if x.1 o 3 = 1 then 16 else 0) ∧ (x.1 o 5).toInt = (x.1 o 7).toInt + (x.1 o 8).toInt * (x.1 60 10).toInt
/-- a thread's field -/
def pa (x : gd) (o t f : Nat) : Nat := (x.1 o 7).toInt.toNat + t * (x.1 o 8).toInt.toNat + f
def rg (x : gd) (o t f : Nat) : Int32 := x.1 (o + 5) (pa x o t f)
section KMA
variable {G : kG} {q : kP} {d : Nat} {x x0 y z : gd} {o : Nat} {F : Int32 → gd → Prop} {Fv : gd → Prop}
theorem MG_b (hC : CO x) (hG : MG x o) : (0 ≤ (x.1 o 7).toInt ∧ (x.1 o 7).toInt ≤ 36) ∧ (8 ≤ (x.1 o 8).toInt ∧ (x.1 o 8).toInt ≤ 32) ∧ (8 ≤ (x.1 o 9).toInt ∧ (x.1 o 9).toInt ≤ 16) ∧ (x.1 o 9).toInt ≤ (x.1 o 8).toInt ∧ (x.1 o 3 = 1 → (x.1 o 8).toInt = (x.1 o 9).toInt + 16) ∧ (x.1 60 6).toInt ≤ (x.1 o 7).toInt ∧ (x.1 o 9).toInt = 8 + (x.1 60 13).toInt := by
  obtain ⟨⟨h1, h2, h3, h4, -⟩, -⟩ := hC
  obtain ⟨g1, g2, g3, g4, g5, g6⟩ := hG
  rcases g1 with e | e
  · rw [e, if_neg (by decide)] at g5
    refine ⟨by omega, by omega, by omega, by omega, fun c => ?_, by omega, g4⟩
    rw [e] at c; exact absurd c (by decide)
  · rw [e, if_pos rfl] at g5
    exact ⟨by omega, by omega, by omega, by omega, fun _ => by omega, by omega, g4⟩
theorem pa_ix {a s t f : Int32} {T K : Nat} (et : t.toInt = T) (ef : f.toInt = K) (ha : 0 ≤ a.toInt ∧ a.toInt ≤ 36) (hs : 0 ≤ s.toInt ∧ s.toInt ≤ 32) (hT : T < 6) (hK : K < 32) : (a + t * s + f).toNatClampNeg = a.toInt.toNat + T * s.toInt.toNat + K ∧ vp_in (a + t * s + f) 228 := by
  have hm : 0 ≤ t.toInt * s.toInt ∧ t.toInt * s.toInt ≤ 160 ∧ (t.toInt * s.toInt).toNat = T * s.toInt.toNat := by
    rw [et]
    have : T = 0 ∨ T = 1 ∨ T = 2 ∨ T = 3 ∨ T = 4 ∨ T = 5 := by omega
    rcases this with e | e | e | e | e | e <;> subst e <;> (refine ⟨?_, ?_, ?_⟩ <;> omega)
  have e1 := t_mul (a := t) (b := s) (by omega) (by omega)
  have e2 := t_add (a := a) (b := t * s) (by omega) (by omega)
  have e3 := t_add (a := a + t * s) (b := f) (by omega) (by omega)
  refine ⟨?_, by rw [vp_in_iff]; omega⟩
  rw [t_cl, e3, e2, e1, ef]
  omega
theorem pa_inj {T S t f t' f' : Nat} (hf : f < S) (hf' : f' < S) (e : T + t * S + f = T + t' * S + f') : t = t' ∧ f = f' := by
  have h1 : ¬ t < t' := fun h => by
    have := Nat.mul_le_mul_right S (Nat.succ_le_of_lt h)
    rw [Nat.succ_mul] at this
    omega
  have h2 : ¬ t' < t := fun h => by
    have := Nat.mul_le_mul_right S (Nat.succ_le_of_lt h)
    rw [Nat.succ_mul] at this
    omega
  have : t = t' := by omega
  subst this
  exact ⟨rfl, by omega⟩
theorem kp_get (hq : kV q) (ho : kiM q o) (hC : CO x) (hG : MG x o) (t f : Int32) {T K : Nat} (et : t.toInt = T) (ef : f.toInt = K) (hT : T < 6) (hK : K < 32) (h : F (rg x o T K) x) : KT G q d zk_X5_get 0 [(0, vr o), (1, vi t), (2, vi f)] [] x (ri F) := by
  obtain ⟨b1, b2, -⟩ := MG_b hC hG
  obtain ⟨e1, e2⟩ := pa_ix et ef b1 (s := x.1 o 8) (by omega) hT hK
  refine kg_X5_get_0 hq ho _ _ ⟨e2, ri_i ?_⟩
  rw [e1]; exact h
theorem kp_set (hq : kV q) (ho : kiM q o) (hC : CO x) (hG : MG x o) (t f v : Int32) {T K : Nat} (et : t.toInt = T) (ef : f.toInt = K) (hT : T < 6) (hK : K < 32) (h : ∀ y, y = si x (o + 5) (pa x o T K) v → Fv y) : KT G q d zk_X5_set 0 [(0, vr o), (1, vi t), (2, vi f), (3, vi v)] [] x (rv Fv) := by
  obtain ⟨b1, b2, -⟩ := MG_b hC hG
  obtain ⟨e1, e2⟩ := pa_ix et ef b1 (s := x.1 o 8) (by omega) hT hK
  refine kg_X5_set_0 hq ho _ _ _ ⟨e2, fun y ey => rv_i (h y ?_)⟩
  rw [ey, e1]; rfl
/-- what acts change -/
def sMk (o c k : Nat) : Prop := c = o + 5 ∨ (c = o ∧ k = 14) ∨ c = o + 20 ∨ (c = 60 ∧ k = 5) ∨ c = 65
theorem CO_M (hO : o = 120 ∨ o = 220) (hC : CO x) (f : fm (sMk o) x y) : CO y := CO_fm hC (fun c k hc => f c k (by unfold sMk; omega))
theorem MG_M (hO : o = 120 ∨ o = 220) (hG : MG x o) (f : fm (sMk o) x y) : MG y o := by
  unfold MG at hG ⊢
  rw [f o 3 (by unfold sMk; omega), f o 5 (by unfold sMk; omega), f o 6 (by unfold sMk; omega), f o 7 (by unfold sMk; omega), f o 8 (by unfold sMk; omega), f o 9 (by unfold sMk; omega), f 60 6 (by unfold sMk; omega), f 60 9 (by unfold sMk; omega), f 60 13 (by unfold sMk; omega), f 60 10 (by unfold sMk; omega)]
  exact hG
theorem pa_M (hO : o = 120 ∨ o = 220) (f : fm (sMk o) x y) (t k : Nat) : pa y o t k = pa x o t k := by
  unfold pa; rw [f o 7 (by unfold sMk; omega), f o 8 (by unfold sMk; omega)]
/-- a field is set: the others stay -/
theorem rg_set (hO : o = 120 ∨ o = 220) (hC : CO x) (hG : MG x o) {T K t k : Nat} {v : Int32} (hK : (K : Int) < (x.1 o 8).toInt) (hk : (k : Int) < (x.1 o 8).toInt) (e : y = si x (o + 5) (pa x o T K) v) : rg y o t k = if t = T ∧ k = K then v else rg x o t k := by
  have hp : pa y o t k = pa x o t k := by
    unfold pa; rw [e, si_cell (by omega)]
  unfold rg
  rw [hp, e, si_get]
  by_cases h : t = T ∧ k = K
  · rw [if_pos h, if_pos ⟨rfl, by rw [h.1, h.2]⟩]
  · rw [if_neg h, if_neg (fun q => h ?_)]
    exact pa_inj (by omega) (by omega) q.2
/-- a cell or lock is set: fields stay -/
theorem rg_low {j t k : Nat} {v : Int32} (hO : o = 120 ∨ o = 220) (hj : (j : Int) < (x.1 o 7).toInt) (e : y = si x (o + 5) j v) : rg y o t k = rg x o t k := by
  have hp : pa y o t k = pa x o t k := by
    unfold pa; rw [e, si_cell (by omega)]
  unfold rg
  rw [hp, e, si_get, if_neg (fun q => ?_)]
  have := q.2
  unfold pa at this
  omega
/-- nothing of the row changes -/
theorem rg_eq (hO : o = 120 ∨ o = 220) (f : fm (fun c k => (c = o ∧ (k = 13 ∨ k = 14)) ∨ c = o + 20 ∨ (o + 11 ≤ c ∧ c ≤ o + 13) ∨ (c = 60 ∧ k = 5) ∨ c = 65) x y) (t k : Nat) : rg y o t k = rg x o t k := by
  unfold rg pa
  rw [f o 7 (by omega), f o 8 (by omega), f (o + 5) _ (by omega)]
/-- a thread stands well -/
def TA (x : gd) (o t : Nat) : Prop := (0 ≤ (rg x o t 2).toInt ∧ (rg x o t 2).toInt < ssm x) ∧ (0 ≤ (rg x o t 7).toInt ∧ (rg x o t 7).toInt ≤ 8) ∧ (¬ x.1 o 3 = 1 → rg x o t 7 = 0) ∧ (∀ j : Nat, (j : Int) < (rg x o t 7).toInt → 0 ≤ (rg x o t ((x.1 o 9).toInt.toNat + 2 * j)).toInt ∧ (rg x o t ((x.1 o 9).toInt.toNat + 2 * j)).toInt < (x.1 60 6).toInt) ∧ (rg x o t 0 = 0 → rg x o t 3 = 0)
def TGo (x : gd) (o t : Nat) : Prop := rg x o t 0 = 1 → sop x (rg x o t 2).toInt.toNat < 16 ∧ (¬ rg x o t 3 = 0 → sop x (rg x o t 2).toInt.toNat = 7)
def MM (x : gd) (o : Nat) : Prop := CO x ∧ MG x o ∧ ∀ t : Nat, (t : Int) < (x.1 60 10).toInt → TA x o t ∧ TGo x o t
/-- but for the thread that settles -/
def MS (R : Nat → Nat → Int32) (x : gd) (o T : Nat) : Prop := CO x ∧ MG x o ∧ (∀ t : Nat, (t : Int) < (x.1 60 10).toInt → TA x o t ∧ (t ≠ T → TGo x o t)) ∧ ∀ t k : Nat, t ≠ T → (k : Int) < (x.1 o 8).toInt → rg x o t k = R t k
/-- both rows' fields are alike, and the code -/
theorem TA_eq (hO : o = 120 ∨ o = 220) {t : Nat} (f : fm (sMk o) x y) (h : TA x o t) (e : ∀ k, rg y o t k = rg x o t k) : TA y o t := by
  unfold TA ssm at h ⊢
  rw [e, e, e, e, f 80 9 (by unfold sMk; omega), f o 3 (by unfold sMk; omega), f o 9 (by unfold sMk; omega), f 60 6 (by unfold sMk; omega)]
  refine ⟨h.1, h.2.1, h.2.2.1, fun j hj => ?_, h.2.2.2.2⟩
  rw [e]; exact h.2.2.2.1 j hj
theorem TGo_eq (hO : o = 120 ∨ o = 220) {t : Nat} (f : fm (sMk o) x y) (h : TGo x o t) (e : ∀ k, k < 8 → rg y o t k = rg x o t k) : TGo y o t := by
  unfold TGo sop at h ⊢
  rw [e 0 (by omega), e 2 (by omega), e 3 (by omega), f 81 _ (by unfold sMk; omega)]
  exact h
end KMA
