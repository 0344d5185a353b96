/-! what a tree of an expression tells, operands before their operators -/
def vV (x : gd) (o : Bool) : Nat → Int32 → gU → Prop
  | 0, _, _ => False
  | n + 1, e, M => (0 ≤ e.toInt ∧ e.toInt < (x.1 0 13).toInt) ∧
      ((x.1 15 e.toNatClampNeg = 1 ∧ M = [(52, (x.1 19 e.toNatClampNeg).toNatClampNeg, 0)] ∧ x.1 16 e.toNatClampNeg = x.1 7 (x.1 19 e.toNatClampNeg).toNatClampNeg) ∨
       (x.1 15 e.toNatClampNeg = 2 ∧ M = [(53, (x.1 19 e.toNatClampNeg).toNatClampNeg, 0)]) ∨
       (x.1 15 e.toNatClampNeg = 3 ∧ M = [(if o = true then 6 else 3, (x.1 19 e.toNatClampNeg).toNatClampNeg, 0)]) ∨
       (x.1 15 e.toNatClampNeg = 4 ∧ M = [(7, (x.1 19 e.toNatClampNeg).toNatClampNeg, 0), (12, (x.1 16 e.toNatClampNeg).toNatClampNeg, (x.1 19 e.toNatClampNeg).toNatClampNeg)] ∧ o = true) ∨
       (x.1 15 e.toNatClampNeg = 5 ∧ ∃ M1, vV x o n (x.1 17 e.toNatClampNeg) M1 ∧ ((x.1 16 e.toNatClampNeg = 61 ∧ M = M1) ∨ (¬ x.1 16 e.toNatClampNeg = 61 ∧ x.1 16 e.toNatClampNeg = x.1 5 (x.1 19 e.toNatClampNeg).toNatClampNeg ∧ M = M1 ++ [(50, (x.1 19 e.toNatClampNeg).toNatClampNeg, 0)]))) ∨
       (x.1 15 e.toNatClampNeg = 6 ∧ ∃ M1 M2, vV x o n (x.1 17 e.toNatClampNeg) M1 ∧ vV x o n (x.1 18 e.toNatClampNeg) M2 ∧ x.1 16 e.toNatClampNeg = x.1 5 (x.1 19 e.toNatClampNeg).toNatClampNeg ∧ M = M1 ++ (M2 ++ [(51, (x.1 19 e.toNatClampNeg).toNatClampNeg, 0)])))
theorem vV_mono {x : gd} {o : Bool} : ∀ (n n' : Nat) (e : Int32) (M : gU), n ≤ n' → vV x o n e M → vV x o n' e M := by
  intro n
  induction n with
  | zero => intro n' e M _ q; exact q.elim
  | succ n ih =>
    intro n' e M h1 q
    obtain ⟨n', rfl⟩ : ∃ m, n' = m + 1 := ⟨n' - 1, by omega⟩
    obtain ⟨q1, q⟩ := q
    refine ⟨q1, ?_⟩
    rcases q with q | q | q | q | ⟨q, M1, g, r⟩ | ⟨q, M1, M2, g1, g2, r⟩
    · exact Or.inl q
    · exact Or.inr (Or.inl q)
    · exact Or.inr (Or.inr (Or.inl q))
    · exact Or.inr (Or.inr (Or.inr (Or.inl q)))
    · exact Or.inr (Or.inr (Or.inr (Or.inr (Or.inl ⟨q, M1, ih _ _ _ (by omega) g, r⟩))))
    · exact Or.inr (Or.inr (Or.inr (Or.inr (Or.inr ⟨q, M1, M2, ih _ _ _ (by omega) g1, ih _ _ _ (by omega) g2, r⟩))))
theorem vV_keep {x x' : gd} {o : Bool} (hn : (x.1 0 13).toInt ≤ (x'.1 0 13).toInt) (h5 : x'.1 5 = x.1 5) (h7 : x'.1 7 = x.1 7) (hk : ∀ c : Nat, 15 ≤ c → c ≤ 19 → ∀ j : Nat, (j : Int) < (x.1 0 13).toInt → x'.1 c j = x.1 c j) : ∀ (n : Nat) (e : Int32) (M : gU), vV x o n e M → vV x' o n e M := by
  intro n
  induction n with
  | zero => intro e M q; exact q.elim
  | succ n ih =>
    intro e M q
    obtain ⟨q1, q⟩ := q
    have hj : ((e.toNatClampNeg : Nat) : Int) < (x.1 0 13).toInt := by rw [t_cl]; omega
    have e15 := hk 15 (by decide) (by decide) _ hj
    have e16 := hk 16 (by decide) (by decide) _ hj
    have e17 := hk 17 (by decide) (by decide) _ hj
    have e18 := hk 18 (by decide) (by decide) _ hj
    have e19 := hk 19 (by decide) (by decide) _ hj
    refine ⟨⟨q1.1, by omega⟩, ?_⟩
    rw [e15, e16, e17, e18, e19, h5, h7]
    rcases q with q | q | q | q | ⟨q, M1, g, r⟩ | ⟨q, M1, M2, g1, g2, r⟩
    · exact Or.inl q
    · exact Or.inr (Or.inl q)
    · exact Or.inr (Or.inr (Or.inl q))
    · exact Or.inr (Or.inr (Or.inr (Or.inl q)))
    · exact Or.inr (Or.inr (Or.inr (Or.inr (Or.inl ⟨q, M1, ih _ _ g, r⟩))))
    · exact Or.inr (Or.inr (Or.inr (Or.inr (Or.inr ⟨q, M1, M2, ih _ _ g1, ih _ _ g2, r⟩))))
theorem vV_RP {x x' : gd} {o : Bool} (h : RP x x') {n : Nat} {e : Int32} {M : gU} (q : vV x o n e M) : vV x' o n e M :=
  vV_keep h.2.2.2.2.1 (h.1.2.1 5 (by decide) (by decide)) (h.1.2.1 7 (by decide) (by decide)) (fun c h1 h2 j hj => h.2.2.2.2.2 c h1 (by omega) j hj) n e M q
/-- what reading tells: where it stands then, and what it told -/
def FX (x x' : gd) (g : Nat → gU → gOp) (M : gU) : Prop := ∀ L, (nwo x).bind (fun i => g i L) = (nwo x').map (fun j => (j, L ++ M))
/-- a name alone: its node, and that nothing else is read -/
def TT (K : Nat → Int32) (i : Nat) (o : Int32) (w : gd) (e : Int32) : Prop := (w.1 15 e.toNatClampNeg = 3 → K i = 1 ∧ (w.1 19 e.toNatClampNeg).toNatClampNeg = i ∧ (w.1 0 8).toNatClampNeg = i + 1) ∧ (K i = 1 → o = 0 → (w.1 15 e.toNatClampNeg = 3 ∧ (w.1 19 e.toNatClampNeg).toNatClampNeg = i ∧ (w.1 0 8).toNatClampNeg = i + 1) ∨ 0 < pst (K (i + 1)))
theorem TT_e {K : Nat → Int32} {i : Nat} {o : Int32} {w w2 : gd} {e : Int32} (h15 : w2.1 15 = w.1 15) (h19 : w2.1 19 = w.1 19) (h8 : w2.1 0 8 = w.1 0 8) (h : TT K i o w e) : TT K i o w2 e := by
  unfold TT
  rw [h15, h19, h8]
  exact h
theorem TT_no {K : Nat → Int32} {i : Nat} {o : Int32} {w : gd} {e v : Int32} (h : w.1 15 e.toNatClampNeg = v) (hv : ¬ v = 3) (hK : K i = 1 → o = 0 → 0 < pst (K (i + 1))) : TT K i o w e := ⟨fun q => absurd (h.symm.trans q) hv, fun a b => Or.inr (hK a b)⟩
def FE (k : Nat) (th o : Int32) (x : gd) (r : Int32) (x' : gd) : Prop := ∃ M, FX x x' (pE (x.1 5) (decide (¬ o = 0)) k th.toNatClampNeg) M ∧ ((x'.1 0 9).toInt = 0 → (∃ n, vV x' (decide (¬ o = 0)) n r M) ∧ TT (x.1 5) (x.1 0 8).toNatClampNeg o x' r)
def FO (k : Nat) (o : Int32) (x : gd) (r : Int32) (x' : gd) : Prop := ∃ M, FX x x' (pO (pE (x.1 5) (decide (¬ o = 0)) k) (x.1 5) (decide (¬ o = 0))) M ∧ ((x'.1 0 9).toInt = 0 → (∃ n, vV x' (decide (¬ o = 0)) n r M) ∧ TT (x.1 5) (x.1 0 8).toNatClampNeg o x' r)
theorem pt_psw {K : Nat → Int32} {w : Int32} {j : Nat} {L : gU} : pt K w (j, L) = (psw K w j).map (fun j => (j, L)) := by
  show (if K j = w ∧ j < 700 then some (j + 1, L) else none) = _
  unfold psw
  by_cases q : K j = w ∧ j < 700
  · rw [if_pos q, if_pos q]; rfl
  · rw [if_neg q, if_neg q]; rfl
/-- a fault: nothing is told -/
theorem FX_0 {x x' : gd} {g : Nat → gU → gOp} {M : gU} (h' : nwo x' = none) (h : ∀ i, nwo x = some i → ∀ L, g i L = none) : FX x x' g M := by
  intro L
  rw [h']
  cases e : nwo x with
  | none => rfl
  | some i => exact h i e L
theorem FX_at {x x' : gd} {g : Nat → gU → gOp} {M : gU} {i : Nat} (hi : nwo x = some i) (h : ∀ L, g i L = (nwo x').map (fun j => (j, L ++ M))) : FX x x' g M := by
  intro L
  rw [hi]
  exact h L
theorem FX_none {x x' : gd} {g : Nat → gU → gOp} {M : gU} (h : FX x x' g M) (e : nwo x = none) : nwo x' = none := by
  have q := h []
  rw [e] at q
  cases z : nwo x' with
  | none => rfl
  | some j => rw [z] at q; exact absurd q (by simp)
theorem nE_nwo {x x' : gd} {w a b c t : Int32} (h : nE x x' w a b c t) : nwo x' = nwo x := nwo_e (h.1.1 8 (by decide)) (h.1.1 9 (by decide))
theorem nwo_is {x : gd} {i : Nat} (h : nwo x = some i) : (x.1 0 9).toInt = 0 ∧ (x.1 0 8).toNatClampNeg = i := by
  unfold nwo at h
  split at h
  · next c => exact ⟨c, Option.some.inj h⟩
  · exact absurd h (by simp)
theorem ofN_le {a : Nat} {b : Int32} (ha : a ≤ 5) (hb : 0 ≤ b.toInt) : (Int32.ofNat a ≤ b) ↔ a ≤ b.toNatClampNeg := by
  have e : (Int32.ofNat a).toInt = a := Int32.toInt_ofNat_of_lt (by omega)
  rw [t_le, e, t_cl]
  omega
theorem ofN_cl {a : Nat} (ha : a ≤ 5) : (Int32.ofNat a).toNatClampNeg = a := by
  have e : (Int32.ofNat a).toInt = a := Int32.toInt_ofNat_of_lt (by omega)
  rw [t_cl, e]
  omega
theorem pst_le (k : Int32) : pst k ≤ 5 := by
  unfold pst
  repeat' split
  all_goals omega
