/-! the class: its calls -/
section KFA
variable {G : kG} {q q0 q1 : kP} {d : Nat} {x x0 y z : gd} {o : Nat} {F : Int32 → gd → Prop} {Fv : gd → Prop} {P : Option gv → gd → Prop} {X : String → gd → Prop}
/-- the text, whether it is compiled, and the counts stay -/
def KF (x y : gd) : Prop := y.1 20 1 = x.1 20 1 ∧ y.1 0 9 = x.1 0 9 ∧ (∀ k, y.1 21 k = x.1 21 k) ∧ ∀ c k, (60 ≤ c ∧ c < 90 ∧ ¬ (c = 60 ∧ k = 5) ∧ c ≠ 65) → y.1 c k = x.1 c k
theorem KF_rf : KF x x := ⟨rfl, rfl, fun _ => rfl, fun _ _ _ => rfl⟩
theorem KF_tr (h : KF x y) (g : KF y z) : KF x z := ⟨g.1.trans h.1, g.2.1.trans h.2.1, fun k => (g.2.2.1 k).trans (h.2.2.1 k), fun c k hk => (g.2.2.2 c k hk).trans (h.2.2.2 c k hk)⟩
theorem KF_fm {S : Nat → Nat → Prop} (f : fm S x y) (hS : ∀ c k, S c k → ¬ ((c = 20 ∧ k = 1) ∨ (c = 0 ∧ k = 9) ∨ c = 21 ∨ (60 ≤ c ∧ c < 90 ∧ ¬ (c = 60 ∧ k = 5) ∧ c ≠ 65))) : KF x y := ⟨f _ _ (fun z => hS _ _ z (Or.inl ⟨rfl, rfl⟩)), f _ _ (fun z => hS _ _ z (Or.inr (Or.inl ⟨rfl, rfl⟩))), fun k => f _ _ (fun z => hS _ _ z (Or.inr (Or.inr (Or.inl rfl)))), fun c k hc => f _ _ (fun z => hS _ _ z (Or.inr (Or.inr (Or.inr hc))))⟩
theorem rn_20 (f : fm sRn x y) : KF x y := KF_fm f (fun c k q => by unfold sRn at q; omega)
theorem rn_Lk {c k : Nat} (h : sLk 120 c k) : sRn c k := by unfold sLk at h; unfold sRn; omega
/-- what count answers -/
def cntK (x : gd) (l r : Int32) : Prop := (x.1 0 9 = 0 ∧ r = 0) ∨ (¬ x.1 0 9 = 0 ∧ ((l = 0 ∧ r = x.1 60 6) ∨ (l = 1 ∧ r = x.1 60 9) ∨ (l = 2 ∧ r = x.1 60 10) ∨ (l = 3 ∧ r = x.1 60 14) ∨ (l = 4 ∧ r = x.1 60 16)))
theorem kz_count (hq : kV q) (hH : HOI x q) (l : Int32) (hO : ¬ (0 ≤ l.toInt ∧ l.toInt ≤ 4) → X iOE x) (hP : (0 ≤ l.toInt ∧ l.toInt ≤ 4) → ∀ r y, HOI y q → y = x → cntK x l r → P (some (vi r)) y) : KE G q (d + 7) zk_X11_count 0 [(0, vr 0), (1, vi l)] [] x P X := by
  have k0 : (0 : Int32).toInt = 0 := rfl
  have k1 : (1 : Int32).toInt = 1 := rfl
  have k2 : (2 : Int32).toInt = 2 := rfl
  have k3 : (3 : Int32).toInt = 3 := rfl
  have k4 : (4 : Int32).toInt = 4 := rfl
  have k5 : (5 : Int32).toInt = 5 := rfl
  refine kg_X11_count_0 hq l (kg_X11_needWhat_0 hq l 5 ⟨fun c => kg_X11_needWhat_9 hq (hO ?_), fun c => ⟨fun c5 => rv_i ?_, fun c5 => kg_X11_needWhat_9 hq (hO ?_)⟩⟩)
  · rw [t_lt, k0] at c; omega
  · rw [t_lt, k0] at c
    rw [t_lt, k5] at c5
    have ok : 0 ≤ l.toInt ∧ l.toInt ≤ 4 := by omega
    refine ⟨fun c9 => ⟨fun e => hP ok _ x hH rfl (Or.inr ⟨c9, Or.inl ⟨e, rfl⟩⟩), fun e => hP ok _ x hH rfl (Or.inr ⟨c9, Or.inr (Or.inl ⟨e, rfl⟩)⟩), fun e => hP ok _ x hH rfl (Or.inr ⟨c9, Or.inr (Or.inr (Or.inl ⟨e, rfl⟩))⟩), fun e => hP ok _ x hH rfl (Or.inr ⟨c9, Or.inr (Or.inr (Or.inr (Or.inl ⟨e, rfl⟩)))⟩), fun e => hP ok _ x hH rfl (Or.inr ⟨c9, Or.inr (Or.inr (Or.inr (Or.inr ⟨?_, rfl⟩)))⟩)⟩, fun c9 => hP ok _ x hH rfl (Or.inl ⟨c9, rfl⟩)⟩
    have n0 := e 0 (by decide)
    have n1 := e 1 (by decide)
    have n2 := e 2 (by decide)
    have n3 := e 3 (by decide)
    rw [t_eq, k0] at n0
    rw [t_eq, k1] at n1
    rw [t_eq, k2] at n2
    rw [t_eq, k3] at n3
    rw [t_eq, k4]
    omega
  · rw [t_lt, k5] at c5; omega
/-- n bytes more: those of l2, the lowest first -/
def FBk (l2 : Int64) (j : Nat) : Int32 := vp_nar .byte (((((l2 : Int64).toUInt64 >>> ((8 * Int32.ofNat j : Int32).toInt64.toUInt64 &&& Int64.toUInt64 63)).toInt64 : Int64).toInt32 : Int32).toInt8.toInt32)
def FBc (x : gd) (l2 : Int64) (n : Nat) (y : gd) : Prop := (∀ p, p < (x.1 20 1).toNatClampNeg → y.1 21 p = x.1 21 p) ∧ ∀ j, j < n → y.1 21 ((x.1 20 1).toNatClampNeg + j) = FBk l2 j
end KFA
