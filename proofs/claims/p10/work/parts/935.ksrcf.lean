/-! the class: what is set, as the grammar says -/
theorem pX_7 {K : Nat → Int32} {o : Bool} {f i : Nat} {L : gU} (h : 700 ≤ i) : pX K o f i L = none := by
  unfold pX
  rw [← dAk_1 (v := (50, 0, 0)), dA_7 h]
  rfl
theorem pR_7 {K : Nat → Int32} {f i : Nat} {t : Option Nat} {L : gU} (h : 700 ≤ i) : pR K f t i L = none := by
  unfold pR
  by_cases c1 : K i = 35 ∨ K i = 10 ∨ K i = 16
  · rw [if_pos c1, if_neg (by omega)]
  rw [if_neg c1, if_neg (fun q => absurd q.2.1 (by omega))]
  by_cases c2 : K i = 1 ∧ K (i + 1) = 67
  · rw [if_pos c2, if_neg (fun q => absurd q.1 (by omega))]
  rw [if_neg c2, pX_7 h]
  rfl
/-- a name alone is a sum -/
theorem pX_name {K : Nat → Int32} {f i : Nat} {L : gU} (h : K i = 1) (h2 : K (i + 1) = 67) (hi : i < 700) : pX K false (f + 1) i L = some (i + 1, L ++ [(3, i, 0)] ++ [(54, 0, 0)]) := by
  have e : pO (pE K false f) K false i L = some (i + 1, L ++ [(3, i, 0)]) := by
    unfold pO
    rw [if_neg (by omega), if_neg (by rw [h]; decide), if_neg (by rw [h]; decide), if_neg (by rw [h]; decide), if_pos h, if_neg (by decide)]
  unfold pX
  rw [← dAk_1 (v := (50, 0, 0)), dA_leaf (Or.inr (Or.inr (Or.inl h))) (by rw [h]; decide) e, dW_end (by show pst (K (i + 1)) ≤ 0; rw [h2]; decide)]
  rfl
theorem pX_f0 {K : Nat → Int32} {o : Bool} {i : Nat} {L : gU} : pX K o 0 i L = none := rfl
section KSRF
variable {G : kG} {q : kP} {d : Nat} {x x0 y z xs : gd} {F : Int32 → gd → Prop} {Fv : gd → Prop} {X : String → gd → Prop} {P : Option gv → gd → Prop} {M : Int} {E : Nat → Prop} {K V : Nat → Int32} {sN : Nat → Nat → Bool} {e : Nat} {Ev : gV} {Ml N : gU}
/-- what stands behind = -/
def SOP (K : Nat → Int32) (sN : Nat → Nat → Bool) (Ev : gV) (i : Nat) (r : Int32) : Prop := (r = 2 ∧ K i = 35) ∨ (r = 3 ∧ K i = 10) ∨ (r = 4 ∧ K i = 16) ∨ (r = 0 ∧ K i = 1 ∧ (i < 700 → K (i + 1) = 65 ∨ (K (i + 1) = 67 ∧ kfi sN Ev.1 i = none))) ∨ (r = 16 ∧ ¬ (K i = 35 ∨ K i = 10 ∨ K i = 16) ∧ (K i = 1 → i < 700 → ¬ K (i + 1) = 65 ∧ (K (i + 1) = 67 → ¬ kfi sN Ev.1 i = none)))
theorem kd_sourceOp (hq : kV q) (hB : BB x0 x M E) (hA : KA K V sN e x) (hn : nn x ≤ e) (hE : KV' K e x Ev) (h : ∀ r : Int32, SOP K sN Ev (nn x) r → F r x) : KT G q (d + 2) zk_X7_sourceOp 0 [(0, vr 100)] [] x (ri F) := by
  have hK := (hB.2.2.1.1 hB.2.2.2.2.1).1
  have kk : ∀ c : Int32, ¬ kc c = -1 → (x.1 23 (x.1 100 4).toNatClampNeg = c ↔ K (nn x) = kc c) := fun c hc => KA_k hA hn c hc
  have k65 := kk 65 (by decide)
  have k40 := kk 40 (by decide)
  have k46 := kk 46 (by decide)
  have k2 := kk 2 (by decide)
  have behind : K (nn x) = 1 → nn x < 700 → ∀ c : Int32, ¬ kc c = -1 → (x.1 23 ((x.1 100 4).toNatClampNeg + 1) = c ↔ K (nn x + 1) = kc c) := fun h1 h7 c hc => KA_k hA (KA_on hA hn h7 (by rw [h1]; decide) (by rw [h1]; decide)) c hc
  have p81 : K (nn x) = 1 → ∀ s : Int32, ((¬ s = 0 ∧ (nn x < 700 → K (nn x + 1) = 67 ∧ kfi sN Ev.1 (nn x) = none)) ∨ (s = 0 ∧ (nn x < 700 → K (nn x + 1) = 67 → ¬ kfi sN Ev.1 (nn x) = none))) → KT G q (d + 2) zk_X7_sourceOp 81 [(0, vr 100)] [vi s] x (ri F) := by
    intro c s hs
    have n35 : ¬ (K (nn x) = 35 ∨ K (nn x) = 10 ∨ K (nn x) = 16) := by rw [c]; decide
    refine kg_X7_sourceOp_81 hq _ ⟨fun c0 => ri_i (h _ (Or.inr (Or.inr (Or.inr (Or.inl ⟨rfl, c, fun h7 => ?_⟩))))), fun c0 => kp_sortBehind hq hB.1.1 ⟨fun c25 => ri_i (h _ (Or.inr (Or.inr (Or.inr (Or.inr ⟨rfl, n35, fun _ h7 => ⟨fun z => ?_, fun z => ?_⟩⟩))))), fun c25 => ri_i (h _ (Or.inr (Or.inr (Or.inr (Or.inl ⟨rfl, c, fun h7 => Or.inl ?_⟩)))))⟩⟩
    · rcases hs with ⟨-, e⟩ | ⟨e, -⟩
      · exact Or.inr (e h7)
      · exact absurd e c0
    · exact c25 ((behind c h7 25 (by decide)).mpr z)
    · rcases hs with ⟨e, -⟩ | ⟨-, e⟩
      · exact absurd c0 e
      · exact e h7 z
    · exact (behind c h7 25 (by decide)).mp c25
  refine kg_X7_sourceOp_0 hq (kp_sort hq hB.1.1 ⟨fun c => ri_i (h _ (Or.inl ⟨rfl, k65.mp c⟩)), fun c => ri_i (h _ (Or.inr (Or.inl ⟨rfl, k40.mp c⟩))), fun c => ri_i (h _ (Or.inr (Or.inr (Or.inl ⟨rfl, k46.mp c⟩)))), fun c => ?_, fun c => ri_i (h _ (Or.inr (Or.inr (Or.inr (Or.inr ⟨rfl, ?_, fun z => ?_⟩)))))⟩)
  · have c1 : K (nn x) = 1 := k2.mp c
    refine kp_sortBehind hq hB.1.1 ⟨fun c27 => p81 c1 _ (Or.inr ⟨rfl, fun h7 z => absurd ((behind c1 h7 27 (by decide)).mpr z) c27⟩), fun c27 => kf_knownFrom hq hB.1.1.1 hK hA hE _ _ (by decide) ⟨hB.1.1.2.1, RB_lt hB.1.1 (by rw [c]; decide)⟩ hn c1 (fun r hr => ⟨fun c9 => p81 c1 _ (Or.inr ⟨rfl, fun h7 z => ?_⟩), fun c9 => p81 c1 _ (Or.inl ⟨by decide, fun h7 => ⟨(behind c1 h7 27 (by decide)).mp c27, ?_⟩⟩)⟩)⟩
    · rcases hr with ⟨e, -⟩ | ⟨n, e1, e2, e3, e4, -⟩
      · exact absurd e c9
      · rw [show nn x = (x.1 100 4).toNatClampNeg from rfl, e4]; simp
    · rcases hr with ⟨-, e⟩ | ⟨n, e1, e2, e3, e4, -⟩
      · exact kfi_of e
      · exfalso
        rw [c9, tm1] at e1
        omega
  · rintro (z | z | z)
    · exact c 65 (by decide) (k65.mpr z)
    · exact c 40 (by decide) (k40.mpr z)
    · exact c 46 (by decide) (k46.mpr z)
  · exact absurd (k2.mpr z) (c 2 (by decide))
end KSRF
