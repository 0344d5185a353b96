/-! the search of a local -/
section KSO
variable {G : kG} {q : kP} {d : Nat} {x : gd} {F : Int32 → gd → Prop} {K V : Nat → Int32} {sN : Nat → Nat → Bool} {e : Nat}
theorem kk_dn {i : Int32} (h0 : 0 ≤ i.toInt) (h8 : i.toInt ≤ 8) : (i + (-1)).toInt = i.toInt + (-1) := by rw [t_add (by rw [tm1]; omega) (by rw [tm1]; omega), tm1]
theorem kf_knownFrom {E : gV} (hq : kV q) (hT : kT x) (hK : KN x) (hA : KA K V sN e x) (hE : KV' K e x E) (f t : Int32) (hf : 0 ≤ f.toInt) (ht : tk x t) (hte : t.toNatClampNeg ≤ e) (ht1 : K t.toNatClampNeg = 1) (h : ∀ r : Int32, ((r = -1 ∧ ∀ (p : Nat) (k : Nat × Nat), p < E.1.length - f.toNatClampNeg → E.1[p]? = some k → ¬ sN k.1 t.toNatClampNeg = true) ∨ ∃ n : Nat, r.toInt = n ∧ f.toInt ≤ n ∧ n < E.1.length ∧ kfi sN E.1 t.toNatClampNeg = some n ∧ ∃ (p : Nat) (k : Nat × Nat), p < E.1.length - f.toNatClampNeg ∧ E.1[p]? = some k ∧ sN k.1 t.toNatClampNeg = true) → F r x) : KT G q (d + 1) zk_X7_knownFrom 0 [(0, vr 100), (1, vi f), (2, vi t)] [] x (ri F) := by
  obtain ⟨⟨k0, k8⟩, hk⟩ := hK
  obtain ⟨e9, he⟩ := hE
  have uf := t_cl f
  have loop : ∀ (n p : Nat) (i : Int32), i.toInt + 1 + p = E.1.length → p + n = E.1.length → (∀ p' k', p' < p → E.1[p']? = some k' → ¬ sN k'.1 t.toNatClampNeg = true) → KT G q (d + 1) zk_X7_knownFrom 7 [(0, vr 100), (1, vi f), (2, vi t), (3, vi i)] [] x (ri F) := by
    intro n
    induction n with
    | zero =>
      intro p i hi hp no
      refine kg_X7_knownFrom_7 hq _ _ _ ⟨fun _ => ri_i (h _ (Or.inl ⟨rfl, fun p' k' a b => no p' k' (by omega) b⟩)), fun c => ?_⟩
      exfalso; rw [t_lt] at c; omega
    | succ n ih =>
      intro p i hi hp no
      refine kg_X7_knownFrom_7 hq _ _ _ ⟨fun c => ri_i (h _ (Or.inl ⟨rfl, fun p' k' a b => no p' k' ?_ b⟩)), fun c => ?_⟩
      · rw [t_lt] at c; omega
      rw [t_lt] at c
      have ui := t_cl i
      have f0 : 0 ≤ i.toInt := by omega
      have f8 : i.toInt ≤ 8 := by omega
      have pl : p < E.1.length := by omega
      obtain ⟨k, ek⟩ : ∃ k, E.1[p]? = some k := ⟨_, List.getElem?_eq_getElem pl⟩
      have ei : E.1.length - 1 - p = i.toNatClampNeg := by omega
      have v1 : vp_in i 8 := by rw [vp_in_iff]; omega
      have v2 : ((i.toNatClampNeg : Nat) : Int) < (x.1 100 9).toInt := by omega
      have v3 : i.toInt + (-1) + 1 + ((p + 1 : Nat) : Int) = E.1.length := by omega
      have v4 : i.toInt = ((i.toNatClampNeg : Nat) : Int) ∧ f.toInt ≤ ((i.toNatClampNeg : Nat) : Int) ∧ i.toNatClampNeg < E.1.length ∧ p < E.1.length - f.toNatClampNeg := by omega
      have v5 : p + 1 + n = E.1.length := by omega
      obtain ⟨q1, q2, q3⟩ := he p k ek
      rw [ei] at q1
      refine ⟨v1, kf_sameName hq hT _ _ (hk _ v2) ht (fun r hr => ?_)⟩
      rw [q1, hA.2.2.1 _ _ q3 hte q2 ht1] at hr
      refine ⟨fun c0 => ih (p + 1) _ (by rw [kk_dn f0 f8]; exact v3) v5 (fun p' k' a b => ?_), fun c0 => ri_i (h _ (Or.inr ⟨i.toNatClampNeg, v4.1, v4.2.1, v4.2.2.1, ?_, p, k, v4.2.2.2, ek, hr.mp c0⟩))⟩
      · by_cases cp : p' = p
        · rw [cp, ek] at b
          rw [← Option.some.inj b]
          exact fun z => hr.mpr z c0
        · exact no p' k' (Nat.lt_of_le_of_ne (Nat.le_of_lt_succ a) cp) b
      · rw [kfi_at no ek (hr.mp c0), ei]
  have e1 : (x.1 100 9 - 1).toInt = (x.1 100 9).toInt - 1 := t_sub (by show _ ≤ _ - (1 : Int); omega) (by show _ - (1 : Int) ≤ _; omega)
  exact kg_X7_knownFrom_0 hq _ _ (loop E.1.length 0 _ (by omega) (by omega) (fun p' k' a => absurd a (Nat.not_lt_zero _)))
end KSO
