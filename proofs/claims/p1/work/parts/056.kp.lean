/-- g has the fields of f but for those in S -/
def kp (S : List Nat) (f g : List Value) : Prop := g.length = f.length ∧ ∀ j, j ∉ S → g[j]? = f[j]?
theorem kp_0 (f : List Value) : kp [] f f := ⟨rfl, fun _ _ => rfl⟩
theorem kp_s {S : List Nat} {f g : List Value} (k : Nat) (v : Value) (h : kp S f g) : kp (k :: S) f (g.set k v) :=
  ⟨by rw [List.length_set]; exact h.1, fun j hj => by rw [List.getElem?_set_ne (fun e => hj (by rw [e]; exact List.mem_cons_self))]; exact h.2 j (fun m => hj (List.mem_cons_of_mem _ m))⟩
theorem kp_lt {S : List Nat} {f g : List Value} {k n : Nat} (h : kp S f g) (hn : f.length = n) (hk : k < n) : k < g.length := by rw [h.1, hn]; exact hk
theorem kp_at {S : List Nat} {f g : List Value} {j : Nat} {v : Value} (h : kp S f g) (hf : f[j]? = some v) (hj : j ∉ S) : g[j]? = some v := (h.2 j hj).trans hf
theorem se_ne {g : List Value} {k j : Nat} {v w : Value} (hg : g[j]? = some w) (h : k ≠ j) : (g.set k v)[j]? = some w := by rw [List.getElem?_set_ne h]; exact hg
theorem se_eq {g : List Value} {k : Nat} {v : Value} (h : k < g.length) : (g.set k v)[k]? = some v := List.getElem?_set_self h
theorem tb_l {L : List Cond} {ps : List Nat} (h : ∀ k, k < L.length → lw_tbl[ps.getD k 0]? = L[k]?) : ∀ x ∈ L, x ∈ lw_tbl := by
  intro x hx
  obtain ⟨k, hk, e⟩ := List.mem_iff_getElem.mp hx
  have h1 := h k hk
  rw [List.getElem?_eq_getElem hk, e] at h1
  exact List.mem_of_getElem? h1
