/-! numbers, memory: what the specs use -/
theorem t_lt {a b : Int32} : a < b ↔ a.toInt < b.toInt := Int32.lt_iff_toInt_lt
theorem t_le {a b : Int32} : a ≤ b ↔ a.toInt ≤ b.toInt := Int32.le_iff_toInt_le
theorem t_eq {a b : Int32} : a = b ↔ a.toInt = b.toInt := Int32.toInt_inj.symm
theorem t_rg (a : Int32) : -2147483648 ≤ a.toInt ∧ a.toInt ≤ 2147483647 := ⟨Int32.le_toInt a, by have := Int32.toInt_lt a; omega⟩
theorem t_add {a b : Int32} (h1 : -2147483648 ≤ a.toInt + b.toInt) (h2 : a.toInt + b.toInt ≤ 2147483647) : (a + b).toInt = a.toInt + b.toInt := by
  rw [Int32.toInt_add]
  exact Int.bmod_eq_of_le (by omega) (by omega)
theorem t_sub {a b : Int32} (h1 : -2147483648 ≤ a.toInt - b.toInt) (h2 : a.toInt - b.toInt ≤ 2147483647) : (a - b).toInt = a.toInt - b.toInt := by
  rw [Int32.toInt_sub]
  exact Int.bmod_eq_of_le (by omega) (by omega)
theorem t_mul {a b : Int32} (h1 : -2147483648 ≤ a.toInt * b.toInt) (h2 : a.toInt * b.toInt ≤ 2147483647) : (a * b).toInt = a.toInt * b.toInt := by
  rw [Int32.toInt_mul]
  exact Int.bmod_eq_of_le (by omega) (by omega)
theorem t_cl (a : Int32) : a.toNatClampNeg = a.toInt.toNat := rfl
theorem vp_lt {i : Int32} {n : Nat} (h : vp_in i n) : i.toNatClampNeg < n := by
  have := vp_in_iff.mp h
  rw [t_cl]; omega
theorem si_get {x : gd} {c k c' j : Nat} {v : Int32} : (si x c k v).1 c' j = if c' = c ∧ j = k then v else x.1 c' j := by
  show (if c' = c then upd (x.1 c) k v else x.1 c') j = _
  by_cases h : c' = c
  · subst h
    rw [if_pos rfl]
    show (if j = k then v else x.1 c' j) = _
    by_cases h2 : j = k
    · rw [if_pos h2, if_pos ⟨rfl, h2⟩]
    · rw [if_neg h2, if_neg (fun q => h2 q.2)]
  · rw [if_neg h, if_neg (fun q => h q.1)]
theorem si_2 {x : gd} {c k : Nat} {v : Int32} : (si x c k v).2 = x.2 := rfl
theorem si_cell {x : gd} {c k c' : Nat} {v : Int32} (h : c' ≠ c) : (si x c k v).1 c' = x.1 c' := by
  show (if c' = c then upd (x.1 c) k v else x.1 c') = _
  rw [if_neg h]
/-- x' is x but for the int fields L and the arrays A of the model (longs stay) -/
def md (L A : List Nat) (x x' : gd) : Prop := (∀ k, k ∉ L → x'.1 0 k = x.1 0 k) ∧ (∀ c, c ≠ 0 → c ∉ A → x'.1 c = x.1 c) ∧ x'.2 = x.2
theorem md_rf (x : gd) : md [] [] x x := ⟨fun _ _ => rfl, fun _ _ _ => rfl, rfl⟩
theorem md_w {L A L2 A2 : List Nat} {x x' : gd} (h : md L A x x') (h1 : ∀ k ∈ L, k ∈ L2) (h2 : ∀ k ∈ A, k ∈ A2) : md L2 A2 x x' := ⟨fun k hk => h.1 k (fun m => hk (h1 k m)), fun c hc hk => h.2.1 c hc (fun m => hk (h2 c m)), h.2.2⟩
theorem md_tr {L A L2 A2 L3 A3 : List Nat} {x y z : gd} (h : md L A x y) (g : md L2 A2 y z) (h1 : (L ++ L2).all (L3.elem ·) = true) (h2 : (A ++ A2).all (A3.elem ·) = true) : md L3 A3 x z := by
  rw [List.all_eq_true] at h1 h2
  refine ⟨fun k hk => ?_, fun c hc hk => ?_, g.2.2.trans h.2.2⟩
  · rw [g.1 k (fun m => hk (List.elem_iff.mp (h1 k (List.mem_append_right _ m)))), h.1 k (fun m => hk (List.elem_iff.mp (h1 k (List.mem_append_left _ m))))]
  · rw [g.2.1 c hc (fun m => hk (List.elem_iff.mp (h2 c (List.mem_append_right _ m)))), h.2.1 c hc (fun m => hk (List.elem_iff.mp (h2 c (List.mem_append_left _ m))))]
theorem md_f (x : gd) (k : Nat) (v : Int32) : md [k] [] x (si x 0 k v) := ⟨fun j hj => by rw [si_get, if_neg (fun q => hj (by rw [q.2]; exact List.mem_singleton.mpr rfl))], fun c hc _ => si_cell hc, rfl⟩
theorem md_a (x : gd) (c j : Nat) (v : Int32) (h : c ≠ 0) : md [] [c] x (si x c j v) := ⟨fun k _ => by rw [si_cell (fun e => h e.symm)], fun c' _ hk => si_cell (fun e => hk (by rw [e]; exact List.mem_singleton.mpr rfl)), rfl⟩
/-- true or false -/
def bi (p : Prop) [Decidable p] : Int32 := if p then 1 else 0
theorem bi_t {p : Prop} [Decidable p] (h : p) : bi p = 1 := if_pos h
theorem bi_f {p : Prop} [Decidable p] (h : ¬ p) : bi p = 0 := if_neg h
theorem bi_b {p : Prop} [Decidable p] : gbool (bi p) := by
  by_cases h : p
  · rw [bi_t h]; exact gbool_1
  · rw [bi_f h]; exact gbool_0
theorem bi_ne {p : Prop} [Decidable p] : ¬ bi p = 0 ↔ p := by
  by_cases h : p
  · rw [bi_t h]; exact ⟨fun _ => h, fun _ => by decide⟩
  · rw [bi_f h]; exact ⟨fun q => absurd rfl q, fun q => absurd q h⟩
theorem bi_eq {p : Prop} [Decidable p] : bi p = 0 ↔ ¬ p := by
  by_cases h : p
  · rw [bi_t h]; exact ⟨fun q => absurd q (by decide), fun q => absurd h q⟩
  · rw [bi_f h]; exact ⟨fun _ => h, fun _ => rfl⟩
theorem ri_i {F : Int32 → gd → Prop} {r : Int32} {x : gd} (h : F r x) : ri F (some (vi r)) x := ⟨r, rfl, h⟩
theorem rv_i {F : gd → Prop} {x : gd} (h : F x) : rv F none x := ⟨rfl, h⟩
