/-! the class: the parts of sums, as the events say them -/
/-- what is told at an operator's end -/
def opE (M : gU) : Prop := ∀ v ∈ M, v.1 = 50 ∨ v.1 = 51
theorem opE_nil : opE [] := fun _ h => by cases h
theorem opE_app {M N : gU} (h : opE M) (g : opE N) : opE (M ++ N) := fun v hv => (List.mem_append.mp hv).elim (h v) (g v)
theorem opE_one {v : Nat × Nat × Nat} (h : v.1 = 50 ∨ v.1 = 51) : opE [v] := fun w hw => by rw [List.mem_singleton.mp hw]; exact h
theorem pst_c {k : Int32} (h : ∀ w ∈ [(30 : Int32), 12, 51, 52, 53, 54, 55, 56, 57, 58, 59, 60, 28], ¬ k = w) : pst k = 0 := by
  have lo : ¬ (51 ≤ k ∧ k ≤ 56) := by
    rintro ⟨a, b⟩
    rw [t_le] at a b
    have k51 : (51 : Int32).toInt = 51 := rfl
    have k52 : (52 : Int32).toInt = 52 := rfl
    have k53 : (53 : Int32).toInt = 53 := rfl
    have k54 : (54 : Int32).toInt = 54 := rfl
    have k55 : (55 : Int32).toInt = 55 := rfl
    have k56 : (56 : Int32).toInt = 56 := rfl
    have h1 := h 51 (by decide)
    have h2 := h 52 (by decide)
    have h3 := h 53 (by decide)
    have h4 := h 54 (by decide)
    have h5 := h 55 (by decide)
    have h6 := h 56 (by decide)
    rw [t_eq] at h1 h2 h3 h4 h5 h6
    omega
  unfold pst
  rw [if_neg (h 30 (by decide)), if_neg (h 12 (by decide)), if_neg lo, if_neg (fun c => c.elim (h 57 (by decide)) (h 58 (by decide))), if_neg (fun c => c.elim (h 59 (by decide)) (fun c => c.elim (h 60 (by decide)) (h 28 (by decide))))]
/-- the class's number of a kind that is a word or a sign -/
def kcv (k : Int32) : Int32 := if k < 50 then k + 30 else k - 40
/-- what an operator is in a sum -/
def oP (K : Nat → Int32) (v : Nat × Nat × Nat) : Int32 := if v.1 = 50 then (if K v.2.1 = 29 then 5 else 4) else kcv (K v.2.1)
def oPs (K : Nat → Int32) (M : gU) : List (Int32 × Int32) := M.map (fun v => (oP K v, 0))
def cPt (sN : Nat → Nat → Bool) (V K : Nat → Int32) (E : gV) (v : Nat × Nat × Nat) : Option (Int32 × Int32) :=
  if v.1 = 50 ∨ v.1 = 51 then some (oP K v, 0)
  else if v.1 = 52 then some (1, V v.2.1)
  else if v.1 = 53 then some (3, 0)
  else if v.1 = 3 then some (2, match kfi sN E.1 v.2.1 with | some p => Int32.ofNat p | none => -1)
  else if v.1 = 6 ∨ v.1 = 7 then (if E.2.1 = [] then some (6, Int32.ofNat v.2.1) else none)
  else if v.1 = 54 then some (0, 0)
  else none
def sPs (sN : Nat → Nat → Bool) (V K : Nat → Int32) (E : gV) (M : gU) : List (Int32 × Int32) := M.filterMap (cPt sN V K E)
/-- the parts written so far: no more than 800 have room -/
def PR (x : gd) (P : List (Int32 × Int32)) : Prop := (x.1 60 3).toInt = (min P.length 800 : Nat) ∧ ∀ i q, i < 800 → P[i]? = some q → x.1 62 i = q.1 ∧ x.1 63 i = q.2
/-- from x to y the parts Q were added -/
def CPl (x y : gd) (Q : List (Int32 × Int32)) : Prop := ∀ P, PR x P → PR y (P ++ Q)
/-- the operators held, as parts -/
def HP (K : Nat → Int32) (x : gd) : Nat → gH → Prop
  | 0, _ => True
  | n + 1, s => match s with
    | [] => True
    | z :: s' => (¬ z.1 = 0 → x.1 115 n = oP K z.2.2) ∧ HP K x n s'
section CPS
variable {sN : Nat → Nat → Bool} {V K : Nat → Int32} {E : gV} {x y z w : gd} {M N : gU} {P Q : List (Int32 × Int32)}
theorem sPs_app : sPs sN V K E (M ++ N) = sPs sN V K E M ++ sPs sN V K E N := List.filterMap_append
theorem sPs_op (h : opE M) : sPs sN V K E M = oPs K M := by
  induction M with
  | nil => rfl
  | cons v M ih =>
    have e : cPt sN V K E v = some (oP K v, 0) := if_pos (h v List.mem_cons_self)
    show (v :: M).filterMap (cPt sN V K E) = _
    rw [List.filterMap_cons, e]
    show _ :: sPs sN V K E M = _ :: _
    rw [ih (fun w hw => h w (List.mem_cons_of_mem _ hw))]
    rfl
theorem oPs_app : oPs K (M ++ N) = oPs K M ++ oPs K N := List.map_append
theorem oPs_len : (oPs K M).length = M.length := List.length_map _
theorem CPl_rf : CPl x x [] := fun P h => by rw [List.append_nil]; exact h
theorem CPl_st (h : CPl x y P) (e3 : z.1 60 3 = y.1 60 3) (e : ∀ k, z.1 62 k = y.1 62 k ∧ z.1 63 k = y.1 63 k) : CPl x z P := fun P0 h0 => by
  obtain ⟨h1, h2⟩ := h P0 h0
  exact ⟨by rw [e3]; exact h1, fun i q hi hq => ⟨(e i).1.trans (h2 i q hi hq).1, (e i).2.trans (h2 i q hi hq).2⟩⟩
theorem CPl_app (h : CPl x y P) (g : CPl y z Q) : CPl x z (P ++ Q) := fun P0 h0 => by
  rw [← List.append_assoc]
  exact g _ (h P0 h0)
theorem HP_eq : ∀ {n : Nat} {s : gH}, (∀ k, k < n → y.1 115 k = x.1 115 k) → HP K x n s → HP K y n s := by
  intro n
  induction n with
  | zero => intro s _ _; trivial
  | succ n ih =>
    intro s e h
    cases s with
    | nil => trivial
    | cons z s' => exact ⟨fun q => by rw [e n (Nat.lt_succ_self _)]; exact h.1 q, ih (fun k hk => e k (Nat.lt_succ_of_lt hk)) h.2⟩
theorem kcv_is {s k : Int32} (hk : kc s = k) (h : ¬ pst k = 0) : kcv k = s := by
  have key : ∀ w ∈ [(30 : Int32), 12, 51, 52, 53, 54, 55, 56, 57, 58, 59, 60, 28], kc (kcv w) = w ∧ ¬ kc (kcv w) = -1 := by decide
  have hw : k ∈ [(30 : Int32), 12, 51, 52, 53, 54, 55, 56, 57, 58, 59, 60, 28] := by
    apply Classical.byContradiction
    intro c
    exact h (pst_c (fun w hw e => c (by rw [e]; exact hw)))
  obtain ⟨a, b⟩ := key k hw
  exact (kc_i (hk.trans a.symm) b).symm
end CPS
section CPA
variable {G : kG} {q : kP} {d : Nat} {x y : gd} {Fv : gd → Prop}
theorem kf_addPart (hq : kV q) (p a : Int32) (hp : 0 ≤ (x.1 60 3).toInt ∧ (x.1 60 3).toInt ≤ 800) (h : ∀ y, AP x y p a → CPl x y [(p, a)] → Fv y) : KT G q d zk_X0_addPart 0 [(0, vr 60), (1, vi p), (2, vi a)] [] x (rv Fv) := by
  have k8 : (800 : Int32).toInt = 800 := rfl
  refine kg_X0_addPart_0 hq _ _ ⟨fun c => rv_i (h x ⟨fm_rf _ _, hp, Int.le_refl _, fun _ _ => ⟨rfl, rfl⟩, fun i hi => Or.inl hi⟩ (fun P hP => ?_)), fun c => ?_⟩
  · rw [t_le, k8] at c
    obtain ⟨h1, h2⟩ := hP
    refine ⟨by rw [List.length_append]; show _ = ((min (P.length + 1) 800 : Nat) : Int); omega, fun i r hi hr => h2 i r hi ?_⟩
    rw [List.getElem?_append_left (by omega)] at hr
    exact hr
  rw [t_le, k8] at c
  have vin : vp_in (x.1 60 3) 800 := by rw [vp_in_iff]; omega
  refine ⟨vin, fun x3 e3 => ?_⟩
  have f3 : x3.1 60 3 = x.1 60 3 := by rw [e3]; (simp only [si_get, sfl_get, Nat.reduceEqDiff, eq_self, and_false, false_and, and_true, true_and, if_true, if_false, reduceIte, reduceCtorEq])
  refine ⟨by rw [f3]; exact vin, fun x5 e5 y ey => ?_⟩
  rw [f3] at e5
  have f5 : x5.1 60 3 = x.1 60 3 := by rw [e5, ← f3]; (simp only [si_get, sfl_get, Nat.reduceEqDiff, eq_self, and_false, false_and, and_true, true_and, if_true, if_false, reduceIte, reduceCtorEq])
  rw [f5] at ey
  have fy : y.1 60 3 = x.1 60 3 + 1 := by rw [ey]; (simp only [si_get, sfl_get, Nat.reduceEqDiff, eq_self, and_false, false_and, and_true, true_and, if_true, if_false, reduceIte, reduceCtorEq])
  have ty : (y.1 60 3).toInt = (x.1 60 3).toInt + 1 := by rw [fy, t_add (by show _ ≤ _ + (1 : Int); omega) (by show _ + (1 : Int) ≤ _; omega)]; rfl
  have eN : ((x.1 60 3).toNatClampNeg : Int) = (x.1 60 3).toInt := by rw [t_cl]; omega
  have lo : ∀ i : Nat, (i : Int) < (x.1 60 3).toInt → y.1 62 i = x.1 62 i ∧ y.1 63 i = x.1 63 i := fun i hi => by
    refine ⟨?_, ?_⟩
    · rw [ey, e5, e3, si_get, if_neg (by omega), si_get, if_neg (by omega), si_get, if_neg (by omega)]
    · rw [ey, e5, e3, si_get, if_neg (by omega), si_get, if_neg (by omega), si_get, if_neg (by omega)]
  have a2 : y.1 62 (x.1 60 3).toNatClampNeg = p := by rw [ey, e5, e3]; (simp only [si_get, sfl_get, Nat.reduceEqDiff, eq_self, and_false, false_and, and_true, true_and, if_true, if_false, reduceIte, reduceCtorEq])
  have a3 : y.1 63 (x.1 60 3).toNatClampNeg = a := by rw [ey, e5, e3]; (simp only [si_get, sfl_get, Nat.reduceEqDiff, eq_self, and_false, false_and, and_true, true_and, if_true, if_false, reduceIte, reduceCtorEq])
  refine rv_i (h y ⟨?_, by omega, by omega, lo, fun i hi => ?_⟩ (fun P hP => ?_))
  · rw [ey, e5, e3]; exact fm_si (fm_si (fm_si (fm_rf _ _) (Or.inr (Or.inl rfl))) (Or.inr (Or.inr rfl))) (Or.inl ⟨rfl, rfl⟩)
  · by_cases hi2 : (i : Int) < (x.1 60 3).toInt
    · exact Or.inl hi2
    · have : i = (x.1 60 3).toNatClampNeg := by omega
      subst this
      exact Or.inr ⟨a2, a3⟩
  · obtain ⟨h1, h2⟩ := hP
    refine ⟨by rw [List.length_append]; show _ = ((min (P.length + 1) 800 : Nat) : Int); omega, fun i r hi hr => ?_⟩
    by_cases ci : i < P.length
    · rw [List.getElem?_append_left ci] at hr
      have b := lo i (by omega)
      have b2 := h2 i r hi hr
      exact ⟨b.1.trans b2.1, b.2.trans b2.2⟩
    · have hlt := gt_lt hr
      rw [List.length_append] at hlt
      have hlt : i < P.length + 1 := hlt
      have ei : i = P.length := by omega
      rw [ei, List.getElem?_append_right (Nat.le_refl _), Nat.sub_self] at hr
      have hr : (p, a) = r := Option.some.inj hr
      have en : i = (x.1 60 3).toNatClampNeg := by omega
      rw [en, a2, a3, ← hr]
      exact ⟨rfl, rfl⟩
end CPA
