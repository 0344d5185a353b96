section
/-! the class: sums are read -/
def zc (x : gd) : Nat → Nat
  | 0 => 0
  | n + 1 => zc x n + (if x.1 116 n = 0 then 1 else 0)
/-- operators that are held -/
def HI (x : gd) : Prop := (0 ≤ (x.1 100 17).toInt ∧ (x.1 100 17).toInt ≤ 18) ∧ (∀ i : Nat, (i : Int) < (x.1 100 17).toInt → (¬ x.1 115 i = 2 ∧ ¬ x.1 115 i = 6) ∧ 0 ≤ (x.1 116 i).toInt ∧ (i : Int) + 1 ≤ (x.1 117 i).toInt ∧ (x.1 117 i).toInt ≤ 18) ∧ ∀ i j : Nat, i ≤ j → (j : Int) < (x.1 100 17).toInt → (x.1 117 i).toInt ≤ (x.1 117 j).toInt
def hz (x : gd) : Nat := zc x (x.1 100 17).toNatClampNeg
def DL (x : gd) : Prop := ∀ i : Nat, (i : Int) < (x.1 100 17).toInt → (x.1 117 i).toInt ≤ 16
def sSum (c k : Nat) : Prop := c = 42 ∨ (c = 60 ∧ k = 3) ∨ c = 62 ∨ c = 63 ∨ (c = 100 ∧ (k = 4 ∨ k = 17)) ∨ (115 ≤ c ∧ c ≤ 117)
def SM (x y : gd) : Prop := SU y ∧ HI y ∧ La x y ∧ fm sSum x y
section KSU
variable {G : kG} {q : kP} {d : Nat} {x x0 y z : gd} {F : Int32 → gd → Prop} {Fv : gd → Prop} {X : String → gd → Prop} {P : Option gv → gd → Prop} {m : Int}
theorem zc_eq : ∀ n : Nat, (∀ i, i < n → z.1 116 i = y.1 116 i) → zc z n = zc y n := by
  intro n
  induction n with
  | zero => intro _; rfl
  | succ n ih =>
    intro h
    show zc z n + (if z.1 116 n = 0 then 1 else 0) = zc y n + (if y.1 116 n = 0 then 1 else 0)
    rw [ih (fun i hi => h i (by omega)), h n (by omega)]
theorem HI_eq (h : HI y) (e : z.1 100 17 = y.1 100 17) (f : ∀ c k, 115 ≤ c → c ≤ 117 → z.1 c k = y.1 c k) : HI z ∧ hz z = hz y := by
  refine ⟨?_, ?_⟩
  · unfold HI at h ⊢
    rw [e]
    refine ⟨h.1, fun i hi => ?_, fun i j h1 h2 => ?_⟩
    · rw [f 115 i (by omega) (by omega), f 116 i (by omega) (by omega), f 117 i (by omega) (by omega)]; exact h.2.1 i hi
    · rw [f 117 i (by omega) (by omega), f 117 j (by omega) (by omega)]; exact h.2.2 i j h1 h2
  · unfold hz
    rw [e]
    exact zc_eq _ (fun i _ => f 116 i (by omega) (by omega))
theorem sSum_R {c k : Nat} (h : sSum c k) : sR c k := by unfold sSum at h; unfold sR; omega
def dh (x : gd) : Int32 := if x.1 100 17 ≤ 0 then 0 else x.1 117 (x.1 100 17 - 1).toNatClampNeg
theorem dh_is (hH : HI x) : (x.1 100 17).toInt ≤ (dh x).toInt ∧ 0 ≤ (dh x).toInt ∧ (dh x).toInt ≤ 18 ∧ (∀ i : Nat, (i : Int) < (x.1 100 17).toInt → (x.1 117 i).toInt ≤ (dh x).toInt) := by
  obtain ⟨⟨a0, a1⟩, a2, a3⟩ := hH
  have k0 : (0 : Int32).toInt = 0 := rfl
  unfold dh
  by_cases c : x.1 100 17 ≤ 0
  · rw [if_pos c, k0]
    rw [t_le, k0] at c
    exact ⟨by omega, by omega, by omega, fun i hi => by omega⟩
  · rw [if_neg c]
    rw [t_le, k0] at c
    have e1 : (x.1 100 17 - 1).toInt = (x.1 100 17).toInt - 1 := t_sub (by show _ ≤ _ - (1 : Int); omega) (by show _ - (1 : Int) ≤ _; omega)
    have e2 : ((x.1 100 17 - 1).toNatClampNeg : Int) = (x.1 100 17).toInt - 1 := by rw [t_cl, e1]; omega
    have g := a2 _ (show (((x.1 100 17 - 1).toNatClampNeg : Nat) : Int) < _ by omega)
    exact ⟨by omega, by omega, by omega, fun i hi => a3 _ _ (by omega) (by omega)⟩
theorem kp_depthHere (hq : kV q) (hH : HI x) (h : F (dh x) x) : KT G q d zk_X7_depthHere 0 [(0, vr 100)] [] x (ri F) := by
  obtain ⟨⟨a0, a1⟩, a2, a3⟩ := hH
  have k0 : (0 : Int32).toInt = 0 := rfl
  unfold dh at h
  refine kg_X7_depthHere_0 hq ⟨fun c => ri_i ?_, fun c => ⟨?_, ri_i ?_⟩⟩
  · rw [if_pos c] at h; exact h
  · rw [t_le, k0] at c
    have e1 : (x.1 100 17 - 1).toInt = (x.1 100 17).toInt - 1 := t_sub (by show _ ≤ _ - (1 : Int); omega) (by show _ - (1 : Int) ≤ _; omega)
    rw [vp_in_iff]; omega
  · rw [if_neg c] at h; exact h
theorem SM_rf (hS : SU x) (hH : HI x) : SM x x := ⟨hS, hH, La_rf, fm_rf _ _⟩
theorem SM_tr (a : SM x y) (b : SM y z) : SM x z := ⟨b.1, b.2.1, La_tr a.2.2.1 b.2.2.1, fm_tr a.2.2.2 b.2.2.2⟩
theorem SM_hold (a : SM x y) (f : fm (fun c k => (c = 100 ∧ k = 17) ∨ (115 ≤ c ∧ c ≤ 117)) y z) (hH : HI z) : SM x z ∧ (FR y → FR z) ∧ z.1 100 4 = y.1 100 4 := by
  have q4 : z.1 100 4 = y.1 100 4 := f _ _ (by omega)
  have la : La y z := ⟨fun c k q1 q2 => f c k (by omega), by unfold nx; rw [q4]; exact Int.le_refl _, fun j _ => f 42 j (by omega)⟩
  have S : SU z := by
    obtain ⟨⟨hT, b1, b2, b3⟩, ⟨u1, u2⟩, hp, hP⟩ := a.1
    have q7 : z.1 20 7 = y.1 20 7 := f _ _ (by omega)
    have q3 : z.1 60 3 = y.1 60 3 := f _ _ (by omega)
    unfold SU SV US RB nx mt
    rw [q4, q7, q3]
    refine ⟨⟨kT_fm hT la.1, b1, b2, b3⟩, ⟨fun j h1 h2 => ?_, fun j h1 h2 => ?_⟩, hp, fun i hi => La_PQ la (f _ _ (by omega)) (f _ _ (by omega)) (hP i hi)⟩
    · rw [f 42 j (by omega)]; exact u1 j h1 h2
    · rw [f 42 j (by omega)] at h2; rw [f 42 _ (by omega)]; exact u2 j h1 h2
  refine ⟨SM_tr a ⟨S, hH, la, fm_w f (fun c k q => by unfold sSum; omega)⟩, fun hF => ?_, q4⟩
  unfold FR at hF ⊢
  rw [q4, f 42 _ (by omega)]; exact hF
theorem SM_pass (a : SM x y) (f : fm (fun c k => c = 100 ∧ k = 4) y z) (hS : SV z (y.1 60 3).toInt) (hl : La y z) : SM x z ∧ hz z = hz y := by
  obtain ⟨g1, g2⟩ := HI_eq (z := z) a.2.1 (f _ _ (by omega)) (fun c k q1 q2 => f c k (by omega))
  refine ⟨SM_tr a ⟨?_, g1, hl, fm_w f (fun c k q => by unfold sSum; omega)⟩, g2⟩
  unfold SU
  rw [f 60 3 (by omega)]; exact hS
theorem FR_12 (h : FR x) : ¬ x.1 42 (x.1 100 4).toNatClampNeg = 12 := by unfold FR at h; rw [h]; decide
theorem zc_le : ∀ n : Nat, zc x n ≤ n := by
  intro n
  induction n with
  | zero => exact Nat.le_refl _
  | succ n ih =>
    show zc x n + (if x.1 116 n = 0 then 1 else 0) ≤ n + 1
    split <;> omega
theorem SM_rel (a : SM x y) (f : fm (fun c k => (c = 100 ∧ k = 17) ∨ (c = 60 ∧ k = 3) ∨ c = 62 ∨ c = 63) y z) (hS : SU z) (hH : HI z) : SM x z ∧ (FR y → FR z) ∧ z.1 100 4 = y.1 100 4 := by
  have q4 : z.1 100 4 = y.1 100 4 := f _ _ (by omega)
  refine ⟨SM_tr a ⟨hS, hH, ⟨fun c k q1 q2 => f c k (by omega), by unfold nx; rw [q4]; exact Int.le_refl _, fun j _ => f 42 j (by omega)⟩, fm_w f (fun c k q => by unfold sSum; omega)⟩, fun hF => ?_, q4⟩
  unfold FR at hF ⊢
  rw [q4, f 42 _ (by omega)]; exact hF
theorem KN_fm (h : KN x) (e : y.1 100 9 = x.1 100 9) (e7 : y.1 20 7 = x.1 20 7) (f : ∀ k, y.1 109 k = x.1 109 k) : KN y := by
  unfold KN tk at h ⊢
  rw [e, e7]
  exact ⟨h.1, fun i hi => by rw [f i]; exact h.2 i hi⟩
end KSU
end
section
/-! the class: the parts of sums, as the events say them -/
/-- what is told at an operator's end -/
def opE (M : gU) : Prop := ∀ v ∈ M, v.1 = 50 ∨ v.1 = 51
theorem opE_nil : opE [] := fun _ h => by cases h
theorem opE_app {M N : gU} (h : opE M) (g : opE N) : opE (M ++ N) := fun v hv => (List.mem_append.mp hv).elim (h v) (g v)
theorem opE_one {v : Nat × Nat × Nat} (h : v.1 = 50 ∨ v.1 = 51) : opE [v] := fun w hw => by rw [List.mem_singleton.mp hw]; exact h
theorem pst_c {k : Int32} (h : ∀ w ∈ [(30 : Int32), 12, 51, 52, 53, 54, 55, 56, 57, 58, 59, 60, 28], ¬ k = w) : pst k = 0 := by
  have lo : ¬ (51 ≤ k ∧ k ≤ 56) := by
    rintro ⟨a, b⟩
    rw [t_le] at a b
    have k51 : (51 : Int32).toInt = 51 := rfl
    have k52 : (52 : Int32).toInt = 52 := rfl
    have k53 : (53 : Int32).toInt = 53 := rfl
    have k54 : (54 : Int32).toInt = 54 := rfl
    have k55 : (55 : Int32).toInt = 55 := rfl
    have k56 : (56 : Int32).toInt = 56 := rfl
    have h1 := h 51 (by decide)
    have h2 := h 52 (by decide)
    have h3 := h 53 (by decide)
    have h4 := h 54 (by decide)
    have h5 := h 55 (by decide)
    have h6 := h 56 (by decide)
    rw [t_eq] at h1 h2 h3 h4 h5 h6
    omega
  unfold pst
  rw [if_neg (h 30 (by decide)), if_neg (h 12 (by decide)), if_neg lo, if_neg (fun c => c.elim (h 57 (by decide)) (h 58 (by decide))), if_neg (fun c => c.elim (h 59 (by decide)) (fun c => c.elim (h 60 (by decide)) (h 28 (by decide))))]
/-- the class's number of a kind that is a word or a sign -/
def kcv (k : Int32) : Int32 := if k < 50 then k + 30 else k - 40
/-- what an operator is in a sum -/
def oP (K : Nat → Int32) (v : Nat × Nat × Nat) : Int32 := if v.1 = 50 then (if K v.2.1 = 29 then 5 else 4) else kcv (K v.2.1)
def oPs (K : Nat → Int32) (M : gU) : List (Int32 × Int32) := M.map (fun v => (oP K v, 0))
def cPt (sN : Nat → Nat → Bool) (V K : Nat → Int32) (E : gV) (v : Nat × Nat × Nat) : Option (Int32 × Int32) :=
  if v.1 = 50 ∨ v.1 = 51 then some (oP K v, 0)
  else if v.1 = 52 then some (1, V v.2.1)
  else if v.1 = 53 then some (3, 0)
  else if v.1 = 3 then some (2, match kfi sN E.1 v.2.1 with | some p => Int32.ofNat p | none => -1)
  else if v.1 = 6 ∨ v.1 = 7 then (if E.2.1 = [] then some (6, Int32.ofNat v.2.1) else none)
  else if v.1 = 54 then some (0, 0)
  else none
def sPs (sN : Nat → Nat → Bool) (V K : Nat → Int32) (E : gV) (M : gU) : List (Int32 × Int32) := M.filterMap (cPt sN V K E)
/-- the parts written so far: no more than 800 have room -/
def PR (x : gd) (P : List (Int32 × Int32)) : Prop := (x.1 60 3).toInt = (min P.length 800 : Nat) ∧ ∀ i q, i < 800 → P[i]? = some q → x.1 62 i = q.1 ∧ x.1 63 i = q.2
/-- from x to y the parts Q were added -/
def CPl (x y : gd) (Q : List (Int32 × Int32)) : Prop := ∀ P, PR x P → PR y (P ++ Q)
/-- the operators held, as parts -/
def HP (K : Nat → Int32) (x : gd) : Nat → gH → Prop
  | 0, _ => True
  | n + 1, s => match s with
    | [] => True
    | z :: s' => (¬ z.1 = 0 → x.1 115 n = oP K z.2.2) ∧ HP K x n s'
section CPS
variable {sN : Nat → Nat → Bool} {V K : Nat → Int32} {E : gV} {x y z w : gd} {M N : gU} {P Q : List (Int32 × Int32)}
theorem sPs_app : sPs sN V K E (M ++ N) = sPs sN V K E M ++ sPs sN V K E N := List.filterMap_append
theorem sPs_op (h : opE M) : sPs sN V K E M = oPs K M := by
  induction M with
  | nil => rfl
  | cons v M ih =>
    have e : cPt sN V K E v = some (oP K v, 0) := if_pos (h v List.mem_cons_self)
    show (v :: M).filterMap (cPt sN V K E) = _
    rw [List.filterMap_cons, e]
    show _ :: sPs sN V K E M = _ :: _
    rw [ih (fun w hw => h w (List.mem_cons_of_mem _ hw))]
    rfl
theorem oPs_app : oPs K (M ++ N) = oPs K M ++ oPs K N := List.map_append
theorem CPl_rf : CPl x x [] := fun P h => by rw [List.append_nil]; exact h
theorem CPl_st (h : CPl x y P) (e3 : z.1 60 3 = y.1 60 3) (e : ∀ k, z.1 62 k = y.1 62 k ∧ z.1 63 k = y.1 63 k) : CPl x z P := fun P0 h0 => by
  obtain ⟨h1, h2⟩ := h P0 h0
  exact ⟨by rw [e3]; exact h1, fun i q hi hq => ⟨(e i).1.trans (h2 i q hi hq).1, (e i).2.trans (h2 i q hi hq).2⟩⟩
theorem CPl_app (h : CPl x y P) (g : CPl y z Q) : CPl x z (P ++ Q) := fun P0 h0 => by
  rw [← List.append_assoc]
  exact g _ (h P0 h0)
theorem HP_eq : ∀ {n : Nat} {s : gH}, (∀ k, k < n → y.1 115 k = x.1 115 k) → HP K x n s → HP K y n s := by
  intro n
  induction n with
  | zero => intro s _ _; trivial
  | succ n ih =>
    intro s e h
    cases s with
    | nil => trivial
    | cons z s' => exact ⟨fun q => by rw [e n (Nat.lt_succ_self _)]; exact h.1 q, ih (fun k hk => e k (Nat.lt_succ_of_lt hk)) h.2⟩
theorem kcv_is {s k : Int32} (hk : kc s = k) (h : ¬ pst k = 0) : kcv k = s := by
  have key : ∀ w ∈ [(30 : Int32), 12, 51, 52, 53, 54, 55, 56, 57, 58, 59, 60, 28], kc (kcv w) = w ∧ ¬ kc (kcv w) = -1 := by decide
  have hw : k ∈ [(30 : Int32), 12, 51, 52, 53, 54, 55, 56, 57, 58, 59, 60, 28] := by
    apply Classical.byContradiction
    intro c
    exact h (pst_c (fun w hw e => c (by rw [e]; exact hw)))
  obtain ⟨a, b⟩ := key k hw
  exact (kc_i (hk.trans a.symm) b).symm
end CPS
section CPA
variable {G : kG} {q : kP} {d : Nat} {x y : gd} {Fv : gd → Prop}
theorem kf_addPart (hq : kV q) (p a : Int32) (hp : 0 ≤ (x.1 60 3).toInt ∧ (x.1 60 3).toInt ≤ 800) (h : ∀ y, AP x y p a → CPl x y [(p, a)] → Fv y) : KT G q d zk_X0_addPart 0 [(0, vr 60), (1, vi p), (2, vi a)] [] x (rv Fv) := by
  have k8 : (800 : Int32).toInt = 800 := rfl
  refine kg_X0_addPart_0 hq _ _ ⟨fun c => rv_i (h x ⟨fm_rf _ _, hp, Int.le_refl _, fun _ _ => ⟨rfl, rfl⟩, fun i hi => Or.inl hi⟩ (fun P hP => ?_)), fun c => ?_⟩
  · rw [t_le, k8] at c
    obtain ⟨h1, h2⟩ := hP
    refine ⟨by rw [List.length_append]; show _ = ((min (P.length + 1) 800 : Nat) : Int); omega, fun i r hi hr => h2 i r hi ?_⟩
    rw [List.getElem?_append_left (by omega)] at hr
    exact hr
  rw [t_le, k8] at c
  have vin : vp_in (x.1 60 3) 800 := by rw [vp_in_iff]; omega
  refine ⟨vin, fun x3 e3 => ?_⟩
  have f3 : x3.1 60 3 = x.1 60 3 := by rw [e3]; (simp only [si_get, sfl_get, Nat.reduceEqDiff, eq_self, and_false, false_and, and_true, true_and, if_true, if_false, reduceIte, reduceCtorEq])
  refine ⟨by rw [f3]; exact vin, fun x5 e5 y ey => ?_⟩
  rw [f3] at e5
  have f5 : x5.1 60 3 = x.1 60 3 := by rw [e5, ← f3]; (simp only [si_get, sfl_get, Nat.reduceEqDiff, eq_self, and_false, false_and, and_true, true_and, if_true, if_false, reduceIte, reduceCtorEq])
  rw [f5] at ey
  have fy : y.1 60 3 = x.1 60 3 + 1 := by rw [ey]; (simp only [si_get, sfl_get, Nat.reduceEqDiff, eq_self, and_false, false_and, and_true, true_and, if_true, if_false, reduceIte, reduceCtorEq])
  have ty : (y.1 60 3).toInt = (x.1 60 3).toInt + 1 := by rw [fy, t_add (by show _ ≤ _ + (1 : Int); omega) (by show _ + (1 : Int) ≤ _; omega)]; rfl
  have eN : ((x.1 60 3).toNatClampNeg : Int) = (x.1 60 3).toInt := by rw [t_cl]; omega
  have lo : ∀ i : Nat, (i : Int) < (x.1 60 3).toInt → y.1 62 i = x.1 62 i ∧ y.1 63 i = x.1 63 i := fun i hi => by
    refine ⟨?_, ?_⟩
    · rw [ey, e5, e3, si_get, if_neg (by omega), si_get, if_neg (by omega), si_get, if_neg (by omega)]
    · rw [ey, e5, e3, si_get, if_neg (by omega), si_get, if_neg (by omega), si_get, if_neg (by omega)]
  have a2 : y.1 62 (x.1 60 3).toNatClampNeg = p := by rw [ey, e5, e3]; (simp only [si_get, sfl_get, Nat.reduceEqDiff, eq_self, and_false, false_and, and_true, true_and, if_true, if_false, reduceIte, reduceCtorEq])
  have a3 : y.1 63 (x.1 60 3).toNatClampNeg = a := by rw [ey, e5, e3]; (simp only [si_get, sfl_get, Nat.reduceEqDiff, eq_self, and_false, false_and, and_true, true_and, if_true, if_false, reduceIte, reduceCtorEq])
  refine rv_i (h y ⟨?_, by omega, by omega, lo, fun i hi => ?_⟩ (fun P hP => ?_))
  · rw [ey, e5, e3]; exact fm_si (fm_si (fm_si (fm_rf _ _) (Or.inr (Or.inl rfl))) (Or.inr (Or.inr rfl))) (Or.inl ⟨rfl, rfl⟩)
  · by_cases hi2 : (i : Int) < (x.1 60 3).toInt
    · exact Or.inl hi2
    · have : i = (x.1 60 3).toNatClampNeg := by omega
      subst this
      exact Or.inr ⟨a2, a3⟩
  · obtain ⟨h1, h2⟩ := hP
    refine ⟨by rw [List.length_append]; show _ = ((min (P.length + 1) 800 : Nat) : Int); omega, fun i r hi hr => ?_⟩
    by_cases ci : i < P.length
    · rw [List.getElem?_append_left ci] at hr
      have b := lo i (by omega)
      have b2 := h2 i r hi hr
      exact ⟨b.1.trans b2.1, b.2.trans b2.2⟩
    · have hlt := gt_lt hr
      rw [List.length_append] at hlt
      have hlt : i < P.length + 1 := hlt
      have ei : i = P.length := by omega
      rw [ei, List.getElem?_append_right (Nat.le_refl _), Nat.sub_self] at hr
      have hr : (p, a) = r := Option.some.inj hr
      have en : i = (x.1 60 3).toNatClampNeg := by omega
      rw [en, a2, a3, ← hr]
      exact ⟨rfl, rfl⟩
end CPA
end
section
/-! the class: sums are read as the grammar says -/
theorem opE_dull {v : Nat × Nat × Nat} (h : v.1 = 50 ∨ v.1 = 51) : dull v := by
  intro k hk c
  rw [c] at h
  rcases h with rfl | rfl <;> exact absurd hk (by decide)
theorem UR_op {sN : Nat → Nat → Bool} {E : gV} {x y : gd} : ∀ {N M : gU}, UR sN E x y M → opE N → UR sN E x y (M ++ N) := by
  intro N
  induction N with
  | nil => intro M h _; rw [List.append_nil]; exact h
  | cons v N ih =>
    intro M h g
    have := ih (UR_dull h (opE_dull (g v List.mem_cons_self))) (fun w hw => g w (List.mem_cons_of_mem _ hw))
    rw [List.append_assoc] at this
    exact this
/-- the operators held, as the grammar's stack -/
def HD (x : gd) : Nat → gH → Prop
  | 0, s => s = []
  | n + 1, s => ∃ a r v s', s = (a, r, v) :: s' ∧ ((x.1 117 n).toNatClampNeg + r = 17 ∨ (17 ≤ (x.1 117 n).toNatClampNeg ∧ r = 0)) ∧ ((x.1 116 n).toInt = (a : Nat) ∨ ((x.1 116 n).toInt = 6 ∧ a = 5)) ∧ (a ≤ 5 ∧ (n = 0 → a = 0)) ∧ (v.1 = 50 ∨ v.1 = 51) ∧ HD x n s'
theorem HD_eq {x y : gd} : ∀ {n : Nat} {s : gH}, (∀ k, k < n → y.1 116 k = x.1 116 k ∧ y.1 117 k = x.1 117 k) → HD x n s → HD y n s := by
  intro n
  induction n with
  | zero => intro s _ h; exact h
  | succ n ih =>
    intro s e h
    obtain ⟨a, r, v, s', h1, h2, h3, h4, h5, h6⟩ := h
    obtain ⟨e1, e2⟩ := e n (Nat.lt_succ_self _)
    exact ⟨a, r, v, s', h1, by rw [e2]; exact h2, by rw [e1]; exact h3, h4, h5, ih (fun k hk => e k (Nat.lt_succ_of_lt hk)) h6⟩
/-- how many parentheses -/
def zs : gH → Nat
  | [] => 0
  | z :: s => zs s + (if z.1 = 0 then 1 else 0)
theorem HD_zs {x : gd} : ∀ {n : Nat} {s : gH}, HD x n s → zc x n = zs s := by
  intro n
  induction n with
  | zero => intro s h; have h : s = [] := h; rw [h]; rfl
  | succ n ih =>
    intro s h
    obtain ⟨a, r, v, s', h1, h2, h3, h4, h5, h6⟩ := h
    rw [h1]
    show zc x n + (if x.1 116 n = 0 then 1 else 0) = zs s' + (if a = 0 then 1 else 0)
    rw [ih h6]
    have k0 : (0 : Int32).toInt = 0 := rfl
    congr 1
    by_cases c : a = 0
    · rw [if_pos c, if_pos]
      rw [t_eq, k0]; omega
    · rw [if_neg c, if_neg]
      rw [t_eq, k0]; omega
theorem HD_b {x : gd} : ∀ {n : Nat} {s : gH}, HD x (n + 1) s → 1 ≤ zs s := by
  intro n
  induction n with
  | zero =>
    intro s h
    obtain ⟨a, r, v, s', h1, h2, h3, h4, h5, h6⟩ := h
    rw [h1]
    show 1 ≤ zs s' + (if a = 0 then 1 else 0)
    rw [if_pos (h4.2 rfl)]; omega
  | succ n ih =>
    intro s h
    obtain ⟨a, r, v, s', h1, h2, h3, h4, h5, h6⟩ := h
    rw [h1]
    show 1 ≤ zs s' + (if a = 0 then 1 else 0)
    have := ih h6
    omega
theorem dW_stuck {K : Nat → Int32} {o : Bool} {j : Nat} (h : pst (K j) = 0) (hn : ¬ (K j = 62 ∧ j < 700)) : ∀ {s : gH} {L : gU}, 2 ≤ zs s → dW K o s j L = none := by
  intro s
  induction s with
  | nil => intro L h2; exact absurd h2 (by decide)
  | cons z s ih =>
    intro L h2
    obtain ⟨a, r, v⟩ := z
    have h2 : 2 ≤ zs s + (if a = 0 then 1 else 0) := h2
    cases s with
    | nil =>
      exfalso
      have : zs ([] : gH) = 0 := rfl
      rw [this] at h2
      split at h2 <;> omega
    | cons y s =>
      by_cases c : a = 0
      · subst c
        rw [dW_par h, if_neg hn]
      · rw [if_neg c] at h2
        rw [dW_pop c (by omega)]
        exact ih h2
section KSF
variable {G : kG} {q : kP} {d : Nat} {x x0 y z : gd} {F : Int32 → gd → Prop} {Fv : gd → Prop} {X : String → gd → Prop} {P : Option gv → gd → Prop} {m : Int}
theorem kf_hold (hq : kV q) (p s t : Int32) (hH : HI x) (hp : ¬ p = 2 ∧ ¬ p = 6) (hs : 0 ≤ s.toInt) (h1 : (x.1 100 17).toInt + 1 ≤ t.toInt) (h2 : t.toInt ≤ 18) (h3 : ∀ i : Nat, (i : Int) < (x.1 100 17).toInt → (x.1 117 i).toInt ≤ t.toInt) (h : ∀ y, fm (fun c k => (c = 100 ∧ k = 17) ∨ (115 ≤ c ∧ c ≤ 117)) x y → HI y → hz y = hz x + (if s = 0 then 1 else 0) → (y.1 100 17).toInt = (x.1 100 17).toInt + 1 → y.1 116 (x.1 100 17).toNatClampNeg = s → y.1 117 (x.1 100 17).toNatClampNeg = t → (∀ k, k < (x.1 100 17).toNatClampNeg → y.1 116 k = x.1 116 k ∧ y.1 117 k = x.1 117 k) → y.1 115 (x.1 100 17).toNatClampNeg = p → (∀ k, k < (x.1 100 17).toNatClampNeg → y.1 115 k = x.1 115 k) → Fv y) : KT G q d zk_X7_hold 0 [(0, vr 100), (1, vi p), (2, vi s), (3, vi t)] [] x (rv Fv) := by
  obtain ⟨⟨a0, a1⟩, a2, a3⟩ := hH
  have k20 : (20 : Int32).toInt = 20 := rfl
  have eN : ((x.1 100 17).toNatClampNeg : Int) = (x.1 100 17).toInt := by rw [t_cl]; omega
  have vin : vp_in (x.1 100 17) 20 := by rw [vp_in_iff]; omega
  refine kg_X7_hold_0 hq _ _ _ ⟨fun c => ?_, fun c => ⟨vin, fun x3 e3 => ?_⟩⟩
  · exfalso; rw [t_le, k20] at c; omega
  have f3 : x3.1 100 17 = x.1 100 17 := by rw [e3]; (simp only [si_get, sfl_get, Nat.reduceEqDiff, eq_self, and_false, false_and, and_true, true_and, if_true, if_false, reduceIte, reduceCtorEq])
  refine ⟨by rw [f3]; exact vin, fun x5 e5 => ?_⟩
  rw [f3] at e5
  have f5 : x5.1 100 17 = x.1 100 17 := by rw [e5, ← f3]; (simp only [si_get, sfl_get, Nat.reduceEqDiff, eq_self, and_false, false_and, and_true, true_and, if_true, if_false, reduceIte, reduceCtorEq])
  refine ⟨by rw [f5]; exact vin, fun x7 e7 y ey => rv_i (h y ?_ ?_ ?_ ?_ ?_ ?_ ?_ ?_ ?_)⟩
  · rw [ey, e7, e5, e3]
    exact fm_si (fm_si (fm_si (fm_si (fm_rf _ _) (Or.inr (by omega))) (Or.inr (by omega))) (Or.inr (by omega))) (Or.inl ⟨rfl, rfl⟩)
  all_goals
    rw [f5] at e7
    have f7 : x7.1 100 17 = x.1 100 17 := by rw [e7, ← f5]; (simp only [si_get, sfl_get, Nat.reduceEqDiff, eq_self, and_false, false_and, and_true, true_and, if_true, if_false, reduceIte, reduceCtorEq])
    rw [f7] at ey
    have fy : y.1 100 17 = x.1 100 17 + 1 := by rw [ey]; (simp only [si_get, sfl_get, Nat.reduceEqDiff, eq_self, and_false, false_and, and_true, true_and, if_true, if_false, reduceIte, reduceCtorEq])
    have ty : (y.1 100 17).toInt = (x.1 100 17).toInt + 1 := by rw [fy, t_add (by show _ ≤ _ + (1 : Int); omega) (by show _ + (1 : Int) ≤ _; omega)]; rfl
    have g : ∀ c k, 115 ≤ c → c ≤ 117 → k ≠ (x.1 100 17).toNatClampNeg → y.1 c k = x.1 c k := by
      intro c k c1 c2 hk
      rw [ey, e7, e5, e3, si_get, if_neg (by omega), si_get, if_neg (fun q => hk q.2), si_get, if_neg (fun q => hk q.2), si_get, if_neg (fun q => hk q.2)]
    have g5 : y.1 115 (x.1 100 17).toNatClampNeg = p := by rw [ey, e7, e5, e3]; (simp only [si_get, sfl_get, Nat.reduceEqDiff, eq_self, and_false, false_and, and_true, true_and, if_true, if_false, reduceIte, reduceCtorEq])
    have g6 : y.1 116 (x.1 100 17).toNatClampNeg = s := by rw [ey, e7, e5, e3]; (simp only [si_get, sfl_get, Nat.reduceEqDiff, eq_self, and_false, false_and, and_true, true_and, if_true, if_false, reduceIte, reduceCtorEq])
    have g7 : y.1 117 (x.1 100 17).toNatClampNeg = t := by rw [ey, e7, e5, e3]; (simp only [si_get, sfl_get, Nat.reduceEqDiff, eq_self, and_false, false_and, and_true, true_and, if_true, if_false, reduceIte, reduceCtorEq])
  · refine ⟨by omega, fun i hi => ?_, fun i j hij hj => ?_⟩
    · by_cases hi2 : i = (x.1 100 17).toNatClampNeg
      · subst hi2
        rw [g5, g6, g7]
        exact ⟨hp, hs, by omega, h2⟩
      · rw [g 115 i (by omega) (by omega) hi2, g 116 i (by omega) (by omega) hi2, g 117 i (by omega) (by omega) hi2]
        exact a2 i (by omega)
    · by_cases hj2 : j = (x.1 100 17).toNatClampNeg
      · by_cases hi2 : i = (x.1 100 17).toNatClampNeg
        · rw [hi2, hj2]; exact Int.le_refl _
        · rw [hj2, g7, g 117 i (by omega) (by omega) hi2]; exact h3 i (by omega)
      · rw [g 117 i (by omega) (by omega) (by omega), g 117 j (by omega) (by omega) hj2]; exact a3 i j hij (by omega)
  · unfold hz
    have : (y.1 100 17).toNatClampNeg = (x.1 100 17).toNatClampNeg + 1 := by
      have : ((y.1 100 17).toNatClampNeg : Int) = (y.1 100 17).toInt := by rw [t_cl]; omega
      omega
    rw [this]
    show zc y _ + (if y.1 116 _ = 0 then 1 else 0) = _
    rw [g6, zc_eq (z := y) (y := x) _ (fun i hi => g 116 i (by omega) (by omega) (by omega))]
  · exact ty
  · exact g6
  · exact g7
  · exact fun k hk => ⟨g 116 k (by omega) (by omega) (by omega), g 117 k (by omega) (by omega) (by omega)⟩
  · exact g5
  · exact fun k hk => g 115 k (by omega) (by omega) (by omega)
theorem kf_beginsSum (hq : kV q) (s : Int32) (o : Bool) (ho : o = true ↔ x.1 100 5 = 0) (h : ∀ r : Int32, (¬ r = 0 ↔ s = 3 ∨ s = 2 ∨ s = 21 ∨ s = 59 ∨ s = 18 ∨ (s = 62 ∧ o = false)) → F r x) : KT G q d zk_X7_beginsSum 0 [(0, vr 100), (1, vi s)] [] x (ri F) := by
  have yes : ∀ r : Int32, r = 1 → (s = 3 ∨ s = 2 ∨ s = 21 ∨ s = 59 ∨ s = 18 ∨ (s = 62 ∧ o = false)) → F r x := fun r e c => h r ⟨fun _ => c, fun _ => by rw [e]; decide⟩
  refine kg_X7_beginsSum_0 hq _ ⟨fun c => ri_i (yes _ rfl (Or.inl c)), fun n1 => ⟨fun c => ri_i (yes _ rfl (Or.inr (Or.inl c))), fun n2 => ⟨fun c => ri_i (yes _ rfl (Or.inr (Or.inr (Or.inl c)))), fun n3 => ⟨fun c => ri_i (yes _ rfl (Or.inr (Or.inr (Or.inr (Or.inl c))))), fun n4 => ⟨fun c => ri_i (yes _ rfl (Or.inr (Or.inr (Or.inr (Or.inr (Or.inl c)))))), fun n5 => ⟨fun n6 => ri_i (h _ ⟨fun z => absurd rfl z, fun z => ?_⟩), fun c => ⟨fun c5 => ri_i (h _ ⟨fun z => absurd rfl z, fun z => ?_⟩), fun c5 => ri_i (yes _ rfl (Or.inr (Or.inr (Or.inr (Or.inr (Or.inr ⟨c, ?_⟩))))))⟩⟩⟩⟩⟩⟩⟩
  · rcases z with z | z | z | z | z | z
    · exact absurd z n1
    · exact absurd z n2
    · exact absurd z n3
    · exact absurd z n4
    · exact absurd z n5
    · exact absurd z.1 n6
  · rcases z with z | z | z | z | z | z
    · exact absurd z n1
    · exact absurd z n2
    · exact absurd z n3
    · exact absurd z n4
    · exact absurd z n5
    · have := ho.mpr c5
      rw [z.2] at this
      exact absurd this (by decide)
  · cases o with
    | false => rfl
    | true => exact absurd (ho.mp rfl) c5
theorem kf_strengthOf (hq : kV q) (s k : Int32) (hk : kc s = k) (h : ∀ r : Int32, r.toInt = (pst k : Nat) → (¬ r = 0 → (1 ≤ r.toInt ∧ r.toInt ≤ 5) ∧ ¬ s = 2 ∧ ¬ s = 6 ∧ ¬ s = 0) → F r x) : KT G q d zk_X7_strengthOf 0 [(0, vi s)] [] x (ri F) := by
  refine kg_X7_strengthOf_0 hq _ ⟨fun c => ri_i (h _ ?_ (fun _ => ⟨by decide, ?_⟩)), fun c => ri_i (h _ ?_ (fun _ => ⟨by decide, ?_⟩)), fun c => ri_i (h _ ?_ (fun _ => ⟨by decide, ?_⟩)), fun c => ri_i (h _ ?_ (fun _ => ⟨by decide, ?_⟩)), fun c => ri_i (h _ ?_ (fun _ => ⟨by decide, ?_⟩)), fun c => ri_i (h _ ?_ (fun q => absurd rfl q))⟩
  · rw [← hk, c]; decide
  · rw [c]; decide
  · rw [← hk, c]; decide
  · rw [c]; decide
  · rcases c with e | e | e | e | e | e <;> rw [← hk, e] <;> decide
  · rcases c with e | e | e | e | e | e <;> rw [e] <;> decide
  · rcases c with e | e <;> rw [← hk, e] <;> decide
  · rcases c with e | e <;> rw [e] <;> decide
  · rcases c with e | e | e <;> rw [← hk, e] <;> decide
  · rcases c with e | e | e <;> rw [e] <;> decide
  · have kn : ∀ w ∈ [(60 : Int32), 42, 11, 12, 13, 14, 15, 16, 17, 18, 19, 20, 58], ¬ kc w = -1 := by decide
    have no : ∀ w ∈ [(60 : Int32), 42, 11, 12, 13, 14, 15, 16, 17, 18, 19, 20, 58], ¬ k = kc w := fun w hw e => c w hw (kc_i (hk.trans e) (kn w hw))
    have : pst k = 0 := pst_c (fun w hw => by
      rcases (by simpa using hw : w = 30 ∨ w = 12 ∨ w = 51 ∨ w = 52 ∨ w = 53 ∨ w = 54 ∨ w = 55 ∨ w = 56 ∨ w = 57 ∨ w = 58 ∨ w = 59 ∨ w = 60 ∨ w = 28) with e | e | e | e | e | e | e | e | e | e | e | e | e <;> rw [e]
      · exact no 60 (by decide)
      · exact no 42 (by decide)
      · exact no 11 (by decide)
      · exact no 12 (by decide)
      · exact no 13 (by decide)
      · exact no 14 (by decide)
      · exact no 15 (by decide)
      · exact no 16 (by decide)
      · exact no 17 (by decide)
      · exact no 18 (by decide)
      · exact no 19 (by decide)
      · exact no 20 (by decide)
      · exact no 58 (by decide))
    rw [this]
    decide
theorem kf_release (hq : kV q) (s : Int32) (hs : 1 ≤ s.toInt) (hs5 : s.toInt ≤ 5) (K : Nat → Int32) (o : Bool) (j : Nat) (st : gH) (L : gU) (hst : HD x (x.1 100 17).toNatClampNeg st) (hhp : HP K x (x.1 100 17).toNatClampNeg st) (hj : (pst (K j) : Int) ≤ s.toInt) (h2 : 1 ≤ hz x) (hS : SU x) (hH : HI x) (h : ∀ y, fm (fun c k => (c = 100 ∧ k = 17) ∨ (c = 60 ∧ k = 3) ∨ c = 62 ∨ c = 63) x y → SU y → HI y → hz y = hz x → (y.1 100 17).toInt ≤ (x.1 100 17).toInt → ((y.1 100 17).toInt = 0 ∨ (y.1 116 ((y.1 100 17).toInt.toNat - 1)).toInt < s.toInt) → (∀ k, y.1 116 k = x.1 116 k ∧ y.1 117 k = x.1 117 k) → ∀ a r v s' M, HD y (y.1 100 17).toNatClampNeg ((a, r, v) :: s') → (a : Int) < s.toInt → opE M → dW K o st j L = dW K o ((a, r, v) :: s') j (L ++ M) → HP K y (y.1 100 17).toNatClampNeg ((a, r, v) :: s') → CPl x y (oPs K M) → (∀ k, y.1 115 k = x.1 115 k) → Fv y) : KT G q (d + 1) zk_X7_release 0 [(0, vr 100), (1, vi s)] [] x (rv Fv) := by
  have k0 : (0 : Int32).toInt = 0 := rfl
  have k20 : (20 : Int32).toInt = 20 := rfl
  have loop : ∀ (n : Nat) (k : Int32) (y : gd) (sy : gH) (M : gU), HD y (y.1 100 17).toNatClampNeg sy → opE M → dW K o st j L = dW K o sy j (L ++ M) → HP K y (y.1 100 17).toNatClampNeg sy → CPl x y (oPs K M) → (∀ k, y.1 115 k = x.1 115 k) → (∀ k, y.1 116 k = x.1 116 k ∧ y.1 117 k = x.1 117 k) → fm (fun c k => (c = 100 ∧ k = 17) ∨ (c = 60 ∧ k = 3) ∨ c = 62 ∨ c = 63) x y → SU y → HI y → hz y = hz x → (y.1 100 17).toInt ≤ (x.1 100 17).toInt → (y.1 100 17).toInt ≤ n → 0 ≤ k.toInt → k.toInt + (y.1 100 17).toInt ≤ 18 → KT G q (d + 1) zk_X7_release 2 [(0, vr 100), (1, vi s), (2, vi k)] [] y (rv Fv) := by
    intro n
    induction n with
    | zero =>
      intro k y sy M hHD hM hdW hHP hCP h115 hsa hf hSy hHy hzy hle hn k0' kk
      have a0 := hHy.1.1
      refine kg_X7_release_2 hq _ _ ⟨fun c => ?_, fun c => ⟨fun c2 => ?_, fun c2 => ?_⟩⟩
      · exfalso; rw [t_le, k20] at c; omega
      · exfalso
        have e0 : (y.1 100 17).toNatClampNeg = 0 := by rw [t_cl]; omega
        unfold hz at hzy
        rw [e0] at hzy
        have : zc y 0 = 0 := rfl
        unfold hz at h2
        omega
      · exfalso; rw [t_le, k0] at c2; omega
    | succ n ih =>
      intro k y sy M hHD hM hdW hHP hCP h115 hsa hf hSy hHy hzy hle hn k0' kk
      obtain ⟨⟨a0, a1⟩, a2, a3⟩ := id hHy
      refine kg_X7_release_2 hq _ _ ⟨fun c => ?_, fun c => ⟨fun c2 => ?_, fun c2 => ?_⟩⟩
      · exfalso; rw [t_le, k20] at c; omega
      · exfalso
        rw [t_le, k0] at c2
        have e0 : (y.1 100 17).toNatClampNeg = 0 := by rw [t_cl]; omega
        unfold hz at hzy
        rw [e0] at hzy
        have : zc y 0 = 0 := rfl
        unfold hz at h2
        omega
      rw [t_le, k0] at c2
      have n9 : (y.1 100 17).toNatClampNeg = ((y.1 100 17).toInt.toNat - 1) + 1 := by rw [t_cl]; omega
      have hHD9 := hHD
      rw [n9] at hHD9
      obtain ⟨a, r, v, s', es, w1, w2, w3, w4, w5⟩ := hHD9
      have e1 : (y.1 100 17 - 1).toInt = (y.1 100 17).toInt - 1 := t_sub (by show _ ≤ _ - (1 : Int); omega) (by show _ - (1 : Int) ≤ _; omega)
      have e2 : (y.1 100 17 - 1).toNatClampNeg = (y.1 100 17).toInt.toNat - 1 := by rw [t_cl, e1]; omega
      refine ⟨by rw [vp_in_iff]; omega, fun c3 => rv_i (h y hf hSy hHy hzy hle (Or.inr ?_) hsa a r v s' M (by rw [← es]; exact hHD) ?_ hM (by rw [← es]; exact hdW) (by rw [← es]; exact hHP) hCP h115), fun c3 x5 e5 => ?_⟩
      · rw [t_lt, e2] at c3; exact c3
      · rw [t_lt, e2] at c3; omega
      rw [t_lt, e2] at c3
      have f5 : x5.1 100 17 = y.1 100 17 - 1 := by rw [e5]; (simp only [si_get, sfl_get, Nat.reduceEqDiff, eq_self, and_false, false_and, and_true, true_and, if_true, if_false, reduceIte, reduceCtorEq])
      have i5 : (x5.1 100 17).toInt = (y.1 100 17).toInt - 1 := by rw [f5]; exact e1
      have m5 : fm (fun c k => c = 100 ∧ k = 17) y x5 := by rw [e5]; exact fm_si (fm_rf _ _) ⟨rfl, rfl⟩
      have la5 : La y x5 := ⟨fun c k q1 q2 => m5 c k (by omega), by unfold nx; rw [m5 100 4 (by omega)]; exact Int.le_refl _, fun j _ => m5 42 j (by omega)⟩
      have H5 : HI x5 := by
        refine ⟨by omega, fun i hi => ?_, fun i j hij hj => ?_⟩
        · rw [m5 115 i (by omega), m5 116 i (by omega), m5 117 i (by omega)]; exact a2 i (by omega)
        · rw [m5 117 i (by omega), m5 117 j (by omega)]; exact a3 i j hij (by omega)
      have S5 : SU x5 := by
        obtain ⟨⟨hT, b1, b2, b3⟩, ⟨u1, u2⟩, hp, hP⟩ := hSy
        have q4 : x5.1 100 4 = y.1 100 4 := m5 _ _ (by omega)
        have q7 : x5.1 20 7 = y.1 20 7 := m5 _ _ (by omega)
        have q3 : x5.1 60 3 = y.1 60 3 := m5 _ _ (by omega)
        unfold SU SV US RB nx mt
        rw [q4, q7, q3]
        refine ⟨⟨kT_fm hT la5.1, b1, b2, b3⟩, ⟨fun j h1 h2 => ?_, fun j h1 h2 => ?_⟩, hp, fun i hi => La_PQ la5 (m5 _ _ (by omega)) (m5 _ _ (by omega)) (hP i hi)⟩
        · rw [m5 42 j (by omega)]; exact u1 j h1 h2
        · rw [m5 42 j (by omega)] at h2; rw [m5 42 _ (by omega)]; exact u2 j h1 h2
      have z5 : hz x5 = hz y := by
        unfold hz
        have n5 : (y.1 100 17).toNatClampNeg = (x5.1 100 17).toNatClampNeg + 1 := by rw [t_cl, t_cl]; omega
        have n6 : (x5.1 100 17).toNatClampNeg = (y.1 100 17).toInt.toNat - 1 := by rw [t_cl]; omega
        rw [n5]
        show _ = zc y _ + (if y.1 116 _ = 0 then 1 else 0)
        rw [n6, if_neg (fun q => by rw [q] at c3; rw [k0] at c3; omega), zc_eq (z := x5) (y := y) _ (fun i _ => m5 116 i (by omega))]
        rfl
      have v5 : vp_in (x5.1 100 17) 20 := by rw [vp_in_iff]; omega
      have e6 : (k + 1).toInt = k.toInt + 1 := t_add (by show _ ≤ _ + (1 : Int); omega) (by show _ + (1 : Int) ≤ _; omega)
      have h5 := a2 ((y.1 100 17).toInt.toNat - 1) (by omega)
      have n6 : (x5.1 100 17).toNatClampNeg = (y.1 100 17).toInt.toNat - 1 := by rw [t_cl]; omega
      have a0' : ¬ a = 0 := by omega
      have x53 : x5.1 60 3 = y.1 60 3 := m5 60 3 (by omega)
      refine ⟨v5, kf_addPart hq _ _ S5.2.2.1 (fun z hz9 hcz => ?_)⟩
      rw [n6, m5 115 _ (by omega)] at hz9 hcz
      have hv9 : y.1 115 ((y.1 100 17).toInt.toNat - 1) = oP K v := by
        have hq9 := hHP
        rw [n9, es] at hq9
        exact hq9.1 a0'
      have S6 : SU z := AP_SU S5 hz9 (fun c => absurd c h5.1.1) h5.1.2
      obtain ⟨H6, z6⟩ := HI_eq (z := z) H5 (hz9.1 _ _ (by omega)) (fun c k q1 q2 => hz9.1 c k (by omega))
      have w6 : z.1 100 17 = x5.1 100 17 := hz9.1 _ _ (by omega)
      have a0 : ¬ a = 0 := by omega
      have sz : zs s' = hz y := by
        unfold hz
        rw [HD_zs hHD, es]
        show zs s' = zs s' + (if a = 0 then 1 else 0)
        rw [if_neg a0]; rfl
      obtain ⟨y1, s1, es1⟩ : ∃ y1 s1, s' = y1 :: s1 := by
        cases s' with
        | nil => rw [hzy] at sz; exact absurd (show hz x = 0 from sz.symm) (by omega)
        | cons y1 s1 => exact ⟨y1, s1, rfl⟩
      have dp : dW K o st j L = dW K o s' j (L ++ (M ++ [v])) := by
        rw [hdW, es, es1, dW_pop a0 (by omega), List.append_assoc]
      have nz : (z.1 100 17).toNatClampNeg = (y.1 100 17).toInt.toNat - 1 := by rw [w6]; exact n6
      have sz9 : ∀ k, z.1 116 k = y.1 116 k ∧ z.1 117 k = y.1 117 k := fun k => ⟨by rw [hz9.1 _ _ (by omega), m5 _ _ (by omega)], by rw [hz9.1 _ _ (by omega), m5 _ _ (by omega)]⟩
      have z115 : ∀ k, z.1 115 k = y.1 115 k := fun k => by rw [hz9.1 _ _ (by omega), m5 _ _ (by omega)]
      have hHPz : HP K z (z.1 100 17).toNatClampNeg s' := by
        rw [nz]
        have hq9 := hHP
        rw [n9, es] at hq9
        exact HP_eq (fun k _ => z115 k) hq9.2
      have hCPz : CPl x z (oPs K (M ++ [v])) := by
        rw [oPs_app]
        refine CPl_app (CPl_st hCP x53 (fun k => ⟨m5 62 k (by omega), m5 63 k (by omega)⟩)) ?_
        rw [hv9] at hcz
        exact hcz
      refine ih _ z s' (M ++ [v]) (by rw [nz]; exact HD_eq (fun k _ => sz9 k) w5) (opE_app hM (opE_one w4)) dp hHPz hCPz (fun k => (z115 k).trans (h115 k)) (fun k => ⟨(sz9 k).1.trans (hsa k).1, (sz9 k).2.trans (hsa k).2⟩) (fm_tr (fm_tr hf (fm_w m5 (fun c k q => Or.inl q))) (fm_w hz9.1 (fun c k q => by omega))) S6 H6 (by rw [z6, z5, hzy]) ?_ ?_ ?_ ?_ <;> (try rw [w6]) <;> omega
  exact kg_X7_release_0 hq _ (loop 18 _ x st [] hst opE_nil (by rw [List.append_nil]) hhp CPl_rf (fun _ => rfl) (fun k => ⟨rfl, rfl⟩) (fm_rf _ _) hS hH rfl (Int.le_refl _) hH.1.2 (by decide) (by rw [k0]; have := hH.1.2; omega))
end KSF
end
section
/-! the class: what may stand before an operand -/
/-- from x to y, M was read -/
def RIw (K V : Nat → Int32) (sN : Nat → Nat → Bool) (e : Nat) (E : gV) (x y : gd) (M : gU) : Prop := KA K V sN e y ∧ nn y ≤ e ∧ UR sN E x y M
theorem pbg_k {s k : Int32} {o : Bool} (hk : kc s = k) : pbg o k ↔ (s = 3 ∨ s = 2 ∨ s = 21 ∨ s = 59 ∨ s = 18 ∨ (s = 62 ∧ o = false)) := by
  have i : ∀ {c v : Int32}, kc c = v → ¬ kc c = -1 → (k = v ↔ s = c) := fun {c v} hc hn => ⟨fun q => kc_i (by rw [hk, q, hc]) hn, fun q => by rw [← hk, q, hc]⟩
  have e2 : k = 2 ↔ s = 3 := i (by decide) (by decide)
  have e32 : k = 32 ↔ s = 62 := i (by decide) (by decide)
  have e1 : k = 1 ↔ s = 2 := i (by decide) (by decide)
  have e61 : k = 61 ↔ s = 21 := i (by decide) (by decide)
  have e29 : k = 29 ↔ s = 59 := i (by decide) (by decide)
  have e58 : k = 58 ↔ s = 18 := i (by decide) (by decide)
  unfold pbg
  rw [e2, e32, e1, e61, e29, e58]
  constructor
  · rintro (h | h | h | h | h | h)
    · exact Or.inl h
    · exact Or.inr (Or.inr (Or.inr (Or.inr (Or.inr h))))
    · exact Or.inr (Or.inl h)
    · exact Or.inr (Or.inr (Or.inl h))
    · exact Or.inr (Or.inr (Or.inr (Or.inl h)))
    · exact Or.inr (Or.inr (Or.inr (Or.inr (Or.inl h))))
  · rintro (h | h | h | h | h | h)
    · exact Or.inl h
    · exact Or.inr (Or.inr (Or.inl h))
    · exact Or.inr (Or.inr (Or.inr (Or.inl h)))
    · exact Or.inr (Or.inr (Or.inr (Or.inr (Or.inl h))))
    · exact Or.inr (Or.inr (Or.inr (Or.inr (Or.inr h))))
    · exact Or.inr (Or.inl h)
section KOF
variable {G : kG} {q : kP} {d : Nat} {x x0 y z : gd} {F : Int32 → gd → Prop} {Fv : gd → Prop} {X : String → gd → Prop} {P : Option gv → gd → Prop} {m : Int} {K V : Nat → Int32} {sN : Nat → Nat → Bool} {e : Nat} {E : gV} {M : gU} {o : Bool}
theorem RI_st (h : RIw K V sN e E x y M) (e4 : z.1 100 4 = y.1 100 4) (eu : ∀ j, z.1 42 j = y.1 42 j) (f : ∀ c k, 20 ≤ c → c < 40 → z.1 c k = y.1 c k) : RIw K V sN e E x z M := by
  have en : nn z = nn y := by unfold nn; rw [e4]
  exact ⟨KA_fm h.1 f, by rw [en]; exact h.2.1, UR_same h.2.2 en (fun j _ => eu j)⟩
theorem nn_up (h0 : 0 ≤ nx y) (e1 : nx z = nx y + 1) : nn z = nn y + 1 := by
  have a := nn_is h0
  have b := nn_is (x := z) (by omega)
  omega
theorem RI_tok (h : RIw K V sN e E x y M) (h0 : 0 ≤ nx y) (h7 : nx y < 700) (k0 : ¬ K (nn y) = 0) (k3 : ¬ K (nn y) = 3) (l : La y z) (e1 : nx z = nx y + 1) (u : z.1 42 (nn y) = 0) : RIw K V sN e E x z M := by
  have a := nn_is h0
  have en := nn_up h0 e1
  exact ⟨KA_fm h.1 l.1, by rw [en]; exact KA_on h.1 h.2.1 (by omega) k0 k3, UR_tok h0 h.2.2 l en u⟩
/-- the stack's top, and how deep it is here -/
theorem HD_top {s : gH} (hH : HI y) (h1 : 1 ≤ hz y) (h : HD y (y.1 100 17).toNatClampNeg s) : ∃ a r v s', s = (a, r, v) :: s' ∧ ((dh y).toInt + r = 17 ∨ (17 ≤ (dh y).toInt ∧ r = 0)) := by
  obtain ⟨⟨a0, a1⟩, a2, a3⟩ := hH
  have k0 : (0 : Int32).toInt = 0 := rfl
  have k1 : (1 : Int32).toInt = 1 := rfl
  have hn : hz y ≤ (y.1 100 17).toNatClampNeg := zc_le _
  have u := t_cl (y.1 100 17)
  obtain ⟨n, en⟩ : ∃ n, (y.1 100 17).toNatClampNeg = n + 1 := ⟨(y.1 100 17).toNatClampNeg - 1, by omega⟩
  rw [en] at h
  obtain ⟨a, r, v, s', e1, e2, -⟩ := h
  refine ⟨a, r, v, s', e1, ?_⟩
  have e3 : (y.1 100 17 - 1).toInt = (y.1 100 17).toInt - 1 := by rw [t_sub (by rw [k1]; omega) (by rw [k1]; omega), k1]
  have e4 : (y.1 100 17 - 1).toNatClampNeg = n := by rw [t_cl, e3]; omega
  have ed : dh y = y.1 117 n := by
    unfold dh
    rw [if_neg (by rw [t_le, k0]; omega), e4]
  have g := a2 n (by omega)
  have ut := t_cl (y.1 117 n)
  rw [ed]
  omega
theorem kf_openOperand (hq : kV q) (h0 : fm sR x0 x) (st : gH) (L : gU) (hx : dAk K o st (nn x) L = none → RX x0 X) (hS : SU x) (hH : HI x) (hf : FR x) (ho : o = true ↔ x.1 100 5 = 0) (hR : RIw K V sN e E x x []) (h1 : 1 ≤ hz x) (hst : HD x (x.1 100 17).toNatClampNeg st) (hhp : HP K x (x.1 100 17).toNatClampNeg st)
    (h : ∀ r y, SM x y → FR y → 0 ≤ r.toInt → r.toInt ≤ 701 → (hz y : Int) = hz x + r.toInt → DL y → (y.1 23 (y.1 100 4).toNatClampNeg = 2 ∨ y.1 23 (y.1 100 4).toNatClampNeg = 3 ∨ (y.1 23 (y.1 100 4).toNatClampNeg = 62 ∧ o = false)) → RIw K V sN e E x y [] → ∀ a f v s', HD y (y.1 100 17).toNatClampNeg ((a, f + 1, v) :: s') → dAk K o st (nn x) L = dAk K o ((a, f + 1, v) :: s') (nn y) L → HP K y (y.1 100 17).toNatClampNeg ((a, f + 1, v) :: s') → CPl x y [] → F r y) : KE G q (d + 8) zk_X7_openOperand 0 [(0, vr 100)] [] x (ri F) X := by
  have k700 : (700 : Int32).toInt = 700 := rfl
  have k16 : (16 : Int32).toInt = 16 := rfl
  have k1 : (1 : Int32).toInt = 1 := rfl
  have k0 : (0 : Int32).toInt = 0 := rfl
  have hn0 := hS.1.2.1
  have loop : ∀ (n : Nat) (o2 k : Int32) (y : gd) (sy : gH), SM x y → FR y → 0 ≤ o2.toInt → o2.toInt ≤ k.toInt → (hz y : Int) = hz x + o2.toInt → 0 ≤ k.toInt → nx y = nx x + k.toInt → 700 - nx y < n → RIw K V sN e E x y [] → HD y (y.1 100 17).toNatClampNeg sy → dAk K o st (nn x) L = dAk K o sy (nn y) L → HP K y (y.1 100 17).toNatClampNeg sy → CPl x y [] → KE G q (d + 8) zk_X7_openOperand 4 [(0, vr 100), (1, vi o2), (2, vi k)] [] y (ri F) X := by
    intro n
    induction n with
    | zero =>
      intro o2 k y sy hM hF o0 o1 hzy kp hk hn hRy hDy hdy hPy hCy
      have b2 := hM.1.1.2.2.1
      omega
    | succ n ih =>
      intro o2 k y sy hM hF o0 o1 hzy kp hk hn hRy hDy hdy hPy hCy
      have b1 := hM.1.1.2.1
      have b2 := hM.1.1.2.2.1
      have un := nn_is b1
      have h0y : fm sR x0 y := fm_tr h0 (fm_w hM.2.2.2 (fun c k q => sSum_R q))
      have rs : dAk K o sy (nn y) L = none → ∀ {P : Option gv → gd → Prop} {v : Int32} (hv9 : ¬ v = 0 := by decide), KE G q (d + 7) zk_X7_refuse 0 [(0, vr 100), (1, vi v)] [] y P X := fun hw _ _ hv9 => kp_refuse hq _ (RB_at hM.1.1) h0y (hx (hdy.trans hw)) hv9
      have ek : (k + 1).toInt = k.toInt + 1 := t_add (by rw [k1]; omega) (by rw [k1]; omega)
      have hoy : o = true ↔ y.1 100 5 = 0 := by rw [hM.2.2.2 100 5 (by unfold sSum; omega)]; exact ho
      have hKi : kc (y.1 23 (y.1 100 4).toNatClampNeg) = K (nn y) := hRy.1.1 _ hRy.2.1
      obtain ⟨a, r, v, s', es, hr⟩ := HD_top hM.2.1 (by omega) hDy
      have p133 : ∀ (o3 : Int32) (z : gd) (sz : gH), SM x z → FR z → z.1 100 4 = y.1 100 4 → ¬ y.1 23 (y.1 100 4).toNatClampNeg = 0 → ¬ y.1 23 (y.1 100 4).toNatClampNeg = 1 → 0 ≤ o3.toInt → o3.toInt ≤ k.toInt + 1 → (hz z : Int) = hz x + o3.toInt → RIw K V sN e E x z [] → HD z (z.1 100 17).toNatClampNeg sz → (nn y < 700 → dAk K o sy (nn y) L = dAk K o sz (nn y + 1) L) → HP K z (z.1 100 17).toNatClampNeg sz → CPl x z [] → KE G q (d + 8) zk_X7_openOperand 133 [(0, vr 100), (1, vi o3), (2, vi k)] [] z (ri F) X := by
        intro o3 z sz hMz hFz e4 hs hs1 q1 q2 q3 hRz hDz hdz hPz hCz
        have hs2 : z.1 23 (z.1 100 4).toNatClampNeg = y.1 23 (y.1 100 4).toNatClampNeg := by
          rw [e4, hMz.2.2.2 23 _ (by unfold sSum; omega), ← hM.2.2.2 23 _ (by unfold sSum; omega)]
        have n1 : nx z = nx y := by unfold nx; rw [e4]
        have n2 : nn z = nn y := by unfold nn; rw [e4]
        have kk0 : ¬ K (nn z) = 0 := by
          rw [n2, ← hKi]
          exact fun z => hs (kc_i (c := 0) (z.trans (by decide)) (by decide))
        have kk3 : ¬ K (nn z) = 3 := by
          rw [n2, ← hKi]
          exact fun z => hs1 (kc_i1 z)
        refine kg_X7_openOperand_133 hq _ _ (kf_pass hq (fm_tr h0 (fm_w hMz.2.2.2 (fun c k q => sSum_R q))) (fun c7 => hx (hdy.trans ?_)) hMz.1 (by rw [hs2]; exact hs) (FR_12 hFz) (fun c7 w f e1 S fr la _ => ?_))
        · rw [es]; exact dA_7 (by omega)
        · obtain ⟨g1, g2⟩ := SM_pass hMz f S la
          have nw := nn_up (y := z) (z := w) (by omega) e1
          have uw : w.1 42 (nn z) = 0 := by rw [f 42 _ (by omega)]; exact hFz
          refine ih o3 (k + 1) w sz g1 fr q1 (by omega) (by rw [g2]; exact q3) (by omega) (by omega) (by omega) (RI_tok hRz (by omega) (by omega) kk0 kk3 la e1 uw) ?_ ?_ (by rw [f 100 17 (by omega)]; exact HP_eq (fun k _ => f _ _ (by omega)) hPz) (CPl_st hCz (f _ _ (by omega)) (fun k => ⟨f _ _ (by omega), f _ _ (by omega)⟩))
          · rw [f 100 17 (by omega)]
            exact HD_eq (fun k _ => ⟨f _ _ (by omega), f _ _ (by omega)⟩) hDz
          · rw [nw, n2, hdy]; exact hdz (by omega)
      have dd := dh_is hM.2.1
      have p33 : ∀ s : Int32, (s = 0 ∧ ¬ y.1 23 (y.1 100 4).toNatClampNeg = 59 ∧ ¬ y.1 23 (y.1 100 4).toNatClampNeg = 18 ∨ s = 1 ∧ (y.1 23 (y.1 100 4).toNatClampNeg = 59 ∨ y.1 23 (y.1 100 4).toNatClampNeg = 18)) → KE G q (d + 8) zk_X7_openOperand 33 [(0, vr 100), (1, vi o2), (2, vi k), (3, vi (y.1 23 (y.1 100 4).toNatClampNeg))] [vi s] y (ri F) X := by
        intro s hs02
        have hs01 : s = 0 ∨ s = 1 := hs02.imp (fun q => q.1) (fun q => q.1)
        have pre : s = 1 → K (nn y) = 29 ∨ K (nn y) = 58 := fun q => by
          rcases hs02 with ⟨c, -⟩ | ⟨-, c | c⟩
          · rw [q] at c; exact absurd c (by decide)
          · exact Or.inl (by rw [← hKi, c]; decide)
          · exact Or.inr (by rw [← hKi, c]; decide)
        refine kg_X7_openOperand_33 hq _ _ _ _ (kf_beginsSum hq _ o hoy (fun r9 hr9 => ⟨fun c => ?_, fun c => rs ?_⟩))
        rotate_left
        · rw [es]
          exact dA_no (fun z => hr9.mpr ((pbg_k hKi).mp z) c)
        have hbs := hr9.mp c
        have hsort : ¬ y.1 23 (y.1 100 4).toNatClampNeg = 0 ∧ ¬ y.1 23 (y.1 100 4).toNatClampNeg = 1 := by
          rcases hbs with e | e | e | e | e | ⟨e, -⟩ <;> rw [e] <;> decide
        have p73 : ((dh y).toInt + s.toInt ≤ 16) → KE G q (d + 8) zk_X7_openOperand 73 [(0, vr 100), (1, vi o2), (2, vi k), (3, vi (y.1 23 (y.1 100 4).toNatClampNeg)), (4, vi s)] [] y (ri F) X := by
          intro hd
          have hs0 : 0 ≤ s.toInt := by rcases hs01 with rfl | rfl <;> decide
          have e1 : (dh y + 1).toInt = (dh y).toInt + 1 := t_add (by rw [k1]; omega) (by rw [k1]; omega)
          obtain ⟨f9, ef9⟩ : ∃ f9, r = f9 + 1 := ⟨r - 1, by omega⟩
          have ht : (dh y).toInt + (f9 + 1 : Nat) = 17 := by omega
          have top : ∀ (z : gd) (s9 : Int32) (a9 : Nat) (v9 : Nat × Nat × Nat), (z.1 100 17).toInt = (y.1 100 17).toInt + 1 → z.1 116 (y.1 100 17).toNatClampNeg = s9 → z.1 117 (y.1 100 17).toNatClampNeg = dh y + 1 → (∀ k, k < (y.1 100 17).toNatClampNeg → z.1 116 k = y.1 116 k ∧ z.1 117 k = y.1 117 k) → (s9.toInt = a9 ∨ (s9.toInt = 6 ∧ a9 = 5)) → a9 ≤ 5 → (v9.1 = 50 ∨ v9.1 = 51) → HD z (z.1 100 17).toNatClampNeg ((a9, f9, v9) :: sy) := by
            intro z s9 a9 v9 t1 t2 t3 t4 t5 t6 t7
            have a0 := hM.2.1.1.1
            have nz : (z.1 100 17).toNatClampNeg = (y.1 100 17).toNatClampNeg + 1 := by rw [t_cl, t_cl]; omega
            rw [nz]
            have ud := t_cl (dh y + 1)
            have hzn : hz y ≤ (y.1 100 17).toNatClampNeg := zc_le _
            exact ⟨a9, f9, v9, sy, rfl, Or.inl (by rw [t3]; omega), by rw [t2]; exact t5, ⟨t6, fun q => absurd q (by omega)⟩, t7, HD_eq t4 hDy⟩
          have topP : ∀ (z : gd) (s9 : Int32) (a9 : Nat) (v9 : Nat × Nat × Nat), (z.1 100 17).toInt = (y.1 100 17).toInt + 1 → z.1 115 (y.1 100 17).toNatClampNeg = s9 → (∀ k, k < (y.1 100 17).toNatClampNeg → z.1 115 k = y.1 115 k) → (¬ a9 = 0 → s9 = oP K v9) → HP K z (z.1 100 17).toNatClampNeg ((a9, f9, v9) :: sy) := by
            intro z s9 a9 v9 t1 t2 t3 t4
            have a0 := hM.2.1.1.1
            have nz : (z.1 100 17).toNatClampNeg = (y.1 100 17).toNatClampNeg + 1 := by rw [t_cl, t_cl]; omega
            rw [nz]
            exact ⟨fun q => by rw [t2]; exact t4 q, HP_eq t3 hPy⟩
          have p104 : ∀ v8 : Int32, (¬ v8 = 2 ∧ ¬ v8 = 6) → v8 = oP K (50, nn y, 0) → s = 1 → KE G q (d + 8) zk_X7_openOperand 104 [(0, vr 100), (1, vi o2), (2, vi k)] [vi v8, vr 100] y (ri F) X := by
            intro v8 hv hv9 hs1
            refine kg_X7_openOperand_104 hq _ _ _ (kp_depthHere hq hM.2.1 (kf_hold hq _ _ _ hM.2.1 hv (by decide) (by omega) (by omega) (fun i hi => ?_) (fun z fz Hz zz t1 t2 t3 t4 t5 t6 => ?_)))
            · have := dd.2.2.2 i hi; omega
            · obtain ⟨g1, g2, g3⟩ := SM_hold hM fz Hz
              refine p133 o2 z _ g1 (g2 hF) g3 hsort.1 hsort.2 o0 (by omega) (by rw [zz, if_neg (by decide)]; exact hzy) (RI_st hRy g3 (fun j => fz _ _ (by omega)) (fun c k q1 q2 => fz _ _ (by omega))) (top z _ 5 (50, nn y, 0) t1 t2 t3 t4 (Or.inr ⟨rfl, rfl⟩) (by decide) (Or.inl rfl)) (fun h7 => ?_) (topP z _ 5 (50, nn y, 0) t1 t5 t6 (fun _ => hv9)) (CPl_st hCy (fz _ _ (by omega)) (fun k => ⟨fz _ _ (by omega), fz _ _ (by omega)⟩))
              rw [es, ef9]
              exact dA_pre (pre hs1) h7
          have p87 : (s = 0 → y.1 23 (y.1 100 4).toNatClampNeg = 21) → KE G q (d + 8) zk_X7_openOperand 87 [(0, vr 100), (1, vi o2), (2, vi k), (3, vi (y.1 23 (y.1 100 4).toNatClampNeg)), (4, vi s)] [] y (ri F) X := by
            intro h21
            refine kg_X7_openOperand_87 hq _ _ _ _ ⟨fun cs => kp_depthHere hq hM.2.1 (kf_hold hq _ _ _ hM.2.1 (by decide) (by decide) (by omega) (by omega) (fun i hi => ?_) (fun z fz Hz zz t1 t2 t3 t4 t5 t6 => ?_)), fun cs => ⟨fun c59 => p104 _ (by decide) ?_ (hs01.resolve_left cs), fun c59 => p104 _ (by decide) ?_ (hs01.resolve_left cs)⟩⟩
            · have := dd.2.2.2 i hi; omega
            · obtain ⟨g1, g2, g3⟩ := SM_hold hM fz Hz
              have eo : (o2 + 1).toInt = o2.toInt + 1 := t_add (by rw [k1]; omega) (by rw [k1]; omega)
              refine p133 (o2 + 1) z _ g1 (g2 hF) g3 hsort.1 hsort.2 (by omega) (by omega) ?_ (RI_st hRy g3 (fun j => fz _ _ (by omega)) (fun c k q1 q2 => fz _ _ (by omega))) (top z _ 0 (50, 0, 0) t1 t2 t3 t4 (Or.inl rfl) (by decide) (Or.inl rfl)) (fun h7 => ?_) (topP z _ 0 (50, 0, 0) t1 t5 t6 (fun q => absurd rfl q)) (CPl_st hCy (fz _ _ (by omega)) (fun k => ⟨fz _ _ (by omega), fz _ _ (by omega)⟩))
              · rw [zz, if_pos rfl, eo]
                push_cast
                omega
              · rw [es, ef9]
                exact dA_par (by rw [← hKi, h21 cs]; decide) h7
            · show (4 : Int32) = if K (nn y) = 29 then 5 else 4
              rw [if_neg (fun q => c59 (kc_i (c := 59) (by rw [hKi, q]; decide) (by decide)))]
            · show (5 : Int32) = if K (nn y) = 29 then 5 else 4
              rw [if_pos (by rw [← hKi, c59]; decide)]
          refine kg_X7_openOperand_73 hq _ _ _ _ ⟨fun cs => p87 (fun q => absurd q cs), fun cs => ⟨fun c21 => p87 (fun _ => c21), fun c21 => ri_i (h o2 y hM hF o0 (by omega) hzy (fun i hi => ?_) ?_ hRy a f9 v s' (by rw [← ef9, ← es]; exact hDy) (by rw [← ef9, ← es]; exact hdy) (by rw [← ef9, ← es]; exact hPy) hCy)⟩⟩
          · have := dd.2.2.2 i hi
            omega
          · rcases hs02 with ⟨-, n59, n18⟩ | ⟨e1, -⟩
            · rcases hbs with e | e | e | e | e | e
              · exact Or.inr (Or.inl e)
              · exact Or.inl e
              · exact absurd e c21
              · exact absurd e n59
              · exact absurd e n18
              · exact Or.inr (Or.inr e)
            · rw [e1] at cs; exact absurd cs (by decide)
        have p62 : ∀ v8 : Int32, v8 = s → KE G q (d + 8) zk_X7_openOperand 62 [(0, vr 100), (1, vi o2), (2, vi k), (3, vi (y.1 23 (y.1 100 4).toNatClampNeg)), (4, vi s)] [vi v8, vi (dh y)] y (ri F) X := by
          rintro v8 rfl
          have hv8 : v8.toInt ≤ 1 ∧ 0 ≤ v8.toInt := by rcases hs01 with rfl | rfl <;> decide
          have es8 : (dh y + v8).toInt = (dh y).toInt + v8.toInt := t_add (by omega) (by omega)
          refine kg_X7_openOperand_62 hq _ _ _ _ _ _ ⟨fun c2 => p73 ?_, fun c2 => rs ?_⟩
          · rw [t_le, es8, k16] at c2
            exact c2
          · rw [t_le, es8, k16] at c2
            rw [es]
            rcases hs01 with e9 | e9
            · rw [e9, k0] at c2
              have r0 : r = 0 := by omega
              rw [r0]; exact dA_0
            · rw [e9, k1] at c2
              by_cases r0 : r = 0
              · rw [r0]; exact dA_0
              · have r1 : r = 1 := by omega
                rw [r1]; exact dA_pre0 (pre e9)
        refine kg_X7_openOperand_48 hq _ _ _ _ (kp_depthHere hq hM.2.1 ⟨fun c3 => p62 _ c3.symm, fun c3 => p62 _ ?_⟩)
        rcases hs01 with e | e
        · exact absurd e c3
        · exact e.symm
      refine kg_X7_openOperand_4 hq _ _ ⟨fun c => ?_, fun c => kp_sort hq hM.1.1 ⟨fun c59 => p33 _ (Or.inr ⟨rfl, Or.inl c59⟩), fun n59 => ⟨fun n18 => p33 _ (Or.inl ⟨rfl, n59, n18⟩), fun c18 => p33 _ (Or.inr ⟨rfl, Or.inr c18⟩)⟩⟩⟩
      exfalso; rw [t_lt, k700] at c; omega
  exact kg_X7_openOperand_0 hq (loop 701 _ _ x st (SM_rf hS hH) hf (by decide) (by decide) (by rw [k0]; omega) (by decide) (by rw [k0]; omega) (by omega) hR hst rfl hhp CPl_rf)
end KOF
end
