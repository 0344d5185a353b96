/-! the steps laid: steps 52; 54 what, 55 sort, 56 of, 57 size, 58 at, 59 e, 60 f, 61 to -/
abbrev lL : List Nat := [41, 42, 43, 47, 48, 49, 52]
abbrev lA : List Nat := [45, 46, 47, 51, 52, 54, 55, 56, 57, 58, 59, 60, 61, 62, 63]
abbrev pL : List Nat := [41, 42, 49, 52]
abbrev pA : List Nat := [51, 52, 54, 55, 56, 57, 58, 59, 60, 61, 62, 63]
abbrev tA : List Nat := [54, 55, 56, 57, 58, 59, 60, 61, 62, 63]
/-- an act with these rows; t threads -/
def aV (t : Int) (sort of size at' to : Int32) : Prop := (to = -1 ∨ (0 ≤ to.toInt ∧ to.toInt < 8)) ∧ ((0 ≤ sort.toInt ∧ sort.toInt ≤ 4 ∧ 0 ≤ of.toInt ∧ of.toInt < 24 ∧ 0 ≤ size.toInt ∧ (at' = -1 ∨ of.toInt + size.toInt ≤ 24)) ∨ (5 ≤ sort.toInt ∧ sort.toInt ≤ 10 ∧ 0 ≤ of.toInt ∧ of.toInt < 6 ∧ (sort = 9 → of.toInt < t) ∧ at' = -1) ∨ (11 ≤ sort.toInt ∧ sort.toInt ≤ 14))
/-- a step with these rows; n steps -/
def sV (t n : Int) (what sort of size at' to : Int32) : Prop := (what = 0 ∧ 0 ≤ to.toInt ∧ to.toInt < 8) ∨ what = 1 ∨ ((what = 2 ∨ what = 3) ∧ 0 ≤ to.toInt ∧ to.toInt ≤ n) ∨ what = 4 ∨ what = 5 ∨ (what = 6 ∧ aV t sort of size at' to)
theorem sV_mono {t n n' : Int} {a b c d e f : Int32} (h : n ≤ n') (q : sV t n a b c d e f) : sV t n' a b c d e f := by
  rcases q with q | q | ⟨q1, q2, q3⟩ | q
  · exact Or.inl q
  · exact Or.inr (Or.inl q)
  · exact Or.inr (Or.inr (Or.inl ⟨q1, q2, by omega⟩))
  · exact Or.inr (Or.inr (Or.inr q))
/-- a step GO goes on, or back to a step TRUE_OR -/
def gO (x : gd) (j : Nat) : Prop := x.1 54 j = 3 → (j : Int) < (x.1 61 j).toInt ∨ (0 ≤ (x.1 61 j).toInt ∧ (x.1 61 j).toInt < (x.1 0 52).toInt ∧ x.1 54 (x.1 61 j).toNatClampNeg = 2)
def sO (x : gd) (j : Nat) : Prop := wo x 0 (x.1 58 j) ∧ wo x 0 (x.1 59 j) ∧ wo x 0 (x.1 60 j) ∧ sV (x.1 0 25).toInt (x.1 0 52).toInt (x.1 54 j) (x.1 55 j) (x.1 56 j) (x.1 57 j) (x.1 58 j) (x.1 61 j) ∧ gO x j
/-- laying goes on: at most n steps and w pieces of work more -/
def LF (x x' : gd) (n w : Nat) : Prop := md lL lA x x' ∧ WB x' ∧ (x.1 0 52).toInt ≤ (x'.1 0 52).toInt ∧ (x'.1 0 52).toInt ≤ (x.1 0 52).toInt + n ∧ (x.1 0 49).toInt ≤ (x'.1 0 49).toInt ∧ (x'.1 0 49).toInt ≤ (x.1 0 49).toInt + w ∧ (∀ j : Nat, (j : Int) < (x.1 0 49).toInt → x'.1 51 j = x.1 51 j ∧ x'.1 52 j = x.1 52 j) ∧ ∀ c : Nat, 54 ≤ c → c ≤ 63 → ∀ j : Nat, (j : Int) < (x.1 0 52).toInt → x'.1 c j = x.1 c j
def LQ (x x' : gd) (n w : Nat) : Prop := LF x x' n w ∧ ∀ j : Nat, (x.1 0 52).toInt ≤ (j : Int) → (j : Int) < (x'.1 0 52).toInt → sO x' j
theorem LF_tr {x y z : gd} {n n' w w' : Nat} (a : LF x y n w) (b : LF y z n' w') : LF x z (n + n') (w + w') := by
  obtain ⟨a1, a2, a3, a4, a5, a6, a7, a8⟩ := a
  obtain ⟨b1, b2, b3, b4, b5, b6, b7, b8⟩ := b
  refine ⟨md_tr a1 b1 rfl rfl, b2, by omega, by omega, by omega, by omega, fun j hj => ?_, fun c h1 h2 j hj => ?_⟩
  · have q1 := a7 j hj
    have q2 := b7 j (by omega)
    exact ⟨q2.1.trans q1.1, q2.2.trans q1.2⟩
  · rw [b8 c h1 h2 j (by omega), a8 c h1 h2 j hj]
theorem sO_keep {x y : gd} {n w j : Nat} (a : LF x y n w) (hj : (j : Int) < (x.1 0 52).toInt) (q : sO x j) : sO y j := by
  obtain ⟨a1, a2, a3, a4, a5, a6, a7, a8⟩ := a
  have e := fun c h1 h2 => a8 c h1 h2 j hj
  obtain ⟨q1, q2, q3, q4, q5⟩ := q
  unfold sO gO
  rw [e 54 (by decide) (by decide), e 55 (by decide) (by decide), e 56 (by decide) (by decide), e 57 (by decide) (by decide), e 58 (by decide) (by decide), e 59 (by decide) (by decide), e 60 (by decide) (by decide), e 61 (by decide) (by decide), a1.1 25 (by decide)]
  refine ⟨wo_keep a5 a7 q1, wo_keep a5 a7 q2, wo_keep a5 a7 q3, sV_mono a3 q4, fun z => (q5 z).imp id (fun w => ⟨w.1, by omega, ?_⟩)⟩
  rw [a8 54 (by decide) (by decide) _ (by rw [t_cl]; omega)]
  exact w.2.2
theorem LQ_tr {x y z : gd} {n n' w w' : Nat} (a : LQ x y n w) (b : LQ y z n' w') : LQ x z (n + n') (w + w') := by
  refine ⟨LF_tr a.1 b.1, fun j h1 h2 => ?_⟩
  by_cases h : (j : Int) < (y.1 0 52).toInt
  · exact sO_keep b.1 h (a.2 j h1 h)
  · exact b.2 j (by omega) h2
theorem LQ_mono {x y : gd} {n n' w w' : Nat} (h1 : n ≤ n') (h2 : w ≤ w') (q : LQ x y n w) : LQ x y n' w' := by
  obtain ⟨⟨a1, a2, a3, a4, a5, a6, a7, a8⟩, b⟩ := q
  exact ⟨⟨a1, a2, a3, by omega, a5, by omega, a7, a8⟩, b⟩
/-- no step yet -/
theorem LQ_0 {x y : gd} {w : Nat} (h : LF x y 0 w) : LQ x y 0 w := ⟨h, fun j h1 h2 => by have := h.2.2.2.1; omega⟩
theorem LF_wr {x y : gd} (m : md [41, 42] [] x y) (wb : WB y) : LF x y 0 0 := by
  have e49 := m.1 49 (by decide)
  have e52 := m.1 52 (by decide)
  refine ⟨md_w m (by decide) (by decide), wb, by rw [e52]; omega, by rw [e52]; omega, by rw [e49]; omega, by rw [e49]; omega, fun j _ => ?_, fun c h1 h2 j _ => ?_⟩
  · rw [m.2.1 51 (by decide) (by decide), m.2.1 52 (by decide) (by decide)]; exact ⟨rfl, rfl⟩
  · rw [m.2.1 c (by omega) (fun q => nomatch q)]
theorem LF_wk {o r : Int32} {s : Nat} {x y : gd} (q : LW o s x r y) : LF x y 0 (s + 1) := by
  obtain ⟨m, wb, k, l1, l2, _⟩ := q
  have e52 := m.1 52 (by decide)
  refine ⟨md_w m (by decide) (by decide), wb, by rw [e52]; omega, by rw [e52]; omega, l1, by omega, k, fun c h1 h2 j _ => ?_⟩
  rw [m.2.1 c (by omega) (fun q => by
    rcases List.mem_cons.mp q with q | q
    · omega
    · have := List.mem_singleton.mp q; omega)]
/-- one step with its rows -/
def stp (x z : gd) (what sort of size at' e f to : Int32) : Prop := md [52] tA x z ∧ z.1 0 52 = x.1 0 52 + 1 ∧ (∀ c : Nat, 54 ≤ c → ∀ j : Nat, ¬ j = (x.1 0 52).toNatClampNeg → z.1 c j = x.1 c j) ∧ z.1 54 (x.1 0 52).toNatClampNeg = what ∧ z.1 55 (x.1 0 52).toNatClampNeg = sort ∧ z.1 56 (x.1 0 52).toNatClampNeg = of ∧ z.1 57 (x.1 0 52).toNatClampNeg = size ∧ z.1 58 (x.1 0 52).toNatClampNeg = at' ∧ z.1 59 (x.1 0 52).toNatClampNeg = e ∧ z.1 60 (x.1 0 52).toNatClampNeg = f ∧ z.1 61 (x.1 0 52).toNatClampNeg = to
section STP
variable {x y z : gd} {w a b c d e f t v : Int32}
theorem stp_s (h : sD x y w) : stp x y w (-1) (-1) 0 (-1) (-1) (-1) (-1) := h
theorem stp_a (h : aD x y a b) : stp x y 6 a b 0 (-1) (-1) (-1) (-1) := h
theorem stp_md {k : Nat} (hk : k ∈ tA) (h0 : 54 ≤ k) (h : md [52] tA x y) (g : ∀ c : Nat, 54 ≤ c → ∀ j : Nat, ¬ j = (x.1 0 52).toNatClampNeg → y.1 c j = x.1 c j) (q : y.1 0 52 = x.1 0 52 + 1) (ez : z = si y k (x.1 0 52).toNatClampNeg v) : md [52] tA x z ∧ z.1 0 52 = x.1 0 52 + 1 ∧ (∀ c : Nat, 54 ≤ c → ∀ j : Nat, ¬ j = (x.1 0 52).toNatClampNeg → z.1 c j = x.1 c j) := by
  have m := md_a y k (x.1 0 52).toNatClampNeg v (by omega)
  rw [← ez] at m
  refine ⟨⟨fun i hi => ?_, fun i h1 h2 => ?_, m.2.2.trans h.2.2⟩, ?_, fun i h1 j hj => ?_⟩
  · rw [m.1 i (fun q => nomatch q), h.1 i hi]
  · rw [m.2.1 i h1 (fun q => h2 (by rw [List.mem_singleton.mp q]; exact hk)), h.2.1 i h1 h2]
  · rw [m.1 52 (fun q => nomatch q), q]
  · rw [ez, si_ne i j hj]; exact g i h1 j hj
theorem stp_57 (h : stp x y w a b c d e f t) (ez : z = si y 57 (x.1 0 52).toNatClampNeg v) : stp x z w a b v d e f t := by
  obtain ⟨h1, h2, h3, v54, v55, v56, v57, v58, v59, v60, v61⟩ := h
  obtain ⟨g1, g2, g3⟩ := stp_md (k := 57) (by decide) (by decide) h1 h3 h2 ez
  refine ⟨g1, g2, g3, ?_, ?_, ?_, ?_, ?_, ?_, ?_, ?_⟩ <;> rw [ez]
  all_goals first | (rw [si_cell (by decide)]; assumption) | rw [si_get, if_pos ⟨rfl, rfl⟩]
theorem stp_58 (h : stp x y w a b c d e f t) (ez : z = si y 58 (x.1 0 52).toNatClampNeg v) : stp x z w a b c v e f t := by
  obtain ⟨h1, h2, h3, v54, v55, v56, v57, v58, v59, v60, v61⟩ := h
  obtain ⟨g1, g2, g3⟩ := stp_md (k := 58) (by decide) (by decide) h1 h3 h2 ez
  refine ⟨g1, g2, g3, ?_, ?_, ?_, ?_, ?_, ?_, ?_, ?_⟩ <;> rw [ez]
  all_goals first | (rw [si_cell (by decide)]; assumption) | rw [si_get, if_pos ⟨rfl, rfl⟩]
theorem stp_59 (h : stp x y w a b c d e f t) (ez : z = si y 59 (x.1 0 52).toNatClampNeg v) : stp x z w a b c d v f t := by
  obtain ⟨h1, h2, h3, v54, v55, v56, v57, v58, v59, v60, v61⟩ := h
  obtain ⟨g1, g2, g3⟩ := stp_md (k := 59) (by decide) (by decide) h1 h3 h2 ez
  refine ⟨g1, g2, g3, ?_, ?_, ?_, ?_, ?_, ?_, ?_, ?_⟩ <;> rw [ez]
  all_goals first | (rw [si_cell (by decide)]; assumption) | rw [si_get, if_pos ⟨rfl, rfl⟩]
theorem stp_60 (h : stp x y w a b c d e f t) (ez : z = si y 60 (x.1 0 52).toNatClampNeg v) : stp x z w a b c d e v t := by
  obtain ⟨h1, h2, h3, v54, v55, v56, v57, v58, v59, v60, v61⟩ := h
  obtain ⟨g1, g2, g3⟩ := stp_md (k := 60) (by decide) (by decide) h1 h3 h2 ez
  refine ⟨g1, g2, g3, ?_, ?_, ?_, ?_, ?_, ?_, ?_, ?_⟩ <;> rw [ez]
  all_goals first | (rw [si_cell (by decide)]; assumption) | rw [si_get, if_pos ⟨rfl, rfl⟩]
theorem stp_61 (h : stp x y w a b c d e f t) (ez : z = si y 61 (x.1 0 52).toNatClampNeg v) : stp x z w a b c d e f v := by
  obtain ⟨h1, h2, h3, v54, v55, v56, v57, v58, v59, v60, v61⟩ := h
  obtain ⟨g1, g2, g3⟩ := stp_md (k := 61) (by decide) (by decide) h1 h3 h2 ez
  refine ⟨g1, g2, g3, ?_, ?_, ?_, ?_, ?_, ?_, ?_, ?_⟩ <;> rw [ez]
  all_goals first | (rw [si_cell (by decide)]; assumption) | rw [si_get, if_pos ⟨rfl, rfl⟩]
theorem stp_up (h : stp x z w a b c d e f t) (h0 : 0 ≤ (x.1 0 52).toInt) (hn : (x.1 0 52).toInt ≤ 1499) : (z.1 0 52).toInt = (x.1 0 52).toInt + 1 := by
  have k1 : (1 : Int32).toInt = 1 := rfl
  rw [h.2.1, t_add (by omega) (by omega), k1]
theorem LF_stp (h : stp x z w a b c d e f t) (wb : WB x) (h0 : 0 ≤ (x.1 0 52).toInt) (hn : (x.1 0 52).toInt ≤ 1499) : LF x z 1 0 := by
  have u := stp_up h h0 hn
  obtain ⟨h1, h2, h3, _⟩ := h
  have e49 : z.1 0 49 = x.1 0 49 := h1.1 49 (by decide)
  refine ⟨md_w h1 (by decide) (by decide), ?_, by omega, by omega, by rw [e49]; omega, by rw [e49]; omega, fun j _ => ?_, fun c g1 g2 j hj => h3 c g1 j (by rw [t_cl]; omega)⟩
  · unfold WB
    rw [h1.1 41 (by decide), h1.1 42 (by decide)]
    exact wb
  · rw [h1.2.1 51 (by decide) (by decide), h1.2.1 52 (by decide) (by decide)]
    exact ⟨rfl, rfl⟩
theorem LQ_stp (h : stp x z w a b c d e f t) (wb : WB x) (h0 : 0 ≤ (x.1 0 52).toInt) (hn : (x.1 0 52).toInt ≤ 1499) (q1 : wo x 0 d) (q2 : wo x 0 e) (q3 : wo x 0 f) (hw3 : ¬ w = 3) (q4 : sV (x.1 0 25).toInt ((x.1 0 52).toInt + 1) w a b c d t) : LQ x z 1 0 := by
  have lf := LF_stp h wb h0 hn
  refine ⟨lf, fun j j1 j2 => ?_⟩
  have u := stp_up h h0 hn
  have ej : j = (x.1 0 52).toNatClampNeg := by rw [t_cl]; omega
  obtain ⟨h1, h2, h3, v54, v55, v56, v57, v58, v59, v60, v61⟩ := h
  obtain ⟨a1, a2, a3, a4, a5, a6, a7, a8⟩ := lf
  rw [ej]
  unfold sO gO
  rw [v54, v55, v56, v57, v58, v59, v60, v61, u, h1.1 25 (by decide)]
  exact ⟨wo_keep a5 a7 q1, wo_keep a5 a7 q2, wo_keep a5 a7 q3, q4, fun z => absurd z hw3⟩
end STP
/-- what laying needs -/
def PL (x : gd) : Prop := LB x ∧ WB x ∧ KB x ∧ (x.1 0 13).toInt ≤ 3000 ∧ 0 ≤ (x.1 0 49).toInt ∧ 0 ≤ (x.1 0 52).toInt ∧ 1 ≤ (x.1 0 25).toInt
theorem PL_LF {x y : gd} {n w : Nat} (p : PL x) (f : LF x y n w) (kb : KB y) : PL y := by
  obtain ⟨p1, p2, p3, p4, p5, p6, p7⟩ := p
  obtain ⟨a1, a2, a3, a4, a5, a6, a7, a8⟩ := f
  exact ⟨LB_md a1 rfl rfl p1, a2, kb, by rw [a1.1 13 (by decide)]; exact p4, by omega, by omega, by rw [a1.1 25 (by decide)]; exact p7⟩
theorem PL_up {x y : gd} {n w : Nat} (p : PL x) (f : LF x y n w) (m : md pL pA x y) : PL y := PL_LF p f (KB_md m (by decide) (by decide) (by decide) p.2.2.1)
theorem NN_LF {x y : gd} {n w : Nat} (f : LF x y n w) : NN x y := ⟨by rw [f.1.1 13 (by decide)]; exact Int.le_refl _, fun c h1 h2 j _ => by rw [f.1.2.1 c (by omega) (fun q => by
  have : c ∈ [45, 46, 47, 51, 52, 54, 55, 56, 57, 58, 59, 60, 61, 62, 63] := q
  simp at this
  omega)]⟩
