/-! the model: choices are noted -/
def opI : Option Nat → Int32
  | none => -1
  | some n => Int32.ofNat n
/-- the choices that stand in the memory -/
def chE (y : gd) (l : List gCh) : Prop := (y.1 0 84).toInt = (l.length : Nat) ∧ ∀ i q, l[i]? = some q → y.1 86 i = Int32.ofNat q.1 ∧ y.1 87 i = opI q.2.1 ∧ y.1 88 i = opI q.2.2
section DC3
variable {d : Nat} {S : gS} {x : gd} {F : Int32 → gd → gS → Prop} {Fv : gd → gS → Prop}
theorem ds_choose3 {cl : List gCh} {q0' : gCh} {y : gd} {S1 : gS} {b : Int} (t l w : Int32) (hb : b ≤ 198) (q : fC x S b y S1) (ho : chO x t l) (hl : chE y cl) (hq : t = Int32.ofNat q0'.1 ∧ l = opI q0'.2.1 ∧ w = opI q0'.2.2) (h : ∀ y' S', fC x S (b + 1) y' S' → chE y' (cl ++ [q0']) → Fv y' S') : MD d z_choose 0 [(0, vr 0), (1, vi t), (2, vi l), (3, vi w)] [] S1 y (Dv Fv) := by
  obtain ⟨q1, q2, q3, q4, q5, q6⟩ := q
  obtain ⟨n, en⟩ : ∃ n, n = y.1 0 84 := ⟨_, rfl⟩
  have nv : vp_in n 200 := by rw [en, vp_in_iff]; omega
  have k1 : (1 : Int32).toInt = 1 := rfl
  obtain ⟨cl1, cl2⟩ := hl
  rw [← en] at q4 q5 cl1
  refine sd_choose_0 _ _ _ ⟨q3, by rw [← en]; exact nv, fun y2 e2 => ?_⟩
  rw [← en] at e2 ⊢
  have f2 : y2.1 0 84 = n := by rw [e2, si_cell (by decide), en]
  refine ⟨Or.inr q3, by rw [f2]; exact nv, fun y4 e4 => ?_⟩
  rw [f2] at e4 ⊢
  have f4 : y4.1 0 84 = n := by rw [e4, si_cell (by decide), f2]
  refine ⟨Or.inr (Or.inr q3), by rw [f4]; exact nv, fun y6 e6 => ?_⟩
  rw [f4] at e6 ⊢
  have f6 : y6.1 0 84 = n := by rw [e6, si_cell (by decide), f4]
  refine ⟨Or.inr (Or.inr (Or.inr q3)), fun y7 e7 => Dv_i (h y7 _ ?_ ?_)⟩
  rotate_left
  · rw [f6] at e7
    have nl : n.toNatClampNeg = cl.length := by rw [t_cl, cl1]; rfl
    have f7 : (y7.1 0 84).toInt = n.toInt + 1 := by rw [e7, si_get, if_pos ⟨rfl, rfl⟩, t_add (by omega) (by omega), k1]
    have g86 : ∀ i, y7.1 86 i = if i = cl.length then t else y.1 86 i := fun i => by rw [e7, si_cell (by decide), e6, si_cell (by decide), e4, si_cell (by decide), e2, si_get, nl]; by_cases z : i = cl.length; rw [if_pos ⟨rfl, z⟩, if_pos z]; rw [if_neg (fun q => z q.2), if_neg z]
    have g87 : ∀ i, y7.1 87 i = if i = cl.length then l else y.1 87 i := fun i => by rw [e7, si_cell (by decide), e6, si_cell (by decide), e4, si_get, nl, e2, si_cell (by decide)]; by_cases z : i = cl.length; rw [if_pos ⟨rfl, z⟩, if_pos z]; rw [if_neg (fun q => z q.2), if_neg z]
    have g88 : ∀ i, y7.1 88 i = if i = cl.length then w else y.1 88 i := fun i => by rw [e7, si_cell (by decide), e6, si_get, nl, e4, si_cell (by decide), e2, si_cell (by decide)]; by_cases z : i = cl.length; rw [if_pos ⟨rfl, z⟩, if_pos z]; rw [if_neg (fun q => z q.2), if_neg z]
    refine ⟨by rw [f7, cl1, List.length_append]; rfl, fun i q hi => ?_⟩
    rw [g86 i, g87 i, g88 i]
    by_cases c : i < cl.length
    · rw [List.getElem?_append_left c] at hi
      rw [if_neg (by omega), if_neg (by omega), if_neg (by omega)]
      exact cl2 i q hi
    · rw [List.getElem?_append_right (by omega)] at hi
      have il := gt_lt hi
      have il : i - cl.length < 1 := il
      have i0 : i - cl.length = 0 := by omega
      rw [i0] at hi
      have hi := Option.some.inj hi
      rw [if_pos (by omega), if_pos (by omega), if_pos (by omega), ← hi]
      exact hq
  rw [f6] at e7
  have m2 := md_a y 86 n.toNatClampNeg t (by decide)
  rw [← e2] at m2
  have m4 := md_a y2 87 n.toNatClampNeg l (by decide)
  rw [← e4] at m4
  have m6 := md_a y4 88 n.toNatClampNeg w (by decide)
  rw [← e6] at m6
  have m7 := md_f y6 84 (n + 1)
  rw [← e7] at m7
  have mm : md [84] [86, 87, 88] y y7 := md_tr (md_tr (L3 := []) (A3 := [86, 87, 88]) (md_tr (L3 := []) (A3 := [86, 87]) m2 m4 rfl rfl) m6 rfl rfl) m7 rfl rfl
  have mx : md [84] [86, 87, 88] x y7 := md_tr q1 mm rfl rfl
  have f7 : (y7.1 0 84).toInt = n.toInt + 1 := by rw [e7, si_get, if_pos ⟨rfl, rfl⟩, t_add (by omega) (by omega), k1]
  have cn := cl_i q4
  refine ⟨mx, ssub_tr q2 (fun c j z => Or.inr (Or.inr (Or.inr (Or.inr z)))), Or.inl ⟨rfl, rfl⟩, by omega, by omega, fun i hi => ?_⟩
  have e73 : y7.1 73 = x.1 73 := mx.2.1 73 (by decide) (by decide)
  have e77 : y7.1 77 = x.1 77 := mx.2.1 77 (by decide) (by decide)
  have e80 : y7.1 80 = x.1 80 := mx.2.1 80 (by decide) (by decide)
  by_cases z : i = n.toNatClampNeg
  · have g86 : y7.1 86 i = t := by rw [z, e7, si_cell (by decide), e6, si_cell (by decide), e4, si_cell (by decide), e2, si_get, if_pos ⟨rfl, rfl⟩]
    have g87 : y7.1 87 i = l := by rw [z, e7, si_cell (by decide), e6, si_cell (by decide), e4, si_get, if_pos ⟨rfl, rfl⟩]
    refine ⟨Or.inr (Or.inr (Or.inr (Or.inl ⟨rfl, z⟩))), Or.inr (Or.inr (Or.inl ⟨rfl, z⟩)), Or.inr (Or.inl ⟨rfl, z⟩), ?_⟩
    rw [g86, g87]
    unfold chO
    rw [e73, e77, e80]
    exact ho
  · have g86 : y7.1 86 i = y.1 86 i := by rw [e7, si_cell (by decide), e6, si_cell (by decide), e4, si_cell (by decide), e2, si_ne 86 i z]
    have g87 : y7.1 87 i = y.1 87 i := by rw [e7, si_cell (by decide), e6, si_cell (by decide), e4, si_ne 87 i z, e2, si_cell (by decide)]
    obtain ⟨a, b', c, o⟩ := q6 i (by rw [← en]; omega)
    refine ⟨Or.inr (Or.inr (Or.inr (Or.inr a))), Or.inr (Or.inr (Or.inr (Or.inr b'))), Or.inr (Or.inr (Or.inr (Or.inr c))), ?_⟩
    rw [g86, g87]
    unfold chO at o ⊢
    rw [mm.2.1 73 (by decide) (by decide), mm.2.1 77 (by decide) (by decide), mm.2.1 80 (by decide) (by decide)]
    exact o
end DC3
