/-! the class: the journal -/
theorem nar_b {v : Int32} (h : gbool v) : vp_nar .boolean v = v := by unfold vp_nar; rw [h.1]
/-- an act that was noted -/
def JA (x : gd) (a : Nat) : Prop := (0 ≤ (x.1 166 a).toInt ∧ (x.1 166 a).toInt < 6) ∧ 0 ≤ (x.1 167 a).toInt ∧ (x.1 171 a = 0 → ((x.1 167 a).toInt ≤ 4 → 0 ≤ (x.1 168 a).toInt ∧ (x.1 168 a).toInt < 24) ∧ ((5 ≤ (x.1 167 a).toInt ∧ (x.1 167 a).toInt ≤ 8) ∨ (x.1 167 a).toInt = 15 → 0 ≤ (x.1 168 a).toInt ∧ (x.1 168 a).toInt < 6) ∧ ((x.1 167 a).toInt = 9 ∨ (x.1 167 a).toInt = 10 → 0 ≤ (x.1 168 a).toInt ∧ (x.1 168 a).toInt < 6))
def JN (x : gd) : Prop := (0 ≤ (x.1 160 3).toInt ∧ (x.1 160 3).toInt ≤ (x.1 160 2).toInt ∧ (x.1 160 2).toInt ≤ 400) ∧ (∀ a : Nat, (a : Int) < (x.1 160 3).toInt → JA x a) ∧ ∀ t : Nat, t < 6 → x.1 174 t = -1 ∨ (0 ≤ (x.1 174 t).toInt ∧ (x.1 174 t).toInt < (x.1 160 3).toInt)
section KJO
variable {G : kG} {q : kP} {d : Nat} {x x0 y z : gd} {F : Int32 → gd → Prop} {Fv : gd → Prop}
/-- clocks alone change -/
def sCk (c k : Nat) : Prop := c = 172 ∨ c = 173 ∨ (175 ≤ c ∧ c ≤ 178)
theorem JA_eq {a : Nat} (f : ∀ c k, (166 ≤ c ∧ c ≤ 171) → y.1 c k = x.1 c k) (h : JA x a) : JA y a := by
  unfold JA at h ⊢
  rw [f 166 a (by omega), f 167 a (by omega), f 168 a (by omega), f 171 a (by omega)]; exact h
theorem JN_ck (f : fm sCk x y) (h : JN x) : JN y := by
  unfold JN at h ⊢
  rw [f 160 3 (by unfold sCk; omega), f 160 2 (by unfold sCk; omega)]
  refine ⟨h.1, fun a ha => JA_eq (fun c k hc => f c k (by unfold sCk; omega)) (h.2.1 a ha), fun t ht => ?_⟩
  rw [f 174 t (by unfold sCk; omega)]; exact h.2.2 t ht
theorem cl_ix {r u : Int32} {R U : Nat} (er : r.toInt = R) (eu : u.toInt = U) (hR : R < 400) (hU : U < 6) : (r * 6 + u).toInt = R * 6 + U := by
  have k6 : (6 : Int32).toInt = 6 := rfl
  have e1 : (r * 6).toInt = R * 6 := by rw [t_mul (by rw [k6]; omega) (by rw [k6]; omega), k6, er]
  rw [t_add (by omega) (by omega), e1, eu]
theorem kj_join (hq : kV q) {a0 n0 : Nat} (ka0 : kK a0 = .inr (.int, n0)) (ma0 : a0 ∈ (kf q).2.1) {a2 n2 : Nat} (ka2 : kK a2 = .inr (.int, n2)) (ma2 : a2 ∈ (kf q).2.1) (r s : Int32) {R S : Nat} (er : r.toInt = R) (es : s.toInt = S) (hR : R < 400) (hS : S < 400) (h0 : R * 6 + 6 ≤ n0) (h2 : S * 6 + 6 ≤ n2) (h : ∀ y, fm (fun c k => c = a0) x y → Fv y) : KT G q (d + 1) zk_X4_join 0 [(0, vr a0), (1, vi r), (2, vr a2), (3, vi s)] [] x (rv Fv) := by
  have k6 : (6 : Int32).toInt = 6 := rfl
  have loop : ∀ (n k : Nat) (i : Int32) (y : gd), i.toInt = k → (6 : Int) - k ≤ n → fm (fun c k => c = a0) x y → KT G q (d + 1) zk_X4_join 3 [(0, vr a0), (1, vi r), (2, vr a2), (3, vi s), (4, vi i)] [] y (rv Fv) := by
    intro n
    induction n with
    | zero =>
      intro k i y ei hn fy
      refine kg_X4_join_3 hq ka0 ma0 ka2 ma2 _ _ _ ⟨fun _ => rv_i (h y fy), fun c => ?_⟩
      exfalso; rw [t_le, k6] at c; omega
    | succ n ih =>
      intro k i y ei hn fy
      refine kg_X4_join_3 hq ka0 ma0 ka2 ma2 _ _ _ ⟨fun _ => rv_i (h y fy), fun c => ?_⟩
      rw [t_le, k6] at c
      have e1 : (i + 1).toInt = ((k + 1 : Nat) : Int) := by rw [t_add (by show _ ≤ _ + (1 : Int); omega) (by show _ + (1 : Int) ≤ _; omega), ei]; rfl
      have x1 := cl_ix er ei hR (by omega)
      have x2 := cl_ix es ei hS (by omega)
      have v1 : vp_in (r * 6 + i) n0 := by rw [vp_in_iff, x1]; omega
      exact ⟨v1, by rw [vp_in_iff, x2]; omega, fun r5 _ _ _ => ⟨v1, fun z ez => ih (k + 1) _ z e1 (by push_cast; omega) (by rw [ez]; exact fm_si fy rfl)⟩⟩
  exact kg_X4_join_0 hq ka0 ma0 ka2 ma2 _ _ (loop 6 0 _ x rfl (by omega) (fm_rf _ _))
theorem kj_clear (hq : kV q) (h : ∀ y, JN y → fm (fun c k => (c = 160 ∧ 2 ≤ k ∧ k ≤ 4) ∨ (174 ≤ c ∧ c ≤ 178)) x y → Fv y) : KT G q (d + 1) zk_X4_clear 0 [(0, vr 160)] [] x (rv Fv) := by
  refine kg_X4_clear_0 hq (fun x1 e1 x2 e2 x3 e3 x4 e4 x5 e5 x6 e6 x7 e7 z ez => rv_i (h z ?_ ?_))
  · have z2 : z.1 160 2 = 0 := by rw [ez, e7, e6, e5, e4, e3, e2, e1]; (simp only [si_get, sfl_get, Nat.reduceEqDiff, eq_self, and_false, false_and, and_true, true_and, if_true, if_false, reduceIte, reduceCtorEq])
    have z3 : z.1 160 3 = 0 := by rw [ez, e7, e6, e5, e4, e3, e2, e1]; (simp only [si_get, sfl_get, Nat.reduceEqDiff, eq_self, and_false, false_and, and_true, true_and, if_true, if_false, reduceIte, reduceCtorEq])
    have k0 : (0 : Int32).toInt = 0 := rfl
    unfold JN
    rw [z2, z3, k0]
    refine ⟨by omega, fun a ha => by omega, fun t ht => Or.inl ?_⟩
    rw [ez, e7, e6, e5, sfl_get, if_neg (by omega), sfl_get, if_neg (by omega), sfl_get, if_neg (by omega), sfl_get, if_neg (by omega), e4, sfl_get, if_pos ⟨rfl, ht⟩]
  · rw [ez, e7, e6, e5, e4, e3, e2, e1]
    exact fm_fl (fm_fl (fm_fl (fm_fl (fm_fl (fm_si (fm_si (fm_si (fm_rf _ _) (by omega)) (by omega)) (by omega)) (fun k _ => by omega)) (fun k _ => by omega)) (fun k _ => by omega)) (fun k _ => by omega)) (fun k _ => by omega)
theorem kj_takeOver (hq : kV q) (hJ : JN x) (a : Int32) {A : Nat} (ea : a.toInt = A) (hA : (A : Int) < (x.1 160 3).toInt) (hf : x.1 171 A = 0) (h : ∀ y, fm (fun c k => c = 173) x y → Fv y) : KT G q (d + 2) zk_X4_takeOver 0 [(0, vr 160), (1, vi a)] [] x (rv Fv) := by
  have b := hJ.1
  have eN : a.toNatClampNeg = A := by rw [t_cl, ea]; rfl
  have va : vp_in a 400 := by rw [vp_in_iff]; omega
  obtain ⟨j1, j2, j3⟩ := hJ.2.1 A hA
  obtain ⟨o1, o2, o3⟩ := j3 hf
  have eo : ∀ {m : Int}, (0 ≤ (x.1 168 A).toInt ∧ (x.1 168 A).toInt < m) → (x.1 168 A).toInt = (((x.1 168 A).toInt.toNat : Nat) : Int) := fun hh => by omega
  have fin : ∀ y, fm (fun c k => c = 173) x y → rv Fv none y := fun y fy => rv_i (h y fy)
  have x0 : rv Fv none x := rv_i (h x (fm_rf _ _))
  refine kg_X4_takeOver_0 hq _ ⟨va, va, ?_⟩
  rw [eN]
  refine ⟨fun c => ?_, fun c => ⟨va, ?_⟩, fun c => ?_, fun c => ?_, fun _ => x0⟩
  · have hh := o3 (Or.inr (by rw [c]; rfl))
    have v6 : vp_in (x.1 168 A) 6 := by rw [vp_in_iff]; omega
    refine ⟨v6, fun _ => x0, fun cn => ⟨v6, ?_⟩⟩
    have hl := hJ.2.2 (x.1 168 A).toInt.toNat (by omega)
    have eN2 : (x.1 168 A).toNatClampNeg = (x.1 168 A).toInt.toNat := rfl
    rw [eN2] at cn ⊢
    have hl2 : 0 ≤ (x.1 174 (x.1 168 A).toInt.toNat).toInt ∧ (x.1 174 (x.1 168 A).toInt.toNat).toInt < (x.1 160 3).toInt := by
      rcases hl with e | e
      · exact absurd e cn
      · exact e
    exact kj_join hq kk_173 (kl_173 hq) kk_173 (kl_173 hq) _ _ ea (show (x.1 174 (x.1 168 A).toInt.toNat).toInt = (((x.1 174 (x.1 168 A).toInt.toNat).toInt.toNat : Nat) : Int) by omega) (by omega) (by omega) (by omega) (by omega) (fun y fy => fin y fy)
  · have hh := o2 (Or.inr (by rw [c]; rfl))
    refine kj_join hq kk_173 (kl_173 hq) kk_178 (kl_178 hq) _ _ ea (show (x.1 166 A).toInt = (((x.1 166 A).toInt.toNat : Nat) : Int) by omega) (by omega) (by omega) (by omega) (by omega) (fun y fy => ?_)
    exact kj_join hq kk_173 (kl_173 hq) kk_176 (kl_176 hq) _ _ ea (eo hh) (by omega) (by omega) (by omega) (by omega) (fun z fz => fin z (fm_tr fy fz))
  · have hh := o2 (Or.inl (by rw [c]; decide))
    exact kj_join hq kk_173 (kl_173 hq) kk_176 (kl_176 hq) _ _ ea (eo hh) (by omega) (by omega) (by omega) (by omega) (fun z fz => fin z fz)
  · have hh := o1 (by rcases c with c | c | c | c <;> rw [c] <;> decide)
    exact ⟨by rw [vp_in_iff]; omega, fun _ => x0, fun _ => kj_join hq kk_173 (kl_173 hq) kk_177 (kl_177 hq) _ _ ea (eo hh) (by omega) (by omega) (by omega) (by omega) (fun z fz => fin z fz)⟩
theorem kj_handOn (hq : kV q) (hJ : JN x) (a w : Int32) {A : Nat} (ea : a.toInt = A) (hA : (A : Int) < (x.1 160 3).toInt) (hf : x.1 171 A = 0) (h : ∀ y, fm sCk x y → Fv y) : KT G q (d + 2) zk_X4_handOn 0 [(0, vr 160), (1, vi a), (2, vi w)] [] x (rv Fv) := by
  have b := hJ.1
  have k6 : (6 : Int32).toInt = 6 := rfl
  have eN : a.toNatClampNeg = A := by rw [t_cl, ea]; rfl
  have va : vp_in a 400 := by rw [vp_in_iff]; omega
  obtain ⟨j1, j2, j3⟩ := hJ.2.1 A hA
  obtain ⟨o1, o2, o3⟩ := j3 hf
  have eo : ∀ {m : Int}, (0 ≤ (x.1 168 A).toInt ∧ (x.1 168 A).toInt < m) → (x.1 168 A).toInt = (((x.1 168 A).toInt.toNat : Nat) : Int) := fun hh => by omega
  have x0 : rv Fv none x := rv_i (h x (fm_rf _ _))
  have loop : ∀ (n k : Nat) (i : Int32) (y : gd), i.toInt = k → (6 : Int) - k ≤ n → fm sCk x y → KT G q (d + 2) zk_X4_handOn 99 [(0, vr 160), (1, vi a), (2, vi w), (4, vi i)] [] y (rv Fv) := by
    intro n
    induction n with
    | zero =>
      intro k i y ei hn fy
      refine kg_X4_handOn_99 hq _ _ _ ⟨fun _ => rv_i (h y fy), fun c => ?_⟩
      exfalso; rw [t_le, k6] at c; omega
    | succ n ih =>
      intro k i y ei hn fy
      refine kg_X4_handOn_99 hq _ _ _ ⟨fun _ => rv_i (h y fy), fun c => ?_⟩
      rw [t_le, k6] at c
      have e1 : (i + 1).toInt = ((k + 1 : Nat) : Int) := by rw [t_add (by show _ ≤ _ + (1 : Int); omega) (by show _ + (1 : Int) ≤ _; omega), ei]; rfl
      exact ⟨fun _ => ih (k + 1) _ y e1 (by push_cast; omega) fy, fun _ => kj_join hq kk_178 (kl_178 hq) kk_173 (kl_173 hq) _ _ ei ea (by omega) (by omega) (by omega) (by omega) (fun z fz => ih (k + 1) _ z e1 (by push_cast; omega) (fm_tr fy (fm_w fz (fun c k q => by unfold sCk; omega))))⟩
  refine kg_X4_handOn_0 hq _ _ ⟨va, va, ?_⟩
  rw [eN]
  refine ⟨fun c => ?_, fun c => ?_, fun c => loop 6 0 _ x rfl (by omega) (fm_rf _ _), fun c => ?_, fun _ => x0⟩
  · have hh := o3 (Or.inl (by rw [c]; rfl))
    exact kj_join hq kk_175 (kl_175 hq) kk_173 (kl_173 hq) _ _ (eo hh) ea (by omega) (by omega) (by omega) (by omega) (fun z fz => rv_i (h z (fm_w fz (fun c k q => by unfold sCk; omega))))
  · have hh := o2 (Or.inl (by rcases c with c | c <;> rw [c] <;> decide))
    exact kj_join hq kk_176 (kl_176 hq) kk_173 (kl_173 hq) _ _ (eo hh) ea (by omega) (by omega) (by omega) (by omega) (fun z fz => rv_i (h z (fm_w fz (fun c k q => by unfold sCk; omega))))
  · have hh := o1 (by rcases c with c | c | c | c <;> rw [c] <;> decide)
    exact ⟨by rw [vp_in_iff]; omega, fun _ => x0, fun _ => kj_join hq kk_177 (kl_177 hq) kk_173 (kl_173 hq) _ _ (eo hh) ea (by omega) (by omega) (by omega) (by omega) (fun z fz => rv_i (h z (fm_w fz (fun c k q => by unfold sCk; omega))))⟩
theorem kj_setClock (hq : kV q) (hJ : JN x) (a : Int32) {A : Nat} (ea : a.toInt = A) (hA : (A : Int) < (x.1 160 3).toInt) (h : ∀ y, JN y → fm (fun c k => c = 173 ∨ c = 174) x y → Fv y) : KT G q (d + 3) zk_X4_setClock 0 [(0, vr 160), (1, vi a)] [] x (rv Fv) := by
  have b := hJ.1
  have k6 : (6 : Int32).toInt = 6 := rfl
  have eN : a.toNatClampNeg = A := by rw [t_cl, ea]; rfl
  have va : vp_in a 400 := by rw [vp_in_iff]; omega
  obtain ⟨j1, j2, j3⟩ := hJ.2.1 A hA
  have et : (x.1 166 A).toInt = (((x.1 166 A).toInt.toNat : Nat) : Int) := by omega
  have vt : vp_in (x.1 166 A) 6 := by rw [vp_in_iff]; omega
  have eT : (x.1 166 A).toNatClampNeg = (x.1 166 A).toInt.toNat := rfl
  have p91 : ∀ y, fm (fun c k => c = 173) x y → KT G q (d + 3) zk_X4_setClock 91 [(0, vr 160), (1, vi a), (2, vi (x.1 166 A))] [] y (rv Fv) := by
    intro y fy
    have x1 := cl_ix ea et (by omega) (by omega)
    have v1 : vp_in (a * 6 + x.1 166 A) 2400 := by rw [vp_in_iff, x1]; omega
    refine kg_X4_setClock_91 hq _ _ ⟨v1, v1, fun x3 e3 => ⟨vt, fun z ez => rv_i (h z ?_ ?_)⟩⟩
    · have f3 : fm (fun c k => c = 173) x x3 := by rw [e3]; exact fm_si fy rfl
      have g : ∀ c k, c ≠ 173 → c ≠ 174 → z.1 c k = x.1 c k := fun c k h1 h2 => by rw [ez, si_cell h2, f3 c k h1]
      unfold JN
      rw [g 160 3 (by decide) (by decide), g 160 2 (by decide) (by decide)]
      refine ⟨hJ.1, fun a ha => JA_eq (fun c k hc => g c k (by omega) (by omega)) (hJ.2.1 a ha), fun t ht => ?_⟩
      rw [eT] at ez
      by_cases h9 : t = (x.1 166 A).toInt.toNat
      · have : z.1 174 t = a := by rw [ez, h9]; (simp only [si_get, sfl_get, Nat.reduceEqDiff, eq_self, and_false, false_and, and_true, true_and, if_true, if_false, reduceIte, reduceCtorEq])
        rw [this]; exact Or.inr (by omega)
      · have : z.1 174 t = x.1 174 t := by rw [ez, si_get, if_neg (fun q => h9 q.2), f3 174 t (by omega)]
        rw [this]; exact hJ.2.2 t ht
    · rw [ez, e3]; exact fm_si (fm_si (fm_w fy (fun c k q => Or.inl q)) (Or.inl rfl)) (Or.inr rfl)
  have p77 : ∀ y, fm (fun c k => c = 173) x y → KT G q (d + 3) zk_X4_setClock 77 [(0, vr 160), (1, vi a), (2, vi (x.1 166 A))] [] y (rv Fv) := by
    intro y fy
    have hy : JN y := JN_ck (fm_w fy (fun c k q => by unfold sCk; omega)) hJ
    refine kg_X4_setClock_77 hq _ _ ⟨va, fun _ => p91 y fy, fun c => ?_⟩
    rw [eN] at c
    exact kj_takeOver hq hy _ ea (by rw [fy 160 3 (by decide)]; exact hA) c (fun z fz => p91 z (fm_tr fy fz))
  have loop : ∀ (n k : Nat) (i : Int32) (y : gd), i.toInt = k → (6 : Int) - k ≤ n → fm (fun c k => c = 173) x y → KT G q (d + 3) zk_X4_setClock 9 [(0, vr 160), (1, vi a), (2, vi (x.1 166 A)), (3, vi i)] [] y (rv Fv) := by
    have out : ∀ y, fm (fun c k => c = 173) x y → vp_in (x.1 166 A) 6 ∧ ((¬ ((y.1 174 (x.1 166 A).toNatClampNeg) = (-1 : Int32)) → vp_in (x.1 166 A) 6 ∧ KT G q (d + 2) zk_X4_join 0 [(0, vr 173), (1, vi a), (2, vr 173), (3, vi (y.1 174 (x.1 166 A).toNatClampNeg))] [] y (rv (fun x5 => KT G q (d + 3) zk_X4_setClock 77 [(0, vr 160), (1, vi a), (2, vi (x.1 166 A))] [] x5 (rv Fv)))) ∧ ((y.1 174 (x.1 166 A).toNatClampNeg) = (-1 : Int32) → KT G q (d + 2) zk_X4_join 0 [(0, vr 173), (1, vi a), (2, vr 175), (3, vi (x.1 166 A))] [] y (rv (fun x6 => KT G q (d + 3) zk_X4_setClock 77 [(0, vr 160), (1, vi a), (2, vi (x.1 166 A))] [] x6 (rv Fv))))) := by
      intro y fy
      refine ⟨vt, fun cn => ⟨vt, ?_⟩, fun _ => kj_join hq kk_173 (kl_173 hq) kk_175 (kl_175 hq) _ _ ea et (by omega) (by omega) (by omega) (by omega) (fun z fz => p77 z (fm_tr fy fz))⟩
      rw [eT, fy 174 _ (by omega)] at cn ⊢
      have hl2 : 0 ≤ (x.1 174 (x.1 166 A).toInt.toNat).toInt ∧ (x.1 174 (x.1 166 A).toInt.toNat).toInt < (x.1 160 3).toInt := by
        rcases hJ.2.2 (x.1 166 A).toInt.toNat (by omega) with e | e
        · exact absurd e cn
        · exact e
      exact kj_join hq kk_173 (kl_173 hq) kk_173 (kl_173 hq) _ _ ea (show (x.1 174 (x.1 166 A).toInt.toNat).toInt = (((x.1 174 (x.1 166 A).toInt.toNat).toInt.toNat : Nat) : Int) by omega) (by omega) (by omega) (by omega) (by omega) (fun z fz => p77 z (fm_tr fy fz))
    intro n
    induction n with
    | zero =>
      intro k i y ei hn fy
      refine kg_X4_setClock_9 hq _ _ _ ⟨fun _ => out y fy, fun c => ?_⟩
      exfalso; rw [t_le, k6] at c; omega
    | succ n ih =>
      intro k i y ei hn fy
      refine kg_X4_setClock_9 hq _ _ _ ⟨fun _ => out y fy, fun c => ?_⟩
      rw [t_le, k6] at c
      have e1 : (i + 1).toInt = ((k + 1 : Nat) : Int) := by rw [t_add (by show _ ≤ _ + (1 : Int); omega) (by show _ + (1 : Int) ≤ _; omega), ei]; rfl
      have x1 := cl_ix ea ei (by omega) (by omega)
      exact ⟨by rw [vp_in_iff, x1]; omega, fun z ez => ih (k + 1) _ z e1 (by push_cast; omega) (by rw [ez]; exact fm_si fy rfl)⟩
  refine kg_X4_setClock_0 hq _ ⟨va, ?_⟩
  rw [eN]
  exact loop 6 0 _ x rfl (by omega) (fm_rf _ _)
theorem kj_mayRace (hq : kV q) (hJ : JN x) (a : Int32) {A : Nat} (ea : a.toInt = A) (hA : (A : Int) < (x.1 160 3).toInt) (h : ∀ r : Int32, F r x) : KT G q d zk_X4_mayRace 0 [(0, vr 160), (1, vi a)] [] x (ri F) := by
  have b := hJ.1
  have k4 : (4 : Int32).toInt = 4 := rfl
  have eN : a.toNatClampNeg = A := by rw [t_cl, ea]; rfl
  have va : vp_in a 400 := by rw [vp_in_iff]; omega
  obtain ⟨j1, j2, j3⟩ := hJ.2.1 A hA
  refine kg_X4_mayRace_0 hq _ ⟨va, fun _ => ri_i (h _), fun c4 => ⟨va, fun _ => ri_i (h _), fun cf => ⟨va, ?_, fun _ => ri_i (h _), fun _ => ri_i (h _)⟩⟩⟩
  rw [eN] at c4 cf ⊢
  rw [t_lt, k4] at c4
  have := (j3 cf).1 (by omega)
  rw [vp_in_iff]; omega
theorem kj_isBefore (hq : kV q) (hJ : JN x) (a b : Int32) {A B : Nat} (ea : a.toInt = A) (hA : (A : Int) < (x.1 160 3).toInt) (eb : b.toInt = B) (hB : (B : Int) < (x.1 160 3).toInt) (h : ∀ r : Int32, gbool r → F r x) : KT G q d zk_X4_isBefore 0 [(0, vr 160), (1, vi a), (2, vi b)] [] x (ri F) := by
  have b0 := hJ.1
  have eN : a.toNatClampNeg = A := by rw [t_cl, ea]; rfl
  have va : vp_in a 400 := by rw [vp_in_iff]; omega
  obtain ⟨j1, j2, j3⟩ := hJ.2.1 A hA
  have et : (x.1 166 A).toInt = (((x.1 166 A).toInt.toNat : Nat) : Int) := by omega
  refine kg_X4_isBefore_0 hq _ _ ⟨va, ?_⟩
  rw [eN]
  have x1 := cl_ix ea et (by omega) (by omega)
  have x2 := cl_ix eb et (by omega) (by omega)
  exact ⟨fun _ => ri_i (h _ gbool_0), fun _ => ⟨by rw [vp_in_iff, x2]; omega, by rw [vp_in_iff, x1]; omega, fun _ => ri_i (h _ gbool_0), fun _ => ri_i (h _ gbool_1)⟩⟩
theorem kj_sortsRace (hq : kV q) (a b : Int32) (h : ∀ r : Int32, gbool r → F r x) : KT G q d zk_X4_sortsRace 0 [(0, vi a), (1, vi b)] [] x (ri F) := by
  have p29 : ∀ s u : Int32, KT G q d zk_X4_sortsRace 29 [(2, vi s)] [vi u] x (ri F) := fun s u => kg_X4_sortsRace_29 hq _ _ ⟨fun _ => ri_i (h _ gbool_0), fun _ => ⟨fun _ => ri_i (h _ gbool_0), fun _ => ri_i (h _ gbool_1)⟩⟩
  have p13 : ∀ s : Int32, KT G q d zk_X4_sortsRace 13 [(0, vi a), (1, vi b)] [vi s] x (ri F) := fun s => kg_X4_sortsRace_13 hq _ _ _ ⟨fun _ => p29 _ _, fun _ => ⟨fun _ => p29 _ _, fun _ => p29 _ _⟩⟩
  exact kg_X4_sortsRace_0 hq _ _ ⟨fun _ => p13 _, fun _ => ⟨fun _ => p13 _, fun _ => p13 _⟩⟩
theorem kj_isRace (hq : kV q) (hJ : JN x) (a b : Int32) {A B : Nat} (ea : a.toInt = A) (hA : (A : Int) < (x.1 160 3).toInt) (eb : b.toInt = B) (hB : (B : Int) < (x.1 160 3).toInt) (h : ∀ r : Int32, F r x) : KT G q (d + 1) zk_X4_isRace 0 [(0, vr 160), (1, vi a), (2, vi b)] [] x (ri F) := by
  have b0 := hJ.1
  have va : vp_in a 400 := by rw [vp_in_iff]; omega
  have vb : vp_in b 400 := by rw [vp_in_iff]; omega
  exact kg_X4_isRace_0 hq _ _ ⟨va, vb, fun _ => ri_i (h _), fun _ => ⟨va, vb, fun _ => ri_i (h _), fun _ => kj_mayRace hq hJ _ ea hA (fun r => ⟨fun _ => ri_i (h _), fun _ => ⟨va, vb, kj_sortsRace hq _ _ (fun r _ => ⟨fun _ => ri_i (h _), fun _ => kj_isBefore hq hJ _ _ ea hA eb hB (fun r _ => ⟨fun _ => ri_i (h _), fun _ => ri_i (h _)⟩)⟩)⟩⟩)⟩⟩
theorem kj_racesOf (hq : kV q) (hJ : JN x) (b : Int32) {B : Nat} (eb : b.toInt = B) (hB : (B : Int) < (x.1 160 3).toInt) (h : ∀ r : Int32, F r x) : KT G q (d + 2) zk_X4_racesOf 0 [(0, vr 160), (1, vi b)] [] x (ri F) := by
  have b0 := hJ.1
  have loop : ∀ (n k : Nat) (m i : Int32), i.toInt = k → (B : Int) - k ≤ n → KT G q (d + 2) zk_X4_racesOf 14 [(0, vr 160), (1, vi b), (2, vi m), (3, vi i)] [] x (ri F) := by
    intro n
    induction n with
    | zero =>
      intro k m i ei hn
      refine kg_X4_racesOf_14 hq _ _ _ ⟨fun _ => ri_i (h _), fun c => ?_⟩
      exfalso; rw [t_le] at c; omega
    | succ n ih =>
      intro k m i ei hn
      refine kg_X4_racesOf_14 hq _ _ _ ⟨fun _ => ri_i (h _), fun c => ?_⟩
      rw [t_le] at c
      have e1 : (i + 1).toInt = ((k + 1 : Nat) : Int) := by rw [t_add (by show _ ≤ _ + (1 : Int); omega) (by show _ + (1 : Int) ≤ _; omega), ei]; rfl
      exact kj_isRace hq hJ _ _ ei (by omega) eb hB (fun r => ⟨fun _ => ih (k + 1) _ _ e1 (by push_cast; omega), fun _ => ih (k + 1) _ _ e1 (by push_cast; omega)⟩)
  exact kg_X4_racesOf_0 hq _ (kj_mayRace hq hJ _ eb hB (fun r => ⟨fun _ => loop 400 0 _ _ rfl (by omega), fun _ => ri_i (h _)⟩))
theorem kj_races (hq : kV q) (hJ : JN x) (h : ∀ r : Int32, F r x) : KT G q d zk_X4_races 0 [(0, vr 160)] [] x (ri F) := by
  have b0 := hJ.1
  have k1 : (1 : Int32).toInt = 1 := rfl
  have k0 : (0 : Int32).toInt = 0 := rfl
  refine kg_X4_races_0 hq ⟨fun c => ⟨?_, ri_i (h _)⟩, fun _ => ri_i (h _)⟩
  rw [t_eq, k0] at c
  rw [vp_in_iff, t_sub (by rw [k1]; omega) (by rw [k1]; omega), k1]; omega
theorem kj_laterOfRace (hq : kV q) (hJ : JN x) (i : Int32) (h : ∀ r : Int32, (r = -1 ∨ (0 ≤ r.toInt ∧ r.toInt < (x.1 160 3).toInt)) → F r x) : KT G q d zk_X4_laterOfRace 0 [(0, vr 160), (1, vi i)] [] x (ri F) := by
  have b0 := hJ.1
  have loop : ∀ (n : Nat) (k : Int32), 0 ≤ k.toInt → (x.1 160 3).toInt - k.toInt ≤ n → KT G q d zk_X4_laterOfRace 2 [(0, vr 160), (1, vi i), (2, vi k)] [] x (ri F) := by
    intro n
    induction n with
    | zero =>
      intro k hk hn
      refine kg_X4_laterOfRace_2 hq _ _ ⟨fun _ => ri_i (h _ (Or.inl rfl)), fun c => ?_⟩
      exfalso; rw [t_le] at c; omega
    | succ n ih =>
      intro k hk hn
      refine kg_X4_laterOfRace_2 hq _ _ ⟨fun _ => ri_i (h _ (Or.inl rfl)), fun c => ?_⟩
      rw [t_le] at c
      have e1 : (k + 1).toInt = k.toInt + 1 := t_add (by show _ ≤ _ + (1 : Int); omega) (by show _ + (1 : Int) ≤ _; omega)
      exact ⟨by rw [vp_in_iff]; omega, fun _ => ih _ (by omega) (by omega), fun _ => ri_i (h _ (Or.inr ⟨hk, by omega⟩))⟩
  exact kg_X4_laterOfRace_0 hq _ (loop 400 _ (by decide) (by show _ - (0 : Int) ≤ _; omega))
theorem kj_earlierOfRace (hq : kV q) (hJ : JN x) (i b : Int32) (hb : b = -1 ∨ (0 ≤ b.toInt ∧ b.toInt < (x.1 160 3).toInt)) (h : ∀ r : Int32, F r x) : KT G q (d + 2) zk_X4_earlierOfRace 0 [(0, vr 160), (1, vi i), (2, vi b)] [] x (ri F) := by
  have b0 := hJ.1
  have k1 : (1 : Int32).toInt = 1 := rfl
  have k0 : (0 : Int32).toInt = 0 := rfl
  have hbb : -1 ≤ b.toInt ∧ b.toInt < 400 := by
    rcases hb with e | e
    · rw [e]; decide
    · omega
  have loop : ∀ (n k : Nat) (m i : Int32), i.toInt = k → b.toInt - k ≤ n → KT G q (d + 2) zk_X4_earlierOfRace 22 [(0, vr 160), (2, vi b), (3, vi m), (4, vi i)] [] x (ri F) := by
    intro n
    induction n with
    | zero =>
      intro k m i ei hn
      refine kg_X4_earlierOfRace_22 hq _ _ _ ⟨fun _ => ri_i (h _), fun c => ?_⟩
      exfalso; rw [t_le] at c; omega
    | succ n ih =>
      intro k m i ei hn
      refine kg_X4_earlierOfRace_22 hq _ _ _ ⟨fun _ => ri_i (h _), fun c => ?_⟩
      rw [t_le] at c
      have hb2 : 0 ≤ b.toInt ∧ b.toInt < (x.1 160 3).toInt := by
        rcases hb with e | e
        · rw [e, tm1] at c; omega
        · exact e
      have e1 : (i + 1).toInt = ((k + 1 : Nat) : Int) := by rw [t_add (by rw [k1]; omega) (by rw [k1]; omega), ei]; rfl
      exact kj_isRace hq hJ _ _ ei (by omega) (show b.toInt = ((b.toInt.toNat : Nat) : Int) by omega) (by omega) (fun r => ⟨fun _ => ih (k + 1) _ _ e1 (by push_cast; omega), fun _ => ⟨fun _ => ih (k + 1) _ _ e1 (by push_cast; omega), fun _ => ri_i (h _)⟩⟩)
  refine kg_X4_earlierOfRace_0 hq _ _ ⟨fun _ => loop 400 0 _ _ rfl (by omega), fun c => ⟨?_, loop 400 0 _ _ rfl (by omega)⟩⟩
  rw [t_le, k0] at c
  rw [vp_in_iff, t_sub (by rw [k1]; omega) (by rw [k1]; omega), k1]; omega
/-- a choice is noted -/
theorem kj_note (hq : kV q) (hJ : JN x) (hC : CO x) (hD : DE x 120) (i : Int32) (h : ∀ y, JN y → fm (fun c k => 160 ≤ c ∧ c < 180) x y → Fv y) : KT G q (d + 4) zk_X4_note 0 [(0, vr 160), (1, vi i), (2, vr 140)] [] x (rv Fv) := by
  have k400 : (400 : Int32).toInt = 400 := rfl
  have k1 : (1 : Int32).toInt = 1 := rfl
  have k0 : (0 : Int32).toInt = 0 := rfl
  obtain ⟨⟨b1, b2, b3⟩, hA, hT⟩ := id hJ
  obtain ⟨⟨c1, c2, c3, -⟩, -⟩ := hC
  refine kg_X4_note_0 hq _ ⟨fun c => ?_, fun _ => rv_i (h x hJ (fm_rf _ _))⟩
  rw [t_lt, k400] at c
  refine ⟨by rw [vp_in_iff]; omega, fun x3 e3 x4 e4 => ?_⟩
  have q3 : x3.1 160 2 = x.1 160 2 := by rw [e3]; (simp only [si_get, sfl_get, Nat.reduceEqDiff, eq_self, and_false, false_and, and_true, true_and, if_true, if_false, reduceIte, reduceCtorEq])
  have f4 : fm (fun c k => c = 162 ∨ (c = 160 ∧ k = 2)) x x4 := by rw [e4, e3]; exact fm_si (fm_si (fm_rf _ _) (Or.inl rfl)) (Or.inr ⟨rfl, rfl⟩)
  have d4 : (x4.1 160 2).toInt = (x.1 160 2).toInt + 1 := by
    have : x4.1 160 2 = x.1 160 2 + 1 := by rw [e4, q3]; (simp only [si_get, sfl_get, Nat.reduceEqDiff, eq_self, and_false, false_and, and_true, true_and, if_true, if_false, reduceIte, reduceCtorEq])
    rw [this, t_add (by rw [k1]; omega) (by rw [k1]; omega), k1]
  have a4 : x4.1 160 3 = x.1 160 3 := f4 _ _ (by omega)
  have hJ4 : JN x4 := by
    unfold JN
    rw [d4, a4]
    refine ⟨by omega, fun a ha => JA_eq (fun c k hc => f4 c k (by omega)) (hA a ha), fun t ht => ?_⟩
    rw [f4 174 t (by omega)]; exact hT t ht
  refine ⟨fun cn => ?_, fun _ => rv_i (h x4 hJ4 (fm_w f4 (fun c k q => by omega)))⟩
  intro x6 e6
  have va : vp_in (x4.1 160 3) 400 := by rw [a4, vp_in_iff]; omega
  have eN : (x4.1 160 3).toNatClampNeg = (x.1 160 3).toInt.toNat := by rw [a4]; rfl
  refine ⟨va, fun x8 e8 => ⟨va, fun x10 e10 => ⟨va, fun x12 e12 => ⟨va, fun x14 e14 => ⟨va, fun x16 e16 => ⟨va, fun x18 e18 => ?_⟩⟩⟩⟩⟩⟩
  rw [eN] at e8 e10 e12 e14 e16 e18
  have f18 : fm (fun c k => c = 162 ∨ (c = 160 ∧ (k = 2 ∨ k = 3)) ∨ (166 ≤ c ∧ c ≤ 171 ∧ k = (x.1 160 3).toInt.toNat)) x x18 := by
    rw [e18, e16, e14, e12, e10, e8, e6]
    exact fm_si (fm_si (fm_si (fm_si (fm_si (fm_si (fm_si (fm_w f4 (fun c k q => by omega)) (by omega)) (by omega)) (by omega)) (by omega)) (by omega)) (by omega)) (by omega)
  have de : ∀ k, x18.1 140 k = x.1 140 k := fun k => f18 _ _ (by omega)
  have d6 : ∀ k, x6.1 140 k = x.1 140 k := fun k => by rw [e6, si_cell (by decide), f4 _ _ (by omega)]
  have d8 : ∀ k, x8.1 140 k = x.1 140 k := fun k => by rw [e8, si_cell (by decide)]; exact d6 k
  have d10 : ∀ k, x10.1 140 k = x.1 140 k := fun k => by rw [e10, si_cell (by decide)]; exact d8 k
  have d12 : ∀ k, x12.1 140 k = x.1 140 k := fun k => by rw [e12, si_cell (by decide)]; exact d10 k
  have d14 : ∀ k, x14.1 140 k = x.1 140 k := fun k => by rw [e14, si_cell (by decide)]; exact d12 k
  have d16 : ∀ k, x16.1 140 k = x.1 140 k := fun k => by rw [e16, si_cell (by decide)]; exact d14 k
  rw [d6] at e8
  rw [d8] at e10
  rw [d10] at e12
  rw [d16, nar_b hD.1] at e18
  have s3 : (x18.1 160 3).toInt = (x.1 160 3).toInt + 1 := by
    have : x18.1 160 3 = x.1 160 3 + 1 := by rw [e18, e16, e14, e12, e10, e8, e6, a4]; (simp only [si_get, sfl_get, Nat.reduceEqDiff, eq_self, and_false, false_and, and_true, true_and, if_true, if_false, reduceIte, reduceCtorEq])
    rw [this, t_add (by rw [k1]; omega) (by rw [k1]; omega), k1]
  have s2 : (x18.1 160 2).toInt = (x.1 160 2).toInt + 1 := by
    have : x18.1 160 2 = x4.1 160 2 := by rw [e18, e16, e14, e12, e10, e8, e6]; (simp only [si_get, sfl_get, Nat.reduceEqDiff, eq_self, and_false, false_and, and_true, true_and, if_true, if_false, reduceIte, reduceCtorEq])
    rw [this]; exact d4
  have g6 : x18.1 166 (x.1 160 3).toInt.toNat = x.1 140 0 := by rw [e18, e16, e14, e12, e10, e8]; (simp only [si_get, sfl_get, Nat.reduceEqDiff, eq_self, and_false, false_and, and_true, true_and, if_true, if_false, reduceIte, reduceCtorEq])
  have g7 : x18.1 167 (x.1 160 3).toInt.toNat = x.1 140 1 := by rw [e18, e16, e14, e12, e10]; (simp only [si_get, sfl_get, Nat.reduceEqDiff, eq_self, and_false, false_and, and_true, true_and, if_true, if_false, reduceIte, reduceCtorEq])
  have g8 : x18.1 168 (x.1 160 3).toInt.toNat = x.1 140 2 := by rw [e18, e16, e14, e12]; (simp only [si_get, sfl_get, Nat.reduceEqDiff, eq_self, and_false, false_and, and_true, true_and, if_true, if_false, reduceIte, reduceCtorEq])
  have g11 : x18.1 171 (x.1 160 3).toInt.toNat = x.1 140 5 := by rw [e18]; (simp only [si_get, sfl_get, Nat.reduceEqDiff, eq_self, and_false, false_and, and_true, true_and, if_true, if_false, reduceIte, reduceCtorEq])
  have hde : (0 ≤ (x.1 140 0).toInt ∧ (x.1 140 0).toInt < (x.1 60 10).toInt) ∧ 0 ≤ (x.1 140 1).toInt ∧ (x.1 140 5 = 0 → ((x.1 140 1).toInt ≤ 4 → 0 ≤ (x.1 140 2).toInt ∧ (x.1 140 2).toInt < (x.1 60 6).toInt) ∧ ((5 ≤ (x.1 140 1).toInt ∧ (x.1 140 1).toInt ≤ 8) ∨ (x.1 140 1).toInt = 15 → 0 ≤ (x.1 140 2).toInt ∧ (x.1 140 2).toInt < (x.1 60 9).toInt) ∧ ((x.1 140 1).toInt = 9 ∨ (x.1 140 1).toInt = 10 → 0 ≤ (x.1 140 2).toInt ∧ (x.1 140 2).toInt < (x.1 60 10).toInt)) := by
    rcases hD.2 with e | e
    · rw [f4 140 0 (by omega)] at cn; exact absurd e cn
    · exact e
  have hJ18 : JN x18 := by
    unfold JN
    rw [s3, s2]
    refine ⟨by omega, fun a ha => ?_, fun t ht => ?_⟩
    · by_cases h9 : a = (x.1 160 3).toInt.toNat
      · rw [h9]
        unfold JA
        rw [g6, g7, g8, g11]
        obtain ⟨p1, p2, p3⟩ := hde
        refine ⟨by omega, p2, fun c5 => ?_⟩
        obtain ⟨r1, r2, r3⟩ := p3 c5
        exact ⟨fun z => by have := r1 z; omega, fun z => by have := r2 z; omega, fun z => by have := r3 z; omega⟩
      · have := hA a (by omega)
        unfold JA at this ⊢
        rw [f18 166 a (by omega), f18 167 a (by omega), f18 168 a (by omega), f18 171 a (by omega)]; exact this
    · rw [f18 174 t (by omega)]
      rcases hT t ht with e | e
      · exact Or.inl e
      · exact Or.inr ⟨e.1, by omega⟩
  have ea : (x4.1 160 3).toInt = (((x.1 160 3).toInt.toNat : Nat) : Int) := by rw [a4]; omega
  have p183 : ∀ (y : gd) (s : Int32), JN y → fm (fun c k => 160 ≤ c ∧ c < 180) x y → (y.1 160 3).toInt = (x.1 160 3).toInt + 1 → KT G q (d + 4) zk_X4_note 183 [(0, vr 160), (3, vi (x4.1 160 3))] [vi s, vi (x4.1 160 3), vr 172] y (rv Fv) := by
    intro y s hy fy y3
    exact kg_X4_note_183 hq _ _ _ (kj_racesOf hq hy _ ea (by omega) (fun r => ⟨va, fun z ez => rv_i (h z (JN_ck (by rw [ez]; exact fm_si (fm_rf _ _) (Or.inl rfl)) hy) (by rw [ez]; exact fm_si fy (by omega)))⟩))
  have p162 : ∀ y, JN y → fm (fun c k => 160 ≤ c ∧ c < 180) x y → (y.1 160 3).toInt = (x.1 160 3).toInt + 1 → KT G q (d + 4) zk_X4_note 162 [(0, vr 160), (3, vi (x4.1 160 3))] [] y (rv Fv) := by
    intro y hy fy y3
    refine kg_X4_note_162 hq _ ⟨fun c9 => ⟨?_, p183 y _ hy fy y3⟩, fun _ => p183 y _ hy fy y3⟩
    rw [t_eq, k0, a4] at c9
    rw [a4, vp_in_iff, t_sub (by rw [k1]; omega) (by rw [k1]; omega), k1]; omega
  have p141 : ∀ y, JN y → fm (fun c k => c = 160 ∧ k = 4) x18 y → KT G q (d + 4) zk_X4_note 141 [(0, vr 160), (2, vr 140), (3, vi (x4.1 160 3))] [] y (rv Fv) := by
    intro y hy fy
    have fxy : fm (fun c k => 160 ≤ c ∧ c < 180) x y := fm_tr (fm_w f18 (fun c k q => by omega)) (fm_w fy (fun c k q => by omega))
    have y3 : (y.1 160 3).toInt = (x.1 160 3).toInt + 1 := by rw [fy 160 3 (by omega)]; exact s3
    refine kg_X4_note_141 hq _ (kj_setClock hq hy _ ea (by omega) (fun z hz fz => ?_))
    have z3 : (z.1 160 3).toInt = (x.1 160 3).toInt + 1 := by rw [fz 160 3 (by omega)]; exact y3
    have fxz := fm_tr fxy (fm_w fz (fun c k q => by show 160 ≤ c ∧ c < 180; omega))
    refine ⟨fun _ => p162 z hz fxz z3, fun c5 => kj_handOn hq hz _ _ ea (by omega) ?_ (fun w fw => p162 w (JN_ck fw hz) (fm_tr fxz (fm_w fw (fun c k q => by unfold sCk at q; omega))) (by rw [fw 160 3 (by unfold sCk; omega)]; exact z3))⟩
    rw [fz 171 _ (by omega), fy 171 _ (by omega), g11]
    rw [fz 140 5 (by omega), fy 140 5 (by omega), de] at c5
    exact c5
  refine ⟨fun _ => p141 x18 hJ18 (fm_rf _ _), fun _ => ⟨fun _ => p141 x18 hJ18 (fm_rf _ _), fun _ x21 e21 => p141 x21 ?_ (by rw [e21]; exact fm_si (fm_rf _ _) ⟨rfl, rfl⟩)⟩⟩
  have f21 : fm (fun c k => c = 160 ∧ k = 4) x18 x21 := by rw [e21]; exact fm_si (fm_rf _ _) ⟨rfl, rfl⟩
  unfold JN at hJ18 ⊢
  rw [f21 160 3 (by omega), f21 160 2 (by omega)]
  refine ⟨hJ18.1, fun a ha => JA_eq (fun c k hc => f21 c k (by omega)) (hJ18.2.1 a ha), fun t ht => ?_⟩
  rw [f21 174 t (by omega)]; exact hJ18.2.2 t ht
end KJO
