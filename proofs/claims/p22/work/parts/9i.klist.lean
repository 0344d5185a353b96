section
/-! the class: choices are listed -/
section KLI
variable {G : kG} {q : kP} {d : Nat} {x x0 y z : gd} {o : Nat} {F : Int32 → gd → Prop} {Fv : gd → Prop}
def sLi (o c k : Nat) : Prop := (c = o ∧ k = 13) ∨ (o + 11 ≤ c ∧ c ≤ o + 13)
theorem rg_Li (hO : o = 120 ∨ o = 220) (f : fm (sLi o) x y) (t k : Nat) : rg y o t k = rg x o t k := rg_eq hO (fm_w f (fun c k q => by unfold sLi at q; omega)) t k
theorem MM_Li (hO : o = 120 ∨ o = 220) (f : fm (sLi o) x y) (h : MM x o) : MM y o := by
  have e := rg_Li hO f
  refine ⟨CO_fm h.1 (fun c k hc => f c k (by unfold sLi; omega)), ?_, fun t ht => ?_⟩
  · have hG := h.2.1
    unfold MG at hG ⊢
    rw [f o 3 (by unfold sLi; omega), f o 5 (by unfold sLi; omega), f o 6 (by unfold sLi; omega), f o 7 (by unfold sLi; omega), f o 8 (by unfold sLi; omega), f o 9 (by unfold sLi; omega), f 60 6 (by unfold sLi; omega), f 60 9 (by unfold sLi; omega), f 60 13 (by unfold sLi; omega), f 60 10 (by unfold sLi; omega)]
    exact hG
  · rw [f 60 10 (by unfold sLi; omega)] at ht
    obtain ⟨a, g⟩ := h.2.2 t ht
    refine ⟨?_, ?_⟩
    · unfold TA ssm at a ⊢
      rw [e, e, e, e, f 80 9 (by unfold sLi; omega), f o 3 (by unfold sLi; omega), f o 9 (by unfold sLi; omega), f 60 6 (by unfold sLi; omega)]
      refine ⟨a.1, a.2.1, a.2.2.1, fun j hj => ?_, a.2.2.2.2⟩
      rw [e]; exact a.2.2.2.1 j hj
    · unfold TGo sop at g ⊢
      rw [e, e, e, f 81 _ (by unfold sLi; omega)]; exact g
end KLI
end
section
/-! the class: a machine is set up and compared -/
section KRS
variable {G : kG} {q : kP} {d : Nat} {x x0 y z : gd} {o : Nat} {F : Int32 → gd → Prop} {Fv : gd → Prop}
theorem km_anyGoing (hq : kV q) (ho : kiM q o) (h : MM x o) (hF : ∀ r : Int32, F r x) : KT G q (d + 2) zk_X5_anyGoing 0 [(0, vr o)] [] x (ri F) := by
  have t6 := h.1.1.2.2.1
  have loop : ∀ (n k : Nat) (i : Int32), i.toInt = k → (x.1 60 10).toInt - k ≤ n → KT G q (d + 2) zk_X5_anyGoing 2 [(0, vr o), (1, vi i)] [] x (ri F) := by
    intro n
    induction n with
    | zero =>
      intro k i ei hn
      refine kg_X5_anyGoing_2 hq ho _ ⟨fun _ => ri_i (hF _), fun c => ?_⟩
      exfalso; rw [t_le] at c; omega
    | succ n ih =>
      intro k i ei hn
      refine kg_X5_anyGoing_2 hq ho _ ⟨fun _ => ri_i (hF _), fun c => ?_⟩
      rw [t_le] at c
      have e1 : (i + 1).toInt = ((k + 1 : Nat) : Int) := by rw [t_add (by show _ ≤ _ + (1 : Int); omega) (by show _ + (1 : Int) ≤ _; omega), ei]; rfl
      exact kp_isGoing hq ho h.1 h.2.1 _ ei (by omega) (fun _ => ⟨fun _ => ih (k + 1) _ e1 (by push_cast; omega), fun _ => ri_i (hF _)⟩) (fun _ => ⟨fun _ => ih (k + 1) _ e1 (by push_cast; omega), fun _ => ri_i (hF _)⟩)
  exact kg_X5_anyGoing_0 hq ho (loop 6 0 _ rfl (by omega))
theorem km_isStuck (hq : kV q) (ho : kiM q o) (h : MM x o) (hF : ∀ r : Int32, F r x) : KT G q (d + 3) zk_X5_isStuck 0 [(0, vr o)] [] x (ri F) :=
  kg_X5_isStuck_0 hq ho ⟨fun _ => ri_i (hF _), fun _ => km_anyGoing hq ho h (fun r => ⟨fun _ => ri_i (hF _), fun _ => ri_i (hF _)⟩)⟩
theorem km_allLate (hq : kV q) (ho : kiM q o) (h : MM x o) (hF : ∀ r : Int32, F r x) : KT G q (d + 1) zk_X5_allLate 0 [(0, vr o)] [] x (ri F) := by
  have t6 := h.1.1.2.2.1
  have loop : ∀ (n k : Nat) (a i : Int32), i.toInt = k → (x.1 60 10).toInt - k ≤ n → KT G q (d + 1) zk_X5_allLate 4 [(0, vr o), (1, vi a), (2, vi i)] [] x (ri F) := by
    intro n
    induction n with
    | zero =>
      intro k a i ei hn
      refine kg_X5_allLate_4 hq ho _ _ ⟨fun _ => ri_i (hF _), fun c => ?_⟩
      exfalso; rw [t_le] at c; omega
    | succ n ih =>
      intro k a i ei hn
      refine kg_X5_allLate_4 hq ho _ _ ⟨fun _ => ri_i (hF _), fun c => ?_⟩
      rw [t_le] at c
      have e1 : (i + 1).toInt = ((k + 1 : Nat) : Int) := by rw [t_add (by show _ ≤ _ + (1 : Int); omega) (by show _ + (1 : Int) ≤ _; omega), ei]; rfl
      exact kp_get hq ho h.1 h.2.1 _ _ ei (show (7 : Int32).toInt = ((7 : Nat) : Int) from rfl) (by omega) (by omega) (ih (k + 1) _ _ e1 (by push_cast; omega))
  exact kg_X5_allLate_0 hq ho (loop 6 0 _ _ rfl (by omega))
theorem th_ix (h : MM x o) {t : Int32} {T : Nat} (et : t.toInt = T) (hT : T < 6) : 0 ≤ (x.1 o 7 + t * x.1 o 8).toInt ∧ (x.1 o 7 + t * x.1 o 8).toInt ≤ 196 := by
  obtain ⟨b1, b2, -⟩ := MG_b h.1 h.2.1
  have hm : 0 ≤ t.toInt * (x.1 o 8).toInt ∧ t.toInt * (x.1 o 8).toInt ≤ 160 := by
    rw [et]
    have : T = 0 ∨ T = 1 ∨ T = 2 ∨ T = 3 ∨ T = 4 ∨ T = 5 := by omega
    rcases this with e | e | e | e | e | e <;> subst e <;> (refine ⟨?_, ?_⟩ <;> omega)
  have e1 := t_mul (a := t) (b := x.1 o 8) (by omega) (by omega)
  have e2 := t_add (a := x.1 o 7) (b := t * x.1 o 8) (by omega) (by omega)
  omega
/-- what setting up changes -/
def sRe (o c k : Nat) : Prop := (c = o ∧ 3 ≤ k ∧ k ≤ 9) ∨ c = o + 5 ∨ (c = 60 ∧ k = 5) ∨ c = 65
end KRS
end
section
/-! the class: how a run begins, and its first choices -/
section KRF
variable {G : kG} {q : kP} {d : Nat} {x x0 y z : gd} {o : Nat} {F : Int32 → gd → Prop} {Fv : gd → Prop} {C : gCo}
end KRF
end
section
/-! the class: the journal -/
theorem nar_b {v : Int32} (h : gbool v) : vp_nar .boolean v = v := by unfold vp_nar; rw [h.1]
/-- an act that was noted -/
def JA (x : gd) (a : Nat) : Prop := (0 ≤ (x.1 166 a).toInt ∧ (x.1 166 a).toInt < 6) ∧ 0 ≤ (x.1 167 a).toInt ∧ (x.1 171 a = 0 → ((x.1 167 a).toInt ≤ 4 → 0 ≤ (x.1 168 a).toInt ∧ (x.1 168 a).toInt < 24) ∧ ((5 ≤ (x.1 167 a).toInt ∧ (x.1 167 a).toInt ≤ 8) ∨ (x.1 167 a).toInt = 15 → 0 ≤ (x.1 168 a).toInt ∧ (x.1 168 a).toInt < 6) ∧ ((x.1 167 a).toInt = 9 ∨ (x.1 167 a).toInt = 10 → 0 ≤ (x.1 168 a).toInt ∧ (x.1 168 a).toInt < 6))
def JN (x : gd) : Prop := (0 ≤ (x.1 160 3).toInt ∧ (x.1 160 3).toInt ≤ (x.1 160 2).toInt ∧ (x.1 160 2).toInt ≤ 400) ∧ (∀ a : Nat, (a : Int) < (x.1 160 3).toInt → JA x a) ∧ ∀ t : Nat, t < 6 → x.1 174 t = -1 ∨ (0 ≤ (x.1 174 t).toInt ∧ (x.1 174 t).toInt < (x.1 160 3).toInt)
section KJO
variable {G : kG} {q : kP} {d : Nat} {x x0 y z : gd} {F : Int32 → gd → Prop} {Fv : gd → Prop}
/-- clocks alone change -/
def sCk (c k : Nat) : Prop := c = 172 ∨ c = 173 ∨ (175 ≤ c ∧ c ≤ 178)
theorem JA_eq {a : Nat} (f : ∀ c k, (166 ≤ c ∧ c ≤ 171) → y.1 c k = x.1 c k) (h : JA x a) : JA y a := by
  unfold JA at h ⊢
  rw [f 166 a (by omega), f 167 a (by omega), f 168 a (by omega), f 171 a (by omega)]; exact h
theorem JN_ck (f : fm sCk x y) (h : JN x) : JN y := by
  unfold JN at h ⊢
  rw [f 160 3 (by unfold sCk; omega), f 160 2 (by unfold sCk; omega)]
  refine ⟨h.1, fun a ha => JA_eq (fun c k hc => f c k (by unfold sCk; omega)) (h.2.1 a ha), fun t ht => ?_⟩
  rw [f 174 t (by unfold sCk; omega)]; exact h.2.2 t ht
theorem cl_ix {r u : Int32} {R U : Nat} (er : r.toInt = R) (eu : u.toInt = U) (hR : R < 400) (hU : U < 6) : (r * 6 + u).toInt = R * 6 + U := by
  have k6 : (6 : Int32).toInt = 6 := rfl
  have e1 : (r * 6).toInt = R * 6 := by rw [t_mul (by rw [k6]; omega) (by rw [k6]; omega), k6, er]
  rw [t_add (by omega) (by omega), e1, eu]
theorem kj_join (hq : kV q) {a0 n0 : Nat} (ka0 : kK a0 = .inr (.int, n0)) (ma0 : a0 ∈ (kf q).2.1) {a2 n2 : Nat} (ka2 : kK a2 = .inr (.int, n2)) (ma2 : a2 ∈ (kf q).2.1) (r s : Int32) {R S : Nat} (er : r.toInt = R) (es : s.toInt = S) (hR : R < 400) (hS : S < 400) (h0 : R * 6 + 6 ≤ n0) (h2 : S * 6 + 6 ≤ n2) (h : ∀ y, fm (fun c k => c = a0) x y → Fv y) : KT G q (d + 1) zk_X4_join 0 [(0, vr a0), (1, vi r), (2, vr a2), (3, vi s)] [] x (rv Fv) := by
  have k6 : (6 : Int32).toInt = 6 := rfl
  have loop : ∀ (n k : Nat) (i : Int32) (y : gd), i.toInt = k → (6 : Int) - k ≤ n → fm (fun c k => c = a0) x y → KT G q (d + 1) zk_X4_join 3 [(0, vr a0), (1, vi r), (2, vr a2), (3, vi s), (4, vi i)] [] y (rv Fv) := by
    intro n
    induction n with
    | zero =>
      intro k i y ei hn fy
      refine kg_X4_join_3 hq ka0 ma0 ka2 ma2 _ _ _ ⟨fun _ => rv_i (h y fy), fun c => ?_⟩
      exfalso; rw [t_le, k6] at c; omega
    | succ n ih =>
      intro k i y ei hn fy
      refine kg_X4_join_3 hq ka0 ma0 ka2 ma2 _ _ _ ⟨fun _ => rv_i (h y fy), fun c => ?_⟩
      rw [t_le, k6] at c
      have e1 : (i + 1).toInt = ((k + 1 : Nat) : Int) := by rw [t_add (by show _ ≤ _ + (1 : Int); omega) (by show _ + (1 : Int) ≤ _; omega), ei]; rfl
      have x1 := cl_ix er ei hR (by omega)
      have x2 := cl_ix es ei hS (by omega)
      have v1 : vp_in (r * 6 + i) n0 := by rw [vp_in_iff, x1]; omega
      exact ⟨v1, by rw [vp_in_iff, x2]; omega, fun r5 _ _ _ => ⟨v1, fun z ez => ih (k + 1) _ z e1 (by push_cast; omega) (by rw [ez]; exact fm_si fy rfl)⟩⟩
  exact kg_X4_join_0 hq ka0 ma0 ka2 ma2 _ _ (loop 6 0 _ x rfl (by omega) (fm_rf _ _))
theorem kj_takeOver (hq : kV q) (hJ : JN x) (a : Int32) {A : Nat} (ea : a.toInt = A) (hA : (A : Int) < (x.1 160 3).toInt) (hf : x.1 171 A = 0) (h : ∀ y, fm (fun c k => c = 173) x y → Fv y) : KT G q (d + 2) zk_X4_takeOver 0 [(0, vr 160), (1, vi a)] [] x (rv Fv) := by
  have b := hJ.1
  have eN : a.toNatClampNeg = A := by rw [t_cl, ea]; rfl
  have va : vp_in a 400 := by rw [vp_in_iff]; omega
  obtain ⟨j1, j2, j3⟩ := hJ.2.1 A hA
  obtain ⟨o1, o2, o3⟩ := j3 hf
  have eo : ∀ {m : Int}, (0 ≤ (x.1 168 A).toInt ∧ (x.1 168 A).toInt < m) → (x.1 168 A).toInt = (((x.1 168 A).toInt.toNat : Nat) : Int) := fun hh => by omega
  have fin : ∀ y, fm (fun c k => c = 173) x y → rv Fv none y := fun y fy => rv_i (h y fy)
  have x0 : rv Fv none x := rv_i (h x (fm_rf _ _))
  refine kg_X4_takeOver_0 hq _ ⟨va, va, ?_⟩
  rw [eN]
  refine ⟨fun c => ?_, fun c => ⟨va, ?_⟩, fun c => ?_, fun c => ?_, fun _ => x0⟩
  · have hh := o3 (Or.inr (by rw [c]; rfl))
    have v6 : vp_in (x.1 168 A) 6 := by rw [vp_in_iff]; omega
    refine ⟨v6, fun _ => x0, fun cn => ⟨v6, ?_⟩⟩
    have hl := hJ.2.2 (x.1 168 A).toInt.toNat (by omega)
    have eN2 : (x.1 168 A).toNatClampNeg = (x.1 168 A).toInt.toNat := rfl
    rw [eN2] at cn ⊢
    have hl2 : 0 ≤ (x.1 174 (x.1 168 A).toInt.toNat).toInt ∧ (x.1 174 (x.1 168 A).toInt.toNat).toInt < (x.1 160 3).toInt := by
      rcases hl with e | e
      · exact absurd e cn
      · exact e
    exact kj_join hq kk_173 (kl_173 hq) kk_173 (kl_173 hq) _ _ ea (show (x.1 174 (x.1 168 A).toInt.toNat).toInt = (((x.1 174 (x.1 168 A).toInt.toNat).toInt.toNat : Nat) : Int) by omega) (by omega) (by omega) (by omega) (by omega) (fun y fy => fin y fy)
  · have hh := o2 (Or.inr (by rw [c]; rfl))
    refine kj_join hq kk_173 (kl_173 hq) kk_178 (kl_178 hq) _ _ ea (show (x.1 166 A).toInt = (((x.1 166 A).toInt.toNat : Nat) : Int) by omega) (by omega) (by omega) (by omega) (by omega) (fun y fy => ?_)
    exact kj_join hq kk_173 (kl_173 hq) kk_176 (kl_176 hq) _ _ ea (eo hh) (by omega) (by omega) (by omega) (by omega) (fun z fz => fin z (fm_tr fy fz))
  · have hh := o2 (Or.inl (by rw [c]; decide))
    exact kj_join hq kk_173 (kl_173 hq) kk_176 (kl_176 hq) _ _ ea (eo hh) (by omega) (by omega) (by omega) (by omega) (fun z fz => fin z fz)
  · have hh := o1 (by rcases c with c | c | c | c <;> rw [c] <;> decide)
    exact ⟨by rw [vp_in_iff]; omega, fun _ => x0, fun _ => kj_join hq kk_173 (kl_173 hq) kk_177 (kl_177 hq) _ _ ea (eo hh) (by omega) (by omega) (by omega) (by omega) (fun z fz => fin z fz)⟩
theorem kj_handOn (hq : kV q) (hJ : JN x) (a w : Int32) {A : Nat} (ea : a.toInt = A) (hA : (A : Int) < (x.1 160 3).toInt) (hf : x.1 171 A = 0) (h : ∀ y, fm sCk x y → Fv y) : KT G q (d + 2) zk_X4_handOn 0 [(0, vr 160), (1, vi a), (2, vi w)] [] x (rv Fv) := by
  have b := hJ.1
  have k6 : (6 : Int32).toInt = 6 := rfl
  have eN : a.toNatClampNeg = A := by rw [t_cl, ea]; rfl
  have va : vp_in a 400 := by rw [vp_in_iff]; omega
  obtain ⟨j1, j2, j3⟩ := hJ.2.1 A hA
  obtain ⟨o1, o2, o3⟩ := j3 hf
  have eo : ∀ {m : Int}, (0 ≤ (x.1 168 A).toInt ∧ (x.1 168 A).toInt < m) → (x.1 168 A).toInt = (((x.1 168 A).toInt.toNat : Nat) : Int) := fun hh => by omega
  have x0 : rv Fv none x := rv_i (h x (fm_rf _ _))
  have loop : ∀ (n k : Nat) (i : Int32) (y : gd), i.toInt = k → (6 : Int) - k ≤ n → fm sCk x y → KT G q (d + 2) zk_X4_handOn 99 [(0, vr 160), (1, vi a), (2, vi w), (4, vi i)] [] y (rv Fv) := by
    intro n
    induction n with
    | zero =>
      intro k i y ei hn fy
      refine kg_X4_handOn_99 hq _ _ _ ⟨fun _ => rv_i (h y fy), fun c => ?_⟩
      exfalso; rw [t_le, k6] at c; omega
    | succ n ih =>
      intro k i y ei hn fy
      refine kg_X4_handOn_99 hq _ _ _ ⟨fun _ => rv_i (h y fy), fun c => ?_⟩
      rw [t_le, k6] at c
      have e1 : (i + 1).toInt = ((k + 1 : Nat) : Int) := by rw [t_add (by show _ ≤ _ + (1 : Int); omega) (by show _ + (1 : Int) ≤ _; omega), ei]; rfl
      exact ⟨fun _ => ih (k + 1) _ y e1 (by push_cast; omega) fy, fun _ => kj_join hq kk_178 (kl_178 hq) kk_173 (kl_173 hq) _ _ ei ea (by omega) (by omega) (by omega) (by omega) (fun z fz => ih (k + 1) _ z e1 (by push_cast; omega) (fm_tr fy (fm_w fz (fun c k q => by unfold sCk; omega))))⟩
  refine kg_X4_handOn_0 hq _ _ ⟨va, va, ?_⟩
  rw [eN]
  refine ⟨fun c => ?_, fun c => ?_, fun c => loop 6 0 _ x rfl (by omega) (fm_rf _ _), fun c => ?_, fun _ => x0⟩
  · have hh := o3 (Or.inl (by rw [c]; rfl))
    exact kj_join hq kk_175 (kl_175 hq) kk_173 (kl_173 hq) _ _ (eo hh) ea (by omega) (by omega) (by omega) (by omega) (fun z fz => rv_i (h z (fm_w fz (fun c k q => by unfold sCk; omega))))
  · have hh := o2 (Or.inl (by rcases c with c | c <;> rw [c] <;> decide))
    exact kj_join hq kk_176 (kl_176 hq) kk_173 (kl_173 hq) _ _ (eo hh) ea (by omega) (by omega) (by omega) (by omega) (fun z fz => rv_i (h z (fm_w fz (fun c k q => by unfold sCk; omega))))
  · have hh := o1 (by rcases c with c | c | c | c <;> rw [c] <;> decide)
    exact ⟨by rw [vp_in_iff]; omega, fun _ => x0, fun _ => kj_join hq kk_177 (kl_177 hq) kk_173 (kl_173 hq) _ _ (eo hh) ea (by omega) (by omega) (by omega) (by omega) (fun z fz => rv_i (h z (fm_w fz (fun c k q => by unfold sCk; omega))))⟩
theorem kj_setClock (hq : kV q) (hJ : JN x) (a : Int32) {A : Nat} (ea : a.toInt = A) (hA : (A : Int) < (x.1 160 3).toInt) (h : ∀ y, JN y → fm (fun c k => c = 173 ∨ c = 174) x y → Fv y) : KT G q (d + 3) zk_X4_setClock 0 [(0, vr 160), (1, vi a)] [] x (rv Fv) := by
  have b := hJ.1
  have k6 : (6 : Int32).toInt = 6 := rfl
  have eN : a.toNatClampNeg = A := by rw [t_cl, ea]; rfl
  have va : vp_in a 400 := by rw [vp_in_iff]; omega
  obtain ⟨j1, j2, j3⟩ := hJ.2.1 A hA
  have et : (x.1 166 A).toInt = (((x.1 166 A).toInt.toNat : Nat) : Int) := by omega
  have vt : vp_in (x.1 166 A) 6 := by rw [vp_in_iff]; omega
  have eT : (x.1 166 A).toNatClampNeg = (x.1 166 A).toInt.toNat := rfl
  have p91 : ∀ y, fm (fun c k => c = 173) x y → KT G q (d + 3) zk_X4_setClock 91 [(0, vr 160), (1, vi a), (2, vi (x.1 166 A))] [] y (rv Fv) := by
    intro y fy
    have x1 := cl_ix ea et (by omega) (by omega)
    have v1 : vp_in (a * 6 + x.1 166 A) 2400 := by rw [vp_in_iff, x1]; omega
    refine kg_X4_setClock_91 hq _ _ ⟨v1, v1, fun x3 e3 => ⟨vt, fun z ez => rv_i (h z ?_ ?_)⟩⟩
    · have f3 : fm (fun c k => c = 173) x x3 := by rw [e3]; exact fm_si fy rfl
      have g : ∀ c k, c ≠ 173 → c ≠ 174 → z.1 c k = x.1 c k := fun c k h1 h2 => by rw [ez, si_cell h2, f3 c k h1]
      unfold JN
      rw [g 160 3 (by decide) (by decide), g 160 2 (by decide) (by decide)]
      refine ⟨hJ.1, fun a ha => JA_eq (fun c k hc => g c k (by omega) (by omega)) (hJ.2.1 a ha), fun t ht => ?_⟩
      rw [eT] at ez
      by_cases h9 : t = (x.1 166 A).toInt.toNat
      · have : z.1 174 t = a := by rw [ez, h9]; (simp only [si_get, sfl_get, Nat.reduceEqDiff, eq_self, and_false, false_and, and_true, true_and, if_true, if_false, reduceIte, reduceCtorEq])
        rw [this]; exact Or.inr (by omega)
      · have : z.1 174 t = x.1 174 t := by rw [ez, si_get, if_neg (fun q => h9 q.2), f3 174 t (by omega)]
        rw [this]; exact hJ.2.2 t ht
    · rw [ez, e3]; exact fm_si (fm_si (fm_w fy (fun c k q => Or.inl q)) (Or.inl rfl)) (Or.inr rfl)
  have p77 : ∀ y, fm (fun c k => c = 173) x y → KT G q (d + 3) zk_X4_setClock 77 [(0, vr 160), (1, vi a), (2, vi (x.1 166 A))] [] y (rv Fv) := by
    intro y fy
    have hy : JN y := JN_ck (fm_w fy (fun c k q => by unfold sCk; omega)) hJ
    refine kg_X4_setClock_77 hq _ _ ⟨va, fun _ => p91 y fy, fun c => ?_⟩
    rw [eN] at c
    exact kj_takeOver hq hy _ ea (by rw [fy 160 3 (by decide)]; exact hA) c (fun z fz => p91 z (fm_tr fy fz))
  have loop : ∀ (n k : Nat) (i : Int32) (y : gd), i.toInt = k → (6 : Int) - k ≤ n → fm (fun c k => c = 173) x y → KT G q (d + 3) zk_X4_setClock 9 [(0, vr 160), (1, vi a), (2, vi (x.1 166 A)), (3, vi i)] [] y (rv Fv) := by
    have out : ∀ y, fm (fun c k => c = 173) x y → vp_in (x.1 166 A) 6 ∧ ((¬ ((y.1 174 (x.1 166 A).toNatClampNeg) = (-1 : Int32)) → vp_in (x.1 166 A) 6 ∧ KT G q (d + 2) zk_X4_join 0 [(0, vr 173), (1, vi a), (2, vr 173), (3, vi (y.1 174 (x.1 166 A).toNatClampNeg))] [] y (rv (fun x5 => KT G q (d + 3) zk_X4_setClock 77 [(0, vr 160), (1, vi a), (2, vi (x.1 166 A))] [] x5 (rv Fv)))) ∧ ((y.1 174 (x.1 166 A).toNatClampNeg) = (-1 : Int32) → KT G q (d + 2) zk_X4_join 0 [(0, vr 173), (1, vi a), (2, vr 175), (3, vi (x.1 166 A))] [] y (rv (fun x6 => KT G q (d + 3) zk_X4_setClock 77 [(0, vr 160), (1, vi a), (2, vi (x.1 166 A))] [] x6 (rv Fv))))) := by
      intro y fy
      refine ⟨vt, fun cn => ⟨vt, ?_⟩, fun _ => kj_join hq kk_173 (kl_173 hq) kk_175 (kl_175 hq) _ _ ea et (by omega) (by omega) (by omega) (by omega) (fun z fz => p77 z (fm_tr fy fz))⟩
      rw [eT, fy 174 _ (by omega)] at cn ⊢
      have hl2 : 0 ≤ (x.1 174 (x.1 166 A).toInt.toNat).toInt ∧ (x.1 174 (x.1 166 A).toInt.toNat).toInt < (x.1 160 3).toInt := by
        rcases hJ.2.2 (x.1 166 A).toInt.toNat (by omega) with e | e
        · exact absurd e cn
        · exact e
      exact kj_join hq kk_173 (kl_173 hq) kk_173 (kl_173 hq) _ _ ea (show (x.1 174 (x.1 166 A).toInt.toNat).toInt = (((x.1 174 (x.1 166 A).toInt.toNat).toInt.toNat : Nat) : Int) by omega) (by omega) (by omega) (by omega) (by omega) (fun z fz => p77 z (fm_tr fy fz))
    intro n
    induction n with
    | zero =>
      intro k i y ei hn fy
      refine kg_X4_setClock_9 hq _ _ _ ⟨fun _ => out y fy, fun c => ?_⟩
      exfalso; rw [t_le, k6] at c; omega
    | succ n ih =>
      intro k i y ei hn fy
      refine kg_X4_setClock_9 hq _ _ _ ⟨fun _ => out y fy, fun c => ?_⟩
      rw [t_le, k6] at c
      have e1 : (i + 1).toInt = ((k + 1 : Nat) : Int) := by rw [t_add (by show _ ≤ _ + (1 : Int); omega) (by show _ + (1 : Int) ≤ _; omega), ei]; rfl
      have x1 := cl_ix ea ei (by omega) (by omega)
      exact ⟨by rw [vp_in_iff, x1]; omega, fun z ez => ih (k + 1) _ z e1 (by push_cast; omega) (by rw [ez]; exact fm_si fy rfl)⟩
  refine kg_X4_setClock_0 hq _ ⟨va, ?_⟩
  rw [eN]
  exact loop 6 0 _ x rfl (by omega) (fm_rf _ _)
theorem kj_mayRace (hq : kV q) (hJ : JN x) (a : Int32) {A : Nat} (ea : a.toInt = A) (hA : (A : Int) < (x.1 160 3).toInt) (h : ∀ r : Int32, F r x) : KT G q d zk_X4_mayRace 0 [(0, vr 160), (1, vi a)] [] x (ri F) := by
  have b := hJ.1
  have k4 : (4 : Int32).toInt = 4 := rfl
  have eN : a.toNatClampNeg = A := by rw [t_cl, ea]; rfl
  have va : vp_in a 400 := by rw [vp_in_iff]; omega
  obtain ⟨j1, j2, j3⟩ := hJ.2.1 A hA
  refine kg_X4_mayRace_0 hq _ ⟨va, fun _ => ri_i (h _), fun c4 => ⟨va, fun _ => ri_i (h _), fun cf => ⟨va, ?_, fun _ => ri_i (h _), fun _ => ri_i (h _)⟩⟩⟩
  rw [eN] at c4 cf ⊢
  rw [t_lt, k4] at c4
  have := (j3 cf).1 (by omega)
  rw [vp_in_iff]; omega
theorem kj_isBefore (hq : kV q) (hJ : JN x) (a b : Int32) {A B : Nat} (ea : a.toInt = A) (hA : (A : Int) < (x.1 160 3).toInt) (eb : b.toInt = B) (hB : (B : Int) < (x.1 160 3).toInt) (h : ∀ r : Int32, gbool r → F r x) : KT G q d zk_X4_isBefore 0 [(0, vr 160), (1, vi a), (2, vi b)] [] x (ri F) := by
  have b0 := hJ.1
  have eN : a.toNatClampNeg = A := by rw [t_cl, ea]; rfl
  have va : vp_in a 400 := by rw [vp_in_iff]; omega
  obtain ⟨j1, j2, j3⟩ := hJ.2.1 A hA
  have et : (x.1 166 A).toInt = (((x.1 166 A).toInt.toNat : Nat) : Int) := by omega
  refine kg_X4_isBefore_0 hq _ _ ⟨va, ?_⟩
  rw [eN]
  have x1 := cl_ix ea et (by omega) (by omega)
  have x2 := cl_ix eb et (by omega) (by omega)
  exact ⟨fun _ => ri_i (h _ gbool_0), fun _ => ⟨by rw [vp_in_iff, x2]; omega, by rw [vp_in_iff, x1]; omega, fun _ => ri_i (h _ gbool_0), fun _ => ri_i (h _ gbool_1)⟩⟩
theorem kj_sortsRace (hq : kV q) (a b : Int32) (h : ∀ r : Int32, gbool r → F r x) : KT G q d zk_X4_sortsRace 0 [(0, vi a), (1, vi b)] [] x (ri F) := by
  have p29 : ∀ s u : Int32, KT G q d zk_X4_sortsRace 29 [(2, vi s)] [vi u] x (ri F) := fun s u => kg_X4_sortsRace_29 hq _ _ ⟨fun _ => ri_i (h _ gbool_0), fun _ => ⟨fun _ => ri_i (h _ gbool_0), fun _ => ri_i (h _ gbool_1)⟩⟩
  have p13 : ∀ s : Int32, KT G q d zk_X4_sortsRace 13 [(0, vi a), (1, vi b)] [vi s] x (ri F) := fun s => kg_X4_sortsRace_13 hq _ _ _ ⟨fun _ => p29 _ _, fun _ => ⟨fun _ => p29 _ _, fun _ => p29 _ _⟩⟩
  exact kg_X4_sortsRace_0 hq _ _ ⟨fun _ => p13 _, fun _ => ⟨fun _ => p13 _, fun _ => p13 _⟩⟩
theorem kj_isRace (hq : kV q) (hJ : JN x) (a b : Int32) {A B : Nat} (ea : a.toInt = A) (hA : (A : Int) < (x.1 160 3).toInt) (eb : b.toInt = B) (hB : (B : Int) < (x.1 160 3).toInt) (h : ∀ r : Int32, F r x) : KT G q (d + 1) zk_X4_isRace 0 [(0, vr 160), (1, vi a), (2, vi b)] [] x (ri F) := by
  have b0 := hJ.1
  have va : vp_in a 400 := by rw [vp_in_iff]; omega
  have vb : vp_in b 400 := by rw [vp_in_iff]; omega
  exact kg_X4_isRace_0 hq _ _ ⟨va, vb, fun _ => ri_i (h _), fun _ => ⟨va, vb, fun _ => ri_i (h _), fun _ => kj_mayRace hq hJ _ ea hA (fun r => ⟨fun _ => ri_i (h _), fun _ => ⟨va, vb, kj_sortsRace hq _ _ (fun r _ => ⟨fun _ => ri_i (h _), fun _ => kj_isBefore hq hJ _ _ ea hA eb hB (fun r _ => ⟨fun _ => ri_i (h _), fun _ => ri_i (h _)⟩)⟩)⟩⟩)⟩⟩
theorem kj_racesOf (hq : kV q) (hJ : JN x) (b : Int32) {B : Nat} (eb : b.toInt = B) (hB : (B : Int) < (x.1 160 3).toInt) (h : ∀ r : Int32, F r x) : KT G q (d + 2) zk_X4_racesOf 0 [(0, vr 160), (1, vi b)] [] x (ri F) := by
  have b0 := hJ.1
  have loop : ∀ (n k : Nat) (m i : Int32), i.toInt = k → (B : Int) - k ≤ n → KT G q (d + 2) zk_X4_racesOf 14 [(0, vr 160), (1, vi b), (2, vi m), (3, vi i)] [] x (ri F) := by
    intro n
    induction n with
    | zero =>
      intro k m i ei hn
      refine kg_X4_racesOf_14 hq _ _ _ ⟨fun _ => ri_i (h _), fun c => ?_⟩
      exfalso; rw [t_le] at c; omega
    | succ n ih =>
      intro k m i ei hn
      refine kg_X4_racesOf_14 hq _ _ _ ⟨fun _ => ri_i (h _), fun c => ?_⟩
      rw [t_le] at c
      have e1 : (i + 1).toInt = ((k + 1 : Nat) : Int) := by rw [t_add (by show _ ≤ _ + (1 : Int); omega) (by show _ + (1 : Int) ≤ _; omega), ei]; rfl
      exact kj_isRace hq hJ _ _ ei (by omega) eb hB (fun r => ⟨fun _ => ih (k + 1) _ _ e1 (by push_cast; omega), fun _ => ih (k + 1) _ _ e1 (by push_cast; omega)⟩)
  exact kg_X4_racesOf_0 hq _ (kj_mayRace hq hJ _ eb hB (fun r => ⟨fun _ => loop 400 0 _ _ rfl (by omega), fun _ => ri_i (h _)⟩))
theorem kj_races (hq : kV q) (hJ : JN x) (h : ∀ r : Int32, F r x) : KT G q d zk_X4_races 0 [(0, vr 160)] [] x (ri F) := by
  have b0 := hJ.1
  have k1 : (1 : Int32).toInt = 1 := rfl
  have k0 : (0 : Int32).toInt = 0 := rfl
  refine kg_X4_races_0 hq ⟨fun c => ⟨?_, ri_i (h _)⟩, fun _ => ri_i (h _)⟩
  rw [t_eq, k0] at c
  rw [vp_in_iff, t_sub (by rw [k1]; omega) (by rw [k1]; omega), k1]; omega
theorem kj_laterOfRace (hq : kV q) (hJ : JN x) (i : Int32) (h : ∀ r : Int32, (r = -1 ∨ (0 ≤ r.toInt ∧ r.toInt < (x.1 160 3).toInt)) → F r x) : KT G q d zk_X4_laterOfRace 0 [(0, vr 160), (1, vi i)] [] x (ri F) := by
  have b0 := hJ.1
  have loop : ∀ (n : Nat) (k : Int32), 0 ≤ k.toInt → (x.1 160 3).toInt - k.toInt ≤ n → KT G q d zk_X4_laterOfRace 2 [(0, vr 160), (1, vi i), (2, vi k)] [] x (ri F) := by
    intro n
    induction n with
    | zero =>
      intro k hk hn
      refine kg_X4_laterOfRace_2 hq _ _ ⟨fun _ => ri_i (h _ (Or.inl rfl)), fun c => ?_⟩
      exfalso; rw [t_le] at c; omega
    | succ n ih =>
      intro k hk hn
      refine kg_X4_laterOfRace_2 hq _ _ ⟨fun _ => ri_i (h _ (Or.inl rfl)), fun c => ?_⟩
      rw [t_le] at c
      have e1 : (k + 1).toInt = k.toInt + 1 := t_add (by show _ ≤ _ + (1 : Int); omega) (by show _ + (1 : Int) ≤ _; omega)
      exact ⟨by rw [vp_in_iff]; omega, fun _ => ih _ (by omega) (by omega), fun _ => ri_i (h _ (Or.inr ⟨hk, by omega⟩))⟩
  exact kg_X4_laterOfRace_0 hq _ (loop 400 _ (by decide) (by show _ - (0 : Int) ≤ _; omega))
theorem kj_earlierOfRace (hq : kV q) (hJ : JN x) (i b : Int32) (hb : b = -1 ∨ (0 ≤ b.toInt ∧ b.toInt < (x.1 160 3).toInt)) (h : ∀ r : Int32, F r x) : KT G q (d + 2) zk_X4_earlierOfRace 0 [(0, vr 160), (1, vi i), (2, vi b)] [] x (ri F) := by
  have b0 := hJ.1
  have k1 : (1 : Int32).toInt = 1 := rfl
  have k0 : (0 : Int32).toInt = 0 := rfl
  have hbb : -1 ≤ b.toInt ∧ b.toInt < 400 := by
    rcases hb with e | e
    · rw [e]; decide
    · omega
  have loop : ∀ (n k : Nat) (m i : Int32), i.toInt = k → b.toInt - k ≤ n → KT G q (d + 2) zk_X4_earlierOfRace 22 [(0, vr 160), (2, vi b), (3, vi m), (4, vi i)] [] x (ri F) := by
    intro n
    induction n with
    | zero =>
      intro k m i ei hn
      refine kg_X4_earlierOfRace_22 hq _ _ _ ⟨fun _ => ri_i (h _), fun c => ?_⟩
      exfalso; rw [t_le] at c; omega
    | succ n ih =>
      intro k m i ei hn
      refine kg_X4_earlierOfRace_22 hq _ _ _ ⟨fun _ => ri_i (h _), fun c => ?_⟩
      rw [t_le] at c
      have hb2 : 0 ≤ b.toInt ∧ b.toInt < (x.1 160 3).toInt := by
        rcases hb with e | e
        · rw [e, tm1] at c; omega
        · exact e
      have e1 : (i + 1).toInt = ((k + 1 : Nat) : Int) := by rw [t_add (by rw [k1]; omega) (by rw [k1]; omega), ei]; rfl
      exact kj_isRace hq hJ _ _ ei (by omega) (show b.toInt = ((b.toInt.toNat : Nat) : Int) by omega) (by omega) (fun r => ⟨fun _ => ih (k + 1) _ _ e1 (by push_cast; omega), fun _ => ⟨fun _ => ih (k + 1) _ _ e1 (by push_cast; omega), fun _ => ri_i (h _)⟩⟩)
  refine kg_X4_earlierOfRace_0 hq _ _ ⟨fun _ => loop 400 0 _ _ rfl (by omega), fun c => ⟨?_, loop 400 0 _ _ rfl (by omega)⟩⟩
  rw [t_le, k0] at c
  rw [vp_in_iff, t_sub (by rw [k1]; omega) (by rw [k1]; omega), k1]; omega
end KJO
end
section
/-! the class: histories -/
theorem hh_in : ∀ k, k < 13 → 300 + k ∈ klH := by decide
theorem hh_k {k : Nat} (h : k < 13) : kK (300 + k) = .inr (.int, 14) := by
  unfold kK; rw [if_neg (by omega), if_pos (by omega)]
theorem hh_r {q : kP} {k : Nat} (h : k < 13) : (kf q).1 190 k = some (300 + k) := by
  show kR q 190 k = _
  unfold kR
  rw [if_neg (by omega), if_neg (by omega), if_neg (by omega), if_neg (by omega), if_neg (by omega), if_neg (by omega), if_neg (by omega), if_pos rfl, if_pos h]
theorem hh_m {q : kP} (hq : kV q) (hh : q.hi = true) {k : Nat} (h : k < 13) : 300 + k ∈ (kf q).2.1 := hq.2.1 hh _ (hh_in k h)
theorem tn0 : (0 : Int32).toNatClampNeg = 0 := rfl
theorem vin0 {n : Nat} (h : 0 < n) : vp_in (0 : Int32) n := by rw [vp_in_iff]; have : (0 : Int32).toInt = 0 := rfl; omega
section KHI
variable {G : kG} {q : kP} {d : Nat} {x x0 y z : gd} {F : Int32 → gd → Prop} {Fv : gd → Prop}
/-- what a history may change -/
def sHi (c k : Nat) : Prop := (180 ≤ c ∧ c ≤ 199) ∨ (300 ≤ c ∧ c ≤ 312)
theorem scp_get {x : gd} {a b sp dp n c k : Nat} : (scp x a b sp dp n).1 c k = if c = b ∧ dp ≤ k ∧ k < dp + n then x.1 a (sp + (k - dp)) else x.1 c k := by
  show (if c = b then va_cpy (x.1 a) (x.1 b) sp dp n else x.1 c) k = _
  by_cases h : c = b
  · subst h
    rw [if_pos rfl]
    show (if dp ≤ k ∧ k < dp + n then _ else _) = _
    by_cases h2 : dp ≤ k ∧ k < dp + n
    · rw [if_pos h2, if_pos ⟨rfl, h2⟩]
    · rw [if_neg h2, if_neg (fun q => h2 q.2)]
  · rw [if_neg h, if_neg (fun q => h q.1)]
/-- what the search below a depth may change -/
def sHs (D c k : Nat) : Prop := 300 + D < c ∧ c ≤ 312
def sHl (c k : Nat) : Prop := (c = 180 ∧ 10 ≤ k ∧ k ≤ 12) ∨ (300 ≤ c ∧ c ≤ 312)
end KHI
end
section
/-! the class: what a trying has told -/
def oN (q : kP) (o : Nat) : Nat := if o = 260 then q.o0 else q.o1
/-- outcomes: their rows are there, their order is one of them -/
def TO (x : gd) (q : kP) (o : Nat) : Prop := (0 ≤ (x.1 o 3).toInt ∧ (x.1 o 3).toInt ≤ oN q o ∧ oN q o ≤ 3000) ∧ ∀ i : Nat, (i : Int) < (x.1 o 3).toInt → 0 ≤ (x.1 (o + 14) i).toInt ∧ (x.1 (o + 14) i).toInt < (x.1 o 3).toInt
/-- states: the first of each finding, where each comes from -/
def TZ (x : gd) (o : Nat) : Prop := (0 ≤ (x.1 o 0).toInt ∧ (x.1 o 0).toInt ≤ 3000) ∧ (∀ f : Nat, f < 11 → x.1 (o + 7) f = -1 ∨ (0 ≤ (x.1 (o + 7) f).toInt ∧ (x.1 (o + 7) f).toInt < (x.1 o 0).toInt)) ∧ ∀ s : Nat, (s : Int) < (x.1 o 0).toInt → (0 ≤ (x.1 (o + 12) s).toInt ∧ (x.1 (o + 12) s).toInt ≤ s) ∧ ((x.1 (o + 12) s).toInt = 0 ∨ (0 ≤ (x.1 (o + 10) s).toInt ∧ (x.1 (o + 10) s).toInt < s ∧ (x.1 (o + 12) s).toInt = (x.1 (o + 12) (x.1 (o + 10) s).toInt.toNat).toInt + 1))
def sTr (o c k : Nat) : Prop := o ≤ c ∧ c ≤ o + 14
theorem tr_row {q : kP} {o i : Nat} (hq : kV q) (ho : kiT q o) (hi : i < oN q o) : ∃ c, (kf q).1 (o + 13) i = some c ∧ kK c = .inr (.int, 24) ∧ c ∈ (kf q).2.1 ∧ 4000 ≤ c := by
  rcases ho with ⟨rfl, h⟩ | ⟨rfl, h⟩
  · have hi : i < q.o0 := hi
    refine ⟨4000 + i, ?_, ?_, hq.2.2.2.2.2.2.1 i hi, by omega⟩
    · show kR q 273 i = _
      unfold kR
      rw [if_neg (by omega), if_neg (by omega), if_neg (by omega), if_neg (by omega), if_neg (by omega), if_pos rfl, if_pos hi]
    · unfold kK; rw [if_neg (by omega), if_neg (by omega), if_neg (by omega)]
  · have hi : i < q.o1 := hi
    refine ⟨7000 + i, ?_, ?_, hq.2.2.2.2.2.2.2 i hi, by omega⟩
    · show kR q 293 i = _
      unfold kR
      rw [if_neg (by omega), if_neg (by omega), if_neg (by omega), if_neg (by omega), if_neg (by omega), if_neg (by omega), if_pos rfl, if_pos hi]
    · unfold kK; rw [if_neg (by omega), if_neg (by omega), if_neg (by omega)]
theorem TO_fm {x y : gd} {q : kP} {o : Nat} {S : Nat → Nat → Prop} (f : fm S x y) (h1 : ¬ S o 3) (h2 : ∀ k, ¬ S (o + 14) k) (h : TO x q o) : TO y q o := by
  unfold TO at h ⊢
  rw [f o 3 h1]
  refine ⟨h.1, fun i hi => ?_⟩
  rw [f (o + 14) i (h2 i)]; exact h.2 i hi
theorem TZ_fm {x y : gd} {o : Nat} {S : Nat → Nat → Prop} (f : fm S x y) (h1 : ¬ S o 0) (h2 : ∀ c k, c = o + 7 ∨ c = o + 10 ∨ c = o + 12 → ¬ S c k) (h : TZ x o) : TZ y o := by
  unfold TZ at h ⊢
  rw [f o 0 h1]
  refine ⟨h.1, fun g hg => ?_, fun s hs => ?_⟩
  · rw [f (o + 7) g (h2 _ _ (by omega))]; exact h.2.1 g hg
  · rw [f (o + 12) s (h2 _ _ (by omega)), f (o + 10) s (h2 _ _ (by omega)), f (o + 12) _ (h2 _ _ (by omega))]; exact h.2.2 s hs
section KTR
variable {G : kG} {q : kP} {d o : Nat} {x x0 y z : gd} {F : Int32 → gd → Prop} {Fv : gd → Prop}
theorem kt_clear (hq : kV q) (ho : kiT q o) (hN : oN q o ≤ 3000) (l : Int32) (h : ∀ y, fm (sTr o) x y → y.1 o 0 = 0 → y.1 o 3 = 0 → y.1 o 1 = 0 → TZ y o → TO y q o → Fv y) : KT G q (d + 1) zk_X10_clear 0 [(0, vr o), (1, vi l)] [] x (rv Fv) := by
  have k0 : (0 : Int32).toInt = 0 := rfl
  refine kg_X10_clear_0 hq ho _ (fun x1 e1 x2 e2 x3 e3 x4 e4 x5 e5 x6 e6 x7 e7 x8 e8 z ez => ?_)
  have c0 : ∀ k, k < 6 → z.1 o k = 0 := by
    intro k hk
    have g : z.1 o k = x6.1 o k := by rw [ez, sfl_get, if_neg (by omega), e8, sfl_get, if_neg (by omega), e7, sfl_get, if_neg (by omega)]
    rw [g, e6, si_get]
    split
    · rfl
    rw [e5, si_get]
    split
    · rfl
    rw [e4, si_get]
    split
    · rfl
    rw [e3, si_get]
    split
    · rfl
    rw [e2, si_get]
    split
    · rfl
    rw [e1, si_get]
    split
    · rfl
    omega
  have z0 := c0 0 (by omega)
  have z3 := c0 3 (by omega)
  refine rv_i (h z ?_ z0 z3 (c0 1 (by omega)) ?_ ?_)
  · rw [ez, e8, e7, e6, e5, e4, e3, e2, e1]
    refine fm_fl (fm_fl (fm_fl (fm_si (fm_si (fm_si (fm_si (fm_si (fm_si (fm_rf _ _) ?_) ?_) ?_) ?_) ?_) ?_) ?_) ?_) ?_ <;> (try intro k _) <;> unfold sTr <;> omega
  · unfold TZ; rw [z0, k0]
    refine ⟨by omega, fun g hg => Or.inl ?_, fun s hs => by omega⟩
    rw [ez, sfl_get, if_neg (by omega), e8, sfl_get, if_neg (by omega), e7, sfl_get, if_pos ⟨rfl, hg⟩]
  · unfold TO; rw [z3, k0]
    exact ⟨by omega, fun i hi => by omega⟩
theorem kt_addTake (hq : kV q) (ho : kiT q o) (a b : Int32) (h : ∀ y, fm (fun c k => c = o + 9) x y → Fv y) : KT G q d zk_X10_addTake 0 [(0, vr o), (1, vi a), (2, vi b)] [] x (rv Fv) := by
  have k6 : (6 : Int32).toInt = 6 := rfl
  have loop : ∀ (n k : Nat) (i : Int32) (y : gd), i.toInt = k → (6 : Int) - k ≤ n → fm (fun c k => c = o + 9) x y → KT G q d zk_X10_addTake 2 [(0, vr o), (1, vi a), (2, vi b), (3, vi i)] [] y (rv Fv) := by
    intro n
    induction n with
    | zero =>
      intro k i y ei hn fy
      refine kg_X10_addTake_2 hq ho _ _ _ ⟨fun _ => rv_i (h y fy), fun c => ?_⟩
      rw [t_le, k6] at c; omega
    | succ n ih =>
      intro k i y ei hn fy
      refine kg_X10_addTake_2 hq ho _ _ _ ⟨fun _ => rv_i (h y fy), fun c => ?_⟩
      rw [t_le, k6] at c
      have e1 : (i + 1).toInt = ((k + 1 : Nat) : Int) := by rw [t_add (by show _ ≤ _ + (1 : Int); omega) (by show _ + (1 : Int) ≤ _; omega), ei]; rfl
      have v6 : vp_in i 6 := by rw [vp_in_iff]; omega
      have go : ∀ z, fm (fun c k => c = o + 9) x z → KT G q d zk_X10_addTake 2 [(0, vr o), (1, vi a), (2, vi b), (3, vi (i + 1))] [] z (rv Fv) := fun z fz => ih (k + 1) _ z e1 (by push_cast; omega) fz
      exact ⟨fun _ => go y fy, fun _ => ⟨fun _ => go y fy, fun _ => ⟨v6, v6, fun z ez => go z (by rw [ez]; exact fm_si fy rfl)⟩⟩⟩
  exact kg_X10_addTake_0 hq ho _ _ (loop 6 0 _ x rfl (by omega) (fm_rf _ _))
theorem kt_ringFrom (hq : kV q) (ho : kiT q o) (a : Int32) (h : ∀ r, F r x) : KT G q d zk_X10_ringFrom 0 [(0, vr o), (1, vi a)] [] x (ri F) := by
  have k6 : (6 : Int32).toInt = 6 := rfl
  have outer : ∀ (m j : Nat) (l2 l3 : Int32), l3.toInt = j → (7 : Int) - j ≤ m → KT G q d zk_X10_ringFrom 6 [(0, vr o), (1, vi a), (2, vi l2), (3, vi l3)] [] x (ri F) := by
    intro m
    induction m with
    | zero =>
      intro j l2 l3 ej hm
      refine kg_X10_ringFrom_6 hq ho _ _ _ ⟨fun _ => ri_i (h _), fun c => ?_⟩
      rw [t_lt, k6] at c; omega
    | succ m ih =>
      intro j l2 l3 ej hm
      refine kg_X10_ringFrom_6 hq ho _ _ _ ⟨fun _ => ri_i (h _), fun c => ?_⟩
      rw [t_lt, k6] at c
      have e1 : (l3 + 1).toInt = ((j + 1 : Nat) : Int) := by rw [t_add (by show _ ≤ _ + (1 : Int); omega) (by show _ + (1 : Int) ≤ _; omega), ej]; rfl
      have loop : ∀ (n k : Nat) (i l4 : Int32), i.toInt = k → (6 : Int) - k ≤ n → KT G q d zk_X10_ringFrom 18 [(0, vr o), (1, vi a), (2, vi l2), (3, vi l3), (4, vi l4), (5, vi i)] [] x (ri F) := by
        intro n
        induction n with
        | zero =>
          intro k i l4 ei hn
          refine kg_X10_ringFrom_18 hq ho _ _ _ _ _ ⟨fun _ => ⟨fun _ => ih (j + 1) _ _ e1 (by push_cast; omega), fun _ => ri_i (h _)⟩, fun c => ?_⟩
          rw [t_le, k6] at c; omega
        | succ n ihn =>
          intro k i l4 ei hn
          refine kg_X10_ringFrom_18 hq ho _ _ _ _ _ ⟨fun _ => ⟨fun _ => ih (j + 1) _ _ e1 (by push_cast; omega), fun _ => ri_i (h _)⟩, fun c => ?_⟩
          rw [t_le, k6] at c
          have ei1 : (i + 1).toInt = ((k + 1 : Nat) : Int) := by rw [t_add (by show _ ≤ _ + (1 : Int); omega) (by show _ + (1 : Int) ≤ _; omega), ei]; rfl
          exact ⟨fun _ => ihn (k + 1) _ _ ei1 (by push_cast; omega), fun _ => ⟨by rw [vp_in_iff]; omega, ihn (k + 1) _ _ ei1 (by push_cast; omega)⟩⟩
      exact loop 6 0 _ _ rfl (by omega)
  exact kg_X10_ringFrom_0 hq ho _ (outer 7 1 _ _ rfl (by omega))
theorem kt_ring (hq : kV q) (ho : kiT q o) (h : ∀ r, F r x) : KT G q (d + 1) zk_X10_shortestRing 0 [(0, vr o)] [] x (ri F) := by
  have k6 : (6 : Int32).toInt = 6 := rfl
  have loop : ∀ (n k : Nat) (i l1 : Int32), i.toInt = k → (6 : Int) - k ≤ n → KT G q (d + 1) zk_X10_shortestRing 4 [(0, vr o), (1, vi l1), (2, vi i)] [] x (ri F) := by
    intro n
    induction n with
    | zero =>
      intro k i l1 ei hn
      refine kg_X10_shortestRing_4 hq ho _ _ ⟨fun _ => ri_i (h _), fun c => ?_⟩
      rw [t_le, k6] at c; omega
    | succ n ih =>
      intro k i l1 ei hn
      refine kg_X10_shortestRing_4 hq ho _ _ ⟨fun _ => ri_i (h _), fun c => ?_⟩
      rw [t_le, k6] at c
      have ei1 : (i + 1).toInt = ((k + 1 : Nat) : Int) := by rw [t_add (by show _ ≤ _ + (1 : Int); omega) (by show _ + (1 : Int) ≤ _; omega), ei]; rfl
      have go : ∀ l, KT G q (d + 1) zk_X10_shortestRing 4 [(0, vr o), (1, vi l), (2, vi (i + 1))] [] x (ri F) := fun l => ih (k + 1) _ _ ei1 (by push_cast; omega)
      exact kt_ringFrom hq ho _ (fun r => ⟨fun _ => go _, fun _ => ⟨fun _ => go _, fun _ => ⟨fun _ => go _, fun _ => go _⟩⟩⟩)
  exact kg_X10_shortestRing_0 hq ho (loop 6 0 _ _ rfl (by omega))
theorem kt_valueOf (hq : kV q) (ho : kiT q o) (i c : Int32) (hT : TO x q o) (hi : 0 ≤ i.toInt ∧ i.toInt < (x.1 o 3).toInt) (hc : 0 ≤ c.toInt ∧ c.toInt < 24) (h : ∀ r, F r x) : KT G q d zk_X10_valueOf 0 [(0, vr o), (1, vi i), (2, vi c)] [] x (ri F) := by
  obtain ⟨⟨b0, b1, b2⟩, hO⟩ := hT
  have eI : i.toNatClampNeg = i.toInt.toNat := rfl
  obtain ⟨o0, o1⟩ := hO i.toInt.toNat (by omega)
  refine kg_X10_valueOf_0 hq ho _ _ ⟨by rw [vp_in_iff]; omega, ?_⟩
  rw [eI]
  refine ⟨by rw [vp_in_iff]; omega, fun u3 e3 => ?_⟩
  have eO : (x.1 (o + 14) i.toInt.toNat).toNatClampNeg = (x.1 (o + 14) i.toInt.toNat).toInt.toNat := rfl
  obtain ⟨c4, r1, r2, r3, -⟩ := tr_row (i := (x.1 (o + 14) i.toInt.toNat).toInt.toNat) hq ho (by omega)
  rw [eO, r1] at e3
  exact ⟨c4, e3, r2, r3, by rw [vp_in_iff]; omega, ri_i (h _)⟩
theorem kt_order (hq : kV q) (ho : kiT q o) {a b na nb : Nat} (ka : kK a = .inr (.int, na)) (ma : a ∈ (kf q).2.1) (kb : kK b = .inr (.int, nb)) (mb : b ∈ (kf q).2.1) (n : Int32) (hna : n.toInt ≤ na) (hnb : n.toInt ≤ nb) (h24 : n.toInt ≤ 24) (h : ∀ r, F r x) : KT G q d zk_X10_order 0 [(0, vr a), (1, vr b), (2, vi n)] [] x (ri F) := by
  have loop : ∀ (m k : Nat) (i : Int32), i.toInt = k → n.toInt - k ≤ m → KT G q d zk_X10_order 2 [(0, vr a), (1, vr b), (2, vi n), (3, vi i)] [] x (ri F) := by
    intro m
    induction m with
    | zero =>
      intro k i ei hn
      refine kg_X10_order_2 hq ho ka ma kb mb _ _ ⟨fun _ => ri_i (h _), fun c => ?_⟩
      rw [t_le] at c; omega
    | succ m ih =>
      intro k i ei hn
      refine kg_X10_order_2 hq ho ka ma kb mb _ _ ⟨fun _ => ri_i (h _), fun c => ?_⟩
      rw [t_le] at c
      have ei1 : (i + 1).toInt = ((k + 1 : Nat) : Int) := by rw [t_add (by show _ ≤ _ + (1 : Int); omega) (by show _ + (1 : Int) ≤ _; omega), ei]; rfl
      have va : vp_in i na := by rw [vp_in_iff]; omega
      have vb : vp_in i nb := by rw [vp_in_iff]; omega
      exact ⟨va, vb, fun _ => ih (k + 1) _ ei1 (by push_cast; omega), fun _ => ⟨va, vb, fun _ => ri_i (h _), fun _ => ri_i (h _)⟩⟩
  exact kg_X10_order_0 hq ho ka ma kb mb _ (loop 24 0 _ rfl (by omega))
theorem kt_same (hq : kV q) (ho : kiT q o) {p : Nat} (hp : kiT q p) (n : Int32) (h24 : n.toInt ≤ 24) (hT : TO x q o) (hU : TO x q p) (h : ∀ r, gbool r → F r x) : KT G q (d + 1) zk_X10_sameOutcomes 0 [(0, vr o), (1, vr p), (2, vi n)] [] x (ri F) := by
  obtain ⟨⟨b0, b1, b2⟩, hO⟩ := hT
  obtain ⟨⟨c0, c1, c2⟩, hO2⟩ := hU
  refine kg_X10_sameOutcomes_0 hq ho hp _ ⟨fun eq => ?_, fun _ => ri_i (h _ gbool_0)⟩
  rw [t_eq] at eq
  have loop : ∀ (m k : Nat) (i : Int32), i.toInt = k → (x.1 o 3).toInt - k ≤ m → KT G q (d + 1) zk_X10_sameOutcomes 15 [(0, vr o), (1, vr p), (2, vi n), (3, vi i)] [] x (ri F) := by
    intro m
    induction m with
    | zero =>
      intro k i ei hn
      refine kg_X10_sameOutcomes_15 hq ho hp _ _ ⟨fun _ => ri_i (h _ gbool_1), fun c => ?_⟩
      rw [t_le] at c; omega
    | succ m ih =>
      intro k i ei hn
      refine kg_X10_sameOutcomes_15 hq ho hp _ _ ⟨fun _ => ri_i (h _ gbool_1), fun c => ?_⟩
      rw [t_le] at c
      have ei1 : (i + 1).toInt = ((k + 1 : Nat) : Int) := by rw [t_add (by show _ ≤ _ + (1 : Int); omega) (by show _ + (1 : Int) ≤ _; omega), ei]; rfl
      have v1 : vp_in i 3000 := by rw [vp_in_iff]; omega
      have eI : i.toNatClampNeg = k := by rw [t_cl, ei]; rfl
      obtain ⟨o0, o1⟩ := hO k (by omega)
      obtain ⟨p0, p1⟩ := hO2 k (by omega)
      rw [eI]
      refine ⟨v1, by rw [vp_in_iff]; omega, fun u4 e4 => ⟨v1, by rw [vp_in_iff]; omega, fun u7 e7 => ?_⟩⟩
      have eO : ∀ w : Nat, (x.1 w k).toNatClampNeg = (x.1 w k).toInt.toNat := fun w => rfl
      obtain ⟨r, r1, r2, r3, -⟩ := tr_row (i := (x.1 (o + 14) k).toInt.toNat) hq ho (by omega)
      obtain ⟨s, s1, s2, s3, -⟩ := tr_row (i := (x.1 (p + 14) k).toInt.toNat) hq hp (by omega)
      rw [eO, r1] at e4
      rw [eO, s1] at e7
      exact ⟨r, e4, r2, r3, s, e7, s2, s3, kt_order hq ho r2 r3 s2 s3 _ h24 h24 h24 (fun r9 => ⟨fun _ => ih (k + 1) _ ei1 (by push_cast; omega), fun _ => ri_i (h _ gbool_0)⟩)⟩
  exact loop 3000 0 _ rfl (by omega)
end KTR
end
section
/-! the class: all that a program can do -/
theorem t_and8 (a : Int32) : 0 ≤ (a &&& 8191).toInt ∧ (a &&& 8191).toInt < 8192 := by
  have h : (a &&& 8191).toBitVec.toNat ≤ 8191 := by
    rw [Int32.toBitVec_and, BitVec.toNat_and]
    exact Nat.and_le_right
  have e : (a &&& 8191).toInt = ((a &&& 8191).toBitVec.toNat : Int) := by
    show (a &&& 8191).toBitVec.toInt = _
    exact BitVec.toInt_eq_toNat_of_lt (by omega)
  omega
/-- the code is alike -/
def agC (x y : gd) : Prop := ∀ c k, (60 ≤ c ∧ c < 90 ∧ ¬ (c = 60 ∧ k = 5) ∧ c ≠ 65) → y.1 c k = x.1 c k
def agM (o : Nat) (x y : gd) : Prop := ∀ k, 3 ≤ k → k ≤ 9 → y.1 o k = x.1 o k
section KEX
variable {G : kG} {q : kP} {d : Nat} {x x0 y z : gd} {o : Nat} {F : Int32 → gd → Prop} {Fv : gd → Prop}
theorem MG_ag (hc : agC x y) (hm : agM o x y) (h : MG x o) : MG y o := by
  unfold MG at h ⊢
  rw [hm 3 (by omega) (by omega), hm 5 (by omega) (by omega), hm 6 (by omega) (by omega), hm 7 (by omega) (by omega), hm 8 (by omega) (by omega), hm 9 (by omega) (by omega), hc 60 6 (by omega), hc 60 9 (by omega), hc 60 13 (by omega), hc 60 10 (by omega)]
  exact h
theorem pa_lt (hG : MG x o) {t k : Nat} (ht : (t : Int) < (x.1 60 10).toInt) (hk : (k : Int) < (x.1 o 8).toInt) (h7 : 0 ≤ (x.1 o 7).toInt) : (pa x o t k : Int) < (x.1 o 5).toInt := by
  obtain ⟨-, -, -, -, -, h5⟩ := hG
  unfold pa
  rw [h5]
  obtain ⟨S, hS⟩ : ∃ S : Nat, (x.1 o 8).toInt = S := ⟨(x.1 o 8).toInt.toNat, by omega⟩
  obtain ⟨N, hN⟩ : ∃ N : Nat, (x.1 60 10).toInt = N := ⟨(x.1 60 10).toInt.toNat, by omega⟩
  rw [hS] at hk ⊢
  rw [hN] at ht ⊢
  have h1 : (t + 1) * S ≤ N * S := Nat.mul_le_mul_right S (by omega)
  rw [Nat.succ_mul] at h1
  have h2 : ((S : Int) * N) = ((N * S : Nat) : Int) := by push_cast; exact Int.mul_comm _ _
  rw [h2]
  have h3 : (S : Int).toNat = S := by omega
  rw [h3]
  obtain ⟨P, hP⟩ : ∃ P, P = t * S := ⟨_, rfl⟩
  obtain ⟨Q, hQ⟩ : ∃ Q, Q = N * S := ⟨_, rfl⟩
  rw [← hP] at h1 ⊢
  rw [← hQ] at h1 ⊢
  omega
theorem rg_ag (hC : CO x) (hc : agC x y) (hm : agM o x y) (hr : ∀ k : Nat, (k : Int) < (x.1 o 5).toInt → y.1 (o + 5) k = x.1 (o + 5) k) (hG : MG x o) {t k : Nat} (ht : (t : Int) < (x.1 60 10).toInt) (hk : (k : Int) < (x.1 o 8).toInt) : rg y o t k = rg x o t k := by
  have hp : pa y o t k = pa x o t k := by unfold pa; rw [hm 7 (by omega) (by omega), hm 8 (by omega) (by omega)]
  have b := MG_b hC hG
  unfold rg
  rw [hp, hr _ (pa_lt hG ht hk (by omega))]
/-- a machine looks at code, places, row -/
theorem MM_ag (hc : agC x y) (hm : agM o x y) (hr : ∀ k : Nat, (k : Int) < (x.1 o 5).toInt → y.1 (o + 5) k = x.1 (o + 5) k) (h : MM x o) : MM y o := by
  obtain ⟨hC, hG, hT⟩ := h
  have b := MG_b hC hG
  have b1 := b.2.1
  have b2 := b.2.2.2.2.1
  refine ⟨CO_fm hC hc, MG_ag hc hm hG, fun t ht => ?_⟩
  rw [hc 60 10 (by omega)] at ht
  have e : ∀ k : Nat, (k : Int) < (x.1 o 8).toInt → rg y o t k = rg x o t k := fun k hk => rg_ag hC hc hm hr hG ht hk
  obtain ⟨a, g⟩ := hT t ht
  constructor
  · unfold TA ssm at a ⊢
    rw [e 2 (by omega), e 7 (by omega), e 0 (by omega), e 3 (by omega), hc 80 9 (by omega), hm 3 (by omega) (by omega), hm 9 (by omega) (by omega), hc 60 6 (by omega)]
    refine ⟨a.1, a.2.1, a.2.2.1, fun j hj => ?_, a.2.2.2.2⟩
    by_cases hw : x.1 o 3 = 1
    · have := b2 hw
      rw [e _ (by omega)]; exact a.2.2.2.1 j hj
    · rw [a.2.2.1 hw] at hj
      have : (0 : Int32).toInt = 0 := rfl
      omega
  · unfold TGo sop at g ⊢
    rw [e 0 (by omega), e 2 (by omega), e 3 (by omega), hc 81 _ (by omega)]
    exact g
theorem LSk_ag (hM : MM x o) (hc : agC x y) (hm : agM o x y) (hr : ∀ k : Nat, (k : Int) < (x.1 o 5).toInt → y.1 (o + 5) k = x.1 (o + 5) k) (h13 : y.1 o 13 = x.1 o 13) (h1 : ∀ k, y.1 (o + 11) k = x.1 (o + 11) k) (h2 : ∀ k, y.1 (o + 12) k = x.1 (o + 12) k) (h : LSk x o) : LSk y o := by
  have b := (MG_b hM.1 hM.2.1).2.1
  unfold LSk at h ⊢
  rw [h13, hc 60 10 (by omega)]
  refine ⟨h.1, fun i hi => ?_⟩
  obtain ⟨T, a1, a2, a3⟩ := h.2 i hi
  refine ⟨T, by rw [h1]; exact a1, a2, ?_⟩
  have e : ∀ k : Nat, (k : Int) < (x.1 o 8).toInt → rg y o T k = rg x o T k := fun k hk => rg_ag hM.1 hc hm hr hM.2.1 a2 hk
  rw [h2, e 0 (by omega), e 7 (by omega)]; exact a3
/-- a row that was kept is a machine's -/
def KR (x : gd) (s : Nat) : Prop := MM (scp x (1000 + s) 225 0 0 (x.1 220 5).toNatClampNeg) 220
theorem KR_ag {s : Nat} (hc : agC x y) (hm : agM 220 x y) (hr : ∀ k : Nat, k < (x.1 220 5).toNatClampNeg → y.1 (1000 + s) k = x.1 (1000 + s) k) (h : KR x s) : KR y s := by
  unfold KR at h ⊢
  rw [hm 5 (by omega) (by omega)]
  refine MM_ag ?_ ?_ ?_ h
  · intro c k hk
    rw [scp_get, if_neg (by omega), scp_get, if_neg (by omega)]; exact hc c k hk
  · intro k h1 h2
    rw [scp_get, if_neg (by omega), scp_get, if_neg (by omega)]; exact hm k h1 h2
  · intro k hk
    have h5 : (scp x (1000 + s) 225 0 0 (x.1 220 5).toNatClampNeg).1 220 5 = x.1 220 5 := by rw [scp_get, if_neg (by omega)]
    rw [h5] at hk
    have hk2 : k < (x.1 220 5).toNatClampNeg := by rw [t_cl]; omega
    rw [scp_get, if_pos ⟨rfl, by omega, by omega⟩, scp_get, if_pos ⟨rfl, by omega, by omega⟩]
    exact hr _ (by omega)
theorem ke_r {k : Nat} (h : k < q.kn) : (kf q).1 203 k = some (1000 + k) := by
  show kR q 203 k = _
  unfold kR
  rw [if_neg (by omega), if_neg (by omega), if_neg (by omega), if_neg (by omega), if_pos rfl, if_pos h]
theorem ke_k {k : Nat} (h : k < 3000) : kK (1000 + k) = .inr (.int, 228) := by
  unfold kK; rw [if_neg (by omega), if_neg (by omega), if_pos (by omega)]
theorem ke_m (hq : kV q) {k : Nat} (h : k < q.kn) : 1000 + k ∈ (kf q).2.1 := hq.2.2.2.2.2.1 k h
theorem sz_b (hC : CO x) (hG : MG x o) : 0 ≤ (x.1 o 5).toInt ∧ (x.1 o 5).toInt ≤ 228 := by
  have b := MG_b hC hG
  obtain ⟨g1, g2, g3, g4, g5, g6⟩ := hG
  obtain ⟨⟨h1, h2, h3, h4, -⟩, -⟩ := hC
  rw [g6]
  obtain ⟨N, hN⟩ : ∃ N : Nat, (x.1 60 10).toInt = N := ⟨(x.1 60 10).toInt.toNat, by omega⟩
  rw [hN] at h3 ⊢
  have : N = 0 ∨ N = 1 ∨ N = 2 ∨ N = 3 ∨ N = 4 ∨ N = 5 ∨ N = 6 := by omega
  rcases this with e | e | e | e | e | e | e <;> subst e <;> omega
theorem kx_recall (hq : kV q) (he : q.ex = true) (hC : CO x) (hG : MG x 220) (s : Int32) {S : Nat} (es : s.toInt = S) (hs : S < q.kn) (h3 : S < 3000) (hk : KR x S) (h : ∀ y, y = scp x (1000 + S) 225 0 0 (x.1 220 5).toNatClampNeg → MM y 220 → fm (fun c k => c = 225) x y → Fv y) : KT G q (d + 2) zk_X2_recall 0 [(0, vr 200), (1, vi s)] [] x (rv Fv) := by
  have k0 : (0 : Int32).toInt = 0 := rfl
  have b := sz_b hC hG
  refine kg_X2_recall_0 hq he _ ⟨by rw [vp_in_iff]; omega, fun u e => ?_⟩
  rw [t_cl, es, show ((S : Nat) : Int).toNat = S by omega, ke_r hs] at e
  refine ⟨_, e, ke_k h3, ke_m hq hs, by decide, by decide, by rw [t_lt, k0]; omega, by rw [tn0, t_cl]; omega, by rw [tn0, t_cl]; omega, fun z ez => rv_i (h z ez ?_ ?_)⟩
  · rw [ez]; exact hk
  · intro c k hc
    rw [ez, scp_get, if_neg (by omega)]
def sKp (c k : Nat) : Prop := c = 200 ∧ (k = 5 ∨ k = 6)
/-- what looking at the acts changes -/
def sIn (o c k : Nat) : Prop := c = 209 ∨ c = 210 ∨ (c = o ∧ k = 4) ∨ c = o + 8 ∨ c = o + 9 ∨ (c = 220 ∧ k = 14) ∨ (c = 60 ∧ k = 5) ∨ c = 65
theorem iT_O (ho : kiT q o) : o = 260 ∨ o = 280 := by
  rcases ho with ⟨e, -⟩ | ⟨e, -⟩
  · exact Or.inl e
  · exact Or.inr e
theorem sIn_MM (ho : kiT q o) (f : fm (sIn o) x y) (h : MM x 220) : MM y 220 := by
  have hO := iT_O ho
  exact MM_ag (fun c k hc => f c k (by unfold sIn; omega)) (fun k h1 h2 => f _ _ (by unfold sIn; omega)) (fun k hk => f _ _ (by unfold sIn; omega)) h
theorem et_r (h : q.et = some o) : (kf q).1 200 7 = some o := by
  show kR q 200 7 = _
  unfold kR
  rw [if_neg (by omega), if_neg (by omega), if_neg (by omega), if_pos ⟨rfl, rfl⟩, h]
end KEX
end
section
/-! the class: what is made while all is tried -/
theorem rm_i {q q1 : kP} {F : gd → kP → Prop} {x : gd} (hu : kU q1) (hl : kle q q1) (h : F x q1) : rm q F none x q1 := ⟨rfl, hu, hl, h⟩
theorem zn_get {x : gd} {c c' k : Nat} : (znew x c).1 c' k = if c' = c then 0 else x.1 c' k := by
  show (if c' = c then fun _ => (0 : Int32) else x.1 c') k = _
  split <;> rfl
theorem t_div2 {a : Int32} (h : 0 ≤ a.toInt) : (a / 2).toInt = a.toInt / 2 := by
  rw [Int32.toInt_div_of_ne_right _ _ (by decide), show (2 : Int32).toInt = 2 from rfl, Int.tdiv_eq_ediv_of_nonneg h]
theorem tr_none {q : kP} {o i : Nat} (ho : kiT q o) (hi : ¬ i < oN q o) : (kf q).1 (o + 13) i = none := by
  rcases ho with ⟨rfl, h⟩ | ⟨rfl, h⟩
  · have hi : ¬ i < q.o0 := hi
    show kR q 273 i = _
    unfold kR
    rw [if_neg (by omega), if_neg (by omega), if_neg (by omega), if_neg (by omega), if_neg (by omega), if_pos rfl, if_neg hi]
  · have hi : ¬ i < q.o1 := hi
    show kR q 293 i = _
    unfold kR
    rw [if_neg (by omega), if_neg (by omega), if_neg (by omega), if_neg (by omega), if_neg (by omega), if_neg (by omega), if_pos rfl, if_neg hi]
theorem ke_no {q : kP} {k : Nat} (h : ¬ k < q.kn) : (kf q).1 203 k = none := by
  show kR q 203 k = _
  unfold kR
  rw [if_neg (by omega), if_neg (by omega), if_neg (by omega), if_neg (by omega), if_pos rfl, if_neg h]
theorem oN_U {q : kP} (hu : kU q) (o : Nat) : oN q o ≤ 3000 := by
  unfold oN; split
  · exact hu.2.2.2.2.2.1
  · exact hu.2.2.2.2.2.2
theorem oN_le {q q1 : kP} (h : kle q q1) (o : Nat) : oN q o ≤ oN q1 o := by
  unfold oN; split
  · exact h.2.2.1.2.1
  · exact h.2.2.1.2.2
theorem TO_le {x : gd} {q q1 : kP} {o : Nat} (hu : kU q1) (hl : kle q q1) (h : TO x q o) : TO x q1 o := ⟨⟨h.1.1, Int.le_trans h.1.2.1 (by have := oN_le hl o; omega), oN_U hu o⟩, h.2⟩
def sOu (o c k : Nat) : Prop := (c = o ∧ k = 3) ∨ c = o + 14 ∨ 4000 ≤ c
section KMD
variable {G : kG} {q : kP} {d : Nat} {x x0 y z : gd} {o : Nat} {F : Int32 → gd → Prop} {Fv : gd → Prop} {Fm : gd → kP → Prop} {X : String → gd → kP → Prop}
theorem kt_insert (hu : kU q) (ho : kiT q o) {a n : Nat} (ka : kK a = .inr (.int, n)) (ma : a ∈ (kf q).2.1) (hn : 24 ≤ n) (l1 l3 : Int32) (hT : TO x q o) (h1 : 0 ≤ l1.toInt ∧ l1.toInt ≤ (x.1 o 3).toInt) (h3 : 0 ≤ l3.toInt ∧ l3.toInt ≤ 24) (h : ∀ y q1, kU q1 → kle q q1 → q1.et = q.et → fm (sOu o) x y → TO y q1 o → Fm y q1) : KM G q (d + 2) zk_X10_insertOutcome 0 [(0, vr o), (1, vi l1), (2, vr a), (3, vi l3)] [] x (rm q Fm) X := by
  have hO := iT_O ho
  have k3 : (3000 : Int32).toInt = 3000 := rfl
  have k0 : (0 : Int32).toInt = 0 := rfl
  have k1 : (1 : Int32).toInt = 1 := rfl
  have hT0 := hT
  obtain ⟨⟨b0, b1, b2⟩, b3⟩ := hT
  have part2 : ∀ (q1 : kP) (z : gd), kU q1 → kle q q1 → q1.et = q.et → fm (fun c k => 4000 ≤ c) x z → (x.1 o 3).toInt < oN q1 o → KM G q1 (d + 2) zk_X10_insertOutcome 36 [(0, vr o), (1, vi l1), (2, vr a), (3, vi l3)] [] z (rm q Fm) X := by
    intro q1 z hu1 hl1 et1 fz hN
    have hN3 := oN_U hu1 o
    have ho1 := kle_T hl1 ho
    refine kg_X10_insertOutcome_36 hu1 ho1 ka (hl1.1 _ ma) l1 l3 ?_
    rw [fz o 3 (by omega), t_cl (x.1 o 3)]
    refine ⟨by rw [vp_in_iff]; omega, fun u eu => ?_⟩
    obtain ⟨c, hc1, hc2, hc3, hc4⟩ := tr_row hu1.1 ho1 (i := (x.1 o 3).toInt.toNat) (by omega)
    rw [hc1] at eu
    refine ⟨c, eu, hc2, hc3, by decide, by decide, by rw [t_lt, k0]; omega, by rw [tn0, t_cl]; omega, by rw [tn0, t_cl]; omega, fun x11 e11 => ?_⟩
    have f11 : fm (fun c k => 4000 ≤ c) x x11 := by intro c' k' hn'; rw [e11, scp_get, if_neg (by omega)]; exact fz c' k' hn'
    rw [f11 o 3 (by omega)]
    have es : (x.1 o 3 - l1).toInt = (x.1 o 3).toInt - l1.toInt := t_sub (by omega) (by omega)
    have e1 : (l1 + 1).toInt = l1.toInt + 1 := by rw [t_add (by rw [k1]; omega) (by rw [k1]; omega), k1]
    have e31 : (x.1 o 3 + 1).toInt = (x.1 o 3).toInt + 1 := by rw [t_add (by rw [k1]; omega) (by rw [k1]; omega), k1]
    refine ⟨by rw [t_lt, k0]; omega, by rw [t_lt, k0, e1]; omega, by rw [t_lt, k0, es]; omega, by rw [t_cl, t_cl, es]; omega, by rw [t_cl, t_cl, es, e1]; omega, fun x17 e17 => ⟨by rw [vp_in_iff]; omega, fun x19 e19 x20 e20 => ?_⟩⟩
    have h17 : x17.1 o 3 = x.1 o 3 := by rw [e17, scp_get, if_neg (by omega), f11 o 3 (by omega)]
    rw [h17] at e19
    have h19 : x19.1 o 3 = x.1 o 3 := by rw [e19, si_get, if_neg (by omega), h17]
    rw [h19] at e20
    refine rm_i hu1 hl1 (h x20 q1 hu1 hl1 et1 ?_ ?_)
    · intro c' k' hn'
      unfold sOu at hn'
      rw [e20, si_get, if_neg (by omega), e19, si_get, if_neg (by omega), e17, scp_get, if_neg (by omega)]
      exact f11 c' k' (by omega)
    · have g3 : x20.1 o 3 = x.1 o 3 + 1 := by rw [e20, si_get, if_pos ⟨rfl, rfl⟩]
      unfold TO
      rw [g3, e31]
      refine ⟨by omega, fun i hi => ?_⟩
      have gi : x20.1 (o + 14) i = if i = l1.toInt.toNat then x.1 o 3 else if l1.toInt.toNat + 1 ≤ i ∧ i < (x.1 o 3).toInt.toNat + 1 then x.1 (o + 14) (i - 1) else x.1 (o + 14) i := by
        rw [e20, si_get, if_neg (by omega), e19, si_get, t_cl]
        by_cases q1 : i = l1.toInt.toNat
        · rw [if_pos ⟨rfl, q1⟩, if_pos q1]
        · rw [if_neg (fun z => q1 z.2), if_neg q1, e17, scp_get, t_cl, t_cl, t_cl, es, e1]
          by_cases q2 : l1.toInt.toNat + 1 ≤ i ∧ i < (x.1 o 3).toInt.toNat + 1
          · rw [if_pos ⟨rfl, by omega, by omega⟩, if_pos q2, f11 _ _ (by omega), show l1.toInt.toNat + (i - (l1.toInt + 1).toNat) = i - 1 by omega]
          · rw [if_neg (by omega), if_neg q2, f11 _ _ (by omega)]
      rw [gi]
      by_cases q1 : i = l1.toInt.toNat
      · rw [if_pos q1]; omega
      · rw [if_neg q1]
        by_cases q2 : l1.toInt.toNat + 1 ≤ i ∧ i < (x.1 o 3).toInt.toNat + 1
        · rw [if_pos q2]
          have := b3 (i - 1) (by omega)
          omega
        · rw [if_neg q2]
          have := b3 i (by omega)
          omega
  refine kg_X10_insertOutcome_0 hu ho ka ma l1 l3 ⟨fun c => ?_, fun c => rm_i hu (kle_rf q) (h x q hu (kle_rf q) rfl (fm_rf _ _) hT0)⟩
  rw [t_lt, k3] at c
  have v3 : vp_in (x.1 o 3) 3000 := by rw [vp_in_iff]; omega
  rw [t_cl]
  refine ⟨v3, fun u eu => ⟨fun hno => ?_, fun c5 h5 => part2 q x hu (kle_rf q) rfl (fm_rf _ _) ?_⟩⟩
  · have hN : (x.1 o 3).toInt.toNat = oN q o := by
      by_cases hl : (x.1 o 3).toInt.toNat < oN q o
      · obtain ⟨c9, hc1, -⟩ := tr_row hu.1 ho hl
        rw [eu, hc1] at hno; cases hno
      · omega
    refine ⟨hN, v3, fun q6 x7 e6 e7 hu6 hl6 => part2 q6 x7 hu6 hl6 ?_ ?_ ?_⟩
    · rw [e6]; unfold kOr; split <;> rfl
    · intro c' k' hn'
      rw [e7, zn_get, if_neg]
      intro z
      apply hn'
      rw [z]
      unfold oC
      split <;> omega
    · have : oN q6 o = oN q o + 1 := by
        rw [e6]
        rcases hO with e | e
        · rw [e]; rfl
        · rw [e]; rfl
      omega
  · by_cases hl : (x.1 o 3).toInt.toNat < oN q o
    · omega
    · rw [eu, tr_none ho hl] at h5; cases h5
theorem kt_addOutcome (hu : kU q) (ho : kiT q o) {a n : Nat} (ka : kK a = .inr (.int, n)) (ma : a ∈ (kf q).2.1) (hn : 24 ≤ n) (l2 : Int32) (hT : TO x q o) (h2 : 0 ≤ l2.toInt ∧ l2.toInt ≤ 24) (h : ∀ y q1, kU q1 → kle q q1 → q1.et = q.et → fm (sOu o) x y → TO y q1 o → Fm y q1) : KM G q (d + 3) zk_X10_addOutcome 0 [(0, vr o), (1, vr a), (2, vi l2)] [] x (rm q Fm) X := by
  have k3 : (3000 : Int32).toInt = 3000 := rfl
  have k1 : (1 : Int32).toInt = 1 := rfl
  have hT0 := hT
  obtain ⟨⟨b0, b1, b2⟩, b3⟩ := hT
  have fin : ∀ l3 : Int32, 0 ≤ l3.toInt → l3.toInt ≤ (x.1 o 3).toInt → KM G q (d + 3) zk_X10_addOutcome 81 [(0, vr o), (1, vr a), (2, vi l2), (3, vi l3)] [] x (rm q Fm) X := by
    intro l3 g1 g2
    exact kg_X10_addOutcome_81 hu ho ka ma l2 l3 (kt_insert hu ho ka ma hn l3 l2 hT0 ⟨g1, g2⟩ h2 (fun y q1 hu1 hl1 e f t => rm_i hu1 hl1 (h y q1 hu1 hl1 e f t)))
  have loop : ∀ (m k : Nat) (l3 l4 l5 : Int32), l5.toInt = k → 3000 - (k : Int) ≤ m → 0 ≤ l3.toInt → l3.toInt ≤ (x.1 o 3).toInt → l4.toInt ≤ (x.1 o 3).toInt → KM G q (d + 3) zk_X10_addOutcome 11 [(0, vr o), (1, vr a), (2, vi l2), (3, vi l3), (4, vi l4), (5, vi l5)] [] x (rm q Fm) X := by
    intro m
    induction m with
    | zero =>
      intro k l3 l4 l5 e5 hm g1 g2 g3
      refine kg_X10_addOutcome_11 hu ho ka ma l2 l3 l4 l5 ⟨fun _ => fin l3 g1 g2, fun c => ?_⟩
      rw [t_le, k3] at c; omega
    | succ m ih =>
      intro k l3 l4 l5 e5 hm g1 g2 g3
      refine kg_X10_addOutcome_11 hu ho ka ma l2 l3 l4 l5 ⟨fun _ => fin l3 g1 g2, fun c => ⟨fun _ => fin l3 g1 g2, fun c2 => ?_⟩⟩
      rw [t_le, k3] at c
      rw [t_le] at c2
      have es : (l3 + l4).toInt = l3.toInt + l4.toInt := t_add (by omega) (by omega)
      have em : ((l3 + l4) / 2).toInt = (l3.toInt + l4.toInt) / 2 := by rw [t_div2 (by omega), es]
      obtain ⟨mid, hmid⟩ : ∃ w : Int32, w = (l3 + l4) / 2 := ⟨_, rfl⟩
      rw [← hmid] at em ⊢
      clear hmid
      have bm := b3 mid.toInt.toNat (by omega)
      have e51 : (l5 + 1).toInt = ((k + 1 : Nat) : Int) := by rw [t_add (by rw [k1]; omega) (by rw [k1]; omega), k1, e5]; rfl
      have em1 : (mid + 1).toInt = mid.toInt + 1 := by rw [t_add (by rw [k1]; omega) (by rw [k1]; omega), k1]
      rw [t_cl mid]
      obtain ⟨w, hw⟩ : ∃ w, w = x.1 (o + 14) mid.toInt.toNat := ⟨_, rfl⟩
      rw [← hw] at bm ⊢
      refine ⟨by decide, by rw [vp_in_iff]; omega, by rw [vp_in_iff]; omega, fun u eu => ?_⟩
      obtain ⟨c9, hc1, hc2, hc3, hc4⟩ := tr_row hu.1 ho (i := w.toNatClampNeg) (by rw [t_cl]; omega)
      rw [hc1] at eu
      exact ⟨c9, eu, hc2, hc3, kt_order hu.1 ho hc2 hc3 ka ma l2 (by omega) (by omega) (by omega) (fun r => ⟨fun _ => ⟨fun _ => ih (k + 1) _ _ _ e51 (by push_cast; omega) g1 g2 (by omega), fun _ => ih (k + 1) _ _ _ e51 (by push_cast; omega) (by omega) (by omega) g3⟩, fun _ => rm_i hu (kle_rf q) (h x q hu (kle_rf q) rfl (fm_rf _ _) hT0)⟩)⟩
  exact kg_X10_addOutcome_0 hu ho ka ma l2 (loop 3000 0 _ _ _ rfl (by omega) (by decide) (by show (0 : Int) ≤ _; omega) (Int.le_refl _))
end KMD
end
