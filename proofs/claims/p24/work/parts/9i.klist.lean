section
/-! the class: choices are listed -/
section KLI
variable {G : kG} {q : kP} {d : Nat} {x x0 y z : gd} {o : Nat} {F : Int32 → gd → Prop} {Fv : gd → Prop}
def sLi (o c k : Nat) : Prop := (c = o ∧ k = 13) ∨ (o + 11 ≤ c ∧ c ≤ o + 13)
theorem rg_Li (hO : o = 120 ∨ o = 220) (f : fm (sLi o) x y) (t k : Nat) : rg y o t k = rg x o t k := rg_eq hO (fm_w f (fun c k q => by unfold sLi at q; omega)) t k
theorem MM_Li (hO : o = 120 ∨ o = 220) (f : fm (sLi o) x y) (h : MM x o) : MM y o := by
  have e := rg_Li hO f
  refine ⟨CO_fm h.1 (fun c k hc => f c k (by unfold sLi; omega)), ?_, fun t ht => ?_⟩
  · have hG := h.2.1
    unfold MG at hG ⊢
    rw [f o 3 (by unfold sLi; omega), f o 5 (by unfold sLi; omega), f o 6 (by unfold sLi; omega), f o 7 (by unfold sLi; omega), f o 8 (by unfold sLi; omega), f o 9 (by unfold sLi; omega), f 60 6 (by unfold sLi; omega), f 60 9 (by unfold sLi; omega), f 60 13 (by unfold sLi; omega), f 60 10 (by unfold sLi; omega)]
    exact hG
  · rw [f 60 10 (by unfold sLi; omega)] at ht
    obtain ⟨a, g⟩ := h.2.2 t ht
    refine ⟨?_, ?_⟩
    · unfold TA ssm at a ⊢
      rw [e, e, e, e, f 80 9 (by unfold sLi; omega), f o 3 (by unfold sLi; omega), f o 9 (by unfold sLi; omega), f 60 6 (by unfold sLi; omega)]
      refine ⟨a.1, a.2.1, a.2.2.1, fun j hj => ?_, a.2.2.2.2⟩
      rw [e]; exact a.2.2.2.1 j hj
    · unfold TGo sop at g ⊢
      rw [e, e, e, f 81 _ (by unfold sLi; omega)]; exact g
end KLI
end
section
/-! the class: a machine is set up and compared -/
section KRS
variable {G : kG} {q : kP} {d : Nat} {x x0 y z : gd} {o : Nat} {F : Int32 → gd → Prop} {Fv : gd → Prop}
theorem km_anyGoing (hq : kV q) (ho : kiM q o) (h : MM x o) (hF : ∀ r : Int32, F r x) : KT G q (d + 2) zk_X5_anyGoing 0 [(0, vr o)] [] x (ri F) := by
  have t6 := h.1.1.2.2.1
  have loop : ∀ (n k : Nat) (i : Int32), i.toInt = k → (x.1 60 10).toInt - k ≤ n → KT G q (d + 2) zk_X5_anyGoing 2 [(0, vr o), (1, vi i)] [] x (ri F) := by
    intro n
    induction n with
    | zero =>
      intro k i ei hn
      refine kg_X5_anyGoing_2 hq ho _ ⟨fun _ => ri_i (hF _), fun c => ?_⟩
      exfalso; rw [t_le] at c; omega
    | succ n ih =>
      intro k i ei hn
      refine kg_X5_anyGoing_2 hq ho _ ⟨fun _ => ri_i (hF _), fun c => ?_⟩
      rw [t_le] at c
      have e1 : (i + 1).toInt = ((k + 1 : Nat) : Int) := by rw [t_add (by show _ ≤ _ + (1 : Int); omega) (by show _ + (1 : Int) ≤ _; omega), ei]; rfl
      exact kp_isGoing hq ho h.1 h.2.1 _ ei (by omega) (fun _ => ⟨fun _ => ih (k + 1) _ e1 (by push_cast; omega), fun _ => ri_i (hF _)⟩) (fun _ => ⟨fun _ => ih (k + 1) _ e1 (by push_cast; omega), fun _ => ri_i (hF _)⟩)
  exact kg_X5_anyGoing_0 hq ho (loop 6 0 _ rfl (by omega))
theorem km_isStuck (hq : kV q) (ho : kiM q o) (h : MM x o) (hF : ∀ r : Int32, F r x) : KT G q (d + 3) zk_X5_isStuck 0 [(0, vr o)] [] x (ri F) :=
  kg_X5_isStuck_0 hq ho ⟨fun _ => ri_i (hF _), fun _ => km_anyGoing hq ho h (fun r => ⟨fun _ => ri_i (hF _), fun _ => ri_i (hF _)⟩)⟩
theorem km_allLate (hq : kV q) (ho : kiM q o) (h : MM x o) (hF : ∀ r : Int32, F r x) : KT G q (d + 1) zk_X5_allLate 0 [(0, vr o)] [] x (ri F) := by
  have t6 := h.1.1.2.2.1
  have loop : ∀ (n k : Nat) (a i : Int32), i.toInt = k → (x.1 60 10).toInt - k ≤ n → KT G q (d + 1) zk_X5_allLate 4 [(0, vr o), (1, vi a), (2, vi i)] [] x (ri F) := by
    intro n
    induction n with
    | zero =>
      intro k a i ei hn
      refine kg_X5_allLate_4 hq ho _ _ ⟨fun _ => ri_i (hF _), fun c => ?_⟩
      exfalso; rw [t_le] at c; omega
    | succ n ih =>
      intro k a i ei hn
      refine kg_X5_allLate_4 hq ho _ _ ⟨fun _ => ri_i (hF _), fun c => ?_⟩
      rw [t_le] at c
      have e1 : (i + 1).toInt = ((k + 1 : Nat) : Int) := by rw [t_add (by show _ ≤ _ + (1 : Int); omega) (by show _ + (1 : Int) ≤ _; omega), ei]; rfl
      exact kp_get hq ho h.1 h.2.1 _ _ ei (show (7 : Int32).toInt = ((7 : Nat) : Int) from rfl) (by omega) (by omega) (ih (k + 1) _ _ e1 (by push_cast; omega))
  exact kg_X5_allLate_0 hq ho (loop 6 0 _ _ rfl (by omega))
theorem th_ix (h : MM x o) {t : Int32} {T : Nat} (et : t.toInt = T) (hT : T < 6) : 0 ≤ (x.1 o 7 + t * x.1 o 8).toInt ∧ (x.1 o 7 + t * x.1 o 8).toInt ≤ 196 := by
  obtain ⟨b1, b2, -⟩ := MG_b h.1 h.2.1
  have hm : 0 ≤ t.toInt * (x.1 o 8).toInt ∧ t.toInt * (x.1 o 8).toInt ≤ 160 := by
    rw [et]
    have : T = 0 ∨ T = 1 ∨ T = 2 ∨ T = 3 ∨ T = 4 ∨ T = 5 := by omega
    rcases this with e | e | e | e | e | e <;> subst e <;> (refine ⟨?_, ?_⟩ <;> omega)
  have e1 := t_mul (a := t) (b := x.1 o 8) (by omega) (by omega)
  have e2 := t_add (a := x.1 o 7) (b := t * x.1 o 8) (by omega) (by omega)
  omega
/-- what setting up changes -/
def sRe (o c k : Nat) : Prop := (c = o ∧ 3 ≤ k ∧ k ≤ 9) ∨ c = o + 5 ∨ (c = 60 ∧ k = 5) ∨ c = 65
end KRS
end
section
/-! the class: how a run begins, and its first choices -/
section KRF
variable {G : kG} {q : kP} {d : Nat} {x x0 y z : gd} {o : Nat} {F : Int32 → gd → Prop} {Fv : gd → Prop} {C : gCo}
end KRF
end
section
/-! the class: the journal -/
theorem nar_b {v : Int32} (h : gbool v) : vp_nar .boolean v = v := by unfold vp_nar; rw [h.1]
/-- an act that was noted -/
def JA (x : gd) (a : Nat) : Prop := (0 ≤ (x.1 166 a).toInt ∧ (x.1 166 a).toInt < 6) ∧ 0 ≤ (x.1 167 a).toInt ∧ (x.1 171 a = 0 → ((x.1 167 a).toInt ≤ 4 → 0 ≤ (x.1 168 a).toInt ∧ (x.1 168 a).toInt < 24) ∧ ((5 ≤ (x.1 167 a).toInt ∧ (x.1 167 a).toInt ≤ 8) ∨ (x.1 167 a).toInt = 15 → 0 ≤ (x.1 168 a).toInt ∧ (x.1 168 a).toInt < 6) ∧ ((x.1 167 a).toInt = 9 ∨ (x.1 167 a).toInt = 10 → 0 ≤ (x.1 168 a).toInt ∧ (x.1 168 a).toInt < 6))
def JN (x : gd) : Prop := (0 ≤ (x.1 160 3).toInt ∧ (x.1 160 3).toInt ≤ (x.1 160 2).toInt ∧ (x.1 160 2).toInt ≤ 400) ∧ (∀ a : Nat, (a : Int) < (x.1 160 3).toInt → JA x a) ∧ ∀ t : Nat, t < 6 → x.1 174 t = -1 ∨ (0 ≤ (x.1 174 t).toInt ∧ (x.1 174 t).toInt < (x.1 160 3).toInt)
section KJO
variable {G : kG} {q : kP} {d : Nat} {x x0 y z : gd} {F : Int32 → gd → Prop} {Fv : gd → Prop}
/-- clocks alone change -/
def sCk (c k : Nat) : Prop := c = 172 ∨ c = 173 ∨ (175 ≤ c ∧ c ≤ 178)
theorem JA_eq {a : Nat} (f : ∀ c k, (166 ≤ c ∧ c ≤ 171) → y.1 c k = x.1 c k) (h : JA x a) : JA y a := by
  unfold JA at h ⊢
  rw [f 166 a (by omega), f 167 a (by omega), f 168 a (by omega), f 171 a (by omega)]; exact h
theorem JN_ck (f : fm sCk x y) (h : JN x) : JN y := by
  unfold JN at h ⊢
  rw [f 160 3 (by unfold sCk; omega), f 160 2 (by unfold sCk; omega)]
  refine ⟨h.1, fun a ha => JA_eq (fun c k hc => f c k (by unfold sCk; omega)) (h.2.1 a ha), fun t ht => ?_⟩
  rw [f 174 t (by unfold sCk; omega)]; exact h.2.2 t ht
theorem cl_ix {r u : Int32} {R U : Nat} (er : r.toInt = R) (eu : u.toInt = U) (hR : R < 400) (hU : U < 6) : (r * 6 + u).toInt = R * 6 + U := by
  have k6 : (6 : Int32).toInt = 6 := rfl
  have e1 : (r * 6).toInt = R * 6 := by rw [t_mul (by rw [k6]; omega) (by rw [k6]; omega), k6, er]
  rw [t_add (by omega) (by omega), e1, eu]
theorem kj_join (hq : kV q) {a0 n0 : Nat} (ka0 : kK a0 = .inr (.int, n0)) (ma0 : a0 ∈ (kf q).2.1) {a2 n2 : Nat} (ka2 : kK a2 = .inr (.int, n2)) (ma2 : a2 ∈ (kf q).2.1) (r s : Int32) {R S : Nat} (er : r.toInt = R) (es : s.toInt = S) (hR : R < 400) (hS : S < 400) (h0 : R * 6 + 6 ≤ n0) (h2 : S * 6 + 6 ≤ n2) (h : ∀ y, fm (fun c k => c = a0) x y → Fv y) : KT G q (d + 1) zk_X4_join 0 [(0, vr a0), (1, vi r), (2, vr a2), (3, vi s)] [] x (rv Fv) := by
  have k6 : (6 : Int32).toInt = 6 := rfl
  have loop : ∀ (n k : Nat) (i : Int32) (y : gd), i.toInt = k → (6 : Int) - k ≤ n → fm (fun c k => c = a0) x y → KT G q (d + 1) zk_X4_join 3 [(0, vr a0), (1, vi r), (2, vr a2), (3, vi s), (4, vi i)] [] y (rv Fv) := by
    intro n
    induction n with
    | zero =>
      intro k i y ei hn fy
      refine kg_X4_join_3 hq ka0 ma0 ka2 ma2 _ _ _ ⟨fun _ => rv_i (h y fy), fun c => ?_⟩
      exfalso; rw [t_le, k6] at c; omega
    | succ n ih =>
      intro k i y ei hn fy
      refine kg_X4_join_3 hq ka0 ma0 ka2 ma2 _ _ _ ⟨fun _ => rv_i (h y fy), fun c => ?_⟩
      rw [t_le, k6] at c
      have e1 : (i + 1).toInt = ((k + 1 : Nat) : Int) := by rw [t_add (by show _ ≤ _ + (1 : Int); omega) (by show _ + (1 : Int) ≤ _; omega), ei]; rfl
      have x1 := cl_ix er ei hR (by omega)
      have x2 := cl_ix es ei hS (by omega)
      have v1 : vp_in (r * 6 + i) n0 := by rw [vp_in_iff, x1]; omega
      exact ⟨v1, by rw [vp_in_iff, x2]; omega, fun r5 _ _ _ => ⟨v1, fun z ez => ih (k + 1) _ z e1 (by push_cast; omega) (by rw [ez]; exact fm_si fy rfl)⟩⟩
  exact kg_X4_join_0 hq ka0 ma0 ka2 ma2 _ _ (loop 6 0 _ x rfl (by omega) (fm_rf _ _))
theorem kj_takeOver (hq : kV q) (hJ : JN x) (a : Int32) {A : Nat} (ea : a.toInt = A) (hA : (A : Int) < (x.1 160 3).toInt) (hf : x.1 171 A = 0) (h : ∀ y, fm (fun c k => c = 173) x y → Fv y) : KT G q (d + 2) zk_X4_takeOver 0 [(0, vr 160), (1, vi a)] [] x (rv Fv) := by
  have b := hJ.1
  have eN : a.toNatClampNeg = A := by rw [t_cl, ea]; rfl
  have va : vp_in a 400 := by rw [vp_in_iff]; omega
  obtain ⟨j1, j2, j3⟩ := hJ.2.1 A hA
  obtain ⟨o1, o2, o3⟩ := j3 hf
  have eo : ∀ {m : Int}, (0 ≤ (x.1 168 A).toInt ∧ (x.1 168 A).toInt < m) → (x.1 168 A).toInt = (((x.1 168 A).toInt.toNat : Nat) : Int) := fun hh => by omega
  have fin : ∀ y, fm (fun c k => c = 173) x y → rv Fv none y := fun y fy => rv_i (h y fy)
  have x0 : rv Fv none x := rv_i (h x (fm_rf _ _))
  refine kg_X4_takeOver_0 hq _ ⟨va, va, ?_⟩
  rw [eN]
  refine ⟨fun c => ?_, fun c => ⟨va, ?_⟩, fun c => ?_, fun c => ?_, fun _ => x0⟩
  · have hh := o3 (Or.inr (by rw [c]; rfl))
    have v6 : vp_in (x.1 168 A) 6 := by rw [vp_in_iff]; omega
    refine ⟨v6, fun _ => x0, fun cn => ⟨v6, ?_⟩⟩
    have hl := hJ.2.2 (x.1 168 A).toInt.toNat (by omega)
    have eN2 : (x.1 168 A).toNatClampNeg = (x.1 168 A).toInt.toNat := rfl
    rw [eN2] at cn ⊢
    have hl2 : 0 ≤ (x.1 174 (x.1 168 A).toInt.toNat).toInt ∧ (x.1 174 (x.1 168 A).toInt.toNat).toInt < (x.1 160 3).toInt := by
      rcases hl with e | e
      · exact absurd e cn
      · exact e
    exact kj_join hq kk_173 (kl_173 hq) kk_173 (kl_173 hq) _ _ ea (show (x.1 174 (x.1 168 A).toInt.toNat).toInt = (((x.1 174 (x.1 168 A).toInt.toNat).toInt.toNat : Nat) : Int) by omega) (by omega) (by omega) (by omega) (by omega) (fun y fy => fin y fy)
  · have hh := o2 (Or.inr (by rw [c]; rfl))
    refine kj_join hq kk_173 (kl_173 hq) kk_178 (kl_178 hq) _ _ ea (show (x.1 166 A).toInt = (((x.1 166 A).toInt.toNat : Nat) : Int) by omega) (by omega) (by omega) (by omega) (by omega) (fun y fy => ?_)
    exact kj_join hq kk_173 (kl_173 hq) kk_176 (kl_176 hq) _ _ ea (eo hh) (by omega) (by omega) (by omega) (by omega) (fun z fz => fin z (fm_tr fy fz))
  · have hh := o2 (Or.inl (by rw [c]; decide))
    exact kj_join hq kk_173 (kl_173 hq) kk_176 (kl_176 hq) _ _ ea (eo hh) (by omega) (by omega) (by omega) (by omega) (fun z fz => fin z fz)
  · have hh := o1 (by rcases c with c | c | c | c <;> rw [c] <;> decide)
    exact ⟨by rw [vp_in_iff]; omega, fun _ => x0, fun _ => kj_join hq kk_173 (kl_173 hq) kk_177 (kl_177 hq) _ _ ea (eo hh) (by omega) (by omega) (by omega) (by omega) (fun z fz => fin z fz)⟩
theorem kj_handOn (hq : kV q) (hJ : JN x) (a w : Int32) {A : Nat} (ea : a.toInt = A) (hA : (A : Int) < (x.1 160 3).toInt) (hf : x.1 171 A = 0) (h : ∀ y, fm sCk x y → Fv y) : KT G q (d + 2) zk_X4_handOn 0 [(0, vr 160), (1, vi a), (2, vi w)] [] x (rv Fv) := by
  have b := hJ.1
  have k6 : (6 : Int32).toInt = 6 := rfl
  have eN : a.toNatClampNeg = A := by rw [t_cl, ea]; rfl
  have va : vp_in a 400 := by rw [vp_in_iff]; omega
  obtain ⟨j1, j2, j3⟩ := hJ.2.1 A hA
  obtain ⟨o1, o2, o3⟩ := j3 hf
  have eo : ∀ {m : Int}, (0 ≤ (x.1 168 A).toInt ∧ (x.1 168 A).toInt < m) → (x.1 168 A).toInt = (((x.1 168 A).toInt.toNat : Nat) : Int) := fun hh => by omega
  have x0 : rv Fv none x := rv_i (h x (fm_rf _ _))
  have loop : ∀ (n k : Nat) (i : Int32) (y : gd), i.toInt = k → (6 : Int) - k ≤ n → fm sCk x y → KT G q (d + 2) zk_X4_handOn 99 [(0, vr 160), (1, vi a), (2, vi w), (4, vi i)] [] y (rv Fv) := by
    intro n
    induction n with
    | zero =>
      intro k i y ei hn fy
      refine kg_X4_handOn_99 hq _ _ _ ⟨fun _ => rv_i (h y fy), fun c => ?_⟩
      exfalso; rw [t_le, k6] at c; omega
    | succ n ih =>
      intro k i y ei hn fy
      refine kg_X4_handOn_99 hq _ _ _ ⟨fun _ => rv_i (h y fy), fun c => ?_⟩
      rw [t_le, k6] at c
      have e1 : (i + 1).toInt = ((k + 1 : Nat) : Int) := by rw [t_add (by show _ ≤ _ + (1 : Int); omega) (by show _ + (1 : Int) ≤ _; omega), ei]; rfl
      exact ⟨fun _ => ih (k + 1) _ y e1 (by push_cast; omega) fy, fun _ => kj_join hq kk_178 (kl_178 hq) kk_173 (kl_173 hq) _ _ ei ea (by omega) (by omega) (by omega) (by omega) (fun z fz => ih (k + 1) _ z e1 (by push_cast; omega) (fm_tr fy (fm_w fz (fun c k q => by unfold sCk; omega))))⟩
  refine kg_X4_handOn_0 hq _ _ ⟨va, va, ?_⟩
  rw [eN]
  refine ⟨fun c => ?_, fun c => ?_, fun c => loop 6 0 _ x rfl (by omega) (fm_rf _ _), fun c => ?_, fun _ => x0⟩
  · have hh := o3 (Or.inl (by rw [c]; rfl))
    exact kj_join hq kk_175 (kl_175 hq) kk_173 (kl_173 hq) _ _ (eo hh) ea (by omega) (by omega) (by omega) (by omega) (fun z fz => rv_i (h z (fm_w fz (fun c k q => by unfold sCk; omega))))
  · have hh := o2 (Or.inl (by rcases c with c | c <;> rw [c] <;> decide))
    exact kj_join hq kk_176 (kl_176 hq) kk_173 (kl_173 hq) _ _ (eo hh) ea (by omega) (by omega) (by omega) (by omega) (fun z fz => rv_i (h z (fm_w fz (fun c k q => by unfold sCk; omega))))
  · have hh := o1 (by rcases c with c | c | c | c <;> rw [c] <;> decide)
    exact ⟨by rw [vp_in_iff]; omega, fun _ => x0, fun _ => kj_join hq kk_177 (kl_177 hq) kk_173 (kl_173 hq) _ _ (eo hh) ea (by omega) (by omega) (by omega) (by omega) (fun z fz => rv_i (h z (fm_w fz (fun c k q => by unfold sCk; omega))))⟩
theorem kj_setClock (hq : kV q) (hJ : JN x) (a : Int32) {A : Nat} (ea : a.toInt = A) (hA : (A : Int) < (x.1 160 3).toInt) (h : ∀ y, JN y → fm (fun c k => c = 173 ∨ c = 174) x y → Fv y) : KT G q (d + 3) zk_X4_setClock 0 [(0, vr 160), (1, vi a)] [] x (rv Fv) := by
  have b := hJ.1
  have k6 : (6 : Int32).toInt = 6 := rfl
  have eN : a.toNatClampNeg = A := by rw [t_cl, ea]; rfl
  have va : vp_in a 400 := by rw [vp_in_iff]; omega
  obtain ⟨j1, j2, j3⟩ := hJ.2.1 A hA
  have et : (x.1 166 A).toInt = (((x.1 166 A).toInt.toNat : Nat) : Int) := by omega
  have vt : vp_in (x.1 166 A) 6 := by rw [vp_in_iff]; omega
  have eT : (x.1 166 A).toNatClampNeg = (x.1 166 A).toInt.toNat := rfl
  have p91 : ∀ y, fm (fun c k => c = 173) x y → KT G q (d + 3) zk_X4_setClock 91 [(0, vr 160), (1, vi a), (2, vi (x.1 166 A))] [] y (rv Fv) := by
    intro y fy
    have x1 := cl_ix ea et (by omega) (by omega)
    have v1 : vp_in (a * 6 + x.1 166 A) 2400 := by rw [vp_in_iff, x1]; omega
    refine kg_X4_setClock_91 hq _ _ ⟨v1, v1, fun x3 e3 => ⟨vt, fun z ez => rv_i (h z ?_ ?_)⟩⟩
    · have f3 : fm (fun c k => c = 173) x x3 := by rw [e3]; exact fm_si fy rfl
      have g : ∀ c k, c ≠ 173 → c ≠ 174 → z.1 c k = x.1 c k := fun c k h1 h2 => by rw [ez, si_cell h2, f3 c k h1]
      unfold JN
      rw [g 160 3 (by decide) (by decide), g 160 2 (by decide) (by decide)]
      refine ⟨hJ.1, fun a ha => JA_eq (fun c k hc => g c k (by omega) (by omega)) (hJ.2.1 a ha), fun t ht => ?_⟩
      rw [eT] at ez
      by_cases h9 : t = (x.1 166 A).toInt.toNat
      · have : z.1 174 t = a := by rw [ez, h9]; (simp only [si_get, sfl_get, Nat.reduceEqDiff, eq_self, and_false, false_and, and_true, true_and, if_true, if_false, reduceIte, reduceCtorEq])
        rw [this]; exact Or.inr (by omega)
      · have : z.1 174 t = x.1 174 t := by rw [ez, si_get, if_neg (fun q => h9 q.2), f3 174 t (by omega)]
        rw [this]; exact hJ.2.2 t ht
    · rw [ez, e3]; exact fm_si (fm_si (fm_w fy (fun c k q => Or.inl q)) (Or.inl rfl)) (Or.inr rfl)
  have p77 : ∀ y, fm (fun c k => c = 173) x y → KT G q (d + 3) zk_X4_setClock 77 [(0, vr 160), (1, vi a), (2, vi (x.1 166 A))] [] y (rv Fv) := by
    intro y fy
    have hy : JN y := JN_ck (fm_w fy (fun c k q => by unfold sCk; omega)) hJ
    refine kg_X4_setClock_77 hq _ _ ⟨va, fun _ => p91 y fy, fun c => ?_⟩
    rw [eN] at c
    exact kj_takeOver hq hy _ ea (by rw [fy 160 3 (by decide)]; exact hA) c (fun z fz => p91 z (fm_tr fy fz))
  have loop : ∀ (n k : Nat) (i : Int32) (y : gd), i.toInt = k → (6 : Int) - k ≤ n → fm (fun c k => c = 173) x y → KT G q (d + 3) zk_X4_setClock 9 [(0, vr 160), (1, vi a), (2, vi (x.1 166 A)), (3, vi i)] [] y (rv Fv) := by
    have out : ∀ y, fm (fun c k => c = 173) x y → vp_in (x.1 166 A) 6 ∧ ((¬ ((y.1 174 (x.1 166 A).toNatClampNeg) = (-1 : Int32)) → vp_in (x.1 166 A) 6 ∧ KT G q (d + 2) zk_X4_join 0 [(0, vr 173), (1, vi a), (2, vr 173), (3, vi (y.1 174 (x.1 166 A).toNatClampNeg))] [] y (rv (fun x5 => KT G q (d + 3) zk_X4_setClock 77 [(0, vr 160), (1, vi a), (2, vi (x.1 166 A))] [] x5 (rv Fv)))) ∧ ((y.1 174 (x.1 166 A).toNatClampNeg) = (-1 : Int32) → KT G q (d + 2) zk_X4_join 0 [(0, vr 173), (1, vi a), (2, vr 175), (3, vi (x.1 166 A))] [] y (rv (fun x6 => KT G q (d + 3) zk_X4_setClock 77 [(0, vr 160), (1, vi a), (2, vi (x.1 166 A))] [] x6 (rv Fv))))) := by
      intro y fy
      refine ⟨vt, fun cn => ⟨vt, ?_⟩, fun _ => kj_join hq kk_173 (kl_173 hq) kk_175 (kl_175 hq) _ _ ea et (by omega) (by omega) (by omega) (by omega) (fun z fz => p77 z (fm_tr fy fz))⟩
      rw [eT, fy 174 _ (by omega)] at cn ⊢
      have hl2 : 0 ≤ (x.1 174 (x.1 166 A).toInt.toNat).toInt ∧ (x.1 174 (x.1 166 A).toInt.toNat).toInt < (x.1 160 3).toInt := by
        rcases hJ.2.2 (x.1 166 A).toInt.toNat (by omega) with e | e
        · exact absurd e cn
        · exact e
      exact kj_join hq kk_173 (kl_173 hq) kk_173 (kl_173 hq) _ _ ea (show (x.1 174 (x.1 166 A).toInt.toNat).toInt = (((x.1 174 (x.1 166 A).toInt.toNat).toInt.toNat : Nat) : Int) by omega) (by omega) (by omega) (by omega) (by omega) (fun z fz => p77 z (fm_tr fy fz))
    intro n
    induction n with
    | zero =>
      intro k i y ei hn fy
      refine kg_X4_setClock_9 hq _ _ _ ⟨fun _ => out y fy, fun c => ?_⟩
      exfalso; rw [t_le, k6] at c; omega
    | succ n ih =>
      intro k i y ei hn fy
      refine kg_X4_setClock_9 hq _ _ _ ⟨fun _ => out y fy, fun c => ?_⟩
      rw [t_le, k6] at c
      have e1 : (i + 1).toInt = ((k + 1 : Nat) : Int) := by rw [t_add (by show _ ≤ _ + (1 : Int); omega) (by show _ + (1 : Int) ≤ _; omega), ei]; rfl
      have x1 := cl_ix ea ei (by omega) (by omega)
      exact ⟨by rw [vp_in_iff, x1]; omega, fun z ez => ih (k + 1) _ z e1 (by push_cast; omega) (by rw [ez]; exact fm_si fy rfl)⟩
  refine kg_X4_setClock_0 hq _ ⟨va, ?_⟩
  rw [eN]
  exact loop 6 0 _ x rfl (by omega) (fm_rf _ _)
theorem kj_mayRace (hq : kV q) (hJ : JN x) (a : Int32) {A : Nat} (ea : a.toInt = A) (hA : (A : Int) < (x.1 160 3).toInt) (h : ∀ r : Int32, F r x) : KT G q d zk_X4_mayRace 0 [(0, vr 160), (1, vi a)] [] x (ri F) := by
  have b := hJ.1
  have k4 : (4 : Int32).toInt = 4 := rfl
  have eN : a.toNatClampNeg = A := by rw [t_cl, ea]; rfl
  have va : vp_in a 400 := by rw [vp_in_iff]; omega
  obtain ⟨j1, j2, j3⟩ := hJ.2.1 A hA
  refine kg_X4_mayRace_0 hq _ ⟨va, fun _ => ri_i (h _), fun c4 => ⟨va, fun _ => ri_i (h _), fun cf => ⟨va, ?_, fun _ => ri_i (h _), fun _ => ri_i (h _)⟩⟩⟩
  rw [eN] at c4 cf ⊢
  rw [t_lt, k4] at c4
  have := (j3 cf).1 (by omega)
  rw [vp_in_iff]; omega
theorem kj_isBefore (hq : kV q) (hJ : JN x) (a b : Int32) {A B : Nat} (ea : a.toInt = A) (hA : (A : Int) < (x.1 160 3).toInt) (eb : b.toInt = B) (hB : (B : Int) < (x.1 160 3).toInt) (h : ∀ r : Int32, gbool r → F r x) : KT G q d zk_X4_isBefore 0 [(0, vr 160), (1, vi a), (2, vi b)] [] x (ri F) := by
  have b0 := hJ.1
  have eN : a.toNatClampNeg = A := by rw [t_cl, ea]; rfl
  have va : vp_in a 400 := by rw [vp_in_iff]; omega
  obtain ⟨j1, j2, j3⟩ := hJ.2.1 A hA
  have et : (x.1 166 A).toInt = (((x.1 166 A).toInt.toNat : Nat) : Int) := by omega
  refine kg_X4_isBefore_0 hq _ _ ⟨va, ?_⟩
  rw [eN]
  have x1 := cl_ix ea et (by omega) (by omega)
  have x2 := cl_ix eb et (by omega) (by omega)
  exact ⟨fun _ => ri_i (h _ gbool_0), fun _ => ⟨by rw [vp_in_iff, x2]; omega, by rw [vp_in_iff, x1]; omega, fun _ => ri_i (h _ gbool_0), fun _ => ri_i (h _ gbool_1)⟩⟩
theorem kj_sortsRace (hq : kV q) (a b : Int32) (h : ∀ r : Int32, gbool r → F r x) : KT G q d zk_X4_sortsRace 0 [(0, vi a), (1, vi b)] [] x (ri F) := by
  have p29 : ∀ s u : Int32, KT G q d zk_X4_sortsRace 29 [(2, vi s)] [vi u] x (ri F) := fun s u => kg_X4_sortsRace_29 hq _ _ ⟨fun _ => ri_i (h _ gbool_0), fun _ => ⟨fun _ => ri_i (h _ gbool_0), fun _ => ri_i (h _ gbool_1)⟩⟩
  have p13 : ∀ s : Int32, KT G q d zk_X4_sortsRace 13 [(0, vi a), (1, vi b)] [vi s] x (ri F) := fun s => kg_X4_sortsRace_13 hq _ _ _ ⟨fun _ => p29 _ _, fun _ => ⟨fun _ => p29 _ _, fun _ => p29 _ _⟩⟩
  exact kg_X4_sortsRace_0 hq _ _ ⟨fun _ => p13 _, fun _ => ⟨fun _ => p13 _, fun _ => p13 _⟩⟩
theorem kj_isRace (hq : kV q) (hJ : JN x) (a b : Int32) {A B : Nat} (ea : a.toInt = A) (hA : (A : Int) < (x.1 160 3).toInt) (eb : b.toInt = B) (hB : (B : Int) < (x.1 160 3).toInt) (h : ∀ r : Int32, F r x) : KT G q (d + 1) zk_X4_isRace 0 [(0, vr 160), (1, vi a), (2, vi b)] [] x (ri F) := by
  have b0 := hJ.1
  have va : vp_in a 400 := by rw [vp_in_iff]; omega
  have vb : vp_in b 400 := by rw [vp_in_iff]; omega
  exact kg_X4_isRace_0 hq _ _ ⟨va, vb, fun _ => ri_i (h _), fun _ => ⟨va, vb, fun _ => ri_i (h _), fun _ => kj_mayRace hq hJ _ ea hA (fun r => ⟨fun _ => ri_i (h _), fun _ => ⟨va, vb, kj_sortsRace hq _ _ (fun r _ => ⟨fun _ => ri_i (h _), fun _ => kj_isBefore hq hJ _ _ ea hA eb hB (fun r _ => ⟨fun _ => ri_i (h _), fun _ => ri_i (h _)⟩)⟩)⟩⟩)⟩⟩
theorem kj_racesOf (hq : kV q) (hJ : JN x) (b : Int32) {B : Nat} (eb : b.toInt = B) (hB : (B : Int) < (x.1 160 3).toInt) (h : ∀ r : Int32, F r x) : KT G q (d + 2) zk_X4_racesOf 0 [(0, vr 160), (1, vi b)] [] x (ri F) := by
  have b0 := hJ.1
  have loop : ∀ (n k : Nat) (m i : Int32), i.toInt = k → (B : Int) - k ≤ n → KT G q (d + 2) zk_X4_racesOf 14 [(0, vr 160), (1, vi b), (2, vi m), (3, vi i)] [] x (ri F) := by
    intro n
    induction n with
    | zero =>
      intro k m i ei hn
      refine kg_X4_racesOf_14 hq _ _ _ ⟨fun _ => ri_i (h _), fun c => ?_⟩
      exfalso; rw [t_le] at c; omega
    | succ n ih =>
      intro k m i ei hn
      refine kg_X4_racesOf_14 hq _ _ _ ⟨fun _ => ri_i (h _), fun c => ?_⟩
      rw [t_le] at c
      have e1 : (i + 1).toInt = ((k + 1 : Nat) : Int) := by rw [t_add (by show _ ≤ _ + (1 : Int); omega) (by show _ + (1 : Int) ≤ _; omega), ei]; rfl
      exact kj_isRace hq hJ _ _ ei (by omega) eb hB (fun r => ⟨fun _ => ih (k + 1) _ _ e1 (by push_cast; omega), fun _ => ih (k + 1) _ _ e1 (by push_cast; omega)⟩)
  exact kg_X4_racesOf_0 hq _ (kj_mayRace hq hJ _ eb hB (fun r => ⟨fun _ => loop 400 0 _ _ rfl (by omega), fun _ => ri_i (h _)⟩))
theorem kj_races (hq : kV q) (hJ : JN x) (h : ∀ r : Int32, F r x) : KT G q d zk_X4_races 0 [(0, vr 160)] [] x (ri F) := by
  have b0 := hJ.1
  have k1 : (1 : Int32).toInt = 1 := rfl
  have k0 : (0 : Int32).toInt = 0 := rfl
  refine kg_X4_races_0 hq ⟨fun c => ⟨?_, ri_i (h _)⟩, fun _ => ri_i (h _)⟩
  rw [t_eq, k0] at c
  rw [vp_in_iff, t_sub (by rw [k1]; omega) (by rw [k1]; omega), k1]; omega
theorem kj_laterOfRace (hq : kV q) (hJ : JN x) (i : Int32) (h : ∀ r : Int32, (r = -1 ∨ (0 ≤ r.toInt ∧ r.toInt < (x.1 160 3).toInt)) → F r x) : KT G q d zk_X4_laterOfRace 0 [(0, vr 160), (1, vi i)] [] x (ri F) := by
  have b0 := hJ.1
  have loop : ∀ (n : Nat) (k : Int32), 0 ≤ k.toInt → (x.1 160 3).toInt - k.toInt ≤ n → KT G q d zk_X4_laterOfRace 2 [(0, vr 160), (1, vi i), (2, vi k)] [] x (ri F) := by
    intro n
    induction n with
    | zero =>
      intro k hk hn
      refine kg_X4_laterOfRace_2 hq _ _ ⟨fun _ => ri_i (h _ (Or.inl rfl)), fun c => ?_⟩
      exfalso; rw [t_le] at c; omega
    | succ n ih =>
      intro k hk hn
      refine kg_X4_laterOfRace_2 hq _ _ ⟨fun _ => ri_i (h _ (Or.inl rfl)), fun c => ?_⟩
      rw [t_le] at c
      have e1 : (k + 1).toInt = k.toInt + 1 := t_add (by show _ ≤ _ + (1 : Int); omega) (by show _ + (1 : Int) ≤ _; omega)
      exact ⟨by rw [vp_in_iff]; omega, fun _ => ih _ (by omega) (by omega), fun _ => ri_i (h _ (Or.inr ⟨hk, by omega⟩))⟩
  exact kg_X4_laterOfRace_0 hq _ (loop 400 _ (by decide) (by show _ - (0 : Int) ≤ _; omega))
theorem kj_earlierOfRace (hq : kV q) (hJ : JN x) (i b : Int32) (hb : b = -1 ∨ (0 ≤ b.toInt ∧ b.toInt < (x.1 160 3).toInt)) (h : ∀ r : Int32, F r x) : KT G q (d + 2) zk_X4_earlierOfRace 0 [(0, vr 160), (1, vi i), (2, vi b)] [] x (ri F) := by
  have b0 := hJ.1
  have k1 : (1 : Int32).toInt = 1 := rfl
  have k0 : (0 : Int32).toInt = 0 := rfl
  have hbb : -1 ≤ b.toInt ∧ b.toInt < 400 := by
    rcases hb with e | e
    · rw [e]; decide
    · omega
  have loop : ∀ (n k : Nat) (m i : Int32), i.toInt = k → b.toInt - k ≤ n → KT G q (d + 2) zk_X4_earlierOfRace 22 [(0, vr 160), (2, vi b), (3, vi m), (4, vi i)] [] x (ri F) := by
    intro n
    induction n with
    | zero =>
      intro k m i ei hn
      refine kg_X4_earlierOfRace_22 hq _ _ _ ⟨fun _ => ri_i (h _), fun c => ?_⟩
      exfalso; rw [t_le] at c; omega
    | succ n ih =>
      intro k m i ei hn
      refine kg_X4_earlierOfRace_22 hq _ _ _ ⟨fun _ => ri_i (h _), fun c => ?_⟩
      rw [t_le] at c
      have hb2 : 0 ≤ b.toInt ∧ b.toInt < (x.1 160 3).toInt := by
        rcases hb with e | e
        · rw [e, tm1] at c; omega
        · exact e
      have e1 : (i + 1).toInt = ((k + 1 : Nat) : Int) := by rw [t_add (by rw [k1]; omega) (by rw [k1]; omega), ei]; rfl
      exact kj_isRace hq hJ _ _ ei (by omega) (show b.toInt = ((b.toInt.toNat : Nat) : Int) by omega) (by omega) (fun r => ⟨fun _ => ih (k + 1) _ _ e1 (by push_cast; omega), fun _ => ⟨fun _ => ih (k + 1) _ _ e1 (by push_cast; omega), fun _ => ri_i (h _)⟩⟩)
  refine kg_X4_earlierOfRace_0 hq _ _ ⟨fun _ => loop 400 0 _ _ rfl (by omega), fun c => ⟨?_, loop 400 0 _ _ rfl (by omega)⟩⟩
  rw [t_le, k0] at c
  rw [vp_in_iff, t_sub (by rw [k1]; omega) (by rw [k1]; omega), k1]; omega
end KJO
end
section
/-! the class: histories -/
/-- a row that holds a structure -/
def HR (x : gd) (a : Nat) : Prop := 0 ≤ (x.1 a 0).toInt ∧ (x.1 a 0).toInt ≤ 12
theorem hh_in : ∀ k, k < 13 → 300 + k ∈ klH := by decide
theorem hh_k {k : Nat} (h : k < 13) : kK (300 + k) = .inr (.int, 14) := by
  unfold kK; rw [if_neg (by omega), if_pos (by omega)]
theorem hh_r {q : kP} {k : Nat} (h : k < 13) : (kf q).1 190 k = some (300 + k) := by
  show kR q 190 k = _
  unfold kR
  rw [if_neg (by omega), if_neg (by omega), if_neg (by omega), if_neg (by omega), if_neg (by omega), if_neg (by omega), if_neg (by omega), if_pos rfl, if_pos h]
theorem hh_m {q : kP} (hq : kV q) (hh : q.hi = true) {k : Nat} (h : k < 13) : 300 + k ∈ (kf q).2.1 := hq.2.1 hh _ (hh_in k h)
theorem tn0 : (0 : Int32).toNatClampNeg = 0 := rfl
theorem vin0 {n : Nat} (h : 0 < n) : vp_in (0 : Int32) n := by rw [vp_in_iff]; have : (0 : Int32).toInt = 0 := rfl; omega
section KHI
variable {G : kG} {q : kP} {d : Nat} {x x0 y z : gd} {F : Int32 → gd → Prop} {Fv : gd → Prop}
theorem kh_append (hq : kV q) (hh : q.hi = true) {a : Nat} (ka : kK a = .inr (.int, 14)) (ma : a ∈ (kf q).2.1) (v : Int32) (hr : HR x a) (h : ∀ y, fm (fun c k => c = a) x y → HR y a → Fv y) : KT G q d zk_X3_append 0 [(0, vr a), (1, vi v)] [] x (rv Fv) := by
  unfold HR at hr
  have k12 : (12 : Int32).toInt = 12 := rfl
  refine kg_X3_append_0 hq hh ka ma _ ⟨vin0 (by omega), fun _ => rv_i (h x (fm_rf _ _) hr), fun c => ⟨vin0 (by omega), vin0 (by omega), fun x5 e5 => ⟨vin0 (by omega), ?_⟩⟩⟩
  rw [tn0] at c e5 ⊢
  rw [t_le, k12] at c
  have e1 : (x.1 a 0 + 1).toInt = (x.1 a 0).toInt + 1 := t_add (by show _ ≤ _ + (1 : Int); omega) (by show _ + (1 : Int) ≤ _; omega)
  have g0 : x5.1 a 0 = x.1 a 0 + 1 := by rw [e5]; (simp only [si_get, sfl_get, Nat.reduceEqDiff, eq_self, and_false, false_and, and_true, true_and, if_true, if_false, reduceIte, reduceCtorEq])
  refine ⟨by rw [vp_in_iff, g0]; omega, fun z ez => rv_i (h z ?_ ?_)⟩
  · rw [ez, e5]; exact fm_si (fm_si (fm_rf _ _) rfl) rfl
  · have : z.1 a 0 = x.1 a 0 + 1 := by
      rw [ez, si_get, if_neg (fun q => ?_), g0]
      have := q.2
      rw [t_cl, g0, e1] at this; omega
    unfold HR; rw [this]; omega
theorem kh_find (hq : kV q) (hh : q.hi = true) {a : Nat} (ka : kK a = .inr (.int, 14)) (ma : a ∈ (kf q).2.1) (v : Int32) (hr : HR x a) (h : ∀ r : Int32, (¬ r = -1 → 1 ≤ r.toInt ∧ r.toInt ≤ (x.1 a 0).toInt) → F r x) : KT G q d zk_X3_find 0 [(0, vr a), (1, vi v)] [] x (ri F) := by
  unfold HR at hr
  have loop : ∀ (n k : Nat) (i : Int32), i.toInt = k → 1 ≤ k → (x.1 a 0).toInt + 1 - k ≤ n → KT G q d zk_X3_find 2 [(0, vr a), (1, vi v), (2, vi i)] [] x (ri F) := by
    intro n
    induction n with
    | zero =>
      intro k i ei hk hn
      refine kg_X3_find_2 hq hh ka ma _ _ ⟨vin0 (by omega), fun _ => ri_i (h _ (fun q => absurd rfl q)), fun c => ?_⟩
      rw [tn0, t_lt] at c; omega
    | succ n ih =>
      intro k i ei hk hn
      refine kg_X3_find_2 hq hh ka ma _ _ ⟨vin0 (by omega), fun _ => ri_i (h _ (fun q => absurd rfl q)), fun c => ?_⟩
      rw [tn0, t_lt] at c
      have e1 : (i + 1).toInt = ((k + 1 : Nat) : Int) := by rw [t_add (by show _ ≤ _ + (1 : Int); omega) (by show _ + (1 : Int) ≤ _; omega), ei]; rfl
      exact ⟨by rw [vp_in_iff]; omega, fun _ => ih (k + 1) _ e1 (by omega) (by push_cast; omega), fun _ => ri_i (h _ (fun _ => by omega))⟩
  exact kg_X3_find_0 hq hh ka ma _ (loop 13 1 _ rfl (by omega) (by omega))
theorem kh_removeAt (hq : kV q) (hh : q.hi = true) {a : Nat} (ka : kK a = .inr (.int, 14)) (ma : a ∈ (kf q).2.1) (p : Int32) (hr : HR x a) (h1 : 1 ≤ p.toInt) (h2 : p.toInt ≤ (x.1 a 0).toInt) (h : ∀ r y, fm (fun c k => c = a) x y → HR y a → F r y) : KT G q d zk_X3_removeAt 0 [(0, vr a), (1, vi p)] [] x (ri F) := by
  unfold HR at hr
  have k1 : (1 : Int32).toInt = 1 := rfl
  have loop : ∀ (n k : Nat) (i v : Int32) (y : gd), i.toInt = k → 1 ≤ k → fm (fun c k => c = a ∧ 1 ≤ k) x y → (x.1 a 0).toInt - k ≤ n → KT G q d zk_X3_removeAt 6 [(0, vr a), (2, vi v), (3, vi i)] [] y (ri F) := by
    intro n
    have out : ∀ (v : Int32) (y z : gd), fm (fun c k => c = a ∧ 1 ≤ k) x y → z = si y a (0 : Int32).toNatClampNeg ((y.1 a (0 : Int32).toNatClampNeg) - 1) → F v z := by
      intro v y z fy ez
      rw [tn0, fy a 0 (by omega)] at ez
      refine h _ _ (by rw [ez]; exact fm_si (fm_w fy (fun c k q => q.1)) rfl) ?_
      have : z.1 a 0 = x.1 a 0 - 1 := by rw [ez]; (simp only [si_get, sfl_get, Nat.reduceEqDiff, eq_self, and_false, false_and, and_true, true_and, if_true, if_false, reduceIte, reduceCtorEq])
      unfold HR; rw [this]
      have : (x.1 a 0 - 1).toInt = (x.1 a 0).toInt - 1 := by rw [t_sub (by rw [k1]; omega) (by rw [k1]; omega), k1]
      omega
    induction n with
    | zero =>
      intro k i v y ei hk fy hn
      refine kg_X3_removeAt_6 hq hh ka ma _ _ ⟨vin0 (by omega), fun _ => ⟨vin0 (by omega), vin0 (by omega), fun z ez => ri_i (out _ y z fy ez)⟩, fun c => ?_⟩
      rw [tn0, t_le, fy a 0 (by omega)] at c; omega
    | succ n ih =>
      intro k i v y ei hk fy hn
      refine kg_X3_removeAt_6 hq hh ka ma _ _ ⟨vin0 (by omega), fun _ => ⟨vin0 (by omega), vin0 (by omega), fun z ez => ri_i (out _ y z fy ez)⟩, fun c => ?_⟩
      rw [tn0, t_le, fy a 0 (by omega)] at c
      have e1 : (i + 1).toInt = ((k + 1 : Nat) : Int) := by rw [t_add (by show _ ≤ _ + (1 : Int); omega) (by show _ + (1 : Int) ≤ _; omega), ei]; rfl
      refine ⟨by rw [vp_in_iff, e1]; omega, by rw [vp_in_iff]; omega, fun z ez => ih (k + 1) _ _ z e1 (by omega) ?_ (by push_cast; omega)⟩
      rw [ez]; exact fm_si fy ⟨rfl, by rw [t_cl, ei]; omega⟩
  refine kg_X3_removeAt_0 hq hh ka ma _ ⟨by rw [vp_in_iff]; omega, loop 12 p.toInt.toNat _ _ x (by omega) (by omega) (fm_rf _ _) (by omega)⟩
theorem kh_serveCell (hq : kV q) (hh : q.hi = true) {a : Nat} (ka : kK a = .inr (.int, 14)) (ma : a ∈ (kf q).2.1) (k v : Int32) (h : ∀ r y, fm (fun c k => c = a) x y → F r y) : KT G q d zk_X3_serveCell 0 [(0, vr a), (1, vi k), (2, vi v)] [] x (ri F) := by
  have g : ∀ (o : Int32) (y : gd), fm (fun c k => c = a) x y → KT G q d zk_X3_serveCell 24 [(1, vi k), (3, vi o)] [] y (ri F) := fun o y fy => kg_X3_serveCell_24 hq hh ka ma _ _ ⟨fun _ => ri_i (h _ _ fy), fun _ => ri_i (h _ _ fy)⟩
  exact kg_X3_serveCell_0 hq hh ka ma _ _ ⟨vin0 (by omega), fun _ => g _ _ (fm_rf _ _), fun _ => ⟨fun _ => ⟨vin0 (by omega), fun z ez => g _ _ (by rw [ez]; exact fm_si (fm_rf _ _) rfl)⟩, fun _ => ⟨vin0 (by omega), fun z ez => g _ _ (by rw [ez]; exact fm_si (fm_rf _ _) rfl)⟩⟩⟩
theorem kh_serveRow (hq : kV q) (hh : q.hi = true) {a : Nat} (ka : kK a = .inr (.int, 14)) (ma : a ∈ (kf q).2.1) (k v : Int32) (hr : HR x a) (h : ∀ r y, fm (fun c k => c = a) x y → HR y a → F r y) : KT G q (d + 1) zk_X3_serveRow 0 [(0, vr 180), (1, vr a), (2, vi k), (3, vi v)] [] x (ri F) := by
  have k0 : (0 : Int32).toInt = 0 := rfl
  have k1 : (1 : Int32).toInt = 1 := rfl
  have g63 : ∀ p : Int32, 1 ≤ p.toInt → p.toInt ≤ (x.1 a 0).toInt → KT G q (d + 1) zk_X3_serveRow 63 [] [vi p, vr a] x (ri F) := fun p h1 h2 => kg_X3_serveRow_63 hq hh ka ma _ (kh_removeAt hq hh ka ma _ hr h1 h2 (fun r y fy hy => ri_i (h _ _ fy hy)))
  refine kg_X3_serveRow_0 hq hh ka ma _ _ ⟨vin0 (by omega), fun _ => kh_append hq hh ka ma _ hr (fun y fy hy => ri_i (h _ _ fy hy)), fun _ => ⟨fun c => ?_, fun _ => ri_i (h _ _ (fm_rf _ _) hr)⟩, fun _ => ri_i (h _ _ (fm_rf _ _) hr), fun _ => ⟨vin0 (by omega), fun z ez => ri_i (h _ _ ?_ ?_)⟩⟩
  · rw [tn0, t_eq, k0] at c
    unfold HR at hr
    exact ⟨fun _ => g63 _ (by rw [k1]; omega) (by rw [k1]; omega), fun _ => g63 _ (by rw [tn0]; omega) (by rw [tn0]; omega)⟩
  · rw [ez]; exact fm_si (fm_rf _ _) rfl
  · have : z.1 a 0 = 0 := by rw [ez, tn0]; (simp only [si_get, sfl_get, Nat.reduceEqDiff, eq_self, and_false, false_and, and_true, true_and, if_true, if_false, reduceIte, reduceCtorEq])
    unfold HR; rw [this, k0]; omega
theorem kh_serveSet (hq : kV q) (hh : q.hi = true) {a : Nat} (ka : kK a = .inr (.int, 14)) (ma : a ∈ (kf q).2.1) (k v : Int32) (hr : HR x a) (h : ∀ r y, fm (fun c k => c = a) x y → HR y a → F r y) : KT G q (d + 1) zk_X3_serveSet 0 [(0, vr a), (1, vi k), (2, vi v)] [] x (ri F) := by
  have g42 : ∀ (p : Int32) y, fm (fun c k => c = a) x y → HR y a → KT G q (d + 1) zk_X3_serveSet 42 [(3, vi p)] [] y (ri F) := fun p y fy hy => kg_X3_serveSet_42 hq hh ka ma _ ⟨fun _ => ri_i (h _ _ fy hy), fun _ => ri_i (h _ _ fy hy)⟩
  have g64 : ∀ (p : Int32) y, fm (fun c k => c = a) x y → HR y a → KT G q (d + 1) zk_X3_serveSet 64 [(3, vi p)] [] y (ri F) := fun p y fy hy => kg_X3_serveSet_64 hq hh ka ma _ ⟨fun _ => ri_i (h _ _ fy hy), fun _ => ri_i (h _ _ fy hy)⟩
  refine kg_X3_serveSet_0 hq hh ka ma _ _ (kh_find hq hh ka ma _ hr (fun r hr2 => ⟨fun _ => ⟨fun _ => g42 _ _ (fm_rf _ _) hr, fun _ => kh_append hq hh ka ma _ hr (fun y fy hy => g42 _ _ fy hy)⟩, fun _ => ⟨fun _ => g64 _ _ (fm_rf _ _) hr, fun c => kh_removeAt hq hh ka ma _ hr (hr2 c).1 (hr2 c).2 (fun r y fy hy => g64 _ _ fy hy)⟩, fun _ => ⟨fun _ => ri_i (h _ _ (fm_rf _ _) hr), fun _ => ri_i (h _ _ (fm_rf _ _) hr)⟩, fun _ => ⟨vin0 (by omega), ri_i (h _ _ (fm_rf _ _) hr)⟩⟩))
theorem kh_serve (hq : kV q) (hh : q.hi = true) {a : Nat} (ka : kK a = .inr (.int, 14)) (ma : a ∈ (kf q).2.1) (k v : Int32) (hr : ¬ x.1 180 10 = 0 → HR x a) (h : ∀ r y, fm (fun c k => c = a) x y → (¬ x.1 180 10 = 0 → HR y a) → F r y) : KT G q (d + 2) zk_X3_serve 0 [(0, vr 180), (1, vr a), (2, vi k), (3, vi v)] [] x (ri F) :=
  kg_X3_serve_0 hq hh ka ma _ _ ⟨fun c => ⟨fun _ => kh_serveRow hq hh ka ma _ _ (hr c) (fun r y fy hy => ri_i (h _ _ fy (fun _ => hy))), fun _ => kh_serveSet hq hh ka ma _ _ (hr c) (fun r y fy hy => ri_i (h _ _ fy (fun _ => hy)))⟩, fun c => kh_serveCell hq hh ka ma _ _ (fun r y fy => ri_i (h _ _ fy (fun q => absurd c q)))⟩
/-- the calls taken -/
def HC (x : gd) : Prop := (0 ≤ (x.1 180 6).toInt ∧ (x.1 180 6).toInt ≤ 12) ∧ (∀ t : Nat, t < 6 → x.1 189 t = -1 ∨ (0 ≤ (x.1 189 t).toInt ∧ (x.1 189 t).toInt < 12)) ∧ 0 ≤ (x.1 180 7).toInt ∧ (x.1 180 7).toInt ≤ 400
/-- what a history may change -/
def sHi (c k : Nat) : Prop := (180 ≤ c ∧ c ≤ 199) ∨ (300 ≤ c ∧ c ≤ 312)
theorem kh_begin (hq : kV q) (hh : q.hi = true) (t k v : Int32) {Tn : Nat} (et : t.toInt = Tn) (hT : Tn < 6) (hc : HC x) (h : ∀ y, fm sHi x y → HC y → y.1 180 7 = x.1 180 7 → Fv y) : KT G q d zk_X3_beginCall 0 [(0, vr 180), (1, vi t), (2, vi k), (3, vi v)] [] x (rv Fv) := by
  obtain ⟨⟨c0, c1⟩, ho, e0⟩ := hc
  have k12 : (12 : Int32).toInt = 12 := rfl
  have k1 : (1 : Int32).toInt = 1 := rfl
  have eT : t.toNatClampNeg = Tn := by rw [t_cl, et]; rfl
  have loop : ∀ (n i0 : Nat) (i : Int32) (y : gd), i.toInt = i0 → fm (fun c k => 181 ≤ c ∧ c ≤ 188) x y → (x.1 180 6).toInt < 12 → (x.1 180 6).toInt - i0 ≤ n → KT G q d zk_X3_beginCall 67 [(0, vr 180), (1, vi t), (4, vi i)] [] y (rv Fv) := by
    intro n
    have out : ∀ (i : Int32) y, fm (fun c k => 181 ≤ c ∧ c ≤ 188) x y → (x.1 180 6).toInt < 12 → vp_in t 6 ∧ (∀ x3, x3 = si y 189 (t).toNatClampNeg (y.1 180 6) → (∀ x4, x4 = si x3 180 6 ((x3.1 180 6) + 1) → rv Fv none x4)) := by
      intro i y fy h12
      refine ⟨by rw [vp_in_iff]; omega, fun x3 e3 x4 e4 => rv_i (h x4 ?_ ?_ ?_)⟩
      · rw [e4, e3]; exact fm_si (fm_si (fm_w fy (fun c k q => by unfold sHi; omega)) (by unfold sHi; omega)) (by unfold sHi; omega)
      · have g6 : x4.1 180 6 = x.1 180 6 + 1 := by rw [e4, e3]; (simp only [si_get, sfl_get, Nat.reduceEqDiff, eq_self, and_false, false_and, and_true, true_and, if_true, if_false, reduceIte, reduceCtorEq]); rw [fy 180 6 (by omega)]
        have g7 : x4.1 180 7 = x.1 180 7 := by rw [e4, e3]; (simp only [si_get, sfl_get, Nat.reduceEqDiff, eq_self, and_false, false_and, and_true, true_and, if_true, if_false, reduceIte, reduceCtorEq]); rw [fy 180 7 (by omega)]
        have e1 : (x.1 180 6 + 1).toInt = (x.1 180 6).toInt + 1 := by rw [t_add (by rw [k1]; omega) (by rw [k1]; omega), k1]
        unfold HC; rw [g6, g7, e1]
        refine ⟨by omega, fun u hu => ?_, e0⟩
        by_cases h9 : u = Tn
        · have : x4.1 189 u = x.1 180 6 := by rw [e4, e3, eT, h9]; (simp only [si_get, sfl_get, Nat.reduceEqDiff, eq_self, and_false, false_and, and_true, true_and, if_true, if_false, reduceIte, reduceCtorEq]); rw [fy 180 6 (by omega)]
          rw [this]; exact Or.inr ⟨c0, h12⟩
        · have : x4.1 189 u = x.1 189 u := by rw [e4, si_cell (by decide), e3, eT, si_get, if_neg (fun q => h9 q.2), fy 189 u (by omega)]
          rw [this]; exact ho u hu
      · rw [e4, e3]; (simp only [si_get, sfl_get, Nat.reduceEqDiff, eq_self, and_false, false_and, and_true, true_and, if_true, if_false, reduceIte, reduceCtorEq]); rw [fy 180 7 (by omega)]
    induction n with
    | zero =>
      intro i0 i y ei fy h12 hn
      refine kg_X3_beginCall_67 hq hh _ _ ⟨fun _ => out i y fy h12, fun c => ?_⟩
      rw [t_le, fy 180 6 (by omega)] at c; omega
    | succ n ih =>
      intro i0 i y ei fy h12 hn
      refine kg_X3_beginCall_67 hq hh _ _ ⟨fun _ => out i y fy h12, fun c => ?_⟩
      rw [t_le, fy 180 6 (by omega)] at c
      have e1 : (i + 1).toInt = ((i0 + 1 : Nat) : Int) := by rw [t_add (by show _ ≤ _ + (1 : Int); omega) (by show _ + (1 : Int) ≤ _; omega), ei]; rfl
      have v6 : vp_in (y.1 180 6) 12 := by rw [vp_in_iff, fy 180 6 (by omega)]; omega
      exact ⟨by rw [vp_in_iff]; omega, fun _ => ih (i0 + 1) _ y e1 fy h12 (by push_cast; omega), fun _ => ⟨v6, v6, fun z ez => ih (i0 + 1) _ z e1 (by rw [ez]; exact fm_si fy (by omega)) h12 (by push_cast; omega)⟩⟩
  refine kg_X3_beginCall_0 hq hh _ _ _ ⟨fun c => ?_, fun _ => rv_i (h x (fm_rf _ _) ⟨⟨c0, c1⟩, ho, e0⟩ rfl)⟩
  rw [t_lt, k12] at c
  have v6 : vp_in (x.1 180 6) 12 := by rw [vp_in_iff]; omega
  refine ⟨v6, fun x3 e3 => ?_⟩
  have f3 : fm (fun c k => 181 ≤ c ∧ c ≤ 188) x x3 := by rw [e3]; exact fm_si (fm_rf _ _) (by omega)
  rw [f3 180 6 (by omega)]
  refine ⟨v6, fun x5 e5 => ?_⟩
  have f5 : fm (fun c k => 181 ≤ c ∧ c ≤ 188) x x5 := by rw [e5]; exact fm_si f3 (by omega)
  rw [f5 180 6 (by omega)]
  refine ⟨v6, fun x7 e7 => ?_⟩
  have f7 : fm (fun c k => 181 ≤ c ∧ c ≤ 188) x x7 := by rw [e7]; exact fm_si f5 (by omega)
  rw [f7 180 6 (by omega)]
  refine ⟨v6, fun x9 e9 => ?_⟩
  have f9 : fm (fun c k => 181 ≤ c ∧ c ≤ 188) x x9 := by rw [e9]; exact fm_si f7 (by omega)
  rw [f9 180 6 (by omega)]
  refine ⟨v6, fun xa ea => ?_⟩
  exact loop 12 0 _ xa rfl (by rw [ea]; exact fm_si f9 (by omega)) c (by omega)
theorem kh_end (hq : kV q) (hh : q.hi = true) (t v : Int32) {Tn : Nat} (et : t.toInt = Tn) (hT : Tn < 6) (hc : HC x) (h : ∀ y, fm sHi x y → HC y → y.1 180 7 = x.1 180 7 → Fv y) : KT G q d zk_X3_endCall 0 [(0, vr 180), (1, vi t), (2, vi v)] [] x (rv Fv) := by
  obtain ⟨c0, ho, e0⟩ := hc
  have eT : t.toNatClampNeg = Tn := by rw [t_cl, et]; rfl
  have vt : vp_in t 6 := by rw [vp_in_iff]; omega
  refine kg_X3_endCall_0 hq hh _ _ ⟨vt, fun _ => rv_i (h x (fm_rf _ _) ⟨c0, ho, e0⟩ rfl), fun c => ⟨vt, ?_⟩⟩
  rw [eT] at c ⊢
  have o1 : 0 ≤ (x.1 189 Tn).toInt ∧ (x.1 189 Tn).toInt < 12 := by
    rcases ho Tn hT with e | e
    · exact absurd e c
    · exact e
  have vo : vp_in (x.1 189 Tn) 12 := by rw [vp_in_iff]; omega
  refine ⟨vo, fun x5 e5 => ⟨vt, ?_⟩⟩
  have f5 : fm (fun c k => 181 ≤ c ∧ c ≤ 188) x x5 := by rw [e5]; exact fm_si (fm_rf _ _) (by omega)
  rw [f5 189 Tn (by omega)]
  refine ⟨vo, fun x8 e8 => ⟨vt, fun z ez => rv_i (h z ?_ ?_ ?_)⟩⟩
  all_goals have f8 : fm (fun c k => 181 ≤ c ∧ c ≤ 188) x x8 := by rw [e8]; exact fm_si f5 (by omega)
  · rw [ez]; exact fm_si (fm_w f8 (fun c k q => by unfold sHi; omega)) (by unfold sHi; omega)
  · unfold HC
    have g : ∀ k, z.1 180 k = x.1 180 k := fun k => by rw [ez, si_cell (by decide), f8 180 k (by omega)]
    rw [g 6, g 7]
    refine ⟨c0, fun u hu => ?_, e0⟩
    by_cases h9 : u = Tn
    · exact Or.inl (by rw [ez, h9]; (simp only [si_get, sfl_get, Nat.reduceEqDiff, eq_self, and_false, false_and, and_true, true_and, if_true, if_false, reduceIte, reduceCtorEq]))
    · have : z.1 189 u = x.1 189 u := by rw [ez, si_get, if_neg (fun q => h9 q.2), f8 189 u (by omega)]
      rw [this]; exact ho u hu
  · rw [ez, si_cell (by decide), f8 180 7 (by omega)]
theorem kh_take (hq : kV q) (hh : q.hi = true) (hJ : JN x) (h : ∀ y, fm sHi x y → HC y → Fv y) : KT G q (d + 1) zk_X3_take 0 [(0, vr 180), (1, vr 160)] [] x (rv Fv) := by
  obtain ⟨b1, b2, b3⟩ := hJ.1
  have k0 : (0 : Int32).toInt = 0 := rfl
  have k1 : (1 : Int32).toInt = 1 := rfl
  have loop : ∀ (n k : Nat) (i : Int32) (y : gd), i.toInt = k → fm sHi x y → HC y → (y.1 180 7).toInt ≤ k → (x.1 160 3).toInt - k ≤ n → KT G q (d + 1) zk_X3_take 20 [(0, vr 180), (1, vr 160), (2, vi i)] [] y (rv Fv) := by
    intro n
    induction n with
    | zero =>
      intro k i y ei fy hy h7 hn
      refine kg_X3_take_20 hq hh _ ⟨fun _ => rv_i (h y fy hy), fun c => ?_⟩
      rw [t_le, fy 160 3 (by unfold sHi; omega)] at c; omega
    | succ n ih =>
      intro k i y ei fy hy h7 hn
      refine kg_X3_take_20 hq hh _ ⟨fun _ => rv_i (h y fy hy), fun c => ?_⟩
      rw [t_le, fy 160 3 (by unfold sHi; omega)] at c
      have e1 : (i + 1).toInt = ((k + 1 : Nat) : Int) := by rw [t_add (by show _ ≤ _ + (1 : Int); omega) (by show _ + (1 : Int) ≤ _; omega), ei]; rfl
      have vi_ : vp_in i 400 := by rw [vp_in_iff]; omega
      have go : KT G q (d + 1) zk_X3_take 20 [(0, vr 180), (1, vr 160), (2, vi (i + 1))] [] y (rv Fv) := ih (k + 1) _ y e1 fy hy (by push_cast; omega) (by push_cast; omega)
      have eN : i.toNatClampNeg = k := by rw [t_cl, ei]; rfl
      obtain ⟨jt, _⟩ := hJ.2.1 k (by omega)
      have nx : ∀ z, fm sHi x z → HC z → z.1 180 7 = y.1 180 7 → ∀ w, w = si z 180 7 ((z.1 180 7) + 1) → KT G q (d + 1) zk_X3_take 20 [(0, vr 180), (1, vr 160), (2, vi (i + 1))] [] w (rv Fv) := by
        intro z fz hz ez w ew
        have h0 := hy.2.2
        have e7 : (y.1 180 7 + 1).toInt = (y.1 180 7).toInt + 1 := by rw [t_add (by rw [k1]; omega) (by rw [k1]; omega), k1]
        have w7 : w.1 180 7 = y.1 180 7 + 1 := by rw [ew]; (simp only [si_get, sfl_get, Nat.reduceEqDiff, eq_self, and_false, false_and, and_true, true_and, if_true, if_false, reduceIte, reduceCtorEq]); rw [ez]
        refine ih (k + 1) _ w e1 (by rw [ew]; exact fm_si fz (by unfold sHi; omega)) ?_ (by rw [w7, e7]; push_cast; omega) (by push_cast; omega)
        unfold HC
        have w6 : w.1 180 6 = z.1 180 6 := by rw [ew]; (simp only [si_get, sfl_get, Nat.reduceEqDiff, eq_self, and_false, false_and, and_true, true_and, if_true, if_false, reduceIte, reduceCtorEq])
        rw [w7, e7, w6]
        exact ⟨hz.1, fun t ht => by rw [ew, si_cell (by decide)]; exact hz.2.1 t ht, by omega⟩
      have g59 : ∀ s : Int32, KT G q (d + 1) zk_X3_take 59 [(0, vr 180), (1, vr 160), (2, vi i), (3, vi s)] [] y (rv Fv) := by
        intro s
        refine kg_X3_take_59 hq hh _ _ ?_
        rw [eN, fy 166 k (by unfold sHi; omega)]
        exact ⟨fun _ => ⟨vi_, vi_, kh_end hq hh _ _ (show (x.1 166 k).toInt = (((x.1 166 k).toInt.toNat : Nat) : Int) by omega) (by omega) hy (fun z fz hz e => nx z (fm_tr fy fz) hz e)⟩, fun _ => ⟨vi_, vi_, vi_, kh_begin hq hh _ _ _ (show (x.1 166 k).toInt = (((x.1 166 k).toInt.toNat : Nat) : Int) by omega) (by omega) hy (fun z fz hz e => nx z (fm_tr fy fz) hz e)⟩⟩
      exact ⟨vi_, vi_, fun _ => go, fun _ => ⟨fun _ => g59 _, fun _ => ⟨fun _ => g59 _, fun _ => go⟩⟩⟩
  refine kg_X3_take_0 hq hh (fun x1 e1 x2 e2 x3 e3 => ?_)
  have z6 : x3.1 180 6 = 0 := by rw [e3, e2, e1]; (simp only [si_get, sfl_get, Nat.reduceEqDiff, eq_self, and_false, false_and, and_true, true_and, if_true, if_false, reduceIte, reduceCtorEq])
  have z7 : x3.1 180 7 = 0 := by rw [e3, e2, e1]; (simp only [si_get, sfl_get, Nat.reduceEqDiff, eq_self, and_false, false_and, and_true, true_and, if_true, if_false, reduceIte, reduceCtorEq])
  refine loop 400 0 _ x3 rfl ?_ ?_ (by rw [z7, k0]; omega) (by omega)
  · rw [e3, e2, e1]; exact fm_fl (fm_si (fm_si (fm_rf _ _) (by unfold sHi; omega)) (by unfold sHi; omega)) (fun k _ => by unfold sHi; omega)
  · unfold HC; rw [z6, z7, k0]
    exact ⟨by omega, fun t ht => Or.inl (by rw [e3, sfl_get, if_pos ⟨rfl, ht⟩]), by omega⟩
theorem scp_get {x : gd} {a b sp dp n c k : Nat} : (scp x a b sp dp n).1 c k = if c = b ∧ dp ≤ k ∧ k < dp + n then x.1 a (sp + (k - dp)) else x.1 c k := by
  show (if c = b then va_cpy (x.1 a) (x.1 b) sp dp n else x.1 c) k = _
  by_cases h : c = b
  · subst h
    rw [if_pos rfl]
    show (if dp ≤ k ∧ k < dp + n then _ else _) = _
    by_cases h2 : dp ≤ k ∧ k < dp + n
    · rw [if_pos h2, if_pos ⟨rfl, h2⟩]
    · rw [if_neg h2, if_neg (fun q => h2 q.2)]
  · rw [if_neg h, if_neg (fun q => h q.1)]
/-- what the search below a depth may change -/
def sHs (D c k : Nat) : Prop := 300 + D < c ∧ c ≤ 312
theorem kh_can (hq : kV q) (hh : q.hi = true) (n : Nat) : ∀ (D : Nat) (x : gd) (F : Int32 → gd → Prop) (l1 l2 : Int32), D + n = 12 → l1.toInt = D → (0 ≤ (x.1 180 6).toInt ∧ (x.1 180 6).toInt ≤ 12) → (¬ x.1 180 10 = 0 → HR x (300 + D)) → (∀ r y, gbool r → fm (sHs D) x y → F r y) → KT G q (d + n + 3) zk_X3_canGoOn 0 [(0, vr 180), (1, vi l1), (2, vi l2)] [] x (ri F) := by
  have k12 : (12 : Int32).toInt = 12 := rfl
  induction n with
  | zero =>
    intro D x F l1 l2 hD e1 hc hr h
    refine kg_X3_canGoOn_0 (d := d + 1) hq hh _ _ ⟨fun _ => ⟨fun c => ?_, fun _ => ri_i (h _ _ gbool_0 (fm_rf _ _))⟩, fun _ => ri_i (h _ _ gbool_1 (fm_rf _ _))⟩
    rw [t_lt, k12] at c; omega
  | succ n ih =>
    intro D x F l1 l2 hD e1 hc hr h
    have loop : ∀ (m k : Nat) (i : Int32) (l3 : Int32) (y : gd), i.toInt = k → fm (sHs D) x y → (x.1 180 6).toInt - k ≤ m → KT G q (d + n + 2 + 2) zk_X3_canGoOn 33 [(0, vr 180), (1, vi l1), (2, vi l2), (3, vi l3), (4, vi i)] [] y (ri F) := by
      intro m
      induction m with
      | zero =>
        intro k i l3 y ei fy hm
        refine kg_X3_canGoOn_33 (d := d + n + 2) hq hh _ _ _ _ ⟨fun _ => ri_i (h _ _ gbool_0 fy), fun c => ?_⟩
        rw [t_le, fy 180 6 (by unfold sHs; omega)] at c; omega
      | succ m ihm =>
        intro k i l3 y ei fy hm
        refine kg_X3_canGoOn_33 (d := d + n + 2) hq hh _ _ _ _ ⟨fun _ => ri_i (h _ _ gbool_0 fy), fun c => ?_⟩
        rw [t_le, fy 180 6 (by unfold sHs; omega)] at c
        have ei1 : (i + 1).toInt = ((k + 1 : Nat) : Int) := by rw [t_add (by show _ ≤ _ + (1 : Int); omega) (by show _ + (1 : Int) ≤ _; omega), ei]; rfl
        have el1 : (l1 + 1).toInt = ((D + 1 : Nat) : Int) := by rw [t_add (by show _ ≤ _ + (1 : Int); omega) (by show _ + (1 : Int) ≤ _; omega), e1]; rfl
        have go : ∀ w, fm (sHs D) x w → KT G q (d + n + 2 + 2) zk_X3_canGoOn 33 [(0, vr 180), (1, vi l1), (2, vi l2), (3, vi l3), (4, vi (i + 1))] [] w (ri F) := fun w fw => ihm (k + 1) _ _ w ei1 fw (by push_cast; omega)
        have v4 : vp_in i 12 := by rw [vp_in_iff]; omega
        have v1 : vp_in l1 13 := by rw [vp_in_iff]; omega
        have v2 : vp_in (l1 + 1) 13 := by rw [vp_in_iff]; omega
        have n1 : l1.toNatClampNeg = D := by rw [t_cl, e1]; rfl
        have n2 : (l1 + 1).toNatClampNeg = D + 1 := by rw [t_cl, el1]; rfl
        refine ⟨fun _ => go y fy, fun _ => ⟨v4, fun _ => ⟨v1, fun u6 e6 => ⟨v2, fun u8 e8 => ?_⟩⟩, fun _ => go y fy⟩⟩
        rw [n1, hh_r (by omega)] at e6
        rw [n2, hh_r (by omega)] at e8
        have hD1 : D + 1 < 13 := by omega
        refine ⟨_, e6, hh_k (by omega), hh_m hq hh (by omega), _, e8, hh_k hD1, hh_m hq hh hD1, by decide, by decide, by decide, by decide, by decide, fun z ez => ⟨v2, fun u22 e22 => ⟨v4, v4, ?_⟩⟩⟩
        rw [n2, hh_r (by omega)] at e22
        refine ⟨_, e22, hh_k hD1, hh_m hq hh hD1, ?_⟩
        have zg : ∀ c j, ¬ c = 300 + (D + 1) → z.1 c j = y.1 c j := fun c j hc => by rw [ez, scp_get, if_neg (fun q => hc q.1)]
        have fz : fm (sHs D) x z := fun c j hs => by rw [zg c j (by unfold sHs at hs; omega)]; exact fy c j hs
        have hz1 : ¬ z.1 180 10 = 0 → HR z (300 + (D + 1)) := fun h0 => by
          rw [fz 180 10 (by unfold sHs; omega)] at h0
          have : z.1 (300 + (D + 1)) 0 = x.1 (300 + D) 0 := by
            rw [ez, scp_get, if_pos ⟨rfl, by decide, by decide⟩]
            exact fy _ _ (by unfold sHs; omega)
          unfold HR; rw [this]; exact hr h0
        refine kh_serve (d := d + n + 1) hq hh (hh_k hD1) (hh_m hq hh hD1) _ _ hz1 (fun r w fw hw => ?_)
        have fw2 : fm (sHs D) x w := fm_tr fz (fm_w fw (fun c k q => by unfold sHs; omega))
        have g148 : ∀ s l5 : Int32, KT G q (d + n + 2 + 2) zk_X3_canGoOn 148 [(0, vr 180), (1, vi l1), (2, vi l2), (3, vi l3), (4, vi i), (5, vi l5)] [vi s] w (ri F) := by
          intro s l5
          refine kg_X3_canGoOn_148 (d := d + n + 2) hq hh _ _ _ _ _ _ ⟨fun _ => go w fw2, fun _ => ih (D + 1) w _ _ _ (by omega) el1 (by rw [fw2 180 6 (by unfold sHs; omega)]; exact hc) (fun h0 => ?_) (fun r2 v hr2 fv => ?_)⟩
          · refine hw (fun q => h0 ?_)
            rw [fw 180 10 (by omega)]; exact q
          · have fv2 : fm (sHs D) x v := fm_tr fw2 (fm_w fv (fun c k q => by unfold sHs at q ⊢; omega))
            exact ⟨fun _ => go v fv2, fun _ => ri_i (h _ _ gbool_1 fv2)⟩
        exact ⟨fun _ => g148 _ _, fun _ => ⟨v4, fun _ => g148 _ _, fun _ => g148 _ _⟩⟩
    exact kg_X3_canGoOn_0 (d := d + n + 2) hq hh _ _ ⟨fun _ => ⟨fun c => loop 12 0 _ _ x rfl (fm_rf _ _) (by omega), fun _ => ri_i (h _ _ gbool_0 (fm_rf _ _))⟩, fun _ => ri_i (h _ _ gbool_1 (fm_rf _ _))⟩
def sHl (c k : Nat) : Prop := (c = 180 ∧ 10 ≤ k ∧ k ≤ 12) ∨ (300 ≤ c ∧ c ≤ 312)
theorem kh_isLinear (hq : kV q) (hh : q.hi = true) (l1 : Int32) (hc : 0 ≤ (x.1 180 6).toInt ∧ (x.1 180 6).toInt ≤ 12) (h : ∀ r y, gbool r → fm sHl x y → F r y) : KT G q (d + 16) zk_X3_isLinear 0 [(0, vr 180), (1, vi l1)] [] x (ri F) := by
  have k0 : (0 : Int32).toInt = 0 := rfl
  have loop : ∀ (n k : Nat) (i : Int32) (y : gd), i.toInt = k → fm sHl x y → (x.1 180 6).toInt - k ≤ n → KT G q (d + 16) zk_X3_isLinear 12 [(0, vr 180), (1, vi l1), (2, vi i)] [] y (ri F) := by
    intro n
    have out : ∀ (y : gd), fm sHl x y → vp_in 0 13 ∧ (∀ u3, u3 = (kf q).1 190 (0 : Int32).toNatClampNeg → ∃ c4, u3 = some c4 ∧ kK c4 = .inr (.int, 14) ∧ c4 ∈ (kf q).2.1 ∧ (∀ x7, x7 = sfl y c4 0 14 → KT G q (d + 15) zk_X3_canGoOn 0 [(0, vr 180), (1, vi 0), (2, vi 0)] [] x7 (ri (fun r9 x8 => gbool r9 ∧ ri F (some (vi r9)) x8)))) := by
      intro y fy
      refine ⟨vin0 (by omega), fun u3 e3 => ?_⟩
      rw [tn0, hh_r (by omega)] at e3
      refine ⟨_, e3, hh_k (by omega), hh_m hq hh (by omega), fun z ez => ?_⟩
      have fz : fm sHl x z := by rw [ez]; exact fm_fl fy (fun k _ => by unfold sHl; omega)
      refine kh_can (d := d) hq hh 12 0 z _ _ _ (by omega) rfl (by rw [fz 180 6 (by unfold sHl; omega)]; exact hc) (fun _ => ?_) (fun r w hr fw => ⟨hr, ri_i (h _ _ hr (fm_tr fz (fm_w fw (fun c k q => by unfold sHs at q; unfold sHl; omega))))⟩)
      have : z.1 (300 + 0) 0 = 0 := by rw [ez, sfl_get, if_pos ⟨rfl, by omega⟩]
      unfold HR; rw [this, k0]; omega
    induction n with
    | zero =>
      intro k i y ei fy hn
      refine kg_X3_isLinear_12 (d := d + 15) hq hh _ _ ⟨fun _ => out y fy, fun c => ?_⟩
      rw [t_le, fy 180 6 (by unfold sHl; omega)] at c; omega
    | succ n ih =>
      intro k i y ei fy hn
      refine kg_X3_isLinear_12 (d := d + 15) hq hh _ _ ⟨fun _ => out y fy, fun c => ?_⟩
      rw [t_le, fy 180 6 (by unfold sHl; omega)] at c
      have v4 : vp_in i 12 := by rw [vp_in_iff]; omega
      have ei1 : (i + 1).toInt = ((k + 1 : Nat) : Int) := by rw [t_add (by show _ ≤ _ + (1 : Int); omega) (by show _ + (1 : Int) ≤ _; omega), ei]; rfl
      have g42 : ∀ w, fm sHl x w → KT G q (d + 16) zk_X3_isLinear 42 [(0, vr 180), (1, vi l1), (2, vi i)] [] w (ri F) := fun w fw => kg_X3_isLinear_42 (d := d + 15) hq hh _ _ ⟨v4, fun _ => ih (k + 1) _ w ei1 fw (by push_cast; omega), fun _ z ez => ih (k + 1) _ z ei1 (by rw [ez]; exact fm_si fw (by unfold sHl; omega)) (by push_cast; omega)⟩
      exact ⟨v4, fun _ => g42 y fy, fun _ z ez => g42 z (by rw [ez]; exact fm_si fy (by unfold sHl; omega))⟩
  exact kg_X3_isLinear_0 (d := d + 15) hq hh _ (fun x1 e1 x2 e2 => loop 12 0 _ x2 rfl (by rw [e2, e1]; exact fm_si (fm_si (fm_rf _ _) (by unfold sHl; omega)) (by unfold sHl; omega)) (by omega))
theorem kh_fewest (hq : kV q) (hh : q.hi = true) (l1 : Int32) (hc : 0 ≤ (x.1 180 6).toInt ∧ (x.1 180 6).toInt ≤ 12) (h : ∀ r y, fm sHl x y → F r y) : KT G q (d + 17) zk_X3_fewestThatFail 0 [(0, vr 180), (1, vi l1)] [] x (ri F) := by
  have kM : (1000000 : Int32).toInt = 1000000 := rfl
  have cy : ∀ y, fm sHl x y → 0 ≤ (y.1 180 6).toInt ∧ (y.1 180 6).toInt ≤ 12 := fun y fy => by rw [fy 180 6 (by unfold sHl; omega)]; exact hc
  have loop : ∀ (n k : Nat) (l2 l3 i : Int32) (y : gd), i.toInt = k → fm sHl x y → (1000000 : Int) - k ≤ n → KT G q (d + 17) zk_X3_fewestThatFail 28 [(0, vr 180), (2, vi l2), (3, vi l3), (4, vi i)] [] y (ri F) := by
    intro n
    induction n with
    | zero =>
      intro k l2 l3 i y ei fy hn
      refine kg_X3_fewestThatFail_28 (d := d + 16) hq hh _ _ _ ⟨fun _ => ri_i (h _ _ fy), fun c => ?_⟩
      rw [t_le, kM] at c; omega
    | succ n ih =>
      intro k l2 l3 i y ei fy hn
      refine kg_X3_fewestThatFail_28 (d := d + 16) hq hh _ _ _ ⟨fun _ => ri_i (h _ _ fy), fun c => ⟨fun _ => ri_i (h _ _ fy), fun _ => ⟨by decide, ?_⟩⟩⟩
      rw [t_le, kM] at c
      have ei1 : (i + 1).toInt = ((k + 1 : Nat) : Int) := by rw [t_add (by show _ ≤ _ + (1 : Int); omega) (by show _ + (1 : Int) ≤ _; omega), ei]; rfl
      exact kh_isLinear hq hh _ (cy y fy) (fun r z hr fz => ⟨fun _ => ih (k + 1) _ _ _ z ei1 (fm_tr fy fz) (by push_cast; omega), fun _ => ih (k + 1) _ _ _ z ei1 (fm_tr fy fz) (by push_cast; omega)⟩)
  refine kg_X3_fewestThatFail_0 (d := d + 16) hq hh _ (fun x1 e1 => ?_)
  have f1 : fm sHl x x1 := by rw [e1]; exact fm_si (fm_rf _ _) (by unfold sHl; omega)
  exact kh_isLinear hq hh _ (cy x1 f1) (fun r z hr fz => ⟨fun _ => loop 1000000 0 _ _ _ z rfl (fm_tr f1 fz) (by omega), fun _ => ri_i (h _ _ (fm_tr f1 fz))⟩)
end KHI
end
