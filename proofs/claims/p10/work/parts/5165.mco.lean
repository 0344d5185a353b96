/-! the model's code, as the whole row of events says it -/
def clF (u : Nat) (l : List (Nat × gU)) : List gU := l.filterMap (fun q => if q.1 = u then some q.2 else none)
def MCo (sN : Nat → Nat → Bool) (V K : Nat → Int32) (L : gU) (x : gd) : Prop :=
  SR sN (L.filterMap (te1 K V)) V K x (cds sN K L cd0).2.1 ∧
  ((x.1 0 25).toInt = (cds sN K L cd0).2.2.2.2.1.length ∧ ∀ (t : Nat) (q : Nat × Nat), (cds sN K L cd0).2.2.2.2.1[t]? = some q → (x.1 64 t).toInt = q.1 ∧ x.1 38 t = Int32.ofNat q.2) ∧
  ((x.1 0 23).toInt = (cel K V L).length ∧ ∀ j q, (cel K V L)[j]? = some q → x.1 36 j = q.1 ∧ x.1 37 j = if q.2 = true then 1 else 0) ∧
  (∀ k N, (clF 35 (cds sN K L cd0).2.2.2.2.2)[k]? = some N → SUm x (x.1 65 k) (nPs sN (L.filterMap (te1 K V)) V K [] N)) ∧
  ∀ k N, (clF 36 (cds sN K L cd0).2.2.2.2.2)[k]? = some N → SUm x (x.1 66 k) (nPs sN (L.filterMap (te1 K V)) V K [] N)
theorem MCo_md {sN : Nat → Nat → Bool} {V K : Nat → Int32} {L : gU} {x y : gd} {L' A : List Nat} (m : md L' A x y) (hL : [23, 25, 49, 52].all (fun k => !L'.elem k) = true) (hA : [36, 37, 38, 51, 52, 54, 55, 56, 57, 58, 59, 60, 61, 62, 64, 65, 66].all (fun k => !A.elem k) = true) (h : MCo sN V K L x) : MCo sN V K L y := by
  have f := fun k hk => m.1 k (all_no' hL k hk)
  have g := fun k (h0 : k ≠ 0) hk => m.2.1 k h0 (all_no' hA k hk)
  obtain ⟨h1, h2, h3, h4, h5⟩ := h
  refine ⟨SR_md m ?_ ?_ h1, ?_, ?_, fun k N hN => ?_, fun k N hN => ?_⟩
  · rw [List.all_eq_true] at hL ⊢
    exact fun k hk => hL k (by simp only [List.mem_cons, List.not_mem_nil, or_false] at hk ⊢; omega)
  · rw [List.all_eq_true] at hA ⊢
    exact fun k hk => hA k (by simp only [List.mem_cons, List.not_mem_nil, or_false] at hk ⊢; omega)
  · rw [f 25 (by decide), g 64 (by decide) (by decide), g 38 (by decide) (by decide)]
    exact h2
  · rw [f 23 (by decide), g 36 (by decide) (by decide), g 37 (by decide) (by decide)]
    exact h3
  · rw [g 65 (by decide) (by decide)]
    exact SUm_md m (all_no' hL 49 (by decide)) (all_no' hA 51 (by decide)) (all_no' hA 52 (by decide)) (h4 k N hN)
  · rw [g 66 (by decide) (by decide)]
    exact SUm_md m (all_no' hL 49 (by decide)) (all_no' hA 51 (by decide)) (all_no' hA 52 (by decide)) (h5 k N hN)
theorem bN_2 (u : Nat) : bN2 u = bN u := by
  funext M
  cases M <;> rfl
theorem clF_is {u : Nat} (hu : u = 35 ∨ u = 36) : ∀ Ds : List gU, clF u (Ds.filterMap clE) = (Ds.filterMap (bN u)).map List.dropLast := by
  intro Ds
  induction Ds with
  | nil => rfl
  | cons M Ds ih =>
    cases M with
    | nil => exact ih
    | cons v N =>
      rw [List.filterMap_cons, List.filterMap_cons]
      by_cases c : v.1 = 35 ∨ v.1 = 36
      · rw [show clE (v :: N) = some (v.1, N.dropLast) from if_pos c]
        show clF u ((v.1, N.dropLast) :: Ds.filterMap clE) = _
        unfold clF at ih ⊢
        rw [List.filterMap_cons]
        by_cases cu : v.1 = u
        · rw [show bN u (v :: N) = some N from if_pos cu]
          simp only [if_pos cu]
          rw [ih]
          rfl
        · rw [show bN u (v :: N) = none from if_neg cu]
          simp only [if_neg cu]
          exact ih
      · rw [show clE (v :: N) = none from if_neg c, show bN u (v :: N) = none from if_neg (by omega)]
        exact ih
theorem PV_chk {x : gd} {Ds : List gU} (pv : PV x Ds) : ∀ M ∈ Ds, chk M := by
  obtain ⟨⟨-, -, ⟨-, at'⟩, ⟨-, ft⟩⟩, sq⟩ := pv
  have idx : ∀ {u : Nat} {v : Nat × Nat × Nat} {N : gU}, v :: N ∈ Ds → v.1 = u → ∃ t : Nat, (Ds.filterMap (bN u))[t]? = some N := fun {u v N} hm hu => by
    have m : N ∈ Ds.filterMap (bN u) := List.mem_filterMap.mpr ⟨_, hm, by show (if v.1 = u then some N else none) = some N; rw [if_pos hu]⟩
    obtain ⟨t, ht, e⟩ := List.getElem_of_mem m
    exact ⟨t, by rw [List.getElem?_eq_getElem ht, e]⟩
  intro M hM
  obtain ⟨v, N, e, q⟩ := sq M hM
  rw [e] at hM
  rcases q with ⟨q1, q2⟩ | ⟨q1, q2⟩ | q1 | q1 | q1
  · exact ⟨v, N, e, Or.inl ⟨by omega, q2⟩⟩
  · exact ⟨v, N, e, Or.inl ⟨by omega, fun w hw => by rw [q2] at hw; cases hw⟩⟩
  · exact ⟨v, N, e, Or.inr (Or.inl q1)⟩
  · obtain ⟨t, ht⟩ := idx hM q1
    obtain ⟨n, N', vv, eN⟩ := at' t N ht
    exact ⟨v, N, e, Or.inr (Or.inr ⟨Or.inl q1, N', vV_sE vv, eN⟩)⟩
  · obtain ⟨t, ht⟩ := idx hM q1
    obtain ⟨n, N', vv, eN⟩ := ft t N ht
    exact ⟨v, N, e, Or.inr (Or.inr ⟨Or.inr q1, N', vV_sE vv, eN⟩)⟩
theorem MCo_of {y x' : gd} {Ds : List gU} {sN : Nat → Nat → Bool} (pv : PV y Ds) (p5 : PN5 y Ds) (e23 : x'.1 0 23 = y.1 0 23) (e25 : x'.1 0 25 = y.1 0 25) (e36 : x'.1 36 = y.1 36) (e37 : x'.1 37 = y.1 37) (e38 : x'.1 38 = y.1 38) (h : MCd sN (Ds.filterMap (te (y.1 5) (y.1 7))) (y.1 7) (y.1 5) (Ds.filterMap (bN 34)) (Ds.filterMap (bN 35)) (Ds.filterMap (bN 36)) x') : MCo sN (y.1 7) (y.1 5) Ds.flatten x' := by
  have shp' := PV_shp pv
  have eT := te_flat (K := y.1 5) (V := y.1 7) shp'
  obtain ⟨⟨h1, h2, h3⟩, h4, h5⟩ := h
  obtain ⟨E, r, hE, hr, e, hl, hq⟩ := cds_flat (sN := sN) (K := y.1 5) (PV_chk pv) (by rw [bN_2]; exact h2)
  rw [bN_2] at e hl hq
  obtain ⟨⟨-, ⟨bl, -⟩, ⟨al, at'⟩, ⟨fl, ft⟩⟩, -⟩ := pv
  obtain ⟨-, ⟨c1, c2⟩, ⟨i1, i2⟩⟩ := p5
  unfold MCo
  rw [eT]
  have S1 : (cds sN (y.1 5) Ds.flatten cd0).2.1 = stTs sN (y.1 5) (Ds.filterMap (bN 34)) := by rw [e]
  have S2 : (cds sN (y.1 5) Ds.flatten cd0).2.2.2.2.2 = Ds.filterMap clE := by rw [e]
  have cla : ∀ {u c : Nat}, (u = 35 ∨ u = 36) → (∀ t N, (Ds.filterMap (bN u))[t]? = some N → ∃ n N', vV y true n (y.1 c t) N' ∧ N = N' ++ [(54, 0, 0)]) → ∀ k N, (clF u (Ds.filterMap clE))[k]? = some N → (Ds.filterMap (bN u))[k]? = some (N ++ [(54, 0, 0)]) := fun {u c} hu g k N hN => by
    rw [clF_is hu, List.getElem?_map] at hN
    obtain ⟨N1, a1, a2⟩ := Option.map_eq_some_iff.mp hN
    obtain ⟨_, N', _, eN⟩ := g k N1 a1
    rw [eN, List.dropLast_concat] at a2
    rw [a1, eN, a2]
  refine ⟨by rw [S1]; exact h1, ⟨?_, fun t q ht => ?_⟩, by rw [e23, e36, e37]; exact ⟨c1, c2⟩, fun k N hN => ?_, fun k N hN => ?_⟩
  · rw [hl, e25, bl]
    have u := t_cl (y.1 0 25)
    omega
  · obtain ⟨a1, a2⟩ := hq t q ht
    have hlt := gt_lt ht
    rw [hl] at hlt
    refine ⟨by rw [h3 t hlt, a1], ?_⟩
    rw [e38]
    exact i2 t _ a2
  · rw [S2] at hN
    have a := h4 k _ (cla (Or.inl rfl) at' k N hN)
    rw [nPs_54] at a
    exact a
  · rw [S2] at hN
    have a := h5 k _ (cla (Or.inr rfl) ft k N hN)
    rw [nPs_54] at a
    exact a
