/-! the class: show() does the choices that lead to a state -/
def PA3 (x : gd) (o : Nat) (T : gTy) : Prop := ∀ s p, T.1[s]? = some p → (s = 0 → (x.1 (o + 12) 0).toInt = 0) ∧ (0 < s → p.2.1 < s ∧ (x.1 (o + 10) s).toInt = (p.2.1 : Nat) ∧ (x.1 (o + 11) s).toInt = (p.2.2 : Nat) ∧ (x.1 (o + 12) s).toInt = (x.1 (o + 12) p.2.1).toInt + 1)
/-- what a trying has told -/
def TR3 (C : gCo) (w : Nat) (x : gd) (o : Nat) (T : gTy) : Prop := ((x.1 o 0).toInt = (T.1.length : Nat) ∧ x.1 o 1 = if T.2 = true then 1 else 0) ∧ PA3 x o T ∧ FN3 C w (x.1 (o + 7)) T T.1.length
section KSH
variable {G : kG} {q : kP} {d : Nat} {x y z : gd} {o : Nat} {F : Int32 → gd → Prop} {Fv : gd → Prop} {P : Option gv → gd → Prop} {X : String → gd → Prop} {C : gCo} {T : gTy} {nl w n : Nat} {c : Nat → Nat}
theorem TR3_of (h : KX3 C nl w x o T) (g : FN3 C w (x.1 (o + 7)) T T.1.length) : TR3 C w x o T := ⟨h.1, h.2.2.2, g⟩
theorem TR3_f (e0 : y.1 o 0 = x.1 o 0) (e1 : y.1 o 1 = x.1 o 1) (e : ∀ c k, c = o + 7 ∨ c = o + 10 ∨ c = o + 11 ∨ c = o + 12 → y.1 c k = x.1 c k) (h : TR3 C w x o T) : TR3 C w y o T := by
  obtain ⟨h1, h2, h3⟩ := h
  refine ⟨by rw [e0, e1]; exact h1, fun s p hp => ?_, ?_⟩
  · rw [e _ _ (by omega), e _ _ (by omega), e _ _ (by omega), e _ _ (by omega), e _ _ (by omega)]; exact h2 s p hp
  · rw [show y.1 (o + 7) = x.1 (o + 7) from funext (fun k => e _ _ (by omega))]; exact h3
theorem PA_d (h : TW C w T) (g : PA3 x o T) : ∀ n s p, s ≤ n → T.1[s]? = some p → (x.1 (o + 12) s).toInt = ((pth T s).length : Nat) := by
  intro n
  induction n with
  | zero =>
    intro s p hs hp
    have e : s = 0 := by omega
    rw [e] at hp ⊢
    exact (g 0 p hp).1 rfl
  | succ n ih =>
    intro s p hs hp
    by_cases s0 : s = 0
    · rw [s0] at hp ⊢
      exact (g 0 p hp).1 rfl
    · obtain ⟨a1, a2, a3, a4⟩ := (g s p hp).2 (by omega)
      obtain ⟨hl, p', ch, h1, h2, h3⟩ := (h s p hp).2 (by omega)
      rw [a4, ih p.2.1 p' (by omega) h1, pth_s h (by omega) hp, List.length_append, List.length_singleton]
      rfl
theorem kt_pathTo3 (hq : kV q) (ho : kiT q o) {a : Nat} (ka : kK a = .inr (.int, 400)) (ma : a ∈ (kf q).2.1) (hoa : a < o) (s : Int32) {S : Nat} (es : s.toInt = S) {p : gMa × Nat × Nat} (hp : T.1[S]? = some p) (hW : TW C w T) (hA : PA3 x o T) (hT3 : T.1.length ≤ 3000) (h4 : (pth T S).length ≤ 400) (h : ∀ y, fm (fun c k => c = a) x y → (∀ k v, (pth T S)[k]? = some v → (y.1 a k).toInt = (v : Nat)) → Fv y) : KT G q d zk_X10_pathTo 0 [(0, vr o), (1, vi s), (2, vr a)] [] x (rv Fv) := by
  have k1 : (1 : Int32).toInt = 1 := rfl
  have km : (-1 : Int32).toInt = -1 := rfl
  have k0 : (0 : Int32).toInt = 0 := rfl
  have k4 : (Int32.ofNat 400).toInt = 400 := rfl
  have loop : ∀ (n : Nat) (u i : Int32) (U : Nat) (p9 : gMa × Nat × Nat) (r : List Nat) (y : gd), i.toInt = (n : Int) - 1 → u.toInt = U → T.1[U]? = some p9 → (pth T U).length = n → pth T S = pth T U ++ r → fm (fun c k => c = a) x y → (∀ j v, r[j]? = some v → (y.1 a (n + j)).toInt = (v : Nat)) → KT G q d zk_X10_pathTo 12 [(0, vr o), (2, vr a), (3, vi u), (4, vi i)] [] y (rv Fv) := by
    intro n
    induction n with
    | zero =>
      intro u i U p9 r y ei eu hU hl hr fy hy
      have e0 : pth T U = [] := List.eq_nil_of_length_eq_zero hl
      rw [e0, List.nil_append] at hr
      refine kg_X10_pathTo_12 hq ho ka ma _ _ ⟨fun _ => rv_i (h y fy (fun k v hk => ?_)), fun c => ?_⟩
      · rw [hr] at hk
        have := hy k v hk
        rw [Nat.zero_add] at this
        exact this
      · rw [t_lt, k0] at c; omega
    | succ n ih =>
      intro u i U p9 r y ei eu hU hl hr fy hy
      have hlen : (pth T S).length = (n + 1) + r.length := by rw [hr, List.length_append, hl]
      have U0 : 0 < U := by
        apply Classical.byContradiction
        intro c
        rw [show U = 0 by omega, pth_0] at hl
        cases hl
      obtain ⟨a1, a2, a3, a4⟩ := (hA U p9 hU).2 U0
      obtain ⟨hlt, p', ch, g1, g2, g3⟩ := (hW U p9 hU).2 U0
      have ps := pth_s hW U0 hU
      have hUl := gt_lt hU
      have vu : vp_in u 3000 := by rw [vp_in_iff]; omega
      refine kg_X10_pathTo_12 hq ho ka ma _ _ ⟨fun c => ?_, fun c => ⟨fun c2 => ?_, fun c2 => ⟨vu, ?_, fun z ez => ⟨vu, ?_⟩⟩⟩⟩
      · rw [t_lt, k0] at c; push_cast at ei; omega
      · rw [t_le, k4] at c2
        push_cast at ei; omega
      · rw [vp_in_iff]; push_cast at ei; omega
      have eU : u.toNatClampNeg = U := by rw [t_cl, eu]; rfl
      have eI : i.toNatClampNeg = n := by rw [t_cl, ei]; push_cast; omega
      have fz : fm (fun c k => c = a) x z := by rw [ez]; exact fm_si fy rfl
      rw [eU, fz (o + 10) _ (by omega)]
      obtain ⟨i2, hi2⟩ : ∃ i2, i2 = i + -1 := ⟨_, rfl⟩
      rw [← hi2]
      have ei1 : i2.toInt = (n : Int) - 1 := by rw [hi2, t_add (by rw [km]; push_cast at ei; omega) (by rw [km]; push_cast at ei; omega), km, ei]; push_cast; omega
      clear hi2
      have hl' : (pth T p9.2.1).length = n := by rw [ps, List.length_append, List.length_singleton] at hl; omega
      refine ih _ _ p9.2.1 p' (p9.2.2 :: r) z ei1 a2 g1 hl' (by rw [hr, ps, List.append_assoc]; rfl) fz (fun j v hj => ?_)
      cases j with
      | zero =>
        have hj : p9.2.2 = v := Option.some.inj hj
        rw [ez, si_get, if_pos ⟨rfl, by rw [eI]; rfl⟩, eU, fy (o + 11) _ (by omega), ← hj]
        exact a3
      | succ j =>
        have hj : r[j]? = some v := hj
        have := hy j v hj
        rw [ez, si_get, if_neg (fun z => by have := z.2; omega), show n + (j + 1) = n + 1 + j by omega]
        exact this
  have eS : s.toNatClampNeg = S := by rw [t_cl, es]; rfl
  have dd := PA_d hW hA S S p (Nat.le_refl _) hp
  have hSl := gt_lt hp
  refine kg_X10_pathTo_0 hq ho ka ma _ ⟨by rw [vp_in_iff]; omega, ?_⟩
  rw [eS]
  refine loop (pth T S).length _ _ S p [] x ?_ es hp rfl (List.append_nil _).symm (fm_rf _ _) (fun j v hj => nomatch hj)
  rw [t_sub (by rw [k1]; omega) (by rw [k1]; omega), k1, dd]
end KSH
