/-! a sum's events, by the grammar -/
def sG (o : Bool) (L L' : gU) : Prop := ∃ N, L' = L ++ N ∧ sEv o N
section SGL
variable {K : Nat → Int32} {L L' L2 : gU} {o : Bool}
theorem sG_rf : sG o L L := ⟨[], by rw [List.append_nil], sEv_nil⟩
theorem sG_tr (h : sG o L L') (g : sG o L' L2) : sG o L L2 := by
  obtain ⟨N, e, h⟩ := h
  obtain ⟨N2, e2, g⟩ := g
  exact ⟨N ++ N2, by rw [e2, e, List.append_assoc], sEv_app h g⟩
theorem sG_k {k a b : Nat} (h : k = 50 ∨ k = 51 ∨ k = 52 ∨ k = 53 ∨ (o = false ∧ k = 3) ∨ (o = true ∧ (k = 6 ∨ k = 7 ∨ k = 12))) : sG o L (L ++ [(k, a, b)]) := ⟨_, rfl, sEv_one h⟩
theorem pt_sG {w : Int32} {q r : Nat × gU} (h : pt K w q = some r) : sG o q.2 r.2 := by
  obtain ⟨-, -, e⟩ := pt_is h
  rw [e]; exact sG_rf
abbrev sgo (o : Bool) (rE : Nat → Nat → gU → gOp) : Prop := ∀ s i L q, rE s i L = some q → sG o L q.2
theorem pW_sG {rE : Nat → Nat → gU → gOp} {th : Nat} (hr : sgo o rE) : ∀ (f j : Nat) (L : gU) (q : Nat × gU), pW rE K th f j L = some q → sG o L q.2 := by
  intro f
  induction f with
  | zero => intro j L q h; exact absurd h (by simp [pW])
  | succ f ih =>
    intro j L q h
    rw [pW] at h
    split at h
    · split at h
      · obtain ⟨z, hz, h2⟩ := Option.bind_eq_some_iff.mp h
        exact sG_tr (hr _ _ _ _ hz) (sG_tr (sG_k (Or.inr (Or.inl rfl))) (ih _ _ _ h2))
      · exact absurd h (by simp)
    · cases Option.some.inj h; exact sG_rf
theorem pO_sG {rE : Nat → Nat → gU → gOp} (hr : sgo o rE) {i : Nat} {q : Nat × gU} (h : pO rE K o i L = some q) : sG o L q.2 := by
  unfold pO at h
  split at h
  · exact absurd h (by simp)
  · split at h
    · cases Option.some.inj h; exact sG_k (Or.inr (Or.inr (Or.inl rfl)))
    · split at h
      · cases Option.some.inj h; exact sG_k (Or.inr (Or.inr (Or.inr (Or.inl rfl))))
      · split at h
        · obtain ⟨z, hz, h2⟩ := Option.bind_eq_some_iff.mp h
          exact sG_tr (hr _ _ _ _ hz) (pt_sG h2)
        · split at h
          · split at h
            · next ho =>
              split at h
              · split at h
                · cases Option.some.inj h
                  exact ⟨_, rfl, sEv_app (N := [_]) (M := [_]) (sEv_one (Or.inr (Or.inr (Or.inr (Or.inr (Or.inr ⟨ho, Or.inr (Or.inl rfl)⟩)))))) (sEv_one (Or.inr (Or.inr (Or.inr (Or.inr (Or.inr ⟨ho, Or.inr (Or.inr rfl)⟩))))))⟩
                · exact absurd h (by simp)
              · cases Option.some.inj h; exact sG_k (Or.inr (Or.inr (Or.inr (Or.inr (Or.inr ⟨ho, Or.inl rfl⟩)))))
            · next ho =>
              cases Option.some.inj h
              exact sG_k (Or.inr (Or.inr (Or.inr (Or.inr (Or.inl ⟨by cases o with | false => rfl | true => exact absurd rfl ho, rfl⟩)))))
          · exact absurd h (by simp)
theorem pE_sG : ∀ f : Nat, sgo o (pE K o f) := by
  intro f
  induction f with
  | zero => intro s i L q h; exact absurd h (by simp [pE])
  | succ f ih =>
    intro s i L q h
    rw [pE] at h
    split at h
    · obtain ⟨z, hz, h2⟩ := Option.bind_eq_some_iff.mp h
      refine sG_tr ?_ (pW_sG ih _ _ _ _ h2)
      split at hz
      · split at hz
        · obtain ⟨y, hy, h3⟩ := Option.bind_eq_some_iff.mp hz
          cases Option.some.inj h3
          exact sG_tr (ih _ _ _ _ hy) (sG_k (Or.inl rfl))
        · exact absurd hz (by simp)
      · exact pO_sG ih hz
    · exact absurd h (by simp)
/-- a whole sum: its events, then its end -/
theorem pX_sE {f i j : Nat} {N : gU} (h : pX K o f i L = some (j, L ++ N)) : ∃ N', N = N' ++ [(54, 0, 0)] ∧ sEv o N' := by
  obtain ⟨z, hz, h2⟩ := Option.bind_eq_some_iff.mp h
  obtain ⟨N', e, hs⟩ := pE_sG f _ _ _ _ hz
  unfold pan at h2
  have h2 := Option.some.inj h2
  have e2 : z.2 ++ [(54, 0, 0)] = L ++ N := congrArg Prod.snd h2
  rw [e, List.append_assoc] at e2
  exact ⟨N', (List.append_cancel_left e2).symm, hs⟩
end SGL
