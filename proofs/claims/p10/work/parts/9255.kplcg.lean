/-! the class: what statements without a block add to the code -/
section KPC
variable {sN : Nat → Nat → Bool} {V K : Nat → Int32} {Ev : gV} {x y z w : gd} {N : gU} {v : Nat × Nat × Nat} {e i j : Nat} {o ob s tg kn ix e9 f9 : Int32}
theorem sEv_still {o : Bool} (h : sEv o N) : still N := fun v hv => by
  have := h v hv
  omega
theorem sEv_ce {o : Bool} (h : sEv o N) {d : Nat × Int32 × List (Int32 × Bool)} : ces K V N d = d := ces_no (fun v hv q => by
  have := h v hv
  omega)
theorem tPs_x {o : Bool} {E : gV} (h : sEv o N) : tPs sN V K (N ++ [(54, 0, 0)]) E = sPs sN V K E (N ++ [(54, 0, 0)]) := by
  refine tPs_still (still_54 (sEv_still h)) (fun v hv => ?_)
  rcases List.mem_append.mp hv with q | q
  · have := h v q
    omega
  · rw [List.mem_singleton.mp q]; exact ⟨by show ¬ 54 = 24; decide, by show ¬ 54 = 27; decide⟩
theorem opP_c (k : Int32) : opP k = 11 ∨ opP k = 12 ∨ opP k = 19 := by
  unfold opP
  split
  · exact Or.inl rfl
  · split
    · exact Or.inr (Or.inl rfl)
    · exact Or.inr (Or.inr rfl)
theorem opS_c (k : Int32) : opS k = 18 ∨ opS k = 14 := by
  unfold opS
  split
  · exact Or.inl rfl
  · exact Or.inr rfl
theorem opW_c (k : Int32) : 5 ≤ opW k ∧ opW k ≤ 10 := by
  unfold opW
  split
  · decide
  · split
    · decide
    · split
      · decide
      · split
        · decide
        · split <;> decide
/-- nothing was written yet, or one sum -/
def PCd (sN : Nat → Nat → Bool) (V K : Nat → Int32) (Ev : gV) (x y : gd) (s : Int32) (N : gU) : Prop := (N = [] ∧ s = -1 ∧ ∀ c k, ccS c k → y.1 c k = x.1 c k) ∨ ∃ N' y0, N = N' ++ [(54, 0, 0)] ∧ sEv false N' ∧ (∀ c k, ccS c k → y0.1 c k = x.1 c k) ∧ CPl y0 y (sPs sN V K Ev N) ∧ (∀ c k, ccS c k → ¬ (c = 60 ∧ k = 3) → ¬ c = 62 → ¬ c = 63 → y.1 c k = y0.1 c k) ∧ s = y0.1 60 3
theorem CG_pl (hE : KV' K e y Ev) (hEv : ¬ Ev.2.1 = []) (hpc : PCd sN V K Ev x y s N) (a : stK y z o (y.1 100 9) (-1) ob (-1) s (-1)) (hv : (v = (68, i, 0) ∧ ob = -1 ∧ N = [] ∧ o = Int32.ofNat (opP (K i))) ∨ (v = (69, i, 0) ∧ ob = -1 ∧ ¬ N = [] ∧ o = Int32.ofNat (opS (K i))) ∨ (v = (70, i, j) ∧ ob = V j ∧ ¬ N = [] ∧ o = 13)) : CG sN V K Ev x z (N ++ [v]) := by
  intro c d P he hr hc
  obtain ⟨Ec, S, k, r, w⟩ := c
  have hr : r = rg0 := hr
  subst hr
  have he : eqE Ec Ev := he
  have kl : (y.1 100 9).toInt = (Ec.1.length : Nat) := by rw [hE.1, eqE_len he]
  have hEc : ¬ Ec.2.1 = [] := by rw [he.2]; exact hEv
  rcases hpc with ⟨eN, es, fr⟩ | ⟨N', y0, eN, hs', fr, hcp, fr2, es⟩
  · have hv : v = (68, i, 0) ∧ ob = -1 ∧ o = Int32.ofNat (opP (K i)) := by
      rcases hv with ⟨a1, a2, _, a4⟩ | ⟨_, _, a3, _⟩ | ⟨_, _, a3, _⟩
      · exact ⟨a1, a2, a4⟩
      · exact absurd eN a3
      · exact absurd eN a3
    obtain ⟨v1, v2, v3⟩ := hv
    rw [eN, v1, List.nil_append, cds_one, cd_68]
    have op := opP_c (K i)
    have q := CCp_add (st := (opP (K i), i, knw Ec, none, none, false, none, none, none)) (r' := rg0) (CCp_eq fr hc) a v3 kl (fun q => by exfalso; have q : opP (K i) = 0 ∨ (2 ≤ opP (K i) ∧ opP (K i) ≤ 4) ∨ opP (K i) = 16 ∨ opP (K i) = 17 ∨ opP (K i) = 20 := q; omega) (fun q => by exfalso; have q : opP (K i) = 8 := q; omega) (fun _ => v2) rfl es rfl
    refine ⟨?_, ?_, rfl⟩
    · show CCp sN V K z _ d (P ++ [])
      rw [List.append_nil]
      exact q
    · rw [exs_still (stl_k (by decide))]
      exact he
  · have hN : ¬ N = [] := fun q => by rw [q] at eN; simp at eN
    have hst : still N := by rw [eN]; exact still_54 (sEv_still hs')
    have ks : sPs sN V K Ev N' = sPs sN V K (Ec.1, [0], 0) N' := sPs_E hs' (fun t => kfi_len he.1.symm)
    have h0 := CCp_eq fr hc
    have h1 := CCp_sum (r' := rg0) h0 hcp fr2
    have su : SUc (P ++ sPs sN V K Ev N) s (sPs sN V K (Ec.1, [0], 0) N') := by
      rw [eN, sPs_54, ← ks]
      exact SUc_next h0.1 es _
    have hv2 : (v = (69, i, 0) ∧ ob = -1 ∧ o = Int32.ofNat (opS (K i))) ∨ (v = (70, i, j) ∧ ob = V j ∧ o = 13) := by
      rcases hv with ⟨_, _, a3, _⟩ | ⟨a1, a2, _, a4⟩ | ⟨a1, a2, _, a4⟩
      · exact absurd a3 hN
      · exact Or.inl ⟨a1, a2, a4⟩
      · exact Or.inr ⟨a1, a2, a4⟩
    rcases hv2 with ⟨v1, v2, v3⟩ | ⟨v1, v2, v3⟩
    · have op := opS_c (K i)
      have q := CCp_add (st := (opS (K i), i, knw Ec, none, none, false, none, some N', none)) (r' := rg0) h1 a v3 kl (fun q => by exfalso; have q : opS (K i) = 0 ∨ (2 ≤ opS (K i) ∧ opS (K i) ≤ 4) ∨ opS (K i) = 16 ∨ opS (K i) = 17 ∨ opS (K i) = 20 := q; omega) (fun q => by exfalso; have q : opS (K i) = 8 := q; omega) (fun _ => v2) rfl su rfl
      have ec : cds sN K (N ++ [v]) (Ec, S, k, rg0, w) = (Ec, S ++ [(opS (K i), i, knw Ec, none, none, false, none, some N', none)], k, rg0, w) := by
        rw [eN, v1, cds_app, cds_x hs' hEc, cds_one, cd_69]; rfl
      have ee : ces K V (N ++ [v]) d = d := by
        rw [eN, v1, ces_app, ces_app, sEv_ce hs']; rfl
      have ep : tPs sN V K (N ++ [v]) Ev = sPs sN V K Ev N := by
        rw [tPs_app, eN, tPs_x hs', v1]
        exact List.append_nil _
      rw [ec, ee, ep]
      exact ⟨q, by rw [exs_still (still_app hst (by rw [v1]; exact stl_k (by decide)))]; exact he, rfl⟩
    · have q := CCp_add (st := (13, i, knw Ec, none, some j, false, none, some N', none)) (r' := rg0) h1 a v3 kl (fun q => by exfalso; have q : (13 : Nat) = 0 ∨ (2 ≤ 13 ∧ 13 ≤ 4) ∨ (13 : Nat) = 16 ∨ (13 : Nat) = 17 ∨ (13 : Nat) = 20 := q; omega) (fun q => by exfalso; have q : (13 : Nat) = 8 := q; omega) (fun _ => v2) rfl su rfl
      have ec : cds sN K (N ++ [v]) (Ec, S, k, rg0, w) = (Ec, S ++ [(13, i, knw Ec, none, some j, false, none, some N', none)], k, rg0, w) := by
        rw [eN, v1, cds_app, cds_x hs' hEc, cds_one, cd_70]; rfl
      have ee : ces K V (N ++ [v]) d = d := by
        rw [eN, v1, ces_app, ces_app, sEv_ce hs']; rfl
      have ep : tPs sN V K (N ++ [v]) Ev = sPs sN V K Ev N := by
        rw [tPs_app, eN, tPs_x hs', v1]
        exact List.append_nil _
      rw [ec, ee, ep]
      exact ⟨q, by rw [exs_still (still_app hst (by rw [v1]; exact stl_k (by decide)))]; exact he, rfl⟩
theorem stK_84 (a : stK y z o kn tg ob ix e9 f9) {v8 : Int32} (ew : w = si z 84 (y.1 80 9).toNatClampNeg v8) : stK y w o kn v8 ob ix e9 f9 := by
  obtain ⟨a1, a2, a3, a4, a5, a6, a7, a8, a9⟩ := a
  have o9 : ∀ (c k : Nat), ¬ (c = 84 ∧ k = (y.1 80 9).toNatClampNeg) → w.1 c k = z.1 c k := fun c k q => by rw [ew, si_get, if_neg q]
  refine ⟨fun c k q q1 q2 => ?_, by rw [o9 80 9 (by omega)]; exact a2, by rw [o9 81 _ (by omega)]; exact a3, by rw [o9 83 _ (by omega)]; exact a4, by rw [ew, si_get, if_pos ⟨rfl, rfl⟩], by rw [o9 85 _ (by omega)]; exact a6, by rw [o9 87 _ (by omega)]; exact a7, by rw [o9 88 _ (by omega)]; exact a8, by rw [o9 89 _ (by omega)]; exact a9⟩
  rw [o9 c k (by omega)]
  exact a1 c k q q1 q2
/-- take, give, wait, wake, start, join -/
theorem CG_nm (hE : KV' K e y Ev) (fr : ∀ c k, ccS c k → y.1 c k = x.1 c k) (a : stK y z o (y.1 100 9) tg ob (-1) (-1) (-1)) (hv : v = (66, i, j) ∨ v = (67, i, j)) (ho : o = Int32.ofNat (opW (K i))) (hob : ob.toInt = (j : Nat)) (htg : tg = 1 ↔ K i = 40) : CG sN V K Ev x z [v] := by
  intro c d P he hr hc
  obtain ⟨Ec, S, k, r, w⟩ := c
  have hr : r = rg0 := hr
  subst hr
  have he : eqE Ec Ev := he
  have kl : (y.1 100 9).toInt = (Ec.1.length : Nat) := by rw [hE.1, eqE_len he]
  have op := opW_c (K i)
  have q := CCp_add (st := (opW (K i), i, knw Ec, none, some j, decide (K i = 40), none, none, none)) (r' := rg0) (CCp_eq fr hc) a ho kl (fun q => by exfalso; have q : opW (K i) = 0 ∨ (2 ≤ opW (K i) ∧ opW (K i) ≤ 4) ∨ opW (K i) = 16 ∨ opW (K i) = 17 ∨ opW (K i) = 20 := q; omega) (fun _ => by rw [htg]; exact decide_eq_true_iff.symm) (fun _ => by
    show if opW (K i) = 13 then ob = V j else ob.toInt = (j : Nat)
    rw [if_neg (by omega)]; exact hob) rfl rfl rfl
  have ec : cds sN K [v] (Ec, S, k, rg0, w) = (Ec, S ++ [(opW (K i), i, knw Ec, none, some j, decide (K i = 40), none, none, none)], k, rg0, w) := by
    rcases hv with e | e
    · rw [e, cds_one, cd_66]
    · rw [e, cds_one, cd_67]
  have ee : ces K V [v] d = d := by rcases hv with e | e <;> (rw [e]; rfl)
  have ep : tPs sN V K [v] Ev = [] := by rcases hv with e | e <;> (rw [e]; rfl)
  have ex : exs [v] Ev = Ev := by rcases hv with e | e <;> (rw [e]; exact exs_still (stl_k (by decide)))
  rw [ec, ee, ep, ex, List.append_nil]
  exact ⟨q, he, rfl⟩
end KPC
