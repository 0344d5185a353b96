/-- one act laid -/
def aD (x x' : gd) (a b : Int32) : Prop := md [52] [54, 55, 56, 57, 58, 59, 60, 61, 62, 63] x x' ∧ x'.1 0 52 = x.1 0 52 + 1 ∧ (∀ c : Nat, 54 ≤ c → ∀ j : Nat, ¬ j = (x.1 0 52).toNatClampNeg → x'.1 c j = x.1 c j) ∧ x'.1 54 (x.1 0 52).toNatClampNeg = 6 ∧ x'.1 55 (x.1 0 52).toNatClampNeg = a ∧ x'.1 56 (x.1 0 52).toNatClampNeg = b ∧ x'.1 57 (x.1 0 52).toNatClampNeg = 0 ∧ x'.1 58 (x.1 0 52).toNatClampNeg = (-1) ∧ x'.1 59 (x.1 0 52).toNatClampNeg = (-1) ∧ x'.1 60 (x.1 0 52).toNatClampNeg = (-1) ∧ x'.1 61 (x.1 0 52).toNatClampNeg = (-1)
theorem sp_layAct {G : mG} {d : Nat} {x : gd} {F : Int32 → gd → Prop} (a b s : Int32) (hn : vp_in (x.1 0 52) 1500) (kb : KB x) (hs : s = -1 ∨ (vp_in s 3000 ∧ vp_in (x.1 19 s.toNatClampNeg) 710)) (tk : TK x) (h : ∀ x', aD x x' a b → F (x.1 0 52) x') : MT G (d + 2) z_layAct 0 [(0, vr 0), (1, vi a), (2, vi b), (3, vi s)] [] x (ri F) := by
  refine sg_layAct_0 _ _ _ (sp_layStep _ _ hn kb hs tk (fun y hy => ⟨hn, fun y4 e4 => ⟨hn, fun y6 e6 => ri_i (h _ ?_)⟩⟩))
  obtain ⟨m, c, k, v54, v55, v56, v57, v58, v59, v60, v61⟩ := hy
  have m4 := md_a y 55 (x.1 0 52).toNatClampNeg a (by decide)
  rw [← e4] at m4
  have m6 := md_a y4 56 (x.1 0 52).toNatClampNeg b (by decide)
  rw [← e6] at m6
  have m46 : md [] [55, 56] y y6 := md_tr m4 m6 rfl rfl
  have o : ∀ (q j : Nat), q ≠ 55 → q ≠ 56 → y6.1 q j = y.1 q j := fun q j h1 h2 => by rw [e6, si_cell h2, e4, si_cell h1]
  refine ⟨md_tr m m46 rfl rfl, by rw [m46.1 52 (by decide), c], fun q hq j hj => ?_, ?_, ?_, ?_, ?_, ?_, ?_, ?_, ?_⟩
  · rw [e6, si_ne q j hj, e4, si_ne q j hj]; exact k q hq j hj
  · rw [o _ _ (by decide) (by decide)]; exact v54
  · rw [e6, si_cell (by decide), e4, si_get, if_pos ⟨rfl, rfl⟩]
  · rw [e6, si_get, if_pos ⟨rfl, rfl⟩]
  · rw [o _ _ (by decide) (by decide)]; exact v57
  · rw [o _ _ (by decide) (by decide)]; exact v58
  · rw [o _ _ (by decide) (by decide)]; exact v59
  · rw [o _ _ (by decide) (by decide)]; exact v60
  · rw [o _ _ (by decide) (by decide)]; exact v61
theorem sp_isCellAlone {G : mG} {d : Nat} {x : gd} {F : Int32 → gd → Prop} (r : Int32) (h1 : vp_in r 3000) (h2 : x.1 15 r.toNatClampNeg = 10 → vp_in (x.1 16 r.toNatClampNeg) 3000 ∧ vp_in (x.1 19 (x.1 16 r.toNatClampNeg).toNatClampNeg) 710) (tk : TK x) (kb : KB x) (h0 : F 0 x) (h : x.1 15 r.toNatClampNeg = 10 → x.1 15 (x.1 16 r.toNatClampNeg).toNatClampNeg = 3 → F 1 x) : MT G (d + 2) z_isCellAlone 0 [(0, vr 0), (1, vi r)] [] x (ri F) :=
  sg_isCellAlone_0 _ ⟨h1, fun _ => ri_i h0, fun c => ⟨h1, (h2 c).1, fun _ => ri_i h0, fun c2 => ⟨h1, (h2 c).1, sp_slotOf _ (h2 c).2 tk kb (fun _ _ => ⟨fun _ => ri_i h0, fun _ => ri_i (h c c2)⟩)⟩⟩⟩
