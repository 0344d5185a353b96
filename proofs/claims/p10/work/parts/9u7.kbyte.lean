/-! the bytes that feed adds are the same on both sides -/
section BYT
variable {x y w w' : gd}
theorem bv8 (l : BitVec 64) (s : Nat) (hs : s ≤ 56) : (l >>> s).setWidth 8 = (l.sshiftRight s).setWidth 8 := by
  apply BitVec.eq_of_getLsbD_eq
  intro i hi
  rw [BitVec.getLsbD_setWidth, BitVec.getLsbD_setWidth, BitVec.getLsbD_ushiftRight, BitVec.getLsbD_sshiftRight]
  have h1 : ¬ 64 ≤ i := by omega
  have h2 : s + i < 64 := by omega
  simp [h1, h2]
theorem nar8 (a : Int64) : a.toInt32.toInt8.toBitVec = a.toBitVec.setWidth 8 := by
  apply BitVec.eq_of_getLsbD_eq
  intro i hi
  have e : a.toInt32.toInt8.toBitVec = (a.toBitVec.signExtend 32).signExtend 8 := rfl
  rw [e, BitVec.getLsbD_signExtend, BitVec.getLsbD_signExtend, BitVec.getLsbD_setWidth]
  have h1 : i < 32 := by omega
  have h2 : i < 64 := by omega
  simp [hi, h1, h2]
theorem FB_same {l : Int64} {j : Nat} (hj : j < 8) : FBk l j = FBw l j := by
  have key : ∀ (s : Nat) (hs : s ≤ 56) (u : UInt64) (v : Int64), (l.toUInt64 >>> u).toBitVec = l.toBitVec >>> s → (l >>> v).toBitVec = l.toBitVec.sshiftRight s → ((l.toUInt64 >>> u).toInt64).toInt32.toInt8 = (l >>> v).toInt32.toInt8 := by
    intro s hs u v h1 h2
    apply Int8.toBitVec_inj.mp
    rw [nar8, nar8]
    show (l.toUInt64 >>> u).toBitVec.setWidth 8 = _
    rw [h1, h2]
    exact bv8 _ s hs
  unfold FBk FBw
  have c : j = 0 ∨ j = 1 ∨ j = 2 ∨ j = 3 ∨ j = 4 ∨ j = 5 ∨ j = 6 ∨ j = 7 := by omega
  rcases c with rfl | rfl | rfl | rfl | rfl | rfl | rfl | rfl
  · refine congrArg (fun a : Int8 => vp_nar .byte a.toInt32) (key 0 (by omega) _ _ ?_ ?_)
    · rfl
    · rfl
  · refine congrArg (fun a : Int8 => vp_nar .byte a.toInt32) (key 8 (by omega) _ _ ?_ ?_)
    · rfl
    · rfl
  · refine congrArg (fun a : Int8 => vp_nar .byte a.toInt32) (key 16 (by omega) _ _ ?_ ?_)
    · rfl
    · rfl
  · refine congrArg (fun a : Int8 => vp_nar .byte a.toInt32) (key 24 (by omega) _ _ ?_ ?_)
    · rfl
    · rfl
  · refine congrArg (fun a : Int8 => vp_nar .byte a.toInt32) (key 32 (by omega) _ _ ?_ ?_)
    · rfl
    · rfl
  · refine congrArg (fun a : Int8 => vp_nar .byte a.toInt32) (key 40 (by omega) _ _ ?_ ?_)
    · rfl
    · rfl
  · refine congrArg (fun a : Int8 => vp_nar .byte a.toInt32) (key 48 (by omega) _ _ ?_ ?_)
    · rfl
    · rfl
  · refine congrArg (fun a : Int8 => vp_nar .byte a.toInt32) (key 56 (by omega) _ _ ?_ ?_)
    · rfl
    · rfl
theorem JR_feed (h : JR x w) {n : Int32} {l : Int64} (hn : 1 ≤ n.toInt ∧ n.toInt ≤ 8 ∧ (x.1 20 1).toInt + n.toInt ≤ 3000) (hL : 0 ≤ (x.1 20 1).toInt) (e1 : (y.1 20 1).toInt = (x.1 20 1).toInt + n.toInt) (e9 : y.1 0 9 = 0) (fb : FBc x l n.toInt.toNat y) (e2 : w'.1 0 2 = w.1 0 2 + n) (fm' : FBm w l n.toNatClampNeg w') (e66 : w'.1 0 66 = 0) (hz : z5 w') : JR y w' := by
  obtain ⟨⟨t1, t2⟩, -⟩ := h
  have u1 := t_cl (x.1 20 1)
  have u2 := t_cl (y.1 20 1)
  have u3 := t_cl n
  refine ⟨⟨?_, fun p hp => ?_⟩, Or.inl ⟨e9, e66, hz⟩⟩
  · rw [t_eq, e1, e2, ← t1, t_add (by omega) (by omega)]
  · have t1' : (x.1 20 1).toNatClampNeg = (w.1 0 2).toNatClampNeg := by rw [t1]
    by_cases c : p < (x.1 20 1).toNatClampNeg
    · rw [fb.1 p c, fm'.1 p (by omega)]
      exact t2 p c
    · obtain ⟨j, ej⟩ : ∃ j, p = (x.1 20 1).toNatClampNeg + j := ⟨p - (x.1 20 1).toNatClampNeg, by omega⟩
      have hj : j < n.toInt.toNat := by omega
      rw [ej, fb.2 j hj, t1', fm'.2 j (by omega)]
      exact FB_same (by omega)
theorem JR_wipe (e1 : y.1 20 1 = 0) (e9 : y.1 0 9 = 0) (e2 : w'.1 0 2 = 0) (e66 : w'.1 0 66 = 0) (hz : z5 w') : JR y w' := by
  refine ⟨⟨by rw [e1, e2], fun p hp => ?_⟩, Or.inl ⟨e9, e66, hz⟩⟩
  rw [e1] at hp
  exact absurd hp (Nat.not_lt_zero _)
theorem JR_x {x1 : gd} (e : x1.1 = x.1) (h : JR x w) : JR x1 w := by
  have k : ∀ {C : gCo}, CK x C → CK x1 C := fun h => CK_f h (fun c k _ => by rw [e])
  unfold JR TXs at h ⊢
  rw [e]
  obtain ⟨h1, h2⟩ := h
  refine ⟨h1, h2.imp id (fun ⟨a1, a2, a3, a4, a5, a6, a7, C, c1, c2, c3⟩ => ⟨a1, a2, a3, a4, a5, a6, a7, C, k c1, c2, c3⟩)⟩
end BYT
