/-! one statement at nesting 16 - k -/
def QO (k : Nat) (x : gd) (r : Int32) (x' : gd) : Prop := RP x x' ∧ -(3 * ((k : Int) + 1) + 2) ≤ cr x' ∧ 0 ≤ r.toInt ∧ ((x'.1 0 9).toInt = 0 → x'.1 0 20 = x.1 0 20 ∧ (x.1 0 8).toInt + 2 ≤ (x'.1 0 8).toInt ∧ cr x ≤ cr x' ∧ (x.1 0 21).toInt ≤ (x'.1 0 21).toInt ∧ LT x' ∧ vS x' (x.1 0 13).toInt (k + 2) ((x'.1 0 8).toInt - (x.1 0 8).toInt).toNat ((x'.1 0 21).toInt - (x.1 0 21).toInt).toNat r ∧ x'.1 20 r.toNatClampNeg = -1 ∧ (x.1 0 13).toInt ≤ r.toInt)
/-- a statement ends with its node -/
theorem endO {k : Nat} {x z w : gd} {q a b c t : Int32} (rz : RP x z) (n0 : 0 ≤ (x.1 0 13).toInt) (k16 : k ≤ 16) (low : -(3 * ((k : Int) + 1) + 1) ≤ cr z) (ht : vp_in t 710) (hw : nE z w q a b c t) (ok : (z.1 0 9).toInt = 0 → z.1 0 20 = x.1 0 20 ∧ (x.1 0 8).toInt + 2 ≤ (z.1 0 8).toInt ∧ cr x + 1 ≤ cr z ∧ (x.1 0 21).toInt ≤ (z.1 0 21).toInt ∧ LT z ∧ vD z (x.1 0 13).toInt (vS z (x.1 0 13).toInt (k + 1)) ((z.1 0 8).toInt - (x.1 0 8).toInt).toNat ((z.1 0 21).toInt - (x.1 0 21).toInt).toNat q a b c (z.1 0 13)) : QO k x (z.1 0 13) w := by
  obtain ⟨hn, rw1, nk, cw, z0, z1, f8, f9, f20, f21⟩ := nodeR rz n0 (by omega) hw
  obtain ⟨g1, g2, g3, g4, g5, g6⟩ := nE_at hw
  refine ⟨rw1, by omega, z0, fun h => ?_⟩
  rw [f9] at h
  obtain ⟨o1, o2, o3, o4, o5, o6⟩ := ok h
  have rzw := (RP_nE rz.2.1 hn hw).1
  rw [f8, f21, f20]
  refine ⟨o1, o2, by omega, o4, by unfold LT; rw [f21]; exact o5, ⟨⟨z0, z1⟩, by rw [g5]; exact ht, by omega, ?_⟩, g6, rz.2.2.2.2.1⟩
  rw [g1, g2, g3, g4]
  exact vD_keep (Int.le_refl _) (NL_RP _ (z.1 0 13).toInt rzw) (fun _ _ _ _ g => vS_RP (Int.le_refl _) rzw g) (Int.le_refl _) o6
/-- ... or with one more token -/
theorem endP {k : Nat} {x w y : gd} {r : Int32} (h : QO k x r w) (hs : SS w y) (hst : (y.1 0 9).toInt = 0 → (y.1 0 8).toInt = (w.1 0 8).toInt + 1) : QO k x r y := by
  obtain ⟨h1, h2, h3, h4⟩ := h
  have c1 := cr_ss hs
  refine ⟨RP_tr h1 (RP_ss hs), by omega, h3, fun q => ?_⟩
  obtain ⟨o1, o2, o3, o4, o5, o6, o7, o8⟩ := h4 (hs.2.2.2.2 q)
  have e21 : y.1 0 21 = w.1 0 21 := hs.1.1 21 (by decide)
  have e20 : y.1 0 20 = w.1 0 20 := hs.1.1 20 (by decide)
  have st := hst q
  rw [e20, e21]
  refine ⟨o1, by omega, by omega, o4, by unfold LT; rw [e21]; exact o5, vS_mono (by omega) (vS_RP (Int.le_refl _) (RP_ss hs) o6), ?_, o8⟩
  rw [(RP_ss hs).2.2.2.2.2 20 (by decide) (by decide) _ (by rw [t_cl]; have := o6.1; omega)]
  exact o7
