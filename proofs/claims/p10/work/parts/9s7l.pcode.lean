/-! what else a compiled program is like -/
section PCD
variable {x : gd} {C : gCo} {nl : Nat}
theorem so_of (hK : CK x C) (hN : NC C) {s : Nat} {st : gNs} (hs : C.1[s]? = some st) : (s : Int) < ssm x ∧ sop x s = (st.1 : Nat) := by
  have n22 := (hN.1 s st hs).1.1
  obtain ⟨k81, -⟩ := hK.1.2 s st hs
  refine ⟨?_, ?_⟩
  · have := gt_lt hs
    have e : (x.1 80 9).toInt = C.1.length := hK.1.1
    show (s : Int) < (x.1 80 9).toInt
    omega
  · show (x.1 81 s).toInt = _
    rw [k81]
    exact Int32.toInt_ofNat_of_lt (by omega)
/-- locks that there are -/
theorem LkN_of (hC : CO x) (hK : CK x C) (hN : NC C) (en : (x.1 60 9).toInt = (nl : Nat)) : LkN C nl := by
  intro s st hs h5 h8
  obtain ⟨l, so⟩ := so_of hK hN hs
  obtain ⟨k81, -, -, -, k85, -⟩ := hK.1.2 s st hs
  have a := (hC.2.2.2.1 s l).1.2.1 (by omega) (by omega)
  rw [k85 (by omega)] at a
  rw [t_cl]
  omega
theorem NXc_of (hC : CO x) (hK : CK x C) (hN : NC C) (h2 : NX2 C) : NXc C := by
  intro s st hs
  obtain ⟨a1, a2, a3, a4, a5⟩ := h2 s st hs
  refine ⟨a1, a2, a3, a4, a5, fun h4 => ?_⟩
  obtain ⟨l, so⟩ := so_of hK hN hs
  obtain ⟨k81, -, -, -, k85, k86, -⟩ := hK.1.2 s st hs
  have nC : (x.1 60 6).toInt = C.2.2.1.length := hK.2.2.1.1
  have b := (hC.2.2.2.1 s l).1.1 (by omega)
  rw [k85 (by omega)] at b
  refine ⟨by omega, by omega, fun hx => ?_⟩
  rw [k86 h4 hx] at b
  omega
end PCD
