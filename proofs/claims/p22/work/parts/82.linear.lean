/-! linear: calls 0/107; doing 109, given 110, got 111, from 112, to 113, order 114, tried 115, held 116 (0/116 many), openAt 118 -/
/-- a bit -/
def bt (u : Int32) (i : Nat) : Bool := u.toBitVec.getLsbD i
/-- the bit of a call -/
def bc (c : Int32) : Int32 := 1 <<< (c &&& 31 : Int32)
theorem bc_all : ∀ c : Fin 14, ∀ i : Fin 32, ((1 : Int32) <<< (Int32.ofNat c.val &&& 31 : Int32)).toBitVec.getLsbD i.val = decide (i.val = c.val) := by decide
theorem sh_all : ∀ c : Fin 14, ((Int32.ofNat c.val &&& 31 : Int32).toBitVec.smod 32).toNat = c.val := by decide
theorem of_cl {c : Int32} (h0 : 0 ≤ c.toInt) : c = Int32.ofNat c.toNatClampNeg := by
  have r := t_rg c
  have e : c.toNatClampNeg = c.toInt.toNat := rfl
  refine t_eq.mpr ?_
  rw [Int32.toInt_ofNat_of_lt (by omega)]
  omega
theorem bt_bc {c : Int32} (h0 : 0 ≤ c.toInt) (h1 : c.toInt < 14) {i : Nat} (hi : i < 32) : bt (bc c) i = decide (i = c.toNatClampNeg) := by
  have cc := cl_i h0
  have q := bc_all ⟨c.toNatClampNeg, by omega⟩ ⟨i, hi⟩
  unfold bt bc
  rw [of_cl h0]
  exact q.trans (by rw [← of_cl h0])
theorem bt_or (a b : Int32) (i : Nat) : bt (a ||| b) i = (bt a i || bt b i) := by
  unfold bt
  rw [Int32.toBitVec_or, BitVec.getLsbD_or]
theorem bt_sh {u c : Int32} (h0 : 0 ≤ c.toInt) (h1 : c.toInt < 14) (h : ((u >>> (c &&& 31 : Int32)) &&& 1) = (0 : Int32)) : bt u c.toNatClampNeg = false := by
  have cc := cl_i h0
  have q := sh_all ⟨c.toNatClampNeg, by omega⟩
  have e : (c &&& 31 : Int32).toBitVec.smod 32 = (c &&& 31 : Int32).toBitVec.smod 32 := rfl
  have q2 : ((c &&& 31 : Int32).toBitVec.smod 32).toNat = c.toNatClampNeg := by
    rw [of_cl h0]
    exact q.trans (by rw [← of_cl h0])
  have h2 : (((u >>> (c &&& 31 : Int32)) &&& 1).toBitVec).getLsbD 0 = false := by rw [h]; rfl
  rw [Int32.toBitVec_and, BitVec.getLsbD_and] at h2
  have h3 : ((1 : Int32).toBitVec).getLsbD 0 = true := rfl
  rw [h3, Bool.and_true] at h2
  have h4 : (u >>> (c &&& 31 : Int32)).toBitVec = u.toBitVec.sshiftRight ((c &&& 31 : Int32).toBitVec.smod 32).toNat := rfl
  rw [h4, q2, BitVec.getLsbD_sshiftRight] at h2
  rw [if_pos (by omega)] at h2
  unfold bt
  simpa using h2
/-- the calls taken -/
def uS (T : Nat → Int32) : Nat → Int32
  | 0 => 0
  | d + 1 => uS T d ||| bc (T d)
/-- how many of the bits under n -/
def pc (u : Int32) : Nat → Nat
  | 0 => 0
  | n + 1 => pc u n + (if bt u n = true then 1 else 0)
/-- calls that may come one after the other -/
def gT (N : Int) (T : Nat → Int32) (d : Nat) : Prop := ∀ k : Nat, k < d → 0 ≤ (T k).toInt ∧ (T k).toInt < N ∧ bt (uS T k) (T k).toNatClampNeg = false
section LIN
variable {G : mG} {d D : Nat} {x z a : gd} {F : Int32 → gd → Prop} {Fv : gd → Prop}
abbrev tcA : List Nat := [109, 110, 111, 112, 113, 118]
theorem oA_si {y : gd} {t : Nat} {v : Int32} (q : oA y) (v0 : 0 ≤ v.toInt) (v1 : v.toInt < 14) : oA (si y 118 t v) := by
  intro k hk
  rw [si_get]
  by_cases c : (118 = 118 ∧ k = t)
  · rw [if_pos c]; exact ⟨v0, v1⟩
  · rw [if_neg c]; exact q k hk
end LIN
