def gpick (lv : List (Nat × gv)) (ks : List Nat) : List (Nat × gv) := ks.filterMap (fun k => lv[k]?)
theorem gpick_c (ad : Nat → Nat) (lv : List (Nat × gv)) (ks : List Nat) : lv_pick (glc ad lv) ks = glc ad (gpick lv ks) := by
  rw [lv_pick, glc, gpick, glc, List.map_filterMap]
  congr 1
  funext k
  rw [List.getElem?_map]
/-- a table's way -/
def gtab (dflt lo hi : Int) (offs : Array Int) (v : Int32) : Int := if v.toInt < lo ∨ hi < v.toInt then dflt else offs.toList.getD (v.toInt - lo).toNat dflt
theorem gtab_d {dflt lo hi : Int} {offs : Array Int} {v : Int32} (ks : List Int32) (hks : (List.range offs.toList.length).all (fun j => decide (offs.toList.getD j dflt = dflt) || ks.elem (Int32.ofInt (lo + j))) = true) (hno : ∀ k ∈ ks, ¬ v = k) : gtab dflt lo hi offs v = dflt := by
  unfold gtab
  by_cases h : v.toInt < lo ∨ hi < v.toInt
  · rw [if_pos h]
  · rw [if_neg h]
    by_cases hj : (v.toInt - lo).toNat < offs.toList.length
    · have h1 := List.all_eq_true.mp hks _ (List.mem_range.mpr hj)
      rw [Bool.or_eq_true] at h1
      rcases h1 with h1 | h1
      · exact of_decide_eq_true h1
      · exfalso
        have e : lo + ((v.toInt - lo).toNat : Int) = v.toInt := by omega
        rw [e, Int32.ofInt_toInt] at h1
        exact hno v (List.elem_iff.mp h1) rfl
    · rw [List.getD_eq_getElem?_getD, List.getElem?_eq_none (by omega)]
      rfl
def glk (ps : Array (Int × Int)) (dflt : Int) (v : Int32) : Int := Op.lookupswitch.offset ps.toList dflt v.toInt
theorem gno {v a : Int32} {L : List Int32} (h : ¬ v = a) (t : ∀ k ∈ L, ¬ v = k) : ∀ k ∈ a :: L, ¬ v = k := fun k hk => (List.mem_cons.mp hk).elim (fun e => e ▸ h) (t k)
theorem gno0 {v : Int32} : ∀ k ∈ ([] : List Int32), ¬ v = k := fun _ h => nomatch h
section GRD
variable {E : gE} {d : Nat} {y : gy} {pc : Nat} {lv lv2 : List (Nat × gv)} {st : List gv} {x : gd} {f : gf} {Q : gr → gd → gf → Prop}
theorem T_sub (ks : List Nat) (h : gpick lv ks = lv2) (k : T E d y pc lv2 st x f Q) : T E d y pc lv st x f Q :=
  T_step (fun p e R s m args below meth c A H locs cells slots ls ad Q9 C hP hS hl kk => kk ls (lv_sub hl ks (by rw [gpick_c, h]))) k
theorem T_depth {d2 : Nat} (h : d2 ≤ d) (k : T E d2 y pc lv st x f Q) : T E d y pc lv st x f Q := by
  obtain ⟨o, x', f', h1, h2, h3⟩ := k
  refine ⟨o, x', f', h1, h2, ?_⟩
  intro p e R s m args below meth c A H locs cells slots ls ad C hP hS hl hc hs
  exact h3 p e R s m args below meth c A H locs cells slots ls ad ⟨C.1, C.2.1, ⟨Nat.le_trans h C.2.2.1.1, Nat.le_trans (Nat.mul_le_mul_left 41 h) C.2.2.1.2⟩, C.2.2.2⟩ hP hS hl hc hs
theorem T_table {dflt lo hi : Int} {offs : Array Int} {len : Nat} {v : Int32} (off : Int) (tgt : Nat) (hd : decode y.2.1 pc = .ok (.tableswitch dflt lo hi offs, len)) (hsz : ((hi - lo).toNat + 1 = offs.toList.length) ∧ lo ≤ hi) (ho : gtab dflt lo hi offs v = off) (ht : (pc : Int) + off = (tgt : Int)) (k : T E d y tgt lv st x f Q) : T E d y pc lv (vi v :: st) x f Q := by
  by_cases h : v.toInt < lo ∨ hi < v.toInt
  · refine T_step (fun p e R s m args below meth c A H locs cells slots ls ad Q9 C hP hS hl kk => lv_tableOut C.1.1 C.1.2.1 hd h (tgt := tgt) ?_ (kk ls hl)) k
    rw [gtab, if_pos h] at ho
    rw [ho]; exact ht
  · refine T_step (fun p e R s m args below meth c A H locs cells slots ls ad Q9 C hP hS hl kk => lv_tableIn C.1.1 C.1.2.1 hd (fun q => h (Or.inl q)) (fun q => h (Or.inr q)) (off := off) (tgt := tgt) ?_ ht (kk ls hl)) k
    rw [gtab, if_neg h] at ho
    rw [← ho, ← Array.getElem?_toList, List.getD_eq_getElem?_getD]
    have hlt : (v.toInt - lo).toNat < offs.toList.length := by omega
    rw [List.getElem?_eq_getElem hlt]
    rfl
theorem T_lookup {dflt : Int} {ps : Array (Int × Int)} {len : Nat} {v : Int32} (off : Int) (tgt : Nat) (hd : decode y.2.1 pc = .ok (.lookupswitch dflt ps, len)) (hp : (ps.toList.zip (ps.toList.drop 1)).all (fun (a, next) => a.1 < next.1) = true) (ho : glk ps dflt v = off) (ht : (pc : Int) + off = (tgt : Int)) (k : T E d y tgt lv st x f Q) : T E d y pc lv (vi v :: st) x f Q :=
  T_step (fun p e R s m args below meth c A H locs cells slots ls ad Q9 C hP hS hl kk => lv_lookup C.1.1 C.1.2.1 hd hp ho ht (kk ls hl)) k
end GRD
theorem glk_ne {d : Int} {v : Int32} : ∀ (ps : List (Int × Int)), (∀ q ∈ ps, ¬ v.toInt = q.1) → Op.lookupswitch.offset ps d v.toInt = d := by
  intro ps
  induction ps with
  | nil => intro _; rfl
  | cons q r ih =>
    intro h
    have h1 := h q List.mem_cons_self
    have h2 := ih (fun z hz => h z (List.mem_cons_of_mem _ hz))
    obtain ⟨a, o⟩ := q
    rw [Op.lookupswitch.offset_cons, if_neg (fun e => h1 e.symm)]
    exact h2
theorem glk_d {ps : Array (Int × Int)} {dflt : Int} {v : Int32} (ks : List Int32) (hks : ps.toList.all (fun q => ks.elem (Int32.ofInt q.1)) = true) (hno : ∀ k ∈ ks, ¬ v = k) : glk ps dflt v = dflt := by
  refine glk_ne _ (fun q hq e => ?_)
  have h1 := List.all_eq_true.mp hks q hq
  rw [← e, Int32.ofInt_toInt] at h1
  exact hno v (List.elem_iff.mp h1) rfl
/-- decode rows, by their places in a method's list -/
def dck (c : ByteArray) (L : List (Nat × Instr × Nat)) : Bool := L.all (fun q => decide (decode c q.1 = .ok (q.2.1, q.2.2)))
theorem dk {c : ByteArray} {L : List (Nat × Instr × Nat)} (h : dck c L = true) (k : Nat) {pc len : Nat} {i : Instr} (hk : L[k]? = some (pc, i, len)) : decode c pc = .ok (i, len) := of_decide_eq_true (List.all_eq_true.mp h (pc, i, len) (List.mem_of_getElem? hk))
