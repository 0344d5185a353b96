/-! THE CLAIM OUT OF ONE WALK OF THE LAW'S BODY. Your part is whole_start (and what it stands on); all else here is the same for every law, but numbers. -/
def R_law : String := "ScheduleHouseLaw"
def lw_P (b : Addr) (xs : List Int32) (args : Array Value) (s : State) : Prop := args = #[.ref b] ∧ s.IntsAt b xs ∧ xs.length ≤ 256 ∧ (Jvm.Cond.and given_1 narrow_1).before args s = true
def lw_Q (_ : Array Value) (s : State) (o : Outcome) (t : State) : Prop := o = .returned (some (.int 1)) ∧ Framed s o t [] 600128 7301098
def lw_Z (below : List Frame) (a : Array Value) (s : State) : State → Prop := fun t => ∃ o, t.status = .running ∧ Ended t below o ∧ lw_Q a s o t
/-- the law's own end, with 1 on the stack, nothing written that was there before, its room as the claim has it -/
theorem lw_ret {p : Program} {l : Launch} {e : Env} {s : State} {m : MethodId} {below : List Frame} {meth : Method} {c : Code} {b : Nat} (hx : p.tables.exec = Jvm.exec) (hb : c.code = code) (hr : meth.sig.returnType = ret) (hlocks : meth.locks = false) {pc : Nat} {H : Heap} {ls : Array Slot} (hdg : decode code pc = .ok (.ireturn, 1)) : W p l e room_1 s m #[Value.ref b] below meth c H [] 600128 7301098 (lw_Z below #[Value.ref b] s) (F0 m pc ls [.int 1]) := by
  intro T hT X
  obtain ⟨fs, hret, hrun, hended, hW, hframe⟩ := X.leave (v := some (.int 1)) (hlocks := hlocks) (fun h => by rw [hr] at h; cases h)
  have hmeth' : T.vm.method? m = some meth := X.method'
  refine ⟨T.setFrames fs, ?_, .returned (some (.int 1)), hrun, hended, rfl, ⟨_, rfl⟩, hW, hframe⟩
  jvm_step X.here [X.here.top, hx, hb, hdg, hmeth', hr, ret, narrow_b1]
  (try refine ⟨rfl, ?_⟩); (try refine ⟨rfl, ?_⟩)
  first | (intro acts; rw [hret _ acts rfl rfl rfl]) | rw [hret _ _ rfl rfl rfl]
  exact Steps.refl _
/-- what holds at the law's entry: the machine, the code, the tables' words (any of lw_tbl by 'hts w (by decide +kernel)'), the script of L ints xs at the cell b, what the Statement gives of the start (any of its parts by flat_of_before) -/
def lw_At (p : Program) (s : State) (m : MethodId) (meth : Method) (c : Code) (b L : Nat) (xs : Nat → Int32) : Prop :=
  p.tables.exec = Jvm.exec ∧ c.code = code ∧ meth.sig.returnType = ret ∧ c.maxLocals = 7 ∧ s.vm.findClass R_law = some m.cls ∧ (∀ w ∈ lw_tbl, w.before #[Value.ref b] s = true) ∧ va_X b L xs s s.heap ∧ b < s.heap.size ∧ meth.locks = false ∧ (Jvm.Cond.and given_1 narrow_1).before #[Value.ref b] s = true
theorem t_and31 (a : Int32) : 0 ≤ (a &&& 31).toInt ∧ (a &&& 31).toInt < 32 := by
  have h : (a &&& 31).toBitVec.toNat ≤ 31 := by
    rw [Int32.toBitVec_and, BitVec.toNat_and]
    exact Nat.and_le_right
  have e : (a &&& 31).toInt = ((a &&& 31).toBitVec.toNat : Int) := by
    show (a &&& 31).toBitVec.toInt = _
    exact BitVec.toInt_eq_toNat_of_lt (by omega)
  omega
theorem LJ_up {k : Nat} {x w : gd} {q : kP} (hJ : LJ k x q w) : LJ (k + 1) x q w := LJ_next hJ hJ.1 (kst_rf q) hJ.2.1 hJ.2.2.1 hJ.2.2.2.1
theorem LJ_rE {k : Nat} {x w : gd} {q : kP} (hJ : LJ k x q w) (hk : k ≤ 64) : q.ce + 200 ≤ 600128 ∧ q.sl + 960000 ≤ 7301098 := by
  have a1 := wC_b hJ.1
  have a2 := wS_b hJ.1
  have b1 := hJ.2.2.2.2.1
  have b2 := hJ.2.2.2.2.2
  omega
set_option maxRecDepth 100000 in
set_option maxHeartbeats 4000000 in
theorem law_loop {p : Program} {e : Env} {s : State} {m : MethodId} {below : List Frame} {meth : Method} {c : Code} {A : Nat → Prop} {G : kG} {x0 m0 o0 b L : Nat} {xs : Nat → Int32} (C : gC (wE (kE G)) 1000 yLaw p room_1 s m #[Value.ref b] meth c A) (hA : A = fun q : Nat => s.heap.size ≤ q) (hX : va_X b L xs s s.heap) (hbl : b < s.heap.size) (hbA : ¬ A b) (hL : L ≤ 256) :
    ∀ (n k : Nat) (i : Int32) (x : gd) (q : kP) (w : gd) (H : Heap) (locs : List Loc) (ls : Array Slot), k + n = 64 → i.toInt = 4 * k → LI G A H x q w x0 m0 o0 → LJ k x q w → va_S A s.heap H locs → lv_has ls 7 [(4, .int i), (3, .ref o0), (2, .ref m0), (1, .ref x0), (0, .ref b)] → W p G.1 e room_1 s m #[Value.ref b] below meth c H locs (q.ce + 200) (q.sl + 960000) (lw_Z below #[Value.ref b] s) (F0 m 23 ls []) := by
  have hx := C.1.1
  have hb : c.code = cL_law := C.1.2.1
  have k4 : (4 : Int32).toInt = 4 := rfl
  have eL : (Int32.ofNat L).toInt = L := by
    rw [Int32.toInt_ofNat_of_lt (by omega)]
  have e4 : (Int32.ofNat L - 4).toInt = L - 4 := by rw [t_sub (by rw [eL, k4]; omega) (by rw [eL, k4]; omega), eL, k4]
  intro n
  induction n with
  | zero =>
    intro k i x q w H locs ls hkn ei hI hJ hS hl
    refine lv_iload hx hb dlw_23 (lv_at hl 0 rfl) ?_
    refine lv_aload_n hx hb dlw_25 rfl (lv_at hl 4 rfl) ?_
    refine va_slen hx hb hX hbl hbA hS dlw_26 ?_
    refine lv_iconst (v := 4) hx hb dlw_27 (by decide +kernel) ?_
    refine lv_isub hx hb dlw_28 ?_
    refine lv_icmp_gt (tgt := 1193) hx hb dlw_29 (by decide) (fun _ => ?_) (fun c9 => absurd (show Int32.ofNat L - 4 < i by rw [t_lt, e4, ei]; omega) c9)
    refine lv_iconst (v := 1) hx hb dlw_1193 (by decide +kernel) ?_
    subst hA
    refine va_forget (fun q hq => hS.2.2 q hq) ?_
    have hr := LJ_rE hJ (by omega)
    refine W.widen (k := 600128) (n := 7301098) hr.1 hr.2 ?_
    exact lw_ret hx hb C.2.1.1 C.2.1.2.1 dlw_1194
  | succ n ih =>
    intro k i x q w H locs ls hkn ei hI hJ hS hl
    have hk : k < 64 := by omega
    refine lv_iload hx hb dlw_23 (lv_at hl 0 rfl) ?_
    refine lv_aload_n hx hb dlw_25 rfl (lv_at hl 4 rfl) ?_
    refine va_slen hx hb hX hbl hbA hS dlw_26 ?_
    refine lv_iconst (v := 4) hx hb dlw_27 (by decide +kernel) ?_
    refine lv_isub hx hb dlw_28 ?_
    refine lv_icmp_gt (tgt := 1193) hx hb dlw_29 (by decide) (fun _ => ?_) (fun c9 => ?_)
    · refine lv_iconst (v := 1) hx hb dlw_1193 (by decide +kernel) ?_
      subst hA
      refine va_forget (fun q hq => hS.2.2 q hq) ?_
      have hr := LJ_rE hJ (by omega)
      refine W.widen (k := 600128) (n := 7301098) hr.1 hr.2 ?_
      exact lw_ret hx hb C.2.1.1 C.2.1.2.1 dlw_1194
    rw [t_lt, e4, ei] at c9
    have ik : ∀ j : Int32, 0 ≤ j.toInt → j.toInt ≤ 3 → vp_in (i + j) L := fun j h0 h3 => by
      rw [vp_in_iff, t_add (by omega) (by omega)]; omega
    have v0 : vp_in i L := by rw [vp_in_iff]; omega
    have v1 := ik 1 (by decide) (by decide)
    have v2 := ik 2 (by decide) (by decide)
    have v3 := ik 3 (by decide) (by decide)
    have kk : ∀ (x1 : gd) (q1 : kP) (w1 : gd) (H1 : Heap) (locs1 : List Loc) (ls1 : Array Slot), LI G A H1 x1 q1 w1 x0 m0 o0 → LJ (k + 1) x1 q1 w1 → va_S A s.heap H1 locs1 → lv_has ls1 7 [(4, .int i), (3, .ref o0), (2, .ref m0), (1, .ref x0), (0, .ref b)] → W p G.1 e room_1 s m #[Value.ref b] below meth c H1 locs1 (q1.ce + 200) (q1.sl + 960000) (lw_Z below #[Value.ref b] s) (F0 m 1187 ls1 []) := by
      intro x1 q1 w1 H1 locs1 ls1 hI1 hJ1 hS1 hl1
      refine lv_iinc (v := i + 4) (lv' := [(4, .int (i + 4)), (3, .ref o0), (2, .ref m0), (1, .ref x0), (0, .ref b)]) hx hb dlw_1187 hl1 (k := 0) rfl rfl (by decide) rfl (fun ls2 hl2 => ?_)
      refine lv_goto (tgt := 23) hx hb dlw_1190 (by decide) ?_
      exact ih (k + 1) (i + 4) x1 q1 w1 H1 locs1 ls2 (by omega) (by rw [t_add (by rw [k4]; omega) (by rw [k4]; omega), k4, ei]; push_cast; omega) hI1 hJ1 hS1 hl2
    refine lv_aload_n hx hb dlw_32 rfl (lv_at hl 4 rfl) ?_
    refine lv_iload hx hb dlw_33 (lv_at hl 0 rfl) ?_
    refine va_sld hx hb hX hbl hbA hS (i := i) v0 dlw_35 ?_
    refine lv_bipush (v := 31) hx hb dlw_36 (by decide +kernel) ?_
    refine lv_iand hx hb dlw_38 ?_
    have hb31 := t_and31 (xs i.toNatClampNeg)
    obtain ⟨v, hv⟩ : ∃ v, v = xs i.toNatClampNeg &&& 31 := ⟨_, rfl⟩
    rw [← hv] at hb31 ⊢
    clear hv
    by_cases h28 : 28 < v.toInt
    · exact lv_tableOut (tgt := 1187) hx hb dlw_39 (Or.inr h28) (by decide) (kk x q w H locs ls hI (LJ_up hJ) hS hl)
    have hvs : v.toInt = 0 ∨ v.toInt = 1 ∨ v.toInt = 2 ∨ v.toInt = 3 ∨ v.toInt = 4 ∨ v.toInt = 5 ∨ v.toInt = 6 ∨ v.toInt = 7 ∨ v.toInt = 8 ∨ v.toInt = 9 ∨ v.toInt = 10 ∨ v.toInt = 11 ∨ v.toInt = 12 ∨ v.toInt = 13 ∨ v.toInt = 14 ∨ v.toInt = 15 ∨ v.toInt = 16 ∨ v.toInt = 17 ∨ v.toInt = 18 ∨ v.toInt = 19 ∨ v.toInt = 20 ∨ v.toInt = 21 ∨ v.toInt = 22 ∨ v.toInt = 23 ∨ v.toInt = 24 ∨ v.toInt = 25 ∨ v.toInt = 26 ∨ v.toInt = 27 ∨ v.toInt = 28 := by omega
    rcases hvs with hj | hj | hj | hj | hj | hj | hj | hj | hj | hj | hj | hj | hj | hj | hj | hj | hj | hj | hj | hj | hj | hj | hj | hj | hj | hj | hj | hj | hj
    · exact lv_tableIn (off := 129) (tgt := 168) hx hb dlw_39 (by omega) (by omega) (by rw [hj]; rfl) (by decide) (lc_0 C hX hbl hbA hI hJ hk hS v1 v2 v3 hl kk)
    · exact lv_tableIn (off := 201) (tgt := 240) hx hb dlw_39 (by omega) (by omega) (by rw [hj]; rfl) (by decide) (lc_1 C hX hbl hbA hI hJ hk hS v1 v2 v3 hl kk)
    · exact lv_tableIn (off := 214) (tgt := 253) hx hb dlw_39 (by omega) (by omega) (by rw [hj]; rfl) (by decide) (lc_2 C hX hbl hbA hI hJ hk hS v1 v2 v3 hl kk)
    · exact lv_tableIn (off := 227) (tgt := 266) hx hb dlw_39 (by omega) (by omega) (by rw [hj]; rfl) (by decide) (lc_3 C hX hbl hbA hI hJ hk hS v1 v2 v3 hl kk)
    · exact lv_tableIn (off := 255) (tgt := 294) hx hb dlw_39 (by omega) (by omega) (by rw [hj]; rfl) (by decide) (lc_4 C hX hbl hbA hI hJ hk hS v1 v2 v3 hl kk)
    · exact lv_tableIn (off := 283) (tgt := 322) hx hb dlw_39 (by omega) (by omega) (by rw [hj]; rfl) (by decide) (lc_5 C hX hbl hbA hI hJ hk hS v1 v2 v3 hl kk)
    · exact lv_tableIn (off := 311) (tgt := 350) hx hb dlw_39 (by omega) (by omega) (by rw [hj]; rfl) (by decide) (lc_6 C hX hbl hbA hI hJ hk hS v1 v2 v3 hl kk)
    · exact lv_tableIn (off := 327) (tgt := 366) hx hb dlw_39 (by omega) (by omega) (by rw [hj]; rfl) (by decide) (lc_7 C hX hbl hbA hI hJ hk hS v1 v2 v3 hl kk)
    · exact lv_tableIn (off := 367) (tgt := 406) hx hb dlw_39 (by omega) (by omega) (by rw [hj]; rfl) (by decide) (lc_8 C hX hbl hbA hI hJ hk hS v1 v2 v3 hl kk)
    · exact lv_tableIn (off := 423) (tgt := 462) hx hb dlw_39 (by omega) (by omega) (by rw [hj]; rfl) (by decide) (lc_9 C hX hbl hbA hI hJ hk hS v1 v2 v3 hl kk)
    · exact lv_tableIn (off := 463) (tgt := 502) hx hb dlw_39 (by omega) (by omega) (by rw [hj]; rfl) (by decide) (lc_10 C hX hbl hbA hI hJ hk hS v1 v2 v3 hl kk)
    · exact lv_tableIn (off := 491) (tgt := 530) hx hb dlw_39 (by omega) (by omega) (by rw [hj]; rfl) (by decide) (lc_11 C hX hbl hbA hI hJ hk hS v1 v2 v3 hl kk)
    · exact lv_tableIn (off := 519) (tgt := 558) hx hb dlw_39 (by omega) (by omega) (by rw [hj]; rfl) (by decide) (lc_12 C hX hbl hbA hI hJ hk hS v1 v2 v3 hl kk)
    · exact lv_tableIn (off := 547) (tgt := 586) hx hb dlw_39 (by omega) (by omega) (by rw [hj]; rfl) (by decide) (lc_13 C hX hbl hbA hI hJ hk hS v1 v2 v3 hl kk)
    · exact lv_tableIn (off := 587) (tgt := 626) hx hb dlw_39 (by omega) (by omega) (by rw [hj]; rfl) (by decide) (lc_14 C hX hbl hbA hI hJ hk hS v1 v2 v3 hl kk)
    · exact lv_tableIn (off := 627) (tgt := 666) hx hb dlw_39 (by omega) (by omega) (by rw [hj]; rfl) (by decide) (lc_15 C hX hbl hbA hI hJ hk hS v1 v2 v3 hl kk)
    · exact lv_tableIn (off := 667) (tgt := 706) hx hb dlw_39 (by omega) (by omega) (by rw [hj]; rfl) (by decide) (lc_16 C hX hbl hbA hI hJ hk hS v1 v2 v3 hl kk)
    · exact lv_tableIn (off := 707) (tgt := 746) hx hb dlw_39 (by omega) (by omega) (by rw [hj]; rfl) (by decide) (lc_17 C hX hbl hbA hI hJ hk hS v1 v2 v3 hl kk)
    · exact lv_tableIn (off := 747) (tgt := 786) hx hb dlw_39 (by omega) (by omega) (by rw [hj]; rfl) (by decide) (lc_18 C hX hbl hbA hI hJ hk hS v1 v2 v3 hl kk)
    · exact lv_tableIn (off := 787) (tgt := 826) hx hb dlw_39 (by omega) (by omega) (by rw [hj]; rfl) (by decide) (lc_19 C hX hbl hbA hI hJ hk hS v1 v2 v3 hl kk)
    · exact lv_tableIn (off := 827) (tgt := 866) hx hb dlw_39 (by omega) (by omega) (by rw [hj]; rfl) (by decide) (lc_20 C hX hbl hbA hI hJ hk hS v1 v2 v3 hl kk)
    · exact lv_tableIn (off := 855) (tgt := 894) hx hb dlw_39 (by omega) (by omega) (by rw [hj]; rfl) (by decide) (lc_21 C hX hbl hbA hI hJ hk hS v1 v2 v3 hl kk)
    · exact lv_tableIn (off := 895) (tgt := 934) hx hb dlw_39 (by omega) (by omega) (by rw [hj]; rfl) (by decide) (lc_22 C hX hbl hbA hI hJ hk hS v1 v2 v3 hl kk)
    · exact lv_tableIn (off := 935) (tgt := 974) hx hb dlw_39 (by omega) (by omega) (by rw [hj]; rfl) (by decide) (lc_23 C hX hbl hbA hI hJ hk hS v1 v2 v3 hl kk)
    · exact lv_tableIn (off := 987) (tgt := 1026) hx hb dlw_39 (by omega) (by omega) (by rw [hj]; rfl) (by decide) (lc_24 C hX hbl hbA hI hJ hk hS v1 v2 v3 hl kk)
    · exact lv_tableIn (off := 1027) (tgt := 1066) hx hb dlw_39 (by omega) (by omega) (by rw [hj]; rfl) (by decide) (lc_25 C hX hbl hbA hI hJ hk hS v1 v2 v3 hl kk)
    · exact lv_tableIn (off := 1067) (tgt := 1106) hx hb dlw_39 (by omega) (by omega) (by rw [hj]; rfl) (by decide) (lc_26 C hX hbl hbA hI hJ hk hS v1 v2 v3 hl kk)
    · exact lv_tableIn (off := 1107) (tgt := 1146) hx hb dlw_39 (by omega) (by omega) (by rw [hj]; rfl) (by decide) (lc_27 C hX hbl hbA hI hJ hk hS v1 v2 v3 hl kk)
    · exact lv_tableIn (off := 1135) (tgt := 1174) hx hb dlw_39 (by omega) (by omega) (by rw [hj]; rfl) (by decide) (lc_28 C hX hbl hbA hI hJ hk hS v1 v2 v3 hl kk)
