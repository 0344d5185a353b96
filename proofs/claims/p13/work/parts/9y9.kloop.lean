section
/-! THE CLAIM OUT OF ONE WALK OF THE LAW'S BODY. Your part is whole_start (and what it stands on); all else here is the same for every law, but numbers. -/
def R_law : String := "ScheduleHouseLaw"
def lw_P (b : Addr) (xs : List Int32) (args : Array Value) (s : State) : Prop := args = #[.ref b] ∧ s.IntsAt b xs ∧ xs.length ≤ 256 ∧ (Jvm.Cond.and given_1 narrow_1).before args s = true
def lw_Q (_ : Array Value) (s : State) (o : Outcome) (t : State) : Prop := o = .returned (some (.int 1)) ∧ Framed s o t [] 600128 7301098
def lw_Z (below : List Frame) (a : Array Value) (s : State) : State → Prop := fun t => ∃ o, t.status = .running ∧ Ended t below o ∧ lw_Q a s o t
/-- the law's own end, with 1 on the stack, nothing written that was there before, its room as the claim has it -/
theorem lw_ret {p : Program} {l : Launch} {e : Env} {s : State} {m : MethodId} {below : List Frame} {meth : Method} {c : Code} {b : Nat} (hx : p.tables.exec = Jvm.exec) (hb : c.code = code) (hr : meth.sig.returnType = ret) (hlocks : meth.locks = false) {pc : Nat} {H : Heap} {ls : Array Slot} (hdg : decode code pc = .ok (.ireturn, 1)) : W p l e room_1 s m #[Value.ref b] below meth c H [] 600128 7301098 (lw_Z below #[Value.ref b] s) (F0 m pc ls [.int 1]) := by
  intro T hT X
  obtain ⟨fs, hret, hrun, hended, hW, hframe⟩ := X.leave (v := some (.int 1)) (hlocks := hlocks) (fun h => by rw [hr] at h; cases h)
  have hmeth' : T.vm.method? m = some meth := X.method'
  refine ⟨T.setFrames fs, ?_, .returned (some (.int 1)), hrun, hended, rfl, ⟨_, rfl⟩, hW, hframe⟩
  jvm_step X.here [X.here.top, hx, hb, hdg, hmeth', hr, ret, narrow_b1]
  (try refine ⟨rfl, ?_⟩); (try refine ⟨rfl, ?_⟩)
  first | (intro acts; rw [hret _ acts rfl rfl rfl]) | rw [hret _ _ rfl rfl rfl]
  exact Steps.refl _
/-- what holds at the law's entry: the machine, the code, the tables' words (any of lw_tbl by 'hts w (by decide +kernel)'), the script of L ints xs at the cell b, what the Statement gives of the start (any of its parts by flat_of_before) -/
def lw_At (p : Program) (s : State) (m : MethodId) (meth : Method) (c : Code) (b L : Nat) (xs : Nat → Int32) : Prop :=
  p.tables.exec = Jvm.exec ∧ c.code = code ∧ meth.sig.returnType = ret ∧ c.maxLocals = 7 ∧ s.vm.findClass R_law = some m.cls ∧ (∀ w ∈ lw_tbl, w.before #[Value.ref b] s = true) ∧ va_X b L xs s s.heap ∧ b < s.heap.size ∧ meth.locks = false ∧ (Jvm.Cond.and given_1 narrow_1).before #[Value.ref b] s = true
theorem t_and31 (a : Int32) : 0 ≤ (a &&& 31).toInt ∧ (a &&& 31).toInt < 32 := by
  have h : (a &&& 31).toBitVec.toNat ≤ 31 := by
    rw [Int32.toBitVec_and, BitVec.toNat_and]
    exact Nat.and_le_right
  have e : (a &&& 31).toInt = ((a &&& 31).toBitVec.toNat : Int) := by
    show (a &&& 31).toBitVec.toInt = _
    exact BitVec.toInt_eq_toNat_of_lt (by omega)
  omega
theorem LJ_up {k : Nat} {x w : gd} {q : kP} (hJ : LJ k x q w) : LJ (k + 1) x q w := LJ_next hJ hJ.1 (kst_rf q) hJ.2.1 hJ.2.2.1 hJ.2.2.2.1
theorem LJ_rE {k : Nat} {x w : gd} {q : kP} (hJ : LJ k x q w) (hk : k ≤ 64) : q.ce + 200 ≤ 600128 ∧ q.sl + 960000 ≤ 7301098 := by
  have a1 := wC_b hJ.1
  have a2 := wS_b hJ.1
  have b1 := hJ.2.2.2.2.1
  have b2 := hJ.2.2.2.2.2
  omega
set_option maxRecDepth 100000 in
set_option maxHeartbeats 4000000 in
theorem law_loop {p : Program} {e : Env} {s : State} {m : MethodId} {below : List Frame} {meth : Method} {c : Code} {A : Nat → Prop} {G : kG} {x0 m0 o0 b L : Nat} {xs : Nat → Int32} (C : gC (wE (kE G)) 1000 yLaw p room_1 s m #[Value.ref b] meth c A) (hA : A = fun q : Nat => s.heap.size ≤ q) (hX : va_X b L xs s s.heap) (hbl : b < s.heap.size) (hbA : ¬ A b) (hL : L ≤ 256) :
    ∀ (n k : Nat) (i : Int32) (x : gd) (q : kP) (w : gd) (H : Heap) (locs : List Loc) (ls : Array Slot), k + n = 64 → i.toInt = 4 * k → LI G A H x q w x0 m0 o0 → LJ k x q w → va_S A s.heap H locs → lv_has ls 7 [(4, .int i), (3, .ref o0), (2, .ref m0), (1, .ref x0), (0, .ref b)] → W p G.1 e room_1 s m #[Value.ref b] below meth c H locs (q.ce + 200) (q.sl + 960000) (lw_Z below #[Value.ref b] s) (F0 m 23 ls []) := by
  have hx := C.1.1
  have hb : c.code = cL_law := C.1.2.1
  have k4 : (4 : Int32).toInt = 4 := rfl
  have eL : (Int32.ofNat L).toInt = L := by
    rw [Int32.toInt_ofNat_of_lt (by omega)]
  have e4 : (Int32.ofNat L - 4).toInt = L - 4 := by rw [t_sub (by rw [eL, k4]; omega) (by rw [eL, k4]; omega), eL, k4]
  intro n
  induction n with
  | zero =>
    intro k i x q w H locs ls hkn ei hI hJ hS hl
    refine lv_iload hx hb dlw_23 (lv_at hl 0 rfl) ?_
    refine lv_aload_n hx hb dlw_25 rfl (lv_at hl 4 rfl) ?_
    refine va_slen hx hb hX hbl hbA hS dlw_26 ?_
    refine lv_iconst (v := 4) hx hb dlw_27 (by decide +kernel) ?_
    refine lv_isub hx hb dlw_28 ?_
    refine lv_icmp_gt (tgt := 1193) hx hb dlw_29 (by decide) (fun _ => ?_) (fun c9 => absurd (show Int32.ofNat L - 4 < i by rw [t_lt, e4, ei]; omega) c9)
    refine lv_iconst (v := 1) hx hb dlw_1193 (by decide +kernel) ?_
    subst hA
    refine va_forget (fun q hq => hS.2.2 q hq) ?_
    have hr := LJ_rE hJ (by omega)
    refine W.widen (k := 600128) (n := 7301098) hr.1 hr.2 ?_
    exact lw_ret hx hb C.2.1.1 C.2.1.2.1 dlw_1194
  | succ n ih =>
    intro k i x q w H locs ls hkn ei hI hJ hS hl
    have hk : k < 64 := by omega
    refine lv_iload hx hb dlw_23 (lv_at hl 0 rfl) ?_
    refine lv_aload_n hx hb dlw_25 rfl (lv_at hl 4 rfl) ?_
    refine va_slen hx hb hX hbl hbA hS dlw_26 ?_
    refine lv_iconst (v := 4) hx hb dlw_27 (by decide +kernel) ?_
    refine lv_isub hx hb dlw_28 ?_
    refine lv_icmp_gt (tgt := 1193) hx hb dlw_29 (by decide) (fun _ => ?_) (fun c9 => ?_)
    · refine lv_iconst (v := 1) hx hb dlw_1193 (by decide +kernel) ?_
      subst hA
      refine va_forget (fun q hq => hS.2.2 q hq) ?_
      have hr := LJ_rE hJ (by omega)
      refine W.widen (k := 600128) (n := 7301098) hr.1 hr.2 ?_
      exact lw_ret hx hb C.2.1.1 C.2.1.2.1 dlw_1194
    rw [t_lt, e4, ei] at c9
    have ik : ∀ j : Int32, 0 ≤ j.toInt → j.toInt ≤ 3 → vp_in (i + j) L := fun j h0 h3 => by
      rw [vp_in_iff, t_add (by omega) (by omega)]; omega
    have v0 : vp_in i L := by rw [vp_in_iff]; omega
    have v1 := ik 1 (by decide) (by decide)
    have v2 := ik 2 (by decide) (by decide)
    have v3 := ik 3 (by decide) (by decide)
    have kk : ∀ (x1 : gd) (q1 : kP) (w1 : gd) (H1 : Heap) (locs1 : List Loc) (ls1 : Array Slot), LI G A H1 x1 q1 w1 x0 m0 o0 → LJ (k + 1) x1 q1 w1 → va_S A s.heap H1 locs1 → lv_has ls1 7 [(4, .int i), (3, .ref o0), (2, .ref m0), (1, .ref x0), (0, .ref b)] → W p G.1 e room_1 s m #[Value.ref b] below meth c H1 locs1 (q1.ce + 200) (q1.sl + 960000) (lw_Z below #[Value.ref b] s) (F0 m 1187 ls1 []) := by
      intro x1 q1 w1 H1 locs1 ls1 hI1 hJ1 hS1 hl1
      refine lv_iinc (v := i + 4) (lv' := [(4, .int (i + 4)), (3, .ref o0), (2, .ref m0), (1, .ref x0), (0, .ref b)]) hx hb dlw_1187 hl1 (k := 0) rfl rfl (by decide) rfl (fun ls2 hl2 => ?_)
      refine lv_goto (tgt := 23) hx hb dlw_1190 (by decide) ?_
      exact ih (k + 1) (i + 4) x1 q1 w1 H1 locs1 ls2 (by omega) (by rw [t_add (by rw [k4]; omega) (by rw [k4]; omega), k4, ei]; push_cast; omega) hI1 hJ1 hS1 hl2
    refine lv_aload_n hx hb dlw_32 rfl (lv_at hl 4 rfl) ?_
    refine lv_iload hx hb dlw_33 (lv_at hl 0 rfl) ?_
    refine va_sld hx hb hX hbl hbA hS (i := i) v0 dlw_35 ?_
    refine lv_bipush (v := 31) hx hb dlw_36 (by decide +kernel) ?_
    refine lv_iand hx hb dlw_38 ?_
    have hb31 := t_and31 (xs i.toNatClampNeg)
    obtain ⟨v, hv⟩ : ∃ v, v = xs i.toNatClampNeg &&& 31 := ⟨_, rfl⟩
    rw [← hv] at hb31 ⊢
    clear hv
    by_cases h28 : 28 < v.toInt
    · exact lv_tableOut (tgt := 1187) hx hb dlw_39 (Or.inr h28) (by decide) (kk x q w H locs ls hI (LJ_up hJ) hS hl)
    have hvs : v.toInt = 0 ∨ v.toInt = 1 ∨ v.toInt = 2 ∨ v.toInt = 3 ∨ v.toInt = 4 ∨ v.toInt = 5 ∨ v.toInt = 6 ∨ v.toInt = 7 ∨ v.toInt = 8 ∨ v.toInt = 9 ∨ v.toInt = 10 ∨ v.toInt = 11 ∨ v.toInt = 12 ∨ v.toInt = 13 ∨ v.toInt = 14 ∨ v.toInt = 15 ∨ v.toInt = 16 ∨ v.toInt = 17 ∨ v.toInt = 18 ∨ v.toInt = 19 ∨ v.toInt = 20 ∨ v.toInt = 21 ∨ v.toInt = 22 ∨ v.toInt = 23 ∨ v.toInt = 24 ∨ v.toInt = 25 ∨ v.toInt = 26 ∨ v.toInt = 27 ∨ v.toInt = 28 := by omega
    rcases hvs with hj | hj | hj | hj | hj | hj | hj | hj | hj | hj | hj | hj | hj | hj | hj | hj | hj | hj | hj | hj | hj | hj | hj | hj | hj | hj | hj | hj | hj
    · exact lv_tableIn (off := 129) (tgt := 168) hx hb dlw_39 (by omega) (by omega) (by rw [hj]; rfl) (by decide) (lc_0 C hX hbl hbA hI hJ hk hS v1 v2 v3 hl kk)
    · exact lv_tableIn (off := 201) (tgt := 240) hx hb dlw_39 (by omega) (by omega) (by rw [hj]; rfl) (by decide) (lc_1 C hX hbl hbA hI hJ hk hS v1 v2 v3 hl kk)
    · exact lv_tableIn (off := 214) (tgt := 253) hx hb dlw_39 (by omega) (by omega) (by rw [hj]; rfl) (by decide) (lc_2 C hX hbl hbA hI hJ hk hS v1 v2 v3 hl kk)
    · exact lv_tableIn (off := 227) (tgt := 266) hx hb dlw_39 (by omega) (by omega) (by rw [hj]; rfl) (by decide) (lc_3 C hX hbl hbA hI hJ hk hS v1 v2 v3 hl kk)
    · exact lv_tableIn (off := 255) (tgt := 294) hx hb dlw_39 (by omega) (by omega) (by rw [hj]; rfl) (by decide) (lc_4 C hX hbl hbA hI hJ hk hS v1 v2 v3 hl kk)
    · exact lv_tableIn (off := 283) (tgt := 322) hx hb dlw_39 (by omega) (by omega) (by rw [hj]; rfl) (by decide) (lc_5 C hX hbl hbA hI hJ hk hS v1 v2 v3 hl kk)
    · exact lv_tableIn (off := 311) (tgt := 350) hx hb dlw_39 (by omega) (by omega) (by rw [hj]; rfl) (by decide) (lc_6 C hX hbl hbA hI hJ hk hS v1 v2 v3 hl kk)
    · exact lv_tableIn (off := 327) (tgt := 366) hx hb dlw_39 (by omega) (by omega) (by rw [hj]; rfl) (by decide) (lc_7 C hX hbl hbA hI hJ hk hS v1 v2 v3 hl kk)
    · exact lv_tableIn (off := 367) (tgt := 406) hx hb dlw_39 (by omega) (by omega) (by rw [hj]; rfl) (by decide) (lc_8 C hX hbl hbA hI hJ hk hS v1 v2 v3 hl kk)
    · exact lv_tableIn (off := 395) (tgt := 434) hx hb dlw_39 (by omega) (by omega) (by rw [hj]; rfl) (by decide) (lc_9 C hX hbl hbA hI hJ hk hS v1 v2 v3 hl kk)
    · exact lv_tableIn (off := 435) (tgt := 474) hx hb dlw_39 (by omega) (by omega) (by rw [hj]; rfl) (by decide) (lc_10 C hX hbl hbA hI hJ hk hS v1 v2 v3 hl kk)
    · exact lv_tableIn (off := 463) (tgt := 502) hx hb dlw_39 (by omega) (by omega) (by rw [hj]; rfl) (by decide) (lc_11 C hX hbl hbA hI hJ hk hS v1 v2 v3 hl kk)
    · exact lv_tableIn (off := 519) (tgt := 558) hx hb dlw_39 (by omega) (by omega) (by rw [hj]; rfl) (by decide) (lc_12 C hX hbl hbA hI hJ hk hS v1 v2 v3 hl kk)
    · exact lv_tableIn (off := 547) (tgt := 586) hx hb dlw_39 (by omega) (by omega) (by rw [hj]; rfl) (by decide) (lc_13 C hX hbl hbA hI hJ hk hS v1 v2 v3 hl kk)
    · exact lv_tableIn (off := 587) (tgt := 626) hx hb dlw_39 (by omega) (by omega) (by rw [hj]; rfl) (by decide) (lc_14 C hX hbl hbA hI hJ hk hS v1 v2 v3 hl kk)
    · exact lv_tableIn (off := 627) (tgt := 666) hx hb dlw_39 (by omega) (by omega) (by rw [hj]; rfl) (by decide) (lc_15 C hX hbl hbA hI hJ hk hS v1 v2 v3 hl kk)
    · exact lv_tableIn (off := 667) (tgt := 706) hx hb dlw_39 (by omega) (by omega) (by rw [hj]; rfl) (by decide) (lc_16 C hX hbl hbA hI hJ hk hS v1 v2 v3 hl kk)
    · exact lv_tableIn (off := 707) (tgt := 746) hx hb dlw_39 (by omega) (by omega) (by rw [hj]; rfl) (by decide) (lc_17 C hX hbl hbA hI hJ hk hS v1 v2 v3 hl kk)
    · exact lv_tableIn (off := 747) (tgt := 786) hx hb dlw_39 (by omega) (by omega) (by rw [hj]; rfl) (by decide) (lc_18 C hX hbl hbA hI hJ hk hS v1 v2 v3 hl kk)
    · exact lv_tableIn (off := 787) (tgt := 826) hx hb dlw_39 (by omega) (by omega) (by rw [hj]; rfl) (by decide) (lc_19 C hX hbl hbA hI hJ hk hS v1 v2 v3 hl kk)
    · exact lv_tableIn (off := 827) (tgt := 866) hx hb dlw_39 (by omega) (by omega) (by rw [hj]; rfl) (by decide) (lc_20 C hX hbl hbA hI hJ hk hS v1 v2 v3 hl kk)
    · exact lv_tableIn (off := 855) (tgt := 894) hx hb dlw_39 (by omega) (by omega) (by rw [hj]; rfl) (by decide) (lc_21 C hX hbl hbA hI hJ hk hS v1 v2 v3 hl kk)
    · exact lv_tableIn (off := 895) (tgt := 934) hx hb dlw_39 (by omega) (by omega) (by rw [hj]; rfl) (by decide) (lc_22 C hX hbl hbA hI hJ hk hS v1 v2 v3 hl kk)
    · exact lv_tableIn (off := 935) (tgt := 974) hx hb dlw_39 (by omega) (by omega) (by rw [hj]; rfl) (by decide) (lc_23 C hX hbl hbA hI hJ hk hS v1 v2 v3 hl kk)
    · exact lv_tableIn (off := 987) (tgt := 1026) hx hb dlw_39 (by omega) (by omega) (by rw [hj]; rfl) (by decide) (lc_24 C hX hbl hbA hI hJ hk hS v1 v2 v3 hl kk)
    · exact lv_tableIn (off := 1027) (tgt := 1066) hx hb dlw_39 (by omega) (by omega) (by rw [hj]; rfl) (by decide) (lc_25 C hX hbl hbA hI hJ hk hS v1 v2 v3 hl kk)
    · exact lv_tableIn (off := 1067) (tgt := 1106) hx hb dlw_39 (by omega) (by omega) (by rw [hj]; rfl) (by decide) (lc_26 C hX hbl hbA hI hJ hk hS v1 v2 v3 hl kk)
    · exact lv_tableIn (off := 1107) (tgt := 1146) hx hb dlw_39 (by omega) (by omega) (by rw [hj]; rfl) (by decide) (lc_27 C hX hbl hbA hI hJ hk hS v1 v2 v3 hl kk)
    · exact lv_tableIn (off := 1135) (tgt := 1174) hx hb dlw_39 (by omega) (by omega) (by rw [hj]; rfl) (by decide) (lc_28 C hX hbl hbA hI hJ hk hS v1 v2 v3 hl kk)
end
section
set_option maxRecDepth 100000 in
theorem dmi_0 : decode cX12_init 0 = .ok (.aload_n 0, 1) := by decide +kernel
set_option maxRecDepth 100000 in
theorem dmi_1 : decode cX12_init 1 = .ok (.invokespecial 1, 3) := by decide +kernel
set_option maxRecDepth 100000 in
theorem dmi_4 : decode cX12_init 4 = .ok (.aload_n 0, 1) := by decide +kernel
set_option maxRecDepth 100000 in
theorem dmi_5 : decode cX12_init 5 = .ok (.sipush 3000, 3) := by decide +kernel
set_option maxRecDepth 100000 in
theorem dmi_8 : decode cX12_init 8 = .ok (.newarray .byte, 2) := by decide +kernel
set_option maxRecDepth 100000 in
theorem dmi_10 : decode cX12_init 10 = .ok (.putfield 7, 3) := by decide +kernel
set_option maxRecDepth 100000 in
theorem dmi_13 : decode cX12_init 13 = .ok (.aload_n 0, 1) := by decide +kernel
set_option maxRecDepth 100000 in
theorem dmi_14 : decode cX12_init 14 = .ok (.sipush 710, 3) := by decide +kernel
set_option maxRecDepth 100000 in
theorem dmi_17 : decode cX12_init 17 = .ok (.newarray .int, 2) := by decide +kernel
set_option maxRecDepth 100000 in
theorem dmi_19 : decode cX12_init 19 = .ok (.putfield 13, 3) := by decide +kernel
set_option maxRecDepth 100000 in
theorem dmi_22 : decode cX12_init 22 = .ok (.aload_n 0, 1) := by decide +kernel
set_option maxRecDepth 100000 in
theorem dmi_23 : decode cX12_init 23 = .ok (.sipush 710, 3) := by decide +kernel
set_option maxRecDepth 100000 in
theorem dmi_26 : decode cX12_init 26 = .ok (.newarray .int, 2) := by decide +kernel
set_option maxRecDepth 100000 in
theorem dmi_28 : decode cX12_init 28 = .ok (.putfield 17, 3) := by decide +kernel
set_option maxRecDepth 100000 in
theorem dmi_31 : decode cX12_init 31 = .ok (.aload_n 0, 1) := by decide +kernel
set_option maxRecDepth 100000 in
theorem dmi_32 : decode cX12_init 32 = .ok (.sipush 710, 3) := by decide +kernel
set_option maxRecDepth 100000 in
theorem dmi_35 : decode cX12_init 35 = .ok (.newarray .int, 2) := by decide +kernel
set_option maxRecDepth 100000 in
theorem dmi_37 : decode cX12_init 37 = .ok (.putfield 20, 3) := by decide +kernel
set_option maxRecDepth 100000 in
theorem dmi_40 : decode cX12_init 40 = .ok (.aload_n 0, 1) := by decide +kernel
set_option maxRecDepth 100000 in
theorem dmi_41 : decode cX12_init 41 = .ok (.sipush 710, 3) := by decide +kernel
set_option maxRecDepth 100000 in
theorem dmi_44 : decode cX12_init 44 = .ok (.newarray .int, 2) := by decide +kernel
set_option maxRecDepth 100000 in
theorem dmi_46 : decode cX12_init 46 = .ok (.putfield 23, 3) := by decide +kernel
set_option maxRecDepth 100000 in
theorem dmi_49 : decode cX12_init 49 = .ok (.aload_n 0, 1) := by decide +kernel
set_option maxRecDepth 100000 in
theorem dmi_50 : decode cX12_init 50 = .ok (.iconst (-1), 1) := by decide +kernel
set_option maxRecDepth 100000 in
theorem dmi_51 : decode cX12_init 51 = .ok (.putfield 26, 3) := by decide +kernel
set_option maxRecDepth 100000 in
theorem dmi_54 : decode cX12_init 54 = .ok (.aload_n 0, 1) := by decide +kernel
set_option maxRecDepth 100000 in
theorem dmi_55 : decode cX12_init 55 = .ok (.iconst (-1), 1) := by decide +kernel
set_option maxRecDepth 100000 in
theorem dmi_56 : decode cX12_init 56 = .ok (.putfield 30, 3) := by decide +kernel
set_option maxRecDepth 100000 in
theorem dmi_59 : decode cX12_init 59 = .ok (.aload_n 0, 1) := by decide +kernel
set_option maxRecDepth 100000 in
theorem dmi_60 : decode cX12_init 60 = .ok (.sipush 3000, 3) := by decide +kernel
set_option maxRecDepth 100000 in
theorem dmi_63 : decode cX12_init 63 = .ok (.newarray .int, 2) := by decide +kernel
set_option maxRecDepth 100000 in
theorem dmi_65 : decode cX12_init 65 = .ok (.putfield 33, 3) := by decide +kernel
set_option maxRecDepth 100000 in
theorem dmi_68 : decode cX12_init 68 = .ok (.aload_n 0, 1) := by decide +kernel
set_option maxRecDepth 100000 in
theorem dmi_69 : decode cX12_init 69 = .ok (.sipush 3000, 3) := by decide +kernel
set_option maxRecDepth 100000 in
theorem dmi_72 : decode cX12_init 72 = .ok (.newarray .int, 2) := by decide +kernel
set_option maxRecDepth 100000 in
theorem dmi_74 : decode cX12_init 74 = .ok (.putfield 36, 3) := by decide +kernel
set_option maxRecDepth 100000 in
theorem dmi_77 : decode cX12_init 77 = .ok (.aload_n 0, 1) := by decide +kernel
set_option maxRecDepth 100000 in
theorem dmi_78 : decode cX12_init 78 = .ok (.sipush 3000, 3) := by decide +kernel
set_option maxRecDepth 100000 in
theorem dmi_81 : decode cX12_init 81 = .ok (.newarray .int, 2) := by decide +kernel
set_option maxRecDepth 100000 in
theorem dmi_83 : decode cX12_init 83 = .ok (.putfield 39, 3) := by decide +kernel
set_option maxRecDepth 100000 in
theorem dmi_86 : decode cX12_init 86 = .ok (.aload_n 0, 1) := by decide +kernel
set_option maxRecDepth 100000 in
theorem dmi_87 : decode cX12_init 87 = .ok (.sipush 3000, 3) := by decide +kernel
set_option maxRecDepth 100000 in
theorem dmi_90 : decode cX12_init 90 = .ok (.newarray .int, 2) := by decide +kernel
set_option maxRecDepth 100000 in
theorem dmi_92 : decode cX12_init 92 = .ok (.putfield 42, 3) := by decide +kernel
set_option maxRecDepth 100000 in
theorem dmi_95 : decode cX12_init 95 = .ok (.aload_n 0, 1) := by decide +kernel
set_option maxRecDepth 100000 in
theorem dmi_96 : decode cX12_init 96 = .ok (.sipush 3000, 3) := by decide +kernel
set_option maxRecDepth 100000 in
theorem dmi_99 : decode cX12_init 99 = .ok (.newarray .int, 2) := by decide +kernel
set_option maxRecDepth 100000 in
theorem dmi_101 : decode cX12_init 101 = .ok (.putfield 45, 3) := by decide +kernel
set_option maxRecDepth 100000 in
theorem dmi_104 : decode cX12_init 104 = .ok (.aload_n 0, 1) := by decide +kernel
set_option maxRecDepth 100000 in
theorem dmi_105 : decode cX12_init 105 = .ok (.sipush 3000, 3) := by decide +kernel
set_option maxRecDepth 100000 in
theorem dmi_108 : decode cX12_init 108 = .ok (.newarray .int, 2) := by decide +kernel
set_option maxRecDepth 100000 in
theorem dmi_110 : decode cX12_init 110 = .ok (.putfield 48, 3) := by decide +kernel
set_option maxRecDepth 100000 in
theorem dmi_113 : decode cX12_init 113 = .ok (.aload_n 0, 1) := by decide +kernel
set_option maxRecDepth 100000 in
theorem dmi_114 : decode cX12_init 114 = .ok (.bipush 40, 2) := by decide +kernel
set_option maxRecDepth 100000 in
theorem dmi_116 : decode cX12_init 116 = .ok (.newarray .int, 2) := by decide +kernel
set_option maxRecDepth 100000 in
theorem dmi_118 : decode cX12_init 118 = .ok (.putfield 51, 3) := by decide +kernel
set_option maxRecDepth 100000 in
theorem dmi_121 : decode cX12_init 121 = .ok (.aload_n 0, 1) := by decide +kernel
set_option maxRecDepth 100000 in
theorem dmi_122 : decode cX12_init 122 = .ok (.bipush 40, 2) := by decide +kernel
set_option maxRecDepth 100000 in
theorem dmi_124 : decode cX12_init 124 = .ok (.newarray .int, 2) := by decide +kernel
set_option maxRecDepth 100000 in
theorem dmi_126 : decode cX12_init 126 = .ok (.putfield 54, 3) := by decide +kernel
set_option maxRecDepth 100000 in
theorem dmi_129 : decode cX12_init 129 = .ok (.aload_n 0, 1) := by decide +kernel
set_option maxRecDepth 100000 in
theorem dmi_130 : decode cX12_init 130 = .ok (.bipush 40, 2) := by decide +kernel
set_option maxRecDepth 100000 in
theorem dmi_132 : decode cX12_init 132 = .ok (.newarray .int, 2) := by decide +kernel
set_option maxRecDepth 100000 in
theorem dmi_134 : decode cX12_init 134 = .ok (.putfield 57, 3) := by decide +kernel
set_option maxRecDepth 100000 in
theorem dmi_137 : decode cX12_init 137 = .ok (.aload_n 0, 1) := by decide +kernel
set_option maxRecDepth 100000 in
theorem dmi_138 : decode cX12_init 138 = .ok (.bipush 40, 2) := by decide +kernel
set_option maxRecDepth 100000 in
theorem dmi_140 : decode cX12_init 140 = .ok (.newarray .int, 2) := by decide +kernel
set_option maxRecDepth 100000 in
theorem dmi_142 : decode cX12_init 142 = .ok (.putfield 60, 3) := by decide +kernel
set_option maxRecDepth 100000 in
theorem dmi_145 : decode cX12_init 145 = .ok (.aload_n 0, 1) := by decide +kernel
set_option maxRecDepth 100000 in
theorem dmi_146 : decode cX12_init 146 = .ok (.bipush 40, 2) := by decide +kernel
set_option maxRecDepth 100000 in
theorem dmi_148 : decode cX12_init 148 = .ok (.newarray .boolean, 2) := by decide +kernel
set_option maxRecDepth 100000 in
theorem dmi_150 : decode cX12_init 150 = .ok (.putfield 63, 3) := by decide +kernel
set_option maxRecDepth 100000 in
theorem dmi_153 : decode cX12_init 153 = .ok (.aload_n 0, 1) := by decide +kernel
set_option maxRecDepth 100000 in
theorem dmi_154 : decode cX12_init 154 = .ok (.bipush 40, 2) := by decide +kernel
set_option maxRecDepth 100000 in
theorem dmi_156 : decode cX12_init 156 = .ok (.newarray .int, 2) := by decide +kernel
set_option maxRecDepth 100000 in
theorem dmi_158 : decode cX12_init 158 = .ok (.putfield 67, 3) := by decide +kernel
set_option maxRecDepth 100000 in
theorem dmi_161 : decode cX12_init 161 = .ok (.aload_n 0, 1) := by decide +kernel
set_option maxRecDepth 100000 in
theorem dmi_162 : decode cX12_init 162 = .ok (.bipush 24, 2) := by decide +kernel
set_option maxRecDepth 100000 in
theorem dmi_164 : decode cX12_init 164 = .ok (.newarray .int, 2) := by decide +kernel
set_option maxRecDepth 100000 in
theorem dmi_166 : decode cX12_init 166 = .ok (.putfield 70, 3) := by decide +kernel
set_option maxRecDepth 100000 in
theorem dmi_169 : decode cX12_init 169 = .ok (.aload_n 0, 1) := by decide +kernel
set_option maxRecDepth 100000 in
theorem dmi_170 : decode cX12_init 170 = .ok (.bipush 24, 2) := by decide +kernel
set_option maxRecDepth 100000 in
theorem dmi_172 : decode cX12_init 172 = .ok (.newarray .boolean, 2) := by decide +kernel
set_option maxRecDepth 100000 in
theorem dmi_174 : decode cX12_init 174 = .ok (.putfield 73, 3) := by decide +kernel
set_option maxRecDepth 100000 in
theorem dmi_177 : decode cX12_init 177 = .ok (.aload_n 0, 1) := by decide +kernel
set_option maxRecDepth 100000 in
theorem dmi_178 : decode cX12_init 178 = .ok (.bipush 6, 2) := by decide +kernel
set_option maxRecDepth 100000 in
theorem dmi_180 : decode cX12_init 180 = .ok (.newarray .boolean, 2) := by decide +kernel
set_option maxRecDepth 100000 in
theorem dmi_182 : decode cX12_init 182 = .ok (.putfield 76, 3) := by decide +kernel
set_option maxRecDepth 100000 in
theorem dmi_185 : decode cX12_init 185 = .ok (.aload_n 0, 1) := by decide +kernel
set_option maxRecDepth 100000 in
theorem dmi_186 : decode cX12_init 186 = .ok (.bipush 6, 2) := by decide +kernel
set_option maxRecDepth 100000 in
theorem dmi_188 : decode cX12_init 188 = .ok (.newarray .int, 2) := by decide +kernel
set_option maxRecDepth 100000 in
theorem dmi_190 : decode cX12_init 190 = .ok (.putfield 79, 3) := by decide +kernel
set_option maxRecDepth 100000 in
theorem dmi_193 : decode cX12_init 193 = .ok (.aload_n 0, 1) := by decide +kernel
set_option maxRecDepth 100000 in
theorem dmi_194 : decode cX12_init 194 = .ok (.iconst 4, 1) := by decide +kernel
set_option maxRecDepth 100000 in
theorem dmi_195 : decode cX12_init 195 = .ok (.newarray .int, 2) := by decide +kernel
set_option maxRecDepth 100000 in
theorem dmi_197 : decode cX12_init 197 = .ok (.putfield 82, 3) := by decide +kernel
set_option maxRecDepth 100000 in
theorem dmi_200 : decode cX12_init 200 = .ok (.aload_n 0, 1) := by decide +kernel
set_option maxRecDepth 100000 in
theorem dmi_201 : decode cX12_init 201 = .ok (.iconst 4, 1) := by decide +kernel
set_option maxRecDepth 100000 in
theorem dmi_202 : decode cX12_init 202 = .ok (.newarray .int, 2) := by decide +kernel
set_option maxRecDepth 100000 in
theorem dmi_204 : decode cX12_init 204 = .ok (.putfield 85, 3) := by decide +kernel
set_option maxRecDepth 100000 in
theorem dmi_207 : decode cX12_init 207 = .ok (.aload_n 0, 1) := by decide +kernel
set_option maxRecDepth 100000 in
theorem dmi_208 : decode cX12_init 208 = .ok (.bipush 40, 2) := by decide +kernel
set_option maxRecDepth 100000 in
theorem dmi_210 : decode cX12_init 210 = .ok (.newarray .int, 2) := by decide +kernel
set_option maxRecDepth 100000 in
theorem dmi_212 : decode cX12_init 212 = .ok (.putfield 88, 3) := by decide +kernel
set_option maxRecDepth 100000 in
theorem dmi_215 : decode cX12_init 215 = .ok (.aload_n 0, 1) := by decide +kernel
set_option maxRecDepth 100000 in
theorem dmi_216 : decode cX12_init 216 = .ok (.bipush 40, 2) := by decide +kernel
set_option maxRecDepth 100000 in
theorem dmi_218 : decode cX12_init 218 = .ok (.newarray .int, 2) := by decide +kernel
set_option maxRecDepth 100000 in
theorem dmi_220 : decode cX12_init 220 = .ok (.putfield 91, 3) := by decide +kernel
set_option maxRecDepth 100000 in
theorem dmi_223 : decode cX12_init 223 = .ok (.aload_n 0, 1) := by decide +kernel
set_option maxRecDepth 100000 in
theorem dmi_224 : decode cX12_init 224 = .ok (.bipush 40, 2) := by decide +kernel
set_option maxRecDepth 100000 in
theorem dmi_226 : decode cX12_init 226 = .ok (.newarray .int, 2) := by decide +kernel
set_option maxRecDepth 100000 in
theorem dmi_228 : decode cX12_init 228 = .ok (.putfield 94, 3) := by decide +kernel
set_option maxRecDepth 100000 in
theorem dmi_231 : decode cX12_init 231 = .ok (.aload_n 0, 1) := by decide +kernel
set_option maxRecDepth 100000 in
theorem dmi_232 : decode cX12_init 232 = .ok (.sipush 6000, 3) := by decide +kernel
set_option maxRecDepth 100000 in
theorem dmi_235 : decode cX12_init 235 = .ok (.newarray .int, 2) := by decide +kernel
set_option maxRecDepth 100000 in
theorem dmi_237 : decode cX12_init 237 = .ok (.putfield 97, 3) := by decide +kernel
set_option maxRecDepth 100000 in
theorem dmi_240 : decode cX12_init 240 = .ok (.aload_n 0, 1) := by decide +kernel
set_option maxRecDepth 100000 in
theorem dmi_241 : decode cX12_init 241 = .ok (.sipush 6000, 3) := by decide +kernel
set_option maxRecDepth 100000 in
theorem dmi_244 : decode cX12_init 244 = .ok (.newarray .int, 2) := by decide +kernel
set_option maxRecDepth 100000 in
theorem dmi_246 : decode cX12_init 246 = .ok (.putfield 100, 3) := by decide +kernel
set_option maxRecDepth 100000 in
theorem dmi_249 : decode cX12_init 249 = .ok (.aload_n 0, 1) := by decide +kernel
set_option maxRecDepth 100000 in
theorem dmi_250 : decode cX12_init 250 = .ok (.sipush 1500, 3) := by decide +kernel
set_option maxRecDepth 100000 in
theorem dmi_253 : decode cX12_init 253 = .ok (.newarray .int, 2) := by decide +kernel
set_option maxRecDepth 100000 in
theorem dmi_255 : decode cX12_init 255 = .ok (.putfield 103, 3) := by decide +kernel
set_option maxRecDepth 100000 in
theorem dmi_258 : decode cX12_init 258 = .ok (.aload_n 0, 1) := by decide +kernel
set_option maxRecDepth 100000 in
theorem dmi_259 : decode cX12_init 259 = .ok (.sipush 1500, 3) := by decide +kernel
set_option maxRecDepth 100000 in
theorem dmi_262 : decode cX12_init 262 = .ok (.newarray .int, 2) := by decide +kernel
set_option maxRecDepth 100000 in
theorem dmi_264 : decode cX12_init 264 = .ok (.putfield 106, 3) := by decide +kernel
set_option maxRecDepth 100000 in
theorem dmi_267 : decode cX12_init 267 = .ok (.aload_n 0, 1) := by decide +kernel
set_option maxRecDepth 100000 in
theorem dmi_268 : decode cX12_init 268 = .ok (.sipush 1500, 3) := by decide +kernel
set_option maxRecDepth 100000 in
theorem dmi_271 : decode cX12_init 271 = .ok (.newarray .int, 2) := by decide +kernel
set_option maxRecDepth 100000 in
theorem dmi_273 : decode cX12_init 273 = .ok (.putfield 109, 3) := by decide +kernel
set_option maxRecDepth 100000 in
theorem dmi_276 : decode cX12_init 276 = .ok (.aload_n 0, 1) := by decide +kernel
set_option maxRecDepth 100000 in
theorem dmi_277 : decode cX12_init 277 = .ok (.sipush 1500, 3) := by decide +kernel
set_option maxRecDepth 100000 in
theorem dmi_280 : decode cX12_init 280 = .ok (.newarray .int, 2) := by decide +kernel
set_option maxRecDepth 100000 in
theorem dmi_282 : decode cX12_init 282 = .ok (.putfield 112, 3) := by decide +kernel
set_option maxRecDepth 100000 in
theorem dmi_285 : decode cX12_init 285 = .ok (.aload_n 0, 1) := by decide +kernel
set_option maxRecDepth 100000 in
theorem dmi_286 : decode cX12_init 286 = .ok (.sipush 1500, 3) := by decide +kernel
set_option maxRecDepth 100000 in
theorem dmi_289 : decode cX12_init 289 = .ok (.newarray .int, 2) := by decide +kernel
set_option maxRecDepth 100000 in
theorem dmi_291 : decode cX12_init 291 = .ok (.putfield 115, 3) := by decide +kernel
set_option maxRecDepth 100000 in
theorem dmi_294 : decode cX12_init 294 = .ok (.aload_n 0, 1) := by decide +kernel
set_option maxRecDepth 100000 in
theorem dmi_295 : decode cX12_init 295 = .ok (.sipush 1500, 3) := by decide +kernel
set_option maxRecDepth 100000 in
theorem dmi_298 : decode cX12_init 298 = .ok (.newarray .int, 2) := by decide +kernel
set_option maxRecDepth 100000 in
theorem dmi_300 : decode cX12_init 300 = .ok (.putfield 118, 3) := by decide +kernel
set_option maxRecDepth 100000 in
theorem dmi_303 : decode cX12_init 303 = .ok (.aload_n 0, 1) := by decide +kernel
set_option maxRecDepth 100000 in
theorem dmi_304 : decode cX12_init 304 = .ok (.sipush 1500, 3) := by decide +kernel
set_option maxRecDepth 100000 in
theorem dmi_307 : decode cX12_init 307 = .ok (.newarray .int, 2) := by decide +kernel
set_option maxRecDepth 100000 in
theorem dmi_309 : decode cX12_init 309 = .ok (.putfield 121, 3) := by decide +kernel
set_option maxRecDepth 100000 in
theorem dmi_312 : decode cX12_init 312 = .ok (.aload_n 0, 1) := by decide +kernel
set_option maxRecDepth 100000 in
theorem dmi_313 : decode cX12_init 313 = .ok (.sipush 1500, 3) := by decide +kernel
set_option maxRecDepth 100000 in
theorem dmi_316 : decode cX12_init 316 = .ok (.newarray .int, 2) := by decide +kernel
set_option maxRecDepth 100000 in
theorem dmi_318 : decode cX12_init 318 = .ok (.putfield 124, 3) := by decide +kernel
set_option maxRecDepth 100000 in
theorem dmi_321 : decode cX12_init 321 = .ok (.aload_n 0, 1) := by decide +kernel
set_option maxRecDepth 100000 in
theorem dmi_322 : decode cX12_init 322 = .ok (.sipush 1500, 3) := by decide +kernel
set_option maxRecDepth 100000 in
theorem dmi_325 : decode cX12_init 325 = .ok (.newarray .int, 2) := by decide +kernel
set_option maxRecDepth 100000 in
theorem dmi_327 : decode cX12_init 327 = .ok (.putfield 127, 3) := by decide +kernel
set_option maxRecDepth 100000 in
theorem dmi_330 : decode cX12_init 330 = .ok (.aload_n 0, 1) := by decide +kernel
set_option maxRecDepth 100000 in
theorem dmi_331 : decode cX12_init 331 = .ok (.sipush 1500, 3) := by decide +kernel
set_option maxRecDepth 100000 in
theorem dmi_334 : decode cX12_init 334 = .ok (.newarray .int, 2) := by decide +kernel
set_option maxRecDepth 100000 in
theorem dmi_336 : decode cX12_init 336 = .ok (.putfield 130, 3) := by decide +kernel
set_option maxRecDepth 100000 in
theorem dmi_339 : decode cX12_init 339 = .ok (.aload_n 0, 1) := by decide +kernel
set_option maxRecDepth 100000 in
theorem dmi_340 : decode cX12_init 340 = .ok (.bipush 6, 2) := by decide +kernel
set_option maxRecDepth 100000 in
theorem dmi_342 : decode cX12_init 342 = .ok (.newarray .int, 2) := by decide +kernel
set_option maxRecDepth 100000 in
theorem dmi_344 : decode cX12_init 344 = .ok (.putfield 133, 3) := by decide +kernel
set_option maxRecDepth 100000 in
theorem dmi_347 : decode cX12_init 347 = .ok (.aload_n 0, 1) := by decide +kernel
set_option maxRecDepth 100000 in
theorem dmi_348 : decode cX12_init 348 = .ok (.iconst 4, 1) := by decide +kernel
set_option maxRecDepth 100000 in
theorem dmi_349 : decode cX12_init 349 = .ok (.newarray .int, 2) := by decide +kernel
set_option maxRecDepth 100000 in
theorem dmi_351 : decode cX12_init 351 = .ok (.putfield 136, 3) := by decide +kernel
set_option maxRecDepth 100000 in
theorem dmi_354 : decode cX12_init 354 = .ok (.aload_n 0, 1) := by decide +kernel
set_option maxRecDepth 100000 in
theorem dmi_355 : decode cX12_init 355 = .ok (.iconst 4, 1) := by decide +kernel
set_option maxRecDepth 100000 in
theorem dmi_356 : decode cX12_init 356 = .ok (.newarray .int, 2) := by decide +kernel
set_option maxRecDepth 100000 in
theorem dmi_358 : decode cX12_init 358 = .ok (.putfield 139, 3) := by decide +kernel
set_option maxRecDepth 100000 in
theorem dmi_361 : decode cX12_init 361 = .ok (.aload_n 0, 1) := by decide +kernel
set_option maxRecDepth 100000 in
theorem dmi_362 : decode cX12_init 362 = .ok (.bipush 24, 2) := by decide +kernel
set_option maxRecDepth 100000 in
theorem dmi_364 : decode cX12_init 364 = .ok (.newarray .int, 2) := by decide +kernel
set_option maxRecDepth 100000 in
theorem dmi_366 : decode cX12_init 366 = .ok (.putfield 142, 3) := by decide +kernel
set_option maxRecDepth 100000 in
theorem dmi_369 : decode cX12_init 369 = .ok (.aload_n 0, 1) := by decide +kernel
set_option maxRecDepth 100000 in
theorem dmi_370 : decode cX12_init 370 = .ok (.bipush 6, 2) := by decide +kernel
set_option maxRecDepth 100000 in
theorem dmi_372 : decode cX12_init 372 = .ok (.newarray .int, 2) := by decide +kernel
set_option maxRecDepth 100000 in
theorem dmi_374 : decode cX12_init 374 = .ok (.putfield 145, 3) := by decide +kernel
set_option maxRecDepth 100000 in
theorem dmi_377 : decode cX12_init 377 = .ok (.aload_n 0, 1) := by decide +kernel
set_option maxRecDepth 100000 in
theorem dmi_378 : decode cX12_init 378 = .ok (.bipush 6, 2) := by decide +kernel
set_option maxRecDepth 100000 in
theorem dmi_380 : decode cX12_init 380 = .ok (.newarray .int, 2) := by decide +kernel
set_option maxRecDepth 100000 in
theorem dmi_382 : decode cX12_init 382 = .ok (.putfield 148, 3) := by decide +kernel
set_option maxRecDepth 100000 in
theorem dmi_385 : decode cX12_init 385 = .ok (.aload_n 0, 1) := by decide +kernel
set_option maxRecDepth 100000 in
theorem dmi_386 : decode cX12_init 386 = .ok (.bipush 6, 2) := by decide +kernel
set_option maxRecDepth 100000 in
theorem dmi_388 : decode cX12_init 388 = .ok (.newarray .int, 2) := by decide +kernel
set_option maxRecDepth 100000 in
theorem dmi_390 : decode cX12_init 390 = .ok (.putfield 151, 3) := by decide +kernel
set_option maxRecDepth 100000 in
theorem dmi_393 : decode cX12_init 393 = .ok (.aload_n 0, 1) := by decide +kernel
set_option maxRecDepth 100000 in
theorem dmi_394 : decode cX12_init 394 = .ok (.bipush 6, 2) := by decide +kernel
set_option maxRecDepth 100000 in
theorem dmi_396 : decode cX12_init 396 = .ok (.newarray .int, 2) := by decide +kernel
set_option maxRecDepth 100000 in
theorem dmi_398 : decode cX12_init 398 = .ok (.putfield 154, 3) := by decide +kernel
set_option maxRecDepth 100000 in
theorem dmi_401 : decode cX12_init 401 = .ok (.aload_n 0, 1) := by decide +kernel
set_option maxRecDepth 100000 in
theorem dmi_402 : decode cX12_init 402 = .ok (.bipush 6, 2) := by decide +kernel
set_option maxRecDepth 100000 in
theorem dmi_404 : decode cX12_init 404 = .ok (.newarray .int, 2) := by decide +kernel
set_option maxRecDepth 100000 in
theorem dmi_406 : decode cX12_init 406 = .ok (.putfield 157, 3) := by decide +kernel
set_option maxRecDepth 100000 in
theorem dmi_409 : decode cX12_init 409 = .ok (.aload_n 0, 1) := by decide +kernel
set_option maxRecDepth 100000 in
theorem dmi_410 : decode cX12_init 410 = .ok (.bipush 48, 2) := by decide +kernel
set_option maxRecDepth 100000 in
theorem dmi_412 : decode cX12_init 412 = .ok (.newarray .int, 2) := by decide +kernel
set_option maxRecDepth 100000 in
theorem dmi_414 : decode cX12_init 414 = .ok (.putfield 160, 3) := by decide +kernel
set_option maxRecDepth 100000 in
theorem dmi_417 : decode cX12_init 417 = .ok (.aload_n 0, 1) := by decide +kernel
set_option maxRecDepth 100000 in
theorem dmi_418 : decode cX12_init 418 = .ok (.bipush 6, 2) := by decide +kernel
set_option maxRecDepth 100000 in
theorem dmi_420 : decode cX12_init 420 = .ok (.newarray .int, 2) := by decide +kernel
set_option maxRecDepth 100000 in
theorem dmi_422 : decode cX12_init 422 = .ok (.putfield 163, 3) := by decide +kernel
set_option maxRecDepth 100000 in
theorem dmi_425 : decode cX12_init 425 = .ok (.aload_n 0, 1) := by decide +kernel
set_option maxRecDepth 100000 in
theorem dmi_426 : decode cX12_init 426 = .ok (.bipush 6, 2) := by decide +kernel
set_option maxRecDepth 100000 in
theorem dmi_428 : decode cX12_init 428 = .ok (.newarray .int, 2) := by decide +kernel
set_option maxRecDepth 100000 in
theorem dmi_430 : decode cX12_init 430 = .ok (.putfield 166, 3) := by decide +kernel
set_option maxRecDepth 100000 in
theorem dmi_433 : decode cX12_init 433 = .ok (.aload_n 0, 1) := by decide +kernel
set_option maxRecDepth 100000 in
theorem dmi_434 : decode cX12_init 434 = .ok (.bipush 6, 2) := by decide +kernel
set_option maxRecDepth 100000 in
theorem dmi_436 : decode cX12_init 436 = .ok (.newarray .int, 2) := by decide +kernel
set_option maxRecDepth 100000 in
theorem dmi_438 : decode cX12_init 438 = .ok (.putfield 169, 3) := by decide +kernel
set_option maxRecDepth 100000 in
theorem dmi_441 : decode cX12_init 441 = .ok (.aload_n 0, 1) := by decide +kernel
set_option maxRecDepth 100000 in
theorem dmi_442 : decode cX12_init 442 = .ok (.bipush 6, 2) := by decide +kernel
set_option maxRecDepth 100000 in
theorem dmi_444 : decode cX12_init 444 = .ok (.newarray .int, 2) := by decide +kernel
set_option maxRecDepth 100000 in
theorem dmi_446 : decode cX12_init 446 = .ok (.putfield 172, 3) := by decide +kernel
set_option maxRecDepth 100000 in
theorem dmi_449 : decode cX12_init 449 = .ok (.aload_n 0, 1) := by decide +kernel
set_option maxRecDepth 100000 in
theorem dmi_450 : decode cX12_init 450 = .ok (.bipush 60, 2) := by decide +kernel
set_option maxRecDepth 100000 in
theorem dmi_452 : decode cX12_init 452 = .ok (.newarray .int, 2) := by decide +kernel
set_option maxRecDepth 100000 in
theorem dmi_454 : decode cX12_init 454 = .ok (.putfield 175, 3) := by decide +kernel
set_option maxRecDepth 100000 in
theorem dmi_457 : decode cX12_init 457 = .ok (.aload_n 0, 1) := by decide +kernel
set_option maxRecDepth 100000 in
theorem dmi_458 : decode cX12_init 458 = .ok (.bipush 60, 2) := by decide +kernel
set_option maxRecDepth 100000 in
theorem dmi_460 : decode cX12_init 460 = .ok (.newarray .int, 2) := by decide +kernel
set_option maxRecDepth 100000 in
theorem dmi_462 : decode cX12_init 462 = .ok (.putfield 178, 3) := by decide +kernel
set_option maxRecDepth 100000 in
theorem dmi_465 : decode cX12_init 465 = .ok (.aload_n 0, 1) := by decide +kernel
set_option maxRecDepth 100000 in
theorem dmi_466 : decode cX12_init 466 = .ok (.bipush 60, 2) := by decide +kernel
set_option maxRecDepth 100000 in
theorem dmi_468 : decode cX12_init 468 = .ok (.newarray .int, 2) := by decide +kernel
set_option maxRecDepth 100000 in
theorem dmi_470 : decode cX12_init 470 = .ok (.putfield 181, 3) := by decide +kernel
set_option maxRecDepth 100000 in
theorem dmi_473 : decode cX12_init 473 = .ok (.aload_n 0, 1) := by decide +kernel
set_option maxRecDepth 100000 in
theorem dmi_474 : decode cX12_init 474 = .ok (.sipush 200, 3) := by decide +kernel
set_option maxRecDepth 100000 in
theorem dmi_477 : decode cX12_init 477 = .ok (.newarray .int, 2) := by decide +kernel
set_option maxRecDepth 100000 in
theorem dmi_479 : decode cX12_init 479 = .ok (.putfield 184, 3) := by decide +kernel
set_option maxRecDepth 100000 in
theorem dmi_482 : decode cX12_init 482 = .ok (.aload_n 0, 1) := by decide +kernel
set_option maxRecDepth 100000 in
theorem dmi_483 : decode cX12_init 483 = .ok (.sipush 200, 3) := by decide +kernel
set_option maxRecDepth 100000 in
theorem dmi_486 : decode cX12_init 486 = .ok (.newarray .int, 2) := by decide +kernel
set_option maxRecDepth 100000 in
theorem dmi_488 : decode cX12_init 488 = .ok (.putfield 187, 3) := by decide +kernel
set_option maxRecDepth 100000 in
theorem dmi_491 : decode cX12_init 491 = .ok (.aload_n 0, 1) := by decide +kernel
set_option maxRecDepth 100000 in
theorem dmi_492 : decode cX12_init 492 = .ok (.sipush 200, 3) := by decide +kernel
set_option maxRecDepth 100000 in
theorem dmi_495 : decode cX12_init 495 = .ok (.newarray .int, 2) := by decide +kernel
set_option maxRecDepth 100000 in
theorem dmi_497 : decode cX12_init 497 = .ok (.putfield 190, 3) := by decide +kernel
set_option maxRecDepth 100000 in
theorem dmi_500 : decode cX12_init 500 = .ok (.aload_n 0, 1) := by decide +kernel
set_option maxRecDepth 100000 in
theorem dmi_501 : decode cX12_init 501 = .ok (.sipush 400, 3) := by decide +kernel
set_option maxRecDepth 100000 in
theorem dmi_504 : decode cX12_init 504 = .ok (.newarray .int, 2) := by decide +kernel
set_option maxRecDepth 100000 in
theorem dmi_506 : decode cX12_init 506 = .ok (.putfield 193, 3) := by decide +kernel
set_option maxRecDepth 100000 in
theorem dmi_509 : decode cX12_init 509 = .ok (.aload_n 0, 1) := by decide +kernel
set_option maxRecDepth 100000 in
theorem dmi_510 : decode cX12_init 510 = .ok (.sipush 400, 3) := by decide +kernel
set_option maxRecDepth 100000 in
theorem dmi_513 : decode cX12_init 513 = .ok (.newarray .int, 2) := by decide +kernel
set_option maxRecDepth 100000 in
theorem dmi_515 : decode cX12_init 515 = .ok (.putfield 196, 3) := by decide +kernel
set_option maxRecDepth 100000 in
theorem dmi_518 : decode cX12_init 518 = .ok (.aload_n 0, 1) := by decide +kernel
set_option maxRecDepth 100000 in
theorem dmi_519 : decode cX12_init 519 = .ok (.sipush 400, 3) := by decide +kernel
set_option maxRecDepth 100000 in
theorem dmi_522 : decode cX12_init 522 = .ok (.newarray .int, 2) := by decide +kernel
set_option maxRecDepth 100000 in
theorem dmi_524 : decode cX12_init 524 = .ok (.putfield 199, 3) := by decide +kernel
set_option maxRecDepth 100000 in
theorem dmi_527 : decode cX12_init 527 = .ok (.aload_n 0, 1) := by decide +kernel
set_option maxRecDepth 100000 in
theorem dmi_528 : decode cX12_init 528 = .ok (.sipush 400, 3) := by decide +kernel
set_option maxRecDepth 100000 in
theorem dmi_531 : decode cX12_init 531 = .ok (.newarray .int, 2) := by decide +kernel
set_option maxRecDepth 100000 in
theorem dmi_533 : decode cX12_init 533 = .ok (.putfield 202, 3) := by decide +kernel
set_option maxRecDepth 100000 in
theorem dmi_536 : decode cX12_init 536 = .ok (.aload_n 0, 1) := by decide +kernel
set_option maxRecDepth 100000 in
theorem dmi_537 : decode cX12_init 537 = .ok (.sipush 400, 3) := by decide +kernel
set_option maxRecDepth 100000 in
theorem dmi_540 : decode cX12_init 540 = .ok (.newarray .int, 2) := by decide +kernel
set_option maxRecDepth 100000 in
theorem dmi_542 : decode cX12_init 542 = .ok (.putfield 205, 3) := by decide +kernel
set_option maxRecDepth 100000 in
theorem dmi_545 : decode cX12_init 545 = .ok (.aload_n 0, 1) := by decide +kernel
set_option maxRecDepth 100000 in
theorem dmi_546 : decode cX12_init 546 = .ok (.sipush 400, 3) := by decide +kernel
set_option maxRecDepth 100000 in
theorem dmi_549 : decode cX12_init 549 = .ok (.newarray .int, 2) := by decide +kernel
set_option maxRecDepth 100000 in
theorem dmi_551 : decode cX12_init 551 = .ok (.putfield 208, 3) := by decide +kernel
set_option maxRecDepth 100000 in
theorem dmi_554 : decode cX12_init 554 = .ok (.aload_n 0, 1) := by decide +kernel
set_option maxRecDepth 100000 in
theorem dmi_555 : decode cX12_init 555 = .ok (.sipush 400, 3) := by decide +kernel
set_option maxRecDepth 100000 in
theorem dmi_558 : decode cX12_init 558 = .ok (.newarray .boolean, 2) := by decide +kernel
set_option maxRecDepth 100000 in
theorem dmi_560 : decode cX12_init 560 = .ok (.putfield 211, 3) := by decide +kernel
set_option maxRecDepth 100000 in
theorem dmi_563 : decode cX12_init 563 = .ok (.aload_n 0, 1) := by decide +kernel
set_option maxRecDepth 100000 in
theorem dmi_564 : decode cX12_init 564 = .ok (.sipush 400, 3) := by decide +kernel
set_option maxRecDepth 100000 in
theorem dmi_567 : decode cX12_init 567 = .ok (.newarray .int, 2) := by decide +kernel
set_option maxRecDepth 100000 in
theorem dmi_569 : decode cX12_init 569 = .ok (.putfield 214, 3) := by decide +kernel
set_option maxRecDepth 100000 in
theorem dmi_572 : decode cX12_init 572 = .ok (.aload_n 0, 1) := by decide +kernel
set_option maxRecDepth 100000 in
theorem dmi_573 : decode cX12_init 573 = .ok (.sipush 2800, 3) := by decide +kernel
set_option maxRecDepth 100000 in
theorem dmi_576 : decode cX12_init 576 = .ok (.newarray .long, 2) := by decide +kernel
set_option maxRecDepth 100000 in
theorem dmi_578 : decode cX12_init 578 = .ok (.putfield 217, 3) := by decide +kernel
set_option maxRecDepth 100000 in
theorem dmi_581 : decode cX12_init 581 = .ok (.aload_n 0, 1) := by decide +kernel
set_option maxRecDepth 100000 in
theorem dmi_582 : decode cX12_init 582 = .ok (.bipush 6, 2) := by decide +kernel
set_option maxRecDepth 100000 in
theorem dmi_584 : decode cX12_init 584 = .ok (.newarray .int, 2) := by decide +kernel
set_option maxRecDepth 100000 in
theorem dmi_586 : decode cX12_init 586 = .ok (.putfield 221, 3) := by decide +kernel
set_option maxRecDepth 100000 in
theorem dmi_589 : decode cX12_init 589 = .ok (.aload_n 0, 1) := by decide +kernel
set_option maxRecDepth 100000 in
theorem dmi_590 : decode cX12_init 590 = .ok (.bipush 6, 2) := by decide +kernel
set_option maxRecDepth 100000 in
theorem dmi_592 : decode cX12_init 592 = .ok (.newarray .int, 2) := by decide +kernel
set_option maxRecDepth 100000 in
theorem dmi_594 : decode cX12_init 594 = .ok (.putfield 224, 3) := by decide +kernel
set_option maxRecDepth 100000 in
theorem dmi_597 : decode cX12_init 597 = .ok (.aload_n 0, 1) := by decide +kernel
set_option maxRecDepth 100000 in
theorem dmi_598 : decode cX12_init 598 = .ok (.bipush 14, 2) := by decide +kernel
set_option maxRecDepth 100000 in
theorem dmi_600 : decode cX12_init 600 = .ok (.newarray .int, 2) := by decide +kernel
set_option maxRecDepth 100000 in
theorem dmi_602 : decode cX12_init 602 = .ok (.putfield 227, 3) := by decide +kernel
set_option maxRecDepth 100000 in
theorem dmi_605 : decode cX12_init 605 = .ok (.aload_n 0, 1) := by decide +kernel
set_option maxRecDepth 100000 in
theorem dmi_606 : decode cX12_init 606 = .ok (.bipush 14, 2) := by decide +kernel
set_option maxRecDepth 100000 in
theorem dmi_608 : decode cX12_init 608 = .ok (.newarray .int, 2) := by decide +kernel
set_option maxRecDepth 100000 in
theorem dmi_610 : decode cX12_init 610 = .ok (.putfield 230, 3) := by decide +kernel
set_option maxRecDepth 100000 in
theorem dmi_613 : decode cX12_init 613 = .ok (.aload_n 0, 1) := by decide +kernel
set_option maxRecDepth 100000 in
theorem dmi_614 : decode cX12_init 614 = .ok (.bipush 14, 2) := by decide +kernel
set_option maxRecDepth 100000 in
theorem dmi_616 : decode cX12_init 616 = .ok (.newarray .int, 2) := by decide +kernel
set_option maxRecDepth 100000 in
theorem dmi_618 : decode cX12_init 618 = .ok (.putfield 233, 3) := by decide +kernel
set_option maxRecDepth 100000 in
theorem dmi_621 : decode cX12_init 621 = .ok (.aload_n 0, 1) := by decide +kernel
set_option maxRecDepth 100000 in
theorem dmi_622 : decode cX12_init 622 = .ok (.bipush 14, 2) := by decide +kernel
set_option maxRecDepth 100000 in
theorem dmi_624 : decode cX12_init 624 = .ok (.newarray .int, 2) := by decide +kernel
set_option maxRecDepth 100000 in
theorem dmi_626 : decode cX12_init 626 = .ok (.putfield 236, 3) := by decide +kernel
set_option maxRecDepth 100000 in
theorem dmi_629 : decode cX12_init 629 = .ok (.aload_n 0, 1) := by decide +kernel
set_option maxRecDepth 100000 in
theorem dmi_630 : decode cX12_init 630 = .ok (.bipush 14, 2) := by decide +kernel
set_option maxRecDepth 100000 in
theorem dmi_632 : decode cX12_init 632 = .ok (.newarray .int, 2) := by decide +kernel
set_option maxRecDepth 100000 in
theorem dmi_634 : decode cX12_init 634 = .ok (.putfield 239, 3) := by decide +kernel
set_option maxRecDepth 100000 in
theorem dmi_637 : decode cX12_init 637 = .ok (.aload_n 0, 1) := by decide +kernel
set_option maxRecDepth 100000 in
theorem dmi_638 : decode cX12_init 638 = .ok (.bipush 14, 2) := by decide +kernel
set_option maxRecDepth 100000 in
theorem dmi_640 : decode cX12_init 640 = .ok (.newarray .int, 2) := by decide +kernel
set_option maxRecDepth 100000 in
theorem dmi_642 : decode cX12_init 642 = .ok (.putfield 242, 3) := by decide +kernel
set_option maxRecDepth 100000 in
theorem dmi_645 : decode cX12_init 645 = .ok (.aload_n 0, 1) := by decide +kernel
set_option maxRecDepth 100000 in
theorem dmi_646 : decode cX12_init 646 = .ok (.bipush 14, 2) := by decide +kernel
set_option maxRecDepth 100000 in
theorem dmi_648 : decode cX12_init 648 = .ok (.newarray .int, 2) := by decide +kernel
set_option maxRecDepth 100000 in
theorem dmi_650 : decode cX12_init 650 = .ok (.putfield 245, 3) := by decide +kernel
set_option maxRecDepth 100000 in
theorem dmi_653 : decode cX12_init 653 = .ok (.aload_n 0, 1) := by decide +kernel
set_option maxRecDepth 100000 in
theorem dmi_654 : decode cX12_init 654 = .ok (.bipush 14, 2) := by decide +kernel
set_option maxRecDepth 100000 in
theorem dmi_656 : decode cX12_init 656 = .ok (.newarray .int, 2) := by decide +kernel
set_option maxRecDepth 100000 in
theorem dmi_658 : decode cX12_init 658 = .ok (.putfield 248, 3) := by decide +kernel
set_option maxRecDepth 100000 in
theorem dmi_661 : decode cX12_init 661 = .ok (.aload_n 0, 1) := by decide +kernel
set_option maxRecDepth 100000 in
theorem dmi_662 : decode cX12_init 662 = .ok (.bipush 6, 2) := by decide +kernel
set_option maxRecDepth 100000 in
theorem dmi_664 : decode cX12_init 664 = .ok (.newarray .int, 2) := by decide +kernel
set_option maxRecDepth 100000 in
theorem dmi_666 : decode cX12_init 666 = .ok (.putfield 251, 3) := by decide +kernel
set_option maxRecDepth 100000 in
theorem dmi_669 : decode cX12_init 669 = .ok (.aload_n 0, 1) := by decide +kernel
set_option maxRecDepth 100000 in
theorem dmi_670 : decode cX12_init 670 = .ok (.iconst 2, 1) := by decide +kernel
set_option maxRecDepth 100000 in
theorem dmi_671 : decode cX12_init 671 = .ok (.newarray .boolean, 2) := by decide +kernel
set_option maxRecDepth 100000 in
theorem dmi_673 : decode cX12_init 673 = .ok (.putfield 254, 3) := by decide +kernel
set_option maxRecDepth 100000 in
theorem dmi_676 : decode cX12_init 676 = .ok (.aload_n 0, 1) := by decide +kernel
set_option maxRecDepth 100000 in
theorem dmi_677 : decode cX12_init 677 = .ok (.iconst 2, 1) := by decide +kernel
set_option maxRecDepth 100000 in
theorem dmi_678 : decode cX12_init 678 = .ok (.newarray .int, 2) := by decide +kernel
set_option maxRecDepth 100000 in
theorem dmi_680 : decode cX12_init 680 = .ok (.putfield 257, 3) := by decide +kernel
set_option maxRecDepth 100000 in
theorem dmi_683 : decode cX12_init 683 = .ok (.aload_n 0, 1) := by decide +kernel
set_option maxRecDepth 100000 in
theorem dmi_684 : decode cX12_init 684 = .ok (.iconst 2, 1) := by decide +kernel
set_option maxRecDepth 100000 in
theorem dmi_685 : decode cX12_init 685 = .ok (.newarray .boolean, 2) := by decide +kernel
set_option maxRecDepth 100000 in
theorem dmi_687 : decode cX12_init 687 = .ok (.putfield 260, 3) := by decide +kernel
set_option maxRecDepth 100000 in
theorem dmi_690 : decode cX12_init 690 = .ok (.aload_n 0, 1) := by decide +kernel
set_option maxRecDepth 100000 in
theorem dmi_691 : decode cX12_init 691 = .ok (.iconst 2, 1) := by decide +kernel
set_option maxRecDepth 100000 in
theorem dmi_692 : decode cX12_init 692 = .ok (.newarray .int, 2) := by decide +kernel
set_option maxRecDepth 100000 in
theorem dmi_694 : decode cX12_init 694 = .ok (.putfield 263, 3) := by decide +kernel
set_option maxRecDepth 100000 in
theorem dmi_697 : decode cX12_init 697 = .ok (.aload_n 0, 1) := by decide +kernel
set_option maxRecDepth 100000 in
theorem dmi_698 : decode cX12_init 698 = .ok (.iconst 2, 1) := by decide +kernel
set_option maxRecDepth 100000 in
theorem dmi_699 : decode cX12_init 699 = .ok (.newarray .int, 2) := by decide +kernel
set_option maxRecDepth 100000 in
theorem dmi_701 : decode cX12_init 701 = .ok (.putfield 266, 3) := by decide +kernel
set_option maxRecDepth 100000 in
theorem dmi_704 : decode cX12_init 704 = .ok (.aload_n 0, 1) := by decide +kernel
set_option maxRecDepth 100000 in
theorem dmi_705 : decode cX12_init 705 = .ok (.iconst 2, 1) := by decide +kernel
set_option maxRecDepth 100000 in
theorem dmi_706 : decode cX12_init 706 = .ok (.newarray .int, 2) := by decide +kernel
set_option maxRecDepth 100000 in
theorem dmi_708 : decode cX12_init 708 = .ok (.putfield 269, 3) := by decide +kernel
set_option maxRecDepth 100000 in
theorem dmi_711 : decode cX12_init 711 = .ok (.aload_n 0, 1) := by decide +kernel
set_option maxRecDepth 100000 in
theorem dmi_712 : decode cX12_init 712 = .ok (.iconst 2, 1) := by decide +kernel
set_option maxRecDepth 100000 in
theorem dmi_713 : decode cX12_init 713 = .ok (.newarray .int, 2) := by decide +kernel
set_option maxRecDepth 100000 in
theorem dmi_715 : decode cX12_init 715 = .ok (.putfield 272, 3) := by decide +kernel
set_option maxRecDepth 100000 in
theorem dmi_718 : decode cX12_init 718 = .ok (.aload_n 0, 1) := by decide +kernel
set_option maxRecDepth 100000 in
theorem dmi_719 : decode cX12_init 719 = .ok (.bipush 22, 2) := by decide +kernel
set_option maxRecDepth 100000 in
theorem dmi_721 : decode cX12_init 721 = .ok (.newarray .int, 2) := by decide +kernel
set_option maxRecDepth 100000 in
theorem dmi_723 : decode cX12_init 723 = .ok (.putfield 275, 3) := by decide +kernel
set_option maxRecDepth 100000 in
theorem dmi_726 : decode cX12_init 726 = .ok (.aload_n 0, 1) := by decide +kernel
set_option maxRecDepth 100000 in
theorem dmi_727 : decode cX12_init 727 = .ok (.bipush 48, 2) := by decide +kernel
set_option maxRecDepth 100000 in
theorem dmi_729 : decode cX12_init 729 = .ok (.newarray .int, 2) := by decide +kernel
set_option maxRecDepth 100000 in
theorem dmi_731 : decode cX12_init 731 = .ok (.putfield 278, 3) := by decide +kernel
set_option maxRecDepth 100000 in
theorem dmi_734 : decode cX12_init 734 = .ok (.aload_n 0, 1) := by decide +kernel
set_option maxRecDepth 100000 in
theorem dmi_735 : decode cX12_init 735 = .ok (.bipush 72, 2) := by decide +kernel
set_option maxRecDepth 100000 in
theorem dmi_737 : decode cX12_init 737 = .ok (.newarray .boolean, 2) := by decide +kernel
set_option maxRecDepth 100000 in
theorem dmi_739 : decode cX12_init 739 = .ok (.putfield 281, 3) := by decide +kernel
set_option maxRecDepth 100000 in
theorem dmi_742 : decode cX12_init 742 = .ok (.aload_n 0, 1) := by decide +kernel
set_option maxRecDepth 100000 in
theorem dmi_743 : decode cX12_init 743 = .ok (.ldc_w 284, 3) := by decide +kernel
set_option maxRecDepth 100000 in
theorem dmi_746 : decode cX12_init 746 = .ok (.newarray .int, 2) := by decide +kernel
set_option maxRecDepth 100000 in
theorem dmi_748 : decode cX12_init 748 = .ok (.putfield 285, 3) := by decide +kernel
set_option maxRecDepth 100000 in
theorem dmi_751 : decode cX12_init 751 = .ok (.aload_n 0, 1) := by decide +kernel
set_option maxRecDepth 100000 in
theorem dmi_752 : decode cX12_init 752 = .ok (.sipush 6000, 3) := by decide +kernel
set_option maxRecDepth 100000 in
theorem dmi_755 : decode cX12_init 755 = .ok (.newarray .int, 2) := by decide +kernel
set_option maxRecDepth 100000 in
theorem dmi_757 : decode cX12_init 757 = .ok (.putfield 288, 3) := by decide +kernel
set_option maxRecDepth 100000 in
theorem dmi_760 : decode cX12_init 760 = .ok (.aload_n 0, 1) := by decide +kernel
set_option maxRecDepth 100000 in
theorem dmi_761 : decode cX12_init 761 = .ok (.sipush 6000, 3) := by decide +kernel
set_option maxRecDepth 100000 in
theorem dmi_764 : decode cX12_init 764 = .ok (.newarray .int, 2) := by decide +kernel
set_option maxRecDepth 100000 in
theorem dmi_766 : decode cX12_init 766 = .ok (.putfield 291, 3) := by decide +kernel
set_option maxRecDepth 100000 in
theorem dmi_769 : decode cX12_init 769 = .ok (.aload_n 0, 1) := by decide +kernel
set_option maxRecDepth 100000 in
theorem dmi_770 : decode cX12_init 770 = .ok (.sipush 6000, 3) := by decide +kernel
set_option maxRecDepth 100000 in
theorem dmi_773 : decode cX12_init 773 = .ok (.newarray .int, 2) := by decide +kernel
set_option maxRecDepth 100000 in
theorem dmi_775 : decode cX12_init 775 = .ok (.putfield 294, 3) := by decide +kernel
set_option maxRecDepth 100000 in
theorem dmi_778 : decode cX12_init 778 = .ok (.aload_n 0, 1) := by decide +kernel
set_option maxRecDepth 100000 in
theorem dmi_779 : decode cX12_init 779 = .ok (.ldc_w 297, 3) := by decide +kernel
set_option maxRecDepth 100000 in
theorem dmi_782 : decode cX12_init 782 = .ok (.newarray .int, 2) := by decide +kernel
set_option maxRecDepth 100000 in
theorem dmi_784 : decode cX12_init 784 = .ok (.putfield 298, 3) := by decide +kernel
set_option maxRecDepth 100000 in
theorem dmi_787 : decode cX12_init 787 = .ok (.aload_n 0, 1) := by decide +kernel
set_option maxRecDepth 100000 in
theorem dmi_788 : decode cX12_init 788 = .ok (.sipush 3001, 3) := by decide +kernel
set_option maxRecDepth 100000 in
theorem dmi_791 : decode cX12_init 791 = .ok (.newarray .int, 2) := by decide +kernel
set_option maxRecDepth 100000 in
theorem dmi_793 : decode cX12_init 793 = .ok (.putfield 301, 3) := by decide +kernel
set_option maxRecDepth 100000 in
theorem dmi_796 : decode cX12_init 796 = .ok (.aload_n 0, 1) := by decide +kernel
set_option maxRecDepth 100000 in
theorem dmi_797 : decode cX12_init 797 = .ok (.sipush 4096, 3) := by decide +kernel
set_option maxRecDepth 100000 in
theorem dmi_800 : decode cX12_init 800 = .ok (.newarray .int, 2) := by decide +kernel
set_option maxRecDepth 100000 in
theorem dmi_802 : decode cX12_init 802 = .ok (.putfield 304, 3) := by decide +kernel
set_option maxRecDepth 100000 in
theorem dmi_805 : decode cX12_init 805 = .ok (.aload_n 0, 1) := by decide +kernel
set_option maxRecDepth 100000 in
theorem dmi_806 : decode cX12_init 806 = .ok (.sipush 240, 3) := by decide +kernel
set_option maxRecDepth 100000 in
theorem dmi_809 : decode cX12_init 809 = .ok (.newarray .int, 2) := by decide +kernel
set_option maxRecDepth 100000 in
theorem dmi_811 : decode cX12_init 811 = .ok (.putfield 307, 3) := by decide +kernel
set_option maxRecDepth 100000 in
theorem dmi_814 : decode cX12_init 814 = .ok (.aload_n 0, 1) := by decide +kernel
set_option maxRecDepth 100000 in
theorem dmi_815 : decode cX12_init 815 = .ok (.sipush 400, 3) := by decide +kernel
set_option maxRecDepth 100000 in
theorem dmi_818 : decode cX12_init 818 = .ok (.newarray .int, 2) := by decide +kernel
set_option maxRecDepth 100000 in
theorem dmi_820 : decode cX12_init 820 = .ok (.putfield 310, 3) := by decide +kernel
set_option maxRecDepth 100000 in
theorem dmi_823 : decode cX12_init 823 = .ok (.aload_n 0, 1) := by decide +kernel
set_option maxRecDepth 100000 in
theorem dmi_824 : decode cX12_init 824 = .ok (.bipush 6, 2) := by decide +kernel
set_option maxRecDepth 100000 in
theorem dmi_826 : decode cX12_init 826 = .ok (.newarray .int, 2) := by decide +kernel
set_option maxRecDepth 100000 in
theorem dmi_828 : decode cX12_init 828 = .ok (.putfield 313, 3) := by decide +kernel
set_option maxRecDepth 100000 in
theorem dmi_831 : decode cX12_init 831 = .ok (.return_, 1) := by decide +kernel
end
section
/-! the model is made -/
def zq0 : gd := (fun _ _ => 0, fun _ _ => 0)
def z1 : gd := si (si zq0 0 11 (-1)) 0 12 (-1)
def z2 : gd := si zq0 0 11 (-1)
theorem zn_zq0 {c : Nat} : znew zq0 c = zq0 := by
  unfold znew zq0
  refine Prod.ext ?_ ?_
  · funext c'; show (if c' = c then fun _ => (0 : Int32) else fun _ => 0) = fun _ => 0; split <;> rfl
  · funext c'; show (if c' = c then fun _ => (0 : Int64) else fun _ => 0) = fun _ => 0; split <;> rfl
theorem zn_z1 {c : Nat} : znew z1 (c + 1) = z1 := by
  refine Prod.ext ?_ ?_
  · funext c' k
    show (znew z1 (c + 1)).1 c' k = z1.1 c' k
    rw [zn_get]
    by_cases e : c' = c + 1
    · rw [if_pos e]
      unfold z1
      rw [si_get, if_neg (by omega), si_get, if_neg (by omega)]; rfl
    · rw [if_neg e]
  · funext c'
    show (if c' = c + 1 then fun _ => (0 : Int64) else fun _ => 0) = fun _ => 0
    split <;> rfl
/-- the model's shape while its arrays come: the slots that hold one (the last first) -/
def mSv (ds : List Nat) (ce sl : Nat) : gf := (fun c k => if c = 0 ∧ k ∈ ds then some (k + 1) else none, 0 :: ds.reverse.map (· + 1), ce, sl)
theorem mS_0 {ds : List Nat} {ce sl : Nat} : 0 ∈ (mSv ds ce sl).2.1 := List.mem_cons_self
theorem mS_n {ds : List Nat} {ce sl k : Nat} (h : k ∉ ds) : k + 1 ∉ (mSv ds ce sl).2.1 ∧ NR (mSv ds ce sl) (k + 1) := by
  constructor
  · intro hm
    rcases List.mem_cons.mp hm with e | hm
    · omega
    · obtain ⟨k', hk', e⟩ := List.mem_map.mp hm
      have e : k' + 1 = k + 1 := e
      have e : k' = k := by omega
      exact h (e ▸ List.mem_reverse.mp hk')
  · intro c' hc' j hj
    have hj : (if c' = 0 ∧ j ∈ ds then some (j + 1) else none) = some (k + 1) := hj
    by_cases e : c' = 0 ∧ j ∈ ds
    · rw [if_pos e] at hj
      have : j + 1 = k + 1 := Option.some.inj hj
      have : j = k := by omega
      exact h (this ▸ e.2)
    · rw [if_neg e] at hj; cases hj
theorem mS_s {ds : List Nat} {ce sl k n : Nat} : frf (fnew (mSv ds ce sl) (k + 1) n) 0 k (some (k + 1)) = mSv (k :: ds) (ce + 1) (sl + n) := by
  refine Prod.ext ?_ (Prod.ext ?_ rfl)
  · funext c j
    show (if c = 0 ∧ j = k then some (k + 1) else if c = k + 1 then none else (if c = 0 ∧ j ∈ ds then some (j + 1) else none)) = (if c = 0 ∧ j ∈ k :: ds then some (j + 1) else none)
    by_cases e0 : c = 0
    · by_cases ej : j = k
      · rw [if_pos ⟨e0, ej⟩, if_pos ⟨e0, by rw [ej]; exact List.mem_cons_self⟩, ej]
      · rw [if_neg (fun z => ej z.2), if_neg (by omega)]
        by_cases em : j ∈ ds
        · rw [if_pos ⟨e0, em⟩, if_pos ⟨e0, List.mem_cons_of_mem _ em⟩]
        · rw [if_neg (fun z => em z.2), if_neg (fun z => by
            rcases List.mem_cons.mp z.2 with h | h
            · exact ej h
            · exact em h)]
    · rw [if_neg (fun z => e0 z.1), if_neg (fun z : c = 0 ∧ j ∈ k :: ds => e0 z.1)]
      split
      · rfl
      · rw [if_neg (fun z => e0 z.1)]
  · show (0 :: ds.reverse.map (· + 1)) ++ [k + 1] = 0 :: (k :: ds).reverse.map (· + 1)
    rw [List.reverse_cons, List.map_append]; rfl
section GMS
variable {E : gE} {d : Nat} {y : gy} {pc : Nat} {lv : List (Nat × gv)} {st : List gv} {x : gd} {f : gf} {Q : gr → gd → gf → Prop}
/-- as T_newI, longer ones too -/
theorem T_newB (c : Nat) {atype : ArrayType} {ty : FieldType} {n : Nat} {v : Int32} (hd : decode y.2.1 pc = .ok (.newarray atype, 2)) (hty : newarray.typeOf atype = ty) (ht : ty = .int ∨ ty = .byte ∨ ty = .boolean) (hw : Cond.arrayClass ty ∈ W0) (hK : E.2.2.2.1 c = .inr (ty, n)) (hv : ¬ v < 0) (hN : v.toNatClampNeg = n) (hb : n ≤ 1000000) (hc : c ∉ f.2.1) (h9 : c < 900 ∨ 905 ≤ c) (hr : NR f c) (hok : gok f.2.1 lv st = true)
    (k9 : T E d y (pc + 2) lv (vr c :: st) (znew x c) (fnew f c n) Q) : T E d y pc lv (vi v :: st) x f Q := by
  refine T_stepN hc h9 hok (fun p e R s m args below meth c0 A H locs cells slots ls ad Q9 C hP hS hl h1 h2 kk => ?_) k9
  have hb2 : n * componentBytes ty ≤ 536870912 := by
    have : componentBytes ty ≤ 8 := by rcases ht with rfl | rfl | rfl <;> decide
    have := Nat.mul_le_mul hb this
    omega
  have ha : ∀ cA : ClassId, vp_cell cA (n, .inl (fun _ => 0)) = arrV cA n (fun _ => defaultValue ty) := by rcases ht with rfl | rfl | rfl <;> intro cA <;> rfl
  have h0 : ∃ t0 : Nat, (gtys E)[t0]? = some (E.2.2.1 ty, ty) := by
    rcases ht with rfl | rfl | rfl
    · exact ⟨0, rfl⟩
    · exact ⟨1, rfl⟩
    · exact ⟨2, rfl⟩
  obtain ⟨t0, h0⟩ := h0
  refine va_newa (a0 := (n, .inl (fun _ => 0))) C.1.1 C.1.2.1 (C.1.2.2.2.2 _ (hty ▸ hw)) hty C.2.2.2.1.1 hP.1.1 hP.1.2 hS C.2.2.2.2 ha hv hN hb2 h1 h2 hd (fun q cA H1 hK1 hP1 hD1 hS1 => ?_)
  have hcA := cA_eq C.2.2.2.1.1 hK1 h0
  have e9 : gce E (znew x c) (fnew f c n) (anew ad c q) c = .inl (cA, n, .inl (fun _ => 0)) := by
    rw [gce_arr hK, hcA]
    have zz1 : (znew x c).1 c = fun _ => 0 := if_pos rfl
    rcases ht with rfl | rfl | rfl <;> (show Sum.inl (_, _, Sum.inl ((znew x c).1 c)) = _; rw [zz1])
  refine kk q H1 ⟨⟨?_, ?_⟩, gad_new h9 hP.2⟩ hS1
  · rw [gwl_new hc hr, e9]; exact hP1
  · rw [gwl_new hc hr, e9]; exact hD1
theorem T_newL (c : Nat) {n : Nat} {v : Int32} (hd : decode y.2.1 pc = .ok (.newarray .long, 2)) (hw : Cond.arrayClass .long ∈ W0) (hK : E.2.2.2.1 c = .inr (.long, n)) (hv : ¬ v < 0) (hN : v.toNatClampNeg = n) (hb : n ≤ 1000000) (hc : c ∉ f.2.1) (h9 : c < 900 ∨ 905 ≤ c) (hr : NR f c) (hok : gok f.2.1 lv st = true)
    (k9 : T E d y (pc + 2) lv (vr c :: st) (znew x c) (fnew f c n) Q) : T E d y pc lv (vi v :: st) x f Q := by
  refine T_stepN hc h9 hok (fun p e R s m args below meth c0 A H locs cells slots ls ad Q9 C hP hS hl h1 h2 kk => ?_) k9
  have hb2 : n * componentBytes .long ≤ 536870912 := by
    have : componentBytes .long ≤ 8 := by decide
    have := Nat.mul_le_mul hb this
    omega
  refine va_newa (atype := .long) (ty := .long) (a0 := (n, .inr (.inl (fun _ => 0)))) C.1.1 C.1.2.1 (C.1.2.2.2.2 _ (show Cond.arrayClass (newarray.typeOf .long) ∈ W0 from hw)) rfl C.2.2.2.1.1 hP.1.1 hP.1.2 hS C.2.2.2.2 (fun cA => rfl) hv hN hb2 h1 h2 hd (fun q cA H1 hK1 hP1 hD1 hS1 => ?_)
  have hcA := cA_eq C.2.2.2.1.1 hK1 (t0 := 3) rfl
  have e9 : gce E (znew x c) (fnew f c n) (anew ad c q) c = .inl (cA, n, .inr (.inl (fun _ => 0))) := by
    rw [gce_arr hK, hcA]
    have zz1 : (znew x c).2 c = fun _ => 0 := if_pos rfl
    show Sum.inl (_, _, Sum.inr (Sum.inl ((znew x c).2 c))) = _
    rw [zz1]
  refine kk q H1 ⟨⟨?_, ?_⟩, gad_new h9 hP.2⟩ hS1
  · rw [gwl_new hc hr, e9]; exact hP1
  · rw [gwl_new hc hr, e9]; exact hD1
end GMS
section GMT
variable {G : mG} {d : Nat} {y : gy} {pc : Nat} {x : gd} {Q : gr → gd → gf → Prop} {ds : List Nat} {ce sl : Nat}
theorem ms_I {k n idx : Nat} {atype : ArrayType} {ty : FieldType} {v : Int32} (hd : decode y.2.1 pc = .ok (.newarray atype, 2)) (hd2 : decode y.2.1 (pc + 2) = .ok (.putfield idx, 3)) (hty : newarray.typeOf atype = ty) (ht : ty = .int ∨ ty = .byte ∨ ty = .boolean) (hw : Cond.arrayClass ty ∈ W0) (hK : mK (k + 1) = .inr (ty, n)) (hv : ¬ v < 0) (hN : v.toNatClampNeg = n) (hb : n ≤ 1000000) (hk : k < 139) (hs : msl.getD k false = true) (hf : gFl y.1.cls idx 12 k (.array ty) false 139) (hn : k ∉ ds) (hz : znew x (k + 1) = x)
    (k9 : T (mE G) d y (pc + 5) [(0, vr 0)] [] x (mSv (k :: ds) (ce + 1) (sl + n)) Q) : T (mE G) d y pc [(0, vr 0)] [vi v, vr 0] x (mSv ds ce sl) Q := by
  have fr := mS_n (ce := ce) (sl := sl) hn
  have l0 : 0 ∈ (mSv ds ce sl).2.1 := mS_0
  refine T_newB (k + 1) hd hty ht hw hK hv hN hb fr.1 (by omega) fr.2 (gok_i (av_c (gkr l0) av_n) (as_c (gkr l0) as_n)) ?_
  rw [hz]
  refine T_putR 0 k (k + 1) hd2 hf mk_0 (List.mem_append_left _ l0) (by show k < 139; exact hk) hs (fun a => ⟨rfl, rfl⟩) ?_
  rw [mS_s]; exact k9
theorem ms_L {k n idx : Nat} {v : Int32} (hd : decode y.2.1 pc = .ok (.newarray .long, 2)) (hd2 : decode y.2.1 (pc + 2) = .ok (.putfield idx, 3)) (hw : Cond.arrayClass .long ∈ W0) (hK : mK (k + 1) = .inr (.long, n)) (hv : ¬ v < 0) (hN : v.toNatClampNeg = n) (hb : n ≤ 1000000) (hk : k < 139) (hs : msl.getD k false = true) (hf : gFl y.1.cls idx 12 k (.array .long) false 139) (hn : k ∉ ds) (hz : znew x (k + 1) = x)
    (k9 : T (mE G) d y (pc + 5) [(0, vr 0)] [] x (mSv (k :: ds) (ce + 1) (sl + n)) Q) : T (mE G) d y pc [(0, vr 0)] [vi v, vr 0] x (mSv ds ce sl) Q := by
  have fr := mS_n (ce := ce) (sl := sl) hn
  have l0 : 0 ∈ (mSv ds ce sl).2.1 := mS_0
  refine T_newL (k + 1) hd hw hK hv hN hb fr.1 (by omega) fr.2 (gok_i (av_c (gkr l0) av_n) (as_c (gkr l0) as_n)) ?_
  rw [hz]
  refine T_putR 0 k (k + 1) hd2 hf mk_0 (List.mem_append_left _ l0) (by show k < 139; exact hk) hs (fun a => ⟨rfl, rfl⟩) ?_
  rw [mS_s]; exact k9
end GMT
abbrev z_init : gy := (yX12_init, cX12_init, 1, none, [])
set_option maxRecDepth 100000 in
set_option maxHeartbeats 4000000 in
theorem mi_3 {G : mG} {d : Nat} {Q : gr → gd → gf → Prop} {ce sl : Nat} (h : Q (.inl none) z1 (mSv [138, 137, 135, 134, 133, 132, 131, 130, 129, 128, 127, 126, 125, 124, 123, 122, 121, 120, 119, 118, 117, 115, 114, 113, 112, 111, 110, 109, 108, 106, 105, 104, 103, 102, 101, 100, 99, 98, 97, 95, 87, 86, 85, 83, 81, 80, 79, 78, 77, 76, 75, 74, 73, 72, 71, 70, 69, 65, 64, 63, 62, 61, 60, 59, 58, 57, 56, 55, 54, 53, 51, 50, 46, 45, 44, 40, 39, 38, 37, 36, 35, 34, 33, 32, 31, 30, 29, 19, 18, 17, 16, 15, 14, 7, 6, 5, 4, 1] (ce + 23) (sl + 890413))) : T (mE G) (d + 1) z_init 645 [(0, vr 0)] [] z1 (mSv [113, 112, 111, 110, 109, 108, 106, 105, 104, 103, 102, 101, 100, 99, 98, 97, 95, 87, 86, 85, 83, 81, 80, 79, 78, 77, 76, 75, 74, 73, 72, 71, 70, 69, 65, 64, 63, 62, 61, 60, 59, 58, 57, 56, 55, 54, 53, 51, 50, 46, 45, 44, 40, 39, 38, 37, 36, 35, 34, 33, 32, 31, 30, 29, 19, 18, 17, 16, 15, 14, 7, 6, 5, 4, 1] ce sl) Q := by
  refine T_aload_n 0 dmi_645 rfl rfl ?_
  refine T_bipush (v := 14) dmi_646 (by decide +kernel) ?_
  refine ms_I (k := 114) (n := 14) dmi_648 dmi_650 rfl (Or.inl rfl) (W0_in (tp_1 (List.mem_of_getElem? (i := 82) (by decide +kernel))) rfl) rfl (by decide) (by decide) (by decide) (by decide) rfl fl_245 (by decide) zn_z1 ?_
  refine T_aload_n 0 dmi_653 rfl rfl ?_
  refine T_bipush (v := 14) dmi_654 (by decide +kernel) ?_
  refine ms_I (k := 115) (n := 14) dmi_656 dmi_658 rfl (Or.inl rfl) (W0_in (tp_1 (List.mem_of_getElem? (i := 82) (by decide +kernel))) rfl) rfl (by decide) (by decide) (by decide) (by decide) rfl fl_248 (by decide) zn_z1 ?_
  refine T_aload_n 0 dmi_661 rfl rfl ?_
  refine T_bipush (v := 6) dmi_662 (by decide +kernel) ?_
  refine ms_I (k := 117) (n := 6) dmi_664 dmi_666 rfl (Or.inl rfl) (W0_in (tp_1 (List.mem_of_getElem? (i := 82) (by decide +kernel))) rfl) rfl (by decide) (by decide) (by decide) (by decide) rfl fl_251 (by decide) zn_z1 ?_
  refine T_aload_n 0 dmi_669 rfl rfl ?_
  refine T_iconst (v := 2) dmi_670 (by decide +kernel) ?_
  refine ms_I (k := 118) (n := 2) dmi_671 dmi_673 rfl (Or.inr (Or.inr rfl)) (W0_in (tp_2 (List.mem_of_getElem? (i := 47) (by decide +kernel))) rfl) rfl (by decide) (by decide) (by decide) (by decide) rfl fl_254 (by decide) zn_z1 ?_
  refine T_aload_n 0 dmi_676 rfl rfl ?_
  refine T_iconst (v := 2) dmi_677 (by decide +kernel) ?_
  refine ms_I (k := 119) (n := 2) dmi_678 dmi_680 rfl (Or.inl rfl) (W0_in (tp_1 (List.mem_of_getElem? (i := 82) (by decide +kernel))) rfl) rfl (by decide) (by decide) (by decide) (by decide) rfl fl_257 (by decide) zn_z1 ?_
  refine T_aload_n 0 dmi_683 rfl rfl ?_
  refine T_iconst (v := 2) dmi_684 (by decide +kernel) ?_
  refine ms_I (k := 120) (n := 2) dmi_685 dmi_687 rfl (Or.inr (Or.inr rfl)) (W0_in (tp_2 (List.mem_of_getElem? (i := 47) (by decide +kernel))) rfl) rfl (by decide) (by decide) (by decide) (by decide) rfl fl_260 (by decide) zn_z1 ?_
  refine T_aload_n 0 dmi_690 rfl rfl ?_
  refine T_iconst (v := 2) dmi_691 (by decide +kernel) ?_
  refine ms_I (k := 121) (n := 2) dmi_692 dmi_694 rfl (Or.inl rfl) (W0_in (tp_1 (List.mem_of_getElem? (i := 82) (by decide +kernel))) rfl) rfl (by decide) (by decide) (by decide) (by decide) rfl fl_263 (by decide) zn_z1 ?_
  refine T_aload_n 0 dmi_697 rfl rfl ?_
  refine T_iconst (v := 2) dmi_698 (by decide +kernel) ?_
  refine ms_I (k := 122) (n := 2) dmi_699 dmi_701 rfl (Or.inl rfl) (W0_in (tp_1 (List.mem_of_getElem? (i := 82) (by decide +kernel))) rfl) rfl (by decide) (by decide) (by decide) (by decide) rfl fl_266 (by decide) zn_z1 ?_
  refine T_aload_n 0 dmi_704 rfl rfl ?_
  refine T_iconst (v := 2) dmi_705 (by decide +kernel) ?_
  refine ms_I (k := 123) (n := 2) dmi_706 dmi_708 rfl (Or.inl rfl) (W0_in (tp_1 (List.mem_of_getElem? (i := 82) (by decide +kernel))) rfl) rfl (by decide) (by decide) (by decide) (by decide) rfl fl_269 (by decide) zn_z1 ?_
  refine T_aload_n 0 dmi_711 rfl rfl ?_
  refine T_iconst (v := 2) dmi_712 (by decide +kernel) ?_
  refine ms_I (k := 124) (n := 2) dmi_713 dmi_715 rfl (Or.inl rfl) (W0_in (tp_1 (List.mem_of_getElem? (i := 82) (by decide +kernel))) rfl) rfl (by decide) (by decide) (by decide) (by decide) rfl fl_272 (by decide) zn_z1 ?_
  refine T_aload_n 0 dmi_718 rfl rfl ?_
  refine T_bipush (v := 22) dmi_719 (by decide +kernel) ?_
  refine ms_I (k := 125) (n := 22) dmi_721 dmi_723 rfl (Or.inl rfl) (W0_in (tp_1 (List.mem_of_getElem? (i := 82) (by decide +kernel))) rfl) rfl (by decide) (by decide) (by decide) (by decide) rfl fl_275 (by decide) zn_z1 ?_
  refine T_aload_n 0 dmi_726 rfl rfl ?_
  refine T_bipush (v := 48) dmi_727 (by decide +kernel) ?_
  refine ms_I (k := 126) (n := 48) dmi_729 dmi_731 rfl (Or.inl rfl) (W0_in (tp_1 (List.mem_of_getElem? (i := 82) (by decide +kernel))) rfl) rfl (by decide) (by decide) (by decide) (by decide) rfl fl_278 (by decide) zn_z1 ?_
  refine T_aload_n 0 dmi_734 rfl rfl ?_
  refine T_bipush (v := 72) dmi_735 (by decide +kernel) ?_
  refine ms_I (k := 127) (n := 72) dmi_737 dmi_739 rfl (Or.inr (Or.inr rfl)) (W0_in (tp_2 (List.mem_of_getElem? (i := 47) (by decide +kernel))) rfl) rfl (by decide) (by decide) (by decide) (by decide) rfl fl_281 (by decide) zn_z1 ?_
  refine T_aload_n 0 dmi_742 rfl rfl ?_
  refine T_ldcw (v := 144000) dmi_743 (W0_in (tp_8 (List.mem_of_getElem? (i := 185) (by decide +kernel))) rfl) ?_
  refine ms_I (k := 128) (n := 144000) dmi_746 dmi_748 rfl (Or.inl rfl) (W0_in (tp_1 (List.mem_of_getElem? (i := 82) (by decide +kernel))) rfl) rfl (by decide) (by decide) (by decide) (by decide) rfl fl_285 (by decide) zn_z1 ?_
  refine T_aload_n 0 dmi_751 rfl rfl ?_
  refine T_sipush (v := 6000) dmi_752 (by decide +kernel) ?_
  refine ms_I (k := 129) (n := 6000) dmi_755 dmi_757 rfl (Or.inl rfl) (W0_in (tp_1 (List.mem_of_getElem? (i := 82) (by decide +kernel))) rfl) rfl (by decide) (by decide) (by decide) (by decide) rfl fl_288 (by decide) zn_z1 ?_
  refine T_aload_n 0 dmi_760 rfl rfl ?_
  refine T_sipush (v := 6000) dmi_761 (by decide +kernel) ?_
  refine ms_I (k := 130) (n := 6000) dmi_764 dmi_766 rfl (Or.inl rfl) (W0_in (tp_1 (List.mem_of_getElem? (i := 82) (by decide +kernel))) rfl) rfl (by decide) (by decide) (by decide) (by decide) rfl fl_291 (by decide) zn_z1 ?_
  refine T_aload_n 0 dmi_769 rfl rfl ?_
  refine T_sipush (v := 6000) dmi_770 (by decide +kernel) ?_
  refine ms_I (k := 131) (n := 6000) dmi_773 dmi_775 rfl (Or.inl rfl) (W0_in (tp_1 (List.mem_of_getElem? (i := 82) (by decide +kernel))) rfl) rfl (by decide) (by decide) (by decide) (by decide) rfl fl_294 (by decide) zn_z1 ?_
  refine T_aload_n 0 dmi_778 rfl rfl ?_
  refine T_ldcw (v := 720480) dmi_779 (W0_in (tp_8 (List.mem_of_getElem? (i := 186) (by decide +kernel))) rfl) ?_
  refine ms_I (k := 132) (n := 720480) dmi_782 dmi_784 rfl (Or.inl rfl) (W0_in (tp_1 (List.mem_of_getElem? (i := 82) (by decide +kernel))) rfl) rfl (by decide) (by decide) (by decide) (by decide) rfl fl_298 (by decide) zn_z1 ?_
  refine T_aload_n 0 dmi_787 rfl rfl ?_
  refine T_sipush (v := 3001) dmi_788 (by decide +kernel) ?_
  refine ms_I (k := 133) (n := 3001) dmi_791 dmi_793 rfl (Or.inl rfl) (W0_in (tp_1 (List.mem_of_getElem? (i := 82) (by decide +kernel))) rfl) rfl (by decide) (by decide) (by decide) (by decide) rfl fl_301 (by decide) zn_z1 ?_
  refine T_aload_n 0 dmi_796 rfl rfl ?_
  refine T_sipush (v := 4096) dmi_797 (by decide +kernel) ?_
  refine ms_I (k := 134) (n := 4096) dmi_800 dmi_802 rfl (Or.inl rfl) (W0_in (tp_1 (List.mem_of_getElem? (i := 82) (by decide +kernel))) rfl) rfl (by decide) (by decide) (by decide) (by decide) rfl fl_304 (by decide) zn_z1 ?_
  refine T_aload_n 0 dmi_805 rfl rfl ?_
  refine T_sipush (v := 240) dmi_806 (by decide +kernel) ?_
  refine ms_I (k := 135) (n := 240) dmi_809 dmi_811 rfl (Or.inl rfl) (W0_in (tp_1 (List.mem_of_getElem? (i := 82) (by decide +kernel))) rfl) rfl (by decide) (by decide) (by decide) (by decide) rfl fl_307 (by decide) zn_z1 ?_
  refine T_aload_n 0 dmi_814 rfl rfl ?_
  refine T_sipush (v := 400) dmi_815 (by decide +kernel) ?_
  refine ms_I (k := 137) (n := 400) dmi_818 dmi_820 rfl (Or.inl rfl) (W0_in (tp_1 (List.mem_of_getElem? (i := 82) (by decide +kernel))) rfl) rfl (by decide) (by decide) (by decide) (by decide) rfl fl_310 (by decide) zn_z1 ?_
  refine T_aload_n 0 dmi_823 rfl rfl ?_
  refine T_bipush (v := 6) dmi_824 (by decide +kernel) ?_
  refine ms_I (k := 138) (n := 6) dmi_826 dmi_828 rfl (Or.inl rfl) (W0_in (tp_1 (List.mem_of_getElem? (i := 82) (by decide +kernel))) rfl) rfl (by decide) (by decide) (by decide) (by decide) rfl fl_313 (by decide) zn_z1 ?_
  rw [show ce + 1 + 1 + 1 + 1 + 1 + 1 + 1 + 1 + 1 + 1 + 1 + 1 + 1 + 1 + 1 + 1 + 1 + 1 + 1 + 1 + 1 + 1 + 1 = ce + 23 by omega, show sl + 14 + 14 + 6 + 2 + 2 + 2 + 2 + 2 + 2 + 2 + 22 + 48 + 72 + 144000 + 6000 + 6000 + 6000 + 720480 + 3001 + 4096 + 240 + 400 + 6 = sl + 890413 by omega]
  exact T_vret dmi_831 rfl h
set_option maxRecDepth 100000 in
set_option maxHeartbeats 4000000 in
theorem mi_2 {G : mG} {d : Nat} {Q : gr → gd → gf → Prop} {ce sl : Nat} (h : T (mE G) (d + 1) z_init 645 [(0, vr 0)] [] z1 (mSv [113, 112, 111, 110, 109, 108, 106, 105, 104, 103, 102, 101, 100, 99, 98, 97, 95, 87, 86, 85, 83, 81, 80, 79, 78, 77, 76, 75, 74, 73, 72, 71, 70, 69, 65, 64, 63, 62, 61, 60, 59, 58, 57, 56, 55, 54, 53, 51, 50, 46, 45, 44, 40, 39, 38, 37, 36, 35, 34, 33, 32, 31, 30, 29, 19, 18, 17, 16, 15, 14, 7, 6, 5, 4, 1] (ce + 25) (sl + 6888)) Q) : T (mE G) (d + 1) z_init 433 [(0, vr 0)] [] z1 (mSv [77, 76, 75, 74, 73, 72, 71, 70, 69, 65, 64, 63, 62, 61, 60, 59, 58, 57, 56, 55, 54, 53, 51, 50, 46, 45, 44, 40, 39, 38, 37, 36, 35, 34, 33, 32, 31, 30, 29, 19, 18, 17, 16, 15, 14, 7, 6, 5, 4, 1] ce sl) Q := by
  refine T_aload_n 0 dmi_433 rfl rfl ?_
  refine T_bipush (v := 6) dmi_434 (by decide +kernel) ?_
  refine ms_I (k := 78) (n := 6) dmi_436 dmi_438 rfl (Or.inl rfl) (W0_in (tp_1 (List.mem_of_getElem? (i := 82) (by decide +kernel))) rfl) rfl (by decide) (by decide) (by decide) (by decide) rfl fl_169 (by decide) zn_z1 ?_
  refine T_aload_n 0 dmi_441 rfl rfl ?_
  refine T_bipush (v := 6) dmi_442 (by decide +kernel) ?_
  refine ms_I (k := 79) (n := 6) dmi_444 dmi_446 rfl (Or.inl rfl) (W0_in (tp_1 (List.mem_of_getElem? (i := 82) (by decide +kernel))) rfl) rfl (by decide) (by decide) (by decide) (by decide) rfl fl_172 (by decide) zn_z1 ?_
  refine T_aload_n 0 dmi_449 rfl rfl ?_
  refine T_bipush (v := 60) dmi_450 (by decide +kernel) ?_
  refine ms_I (k := 80) (n := 60) dmi_452 dmi_454 rfl (Or.inl rfl) (W0_in (tp_1 (List.mem_of_getElem? (i := 82) (by decide +kernel))) rfl) rfl (by decide) (by decide) (by decide) (by decide) rfl fl_175 (by decide) zn_z1 ?_
  refine T_aload_n 0 dmi_457 rfl rfl ?_
  refine T_bipush (v := 60) dmi_458 (by decide +kernel) ?_
  refine ms_I (k := 81) (n := 60) dmi_460 dmi_462 rfl (Or.inl rfl) (W0_in (tp_1 (List.mem_of_getElem? (i := 82) (by decide +kernel))) rfl) rfl (by decide) (by decide) (by decide) (by decide) rfl fl_178 (by decide) zn_z1 ?_
  refine T_aload_n 0 dmi_465 rfl rfl ?_
  refine T_bipush (v := 60) dmi_466 (by decide +kernel) ?_
  refine ms_I (k := 83) (n := 60) dmi_468 dmi_470 rfl (Or.inl rfl) (W0_in (tp_1 (List.mem_of_getElem? (i := 82) (by decide +kernel))) rfl) rfl (by decide) (by decide) (by decide) (by decide) rfl fl_181 (by decide) zn_z1 ?_
  refine T_aload_n 0 dmi_473 rfl rfl ?_
  refine T_sipush (v := 200) dmi_474 (by decide +kernel) ?_
  refine ms_I (k := 85) (n := 200) dmi_477 dmi_479 rfl (Or.inl rfl) (W0_in (tp_1 (List.mem_of_getElem? (i := 82) (by decide +kernel))) rfl) rfl (by decide) (by decide) (by decide) (by decide) rfl fl_184 (by decide) zn_z1 ?_
  refine T_aload_n 0 dmi_482 rfl rfl ?_
  refine T_sipush (v := 200) dmi_483 (by decide +kernel) ?_
  refine ms_I (k := 86) (n := 200) dmi_486 dmi_488 rfl (Or.inl rfl) (W0_in (tp_1 (List.mem_of_getElem? (i := 82) (by decide +kernel))) rfl) rfl (by decide) (by decide) (by decide) (by decide) rfl fl_187 (by decide) zn_z1 ?_
  refine T_aload_n 0 dmi_491 rfl rfl ?_
  refine T_sipush (v := 200) dmi_492 (by decide +kernel) ?_
  refine ms_I (k := 87) (n := 200) dmi_495 dmi_497 rfl (Or.inl rfl) (W0_in (tp_1 (List.mem_of_getElem? (i := 82) (by decide +kernel))) rfl) rfl (by decide) (by decide) (by decide) (by decide) rfl fl_190 (by decide) zn_z1 ?_
  refine T_aload_n 0 dmi_500 rfl rfl ?_
  refine T_sipush (v := 400) dmi_501 (by decide +kernel) ?_
  refine ms_I (k := 95) (n := 400) dmi_504 dmi_506 rfl (Or.inl rfl) (W0_in (tp_1 (List.mem_of_getElem? (i := 82) (by decide +kernel))) rfl) rfl (by decide) (by decide) (by decide) (by decide) rfl fl_193 (by decide) zn_z1 ?_
  refine T_aload_n 0 dmi_509 rfl rfl ?_
  refine T_sipush (v := 400) dmi_510 (by decide +kernel) ?_
  refine ms_I (k := 97) (n := 400) dmi_513 dmi_515 rfl (Or.inl rfl) (W0_in (tp_1 (List.mem_of_getElem? (i := 82) (by decide +kernel))) rfl) rfl (by decide) (by decide) (by decide) (by decide) rfl fl_196 (by decide) zn_z1 ?_
  refine T_aload_n 0 dmi_518 rfl rfl ?_
  refine T_sipush (v := 400) dmi_519 (by decide +kernel) ?_
  refine ms_I (k := 98) (n := 400) dmi_522 dmi_524 rfl (Or.inl rfl) (W0_in (tp_1 (List.mem_of_getElem? (i := 82) (by decide +kernel))) rfl) rfl (by decide) (by decide) (by decide) (by decide) rfl fl_199 (by decide) zn_z1 ?_
  refine T_aload_n 0 dmi_527 rfl rfl ?_
  refine T_sipush (v := 400) dmi_528 (by decide +kernel) ?_
  refine ms_I (k := 99) (n := 400) dmi_531 dmi_533 rfl (Or.inl rfl) (W0_in (tp_1 (List.mem_of_getElem? (i := 82) (by decide +kernel))) rfl) rfl (by decide) (by decide) (by decide) (by decide) rfl fl_202 (by decide) zn_z1 ?_
  refine T_aload_n 0 dmi_536 rfl rfl ?_
  refine T_sipush (v := 400) dmi_537 (by decide +kernel) ?_
  refine ms_I (k := 100) (n := 400) dmi_540 dmi_542 rfl (Or.inl rfl) (W0_in (tp_1 (List.mem_of_getElem? (i := 82) (by decide +kernel))) rfl) rfl (by decide) (by decide) (by decide) (by decide) rfl fl_205 (by decide) zn_z1 ?_
  refine T_aload_n 0 dmi_545 rfl rfl ?_
  refine T_sipush (v := 400) dmi_546 (by decide +kernel) ?_
  refine ms_I (k := 101) (n := 400) dmi_549 dmi_551 rfl (Or.inl rfl) (W0_in (tp_1 (List.mem_of_getElem? (i := 82) (by decide +kernel))) rfl) rfl (by decide) (by decide) (by decide) (by decide) rfl fl_208 (by decide) zn_z1 ?_
  refine T_aload_n 0 dmi_554 rfl rfl ?_
  refine T_sipush (v := 400) dmi_555 (by decide +kernel) ?_
  refine ms_I (k := 102) (n := 400) dmi_558 dmi_560 rfl (Or.inr (Or.inr rfl)) (W0_in (tp_2 (List.mem_of_getElem? (i := 47) (by decide +kernel))) rfl) rfl (by decide) (by decide) (by decide) (by decide) rfl fl_211 (by decide) zn_z1 ?_
  refine T_aload_n 0 dmi_563 rfl rfl ?_
  refine T_sipush (v := 400) dmi_564 (by decide +kernel) ?_
  refine ms_I (k := 103) (n := 400) dmi_567 dmi_569 rfl (Or.inl rfl) (W0_in (tp_1 (List.mem_of_getElem? (i := 82) (by decide +kernel))) rfl) rfl (by decide) (by decide) (by decide) (by decide) rfl fl_214 (by decide) zn_z1 ?_
  refine T_aload_n 0 dmi_572 rfl rfl ?_
  refine T_sipush (v := 2800) dmi_573 (by decide +kernel) ?_
  refine ms_L (k := 104) (n := 2800) dmi_576 dmi_578 (W0_in (tp_10 (List.mem_of_getElem? (i := 124) (by decide +kernel))) rfl) rfl (by decide) (by decide) (by decide) (by decide) rfl fl_217 (by decide) zn_z1 ?_
  refine T_aload_n 0 dmi_581 rfl rfl ?_
  refine T_bipush (v := 6) dmi_582 (by decide +kernel) ?_
  refine ms_I (k := 105) (n := 6) dmi_584 dmi_586 rfl (Or.inl rfl) (W0_in (tp_1 (List.mem_of_getElem? (i := 82) (by decide +kernel))) rfl) rfl (by decide) (by decide) (by decide) (by decide) rfl fl_221 (by decide) zn_z1 ?_
  refine T_aload_n 0 dmi_589 rfl rfl ?_
  refine T_bipush (v := 6) dmi_590 (by decide +kernel) ?_
  refine ms_I (k := 106) (n := 6) dmi_592 dmi_594 rfl (Or.inl rfl) (W0_in (tp_1 (List.mem_of_getElem? (i := 82) (by decide +kernel))) rfl) rfl (by decide) (by decide) (by decide) (by decide) rfl fl_224 (by decide) zn_z1 ?_
  refine T_aload_n 0 dmi_597 rfl rfl ?_
  refine T_bipush (v := 14) dmi_598 (by decide +kernel) ?_
  refine ms_I (k := 108) (n := 14) dmi_600 dmi_602 rfl (Or.inl rfl) (W0_in (tp_1 (List.mem_of_getElem? (i := 82) (by decide +kernel))) rfl) rfl (by decide) (by decide) (by decide) (by decide) rfl fl_227 (by decide) zn_z1 ?_
  refine T_aload_n 0 dmi_605 rfl rfl ?_
  refine T_bipush (v := 14) dmi_606 (by decide +kernel) ?_
  refine ms_I (k := 109) (n := 14) dmi_608 dmi_610 rfl (Or.inl rfl) (W0_in (tp_1 (List.mem_of_getElem? (i := 82) (by decide +kernel))) rfl) rfl (by decide) (by decide) (by decide) (by decide) rfl fl_230 (by decide) zn_z1 ?_
  refine T_aload_n 0 dmi_613 rfl rfl ?_
  refine T_bipush (v := 14) dmi_614 (by decide +kernel) ?_
  refine ms_I (k := 110) (n := 14) dmi_616 dmi_618 rfl (Or.inl rfl) (W0_in (tp_1 (List.mem_of_getElem? (i := 82) (by decide +kernel))) rfl) rfl (by decide) (by decide) (by decide) (by decide) rfl fl_233 (by decide) zn_z1 ?_
  refine T_aload_n 0 dmi_621 rfl rfl ?_
  refine T_bipush (v := 14) dmi_622 (by decide +kernel) ?_
  refine ms_I (k := 111) (n := 14) dmi_624 dmi_626 rfl (Or.inl rfl) (W0_in (tp_1 (List.mem_of_getElem? (i := 82) (by decide +kernel))) rfl) rfl (by decide) (by decide) (by decide) (by decide) rfl fl_236 (by decide) zn_z1 ?_
  refine T_aload_n 0 dmi_629 rfl rfl ?_
  refine T_bipush (v := 14) dmi_630 (by decide +kernel) ?_
  refine ms_I (k := 112) (n := 14) dmi_632 dmi_634 rfl (Or.inl rfl) (W0_in (tp_1 (List.mem_of_getElem? (i := 82) (by decide +kernel))) rfl) rfl (by decide) (by decide) (by decide) (by decide) rfl fl_239 (by decide) zn_z1 ?_
  refine T_aload_n 0 dmi_637 rfl rfl ?_
  refine T_bipush (v := 14) dmi_638 (by decide +kernel) ?_
  refine ms_I (k := 113) (n := 14) dmi_640 dmi_642 rfl (Or.inl rfl) (W0_in (tp_1 (List.mem_of_getElem? (i := 82) (by decide +kernel))) rfl) rfl (by decide) (by decide) (by decide) (by decide) rfl fl_242 (by decide) zn_z1 ?_
  rw [show ce + 1 + 1 + 1 + 1 + 1 + 1 + 1 + 1 + 1 + 1 + 1 + 1 + 1 + 1 + 1 + 1 + 1 + 1 + 1 + 1 + 1 + 1 + 1 + 1 + 1 = ce + 25 by omega, show sl + 6 + 6 + 60 + 60 + 60 + 200 + 200 + 200 + 400 + 400 + 400 + 400 + 400 + 400 + 400 + 400 + 2800 + 6 + 6 + 14 + 14 + 14 + 14 + 14 + 14 = sl + 6888 by omega]
  exact h
set_option maxRecDepth 100000 in
set_option maxHeartbeats 4000000 in
theorem mi_1 {G : mG} {d : Nat} {Q : gr → gd → gf → Prop} {ce sl : Nat} (h : T (mE G) (d + 1) z_init 433 [(0, vr 0)] [] z1 (mSv [77, 76, 75, 74, 73, 72, 71, 70, 69, 65, 64, 63, 62, 61, 60, 59, 58, 57, 56, 55, 54, 53, 51, 50, 46, 45, 44, 40, 39, 38, 37, 36, 35, 34, 33, 32, 31, 30, 29, 19, 18, 17, 16, 15, 14, 7, 6, 5, 4, 1] (ce + 25) (sl + 27168)) Q) : T (mE G) (d + 1) z_init 223 [(0, vr 0)] [] z1 (mSv [45, 44, 40, 39, 38, 37, 36, 35, 34, 33, 32, 31, 30, 29, 19, 18, 17, 16, 15, 14, 7, 6, 5, 4, 1] ce sl) Q := by
  refine T_aload_n 0 dmi_223 rfl rfl ?_
  refine T_bipush (v := 40) dmi_224 (by decide +kernel) ?_
  refine ms_I (k := 46) (n := 40) dmi_226 dmi_228 rfl (Or.inl rfl) (W0_in (tp_1 (List.mem_of_getElem? (i := 82) (by decide +kernel))) rfl) rfl (by decide) (by decide) (by decide) (by decide) rfl fl_94 (by decide) zn_z1 ?_
  refine T_aload_n 0 dmi_231 rfl rfl ?_
  refine T_sipush (v := 6000) dmi_232 (by decide +kernel) ?_
  refine ms_I (k := 50) (n := 6000) dmi_235 dmi_237 rfl (Or.inl rfl) (W0_in (tp_1 (List.mem_of_getElem? (i := 82) (by decide +kernel))) rfl) rfl (by decide) (by decide) (by decide) (by decide) rfl fl_97 (by decide) zn_z1 ?_
  refine T_aload_n 0 dmi_240 rfl rfl ?_
  refine T_sipush (v := 6000) dmi_241 (by decide +kernel) ?_
  refine ms_I (k := 51) (n := 6000) dmi_244 dmi_246 rfl (Or.inl rfl) (W0_in (tp_1 (List.mem_of_getElem? (i := 82) (by decide +kernel))) rfl) rfl (by decide) (by decide) (by decide) (by decide) rfl fl_100 (by decide) zn_z1 ?_
  refine T_aload_n 0 dmi_249 rfl rfl ?_
  refine T_sipush (v := 1500) dmi_250 (by decide +kernel) ?_
  refine ms_I (k := 53) (n := 1500) dmi_253 dmi_255 rfl (Or.inl rfl) (W0_in (tp_1 (List.mem_of_getElem? (i := 82) (by decide +kernel))) rfl) rfl (by decide) (by decide) (by decide) (by decide) rfl fl_103 (by decide) zn_z1 ?_
  refine T_aload_n 0 dmi_258 rfl rfl ?_
  refine T_sipush (v := 1500) dmi_259 (by decide +kernel) ?_
  refine ms_I (k := 54) (n := 1500) dmi_262 dmi_264 rfl (Or.inl rfl) (W0_in (tp_1 (List.mem_of_getElem? (i := 82) (by decide +kernel))) rfl) rfl (by decide) (by decide) (by decide) (by decide) rfl fl_106 (by decide) zn_z1 ?_
  refine T_aload_n 0 dmi_267 rfl rfl ?_
  refine T_sipush (v := 1500) dmi_268 (by decide +kernel) ?_
  refine ms_I (k := 55) (n := 1500) dmi_271 dmi_273 rfl (Or.inl rfl) (W0_in (tp_1 (List.mem_of_getElem? (i := 82) (by decide +kernel))) rfl) rfl (by decide) (by decide) (by decide) (by decide) rfl fl_109 (by decide) zn_z1 ?_
  refine T_aload_n 0 dmi_276 rfl rfl ?_
  refine T_sipush (v := 1500) dmi_277 (by decide +kernel) ?_
  refine ms_I (k := 56) (n := 1500) dmi_280 dmi_282 rfl (Or.inl rfl) (W0_in (tp_1 (List.mem_of_getElem? (i := 82) (by decide +kernel))) rfl) rfl (by decide) (by decide) (by decide) (by decide) rfl fl_112 (by decide) zn_z1 ?_
  refine T_aload_n 0 dmi_285 rfl rfl ?_
  refine T_sipush (v := 1500) dmi_286 (by decide +kernel) ?_
  refine ms_I (k := 57) (n := 1500) dmi_289 dmi_291 rfl (Or.inl rfl) (W0_in (tp_1 (List.mem_of_getElem? (i := 82) (by decide +kernel))) rfl) rfl (by decide) (by decide) (by decide) (by decide) rfl fl_115 (by decide) zn_z1 ?_
  refine T_aload_n 0 dmi_294 rfl rfl ?_
  refine T_sipush (v := 1500) dmi_295 (by decide +kernel) ?_
  refine ms_I (k := 58) (n := 1500) dmi_298 dmi_300 rfl (Or.inl rfl) (W0_in (tp_1 (List.mem_of_getElem? (i := 82) (by decide +kernel))) rfl) rfl (by decide) (by decide) (by decide) (by decide) rfl fl_118 (by decide) zn_z1 ?_
  refine T_aload_n 0 dmi_303 rfl rfl ?_
  refine T_sipush (v := 1500) dmi_304 (by decide +kernel) ?_
  refine ms_I (k := 59) (n := 1500) dmi_307 dmi_309 rfl (Or.inl rfl) (W0_in (tp_1 (List.mem_of_getElem? (i := 82) (by decide +kernel))) rfl) rfl (by decide) (by decide) (by decide) (by decide) rfl fl_121 (by decide) zn_z1 ?_
  refine T_aload_n 0 dmi_312 rfl rfl ?_
  refine T_sipush (v := 1500) dmi_313 (by decide +kernel) ?_
  refine ms_I (k := 60) (n := 1500) dmi_316 dmi_318 rfl (Or.inl rfl) (W0_in (tp_1 (List.mem_of_getElem? (i := 82) (by decide +kernel))) rfl) rfl (by decide) (by decide) (by decide) (by decide) rfl fl_124 (by decide) zn_z1 ?_
  refine T_aload_n 0 dmi_321 rfl rfl ?_
  refine T_sipush (v := 1500) dmi_322 (by decide +kernel) ?_
  refine ms_I (k := 61) (n := 1500) dmi_325 dmi_327 rfl (Or.inl rfl) (W0_in (tp_1 (List.mem_of_getElem? (i := 82) (by decide +kernel))) rfl) rfl (by decide) (by decide) (by decide) (by decide) rfl fl_127 (by decide) zn_z1 ?_
  refine T_aload_n 0 dmi_330 rfl rfl ?_
  refine T_sipush (v := 1500) dmi_331 (by decide +kernel) ?_
  refine ms_I (k := 62) (n := 1500) dmi_334 dmi_336 rfl (Or.inl rfl) (W0_in (tp_1 (List.mem_of_getElem? (i := 82) (by decide +kernel))) rfl) rfl (by decide) (by decide) (by decide) (by decide) rfl fl_130 (by decide) zn_z1 ?_
  refine T_aload_n 0 dmi_339 rfl rfl ?_
  refine T_bipush (v := 6) dmi_340 (by decide +kernel) ?_
  refine ms_I (k := 63) (n := 6) dmi_342 dmi_344 rfl (Or.inl rfl) (W0_in (tp_1 (List.mem_of_getElem? (i := 82) (by decide +kernel))) rfl) rfl (by decide) (by decide) (by decide) (by decide) rfl fl_133 (by decide) zn_z1 ?_
  refine T_aload_n 0 dmi_347 rfl rfl ?_
  refine T_iconst (v := 4) dmi_348 (by decide +kernel) ?_
  refine ms_I (k := 64) (n := 4) dmi_349 dmi_351 rfl (Or.inl rfl) (W0_in (tp_1 (List.mem_of_getElem? (i := 82) (by decide +kernel))) rfl) rfl (by decide) (by decide) (by decide) (by decide) rfl fl_136 (by decide) zn_z1 ?_
  refine T_aload_n 0 dmi_354 rfl rfl ?_
  refine T_iconst (v := 4) dmi_355 (by decide +kernel) ?_
  refine ms_I (k := 65) (n := 4) dmi_356 dmi_358 rfl (Or.inl rfl) (W0_in (tp_1 (List.mem_of_getElem? (i := 82) (by decide +kernel))) rfl) rfl (by decide) (by decide) (by decide) (by decide) rfl fl_139 (by decide) zn_z1 ?_
  refine T_aload_n 0 dmi_361 rfl rfl ?_
  refine T_bipush (v := 24) dmi_362 (by decide +kernel) ?_
  refine ms_I (k := 69) (n := 24) dmi_364 dmi_366 rfl (Or.inl rfl) (W0_in (tp_1 (List.mem_of_getElem? (i := 82) (by decide +kernel))) rfl) rfl (by decide) (by decide) (by decide) (by decide) rfl fl_142 (by decide) zn_z1 ?_
  refine T_aload_n 0 dmi_369 rfl rfl ?_
  refine T_bipush (v := 6) dmi_370 (by decide +kernel) ?_
  refine ms_I (k := 70) (n := 6) dmi_372 dmi_374 rfl (Or.inl rfl) (W0_in (tp_1 (List.mem_of_getElem? (i := 82) (by decide +kernel))) rfl) rfl (by decide) (by decide) (by decide) (by decide) rfl fl_145 (by decide) zn_z1 ?_
  refine T_aload_n 0 dmi_377 rfl rfl ?_
  refine T_bipush (v := 6) dmi_378 (by decide +kernel) ?_
  refine ms_I (k := 71) (n := 6) dmi_380 dmi_382 rfl (Or.inl rfl) (W0_in (tp_1 (List.mem_of_getElem? (i := 82) (by decide +kernel))) rfl) rfl (by decide) (by decide) (by decide) (by decide) rfl fl_148 (by decide) zn_z1 ?_
  refine T_aload_n 0 dmi_385 rfl rfl ?_
  refine T_bipush (v := 6) dmi_386 (by decide +kernel) ?_
  refine ms_I (k := 72) (n := 6) dmi_388 dmi_390 rfl (Or.inl rfl) (W0_in (tp_1 (List.mem_of_getElem? (i := 82) (by decide +kernel))) rfl) rfl (by decide) (by decide) (by decide) (by decide) rfl fl_151 (by decide) zn_z1 ?_
  refine T_aload_n 0 dmi_393 rfl rfl ?_
  refine T_bipush (v := 6) dmi_394 (by decide +kernel) ?_
  refine ms_I (k := 73) (n := 6) dmi_396 dmi_398 rfl (Or.inl rfl) (W0_in (tp_1 (List.mem_of_getElem? (i := 82) (by decide +kernel))) rfl) rfl (by decide) (by decide) (by decide) (by decide) rfl fl_154 (by decide) zn_z1 ?_
  refine T_aload_n 0 dmi_401 rfl rfl ?_
  refine T_bipush (v := 6) dmi_402 (by decide +kernel) ?_
  refine ms_I (k := 74) (n := 6) dmi_404 dmi_406 rfl (Or.inl rfl) (W0_in (tp_1 (List.mem_of_getElem? (i := 82) (by decide +kernel))) rfl) rfl (by decide) (by decide) (by decide) (by decide) rfl fl_157 (by decide) zn_z1 ?_
  refine T_aload_n 0 dmi_409 rfl rfl ?_
  refine T_bipush (v := 48) dmi_410 (by decide +kernel) ?_
  refine ms_I (k := 75) (n := 48) dmi_412 dmi_414 rfl (Or.inl rfl) (W0_in (tp_1 (List.mem_of_getElem? (i := 82) (by decide +kernel))) rfl) rfl (by decide) (by decide) (by decide) (by decide) rfl fl_160 (by decide) zn_z1 ?_
  refine T_aload_n 0 dmi_417 rfl rfl ?_
  refine T_bipush (v := 6) dmi_418 (by decide +kernel) ?_
  refine ms_I (k := 76) (n := 6) dmi_420 dmi_422 rfl (Or.inl rfl) (W0_in (tp_1 (List.mem_of_getElem? (i := 82) (by decide +kernel))) rfl) rfl (by decide) (by decide) (by decide) (by decide) rfl fl_163 (by decide) zn_z1 ?_
  refine T_aload_n 0 dmi_425 rfl rfl ?_
  refine T_bipush (v := 6) dmi_426 (by decide +kernel) ?_
  refine ms_I (k := 77) (n := 6) dmi_428 dmi_430 rfl (Or.inl rfl) (W0_in (tp_1 (List.mem_of_getElem? (i := 82) (by decide +kernel))) rfl) rfl (by decide) (by decide) (by decide) (by decide) rfl fl_166 (by decide) zn_z1 ?_
  rw [show ce + 1 + 1 + 1 + 1 + 1 + 1 + 1 + 1 + 1 + 1 + 1 + 1 + 1 + 1 + 1 + 1 + 1 + 1 + 1 + 1 + 1 + 1 + 1 + 1 + 1 = ce + 25 by omega, show sl + 40 + 6000 + 6000 + 1500 + 1500 + 1500 + 1500 + 1500 + 1500 + 1500 + 1500 + 1500 + 1500 + 6 + 4 + 4 + 24 + 6 + 6 + 6 + 6 + 6 + 48 + 6 + 6 = sl + 27168 by omega]
  exact h
set_option maxRecDepth 100000 in
set_option maxHeartbeats 4000000 in
theorem mi_0 {G : mG} {d : Nat} {Q : gr → gd → gf → Prop} {ce sl : Nat} (h : T (mE G) (d + 1) z_init 223 [(0, vr 0)] [] z1 (mSv [45, 44, 40, 39, 38, 37, 36, 35, 34, 33, 32, 31, 30, 29, 19, 18, 17, 16, 15, 14, 7, 6, 5, 4, 1] (ce + 25) (sl + 24228)) Q) : T (mE G) (d + 1) z_init 0 [(0, vr 0)] [] zq0 (mSv [] ce sl) Q := by
  refine T_aload_n 0 dmi_0 rfl rfl ?_
  refine T_objInit dmi_1 ⟨(W0_in (tp_8 (List.mem_of_getElem? (i := 184) (by decide +kernel))) rfl), (W0_in (tp_1 (List.mem_of_getElem? (i := 34) (by decide +kernel))) rfl), (W0_in (tp_1 (List.mem_of_getElem? (i := 35) (by decide +kernel))) rfl)⟩ (by omega) (Nat.le_of_ble_eq_true rfl) ?_
  refine T_aload_n 0 dmi_4 rfl rfl ?_
  refine T_sipush (v := 3000) dmi_5 (by decide +kernel) ?_
  refine ms_I (k := 1) (n := 3000) dmi_8 dmi_10 rfl (Or.inr (Or.inl rfl)) (W0_in (tp_1 (List.mem_of_getElem? (i := 81) (by decide +kernel))) rfl) rfl (by decide) (by decide) (by decide) (by decide) rfl fl_7 (by decide) zn_zq0 ?_
  refine T_aload_n 0 dmi_13 rfl rfl ?_
  refine T_sipush (v := 710) dmi_14 (by decide +kernel) ?_
  refine ms_I (k := 4) (n := 710) dmi_17 dmi_19 rfl (Or.inl rfl) (W0_in (tp_1 (List.mem_of_getElem? (i := 82) (by decide +kernel))) rfl) rfl (by decide) (by decide) (by decide) (by decide) rfl fl_13 (by decide) zn_zq0 ?_
  refine T_aload_n 0 dmi_22 rfl rfl ?_
  refine T_sipush (v := 710) dmi_23 (by decide +kernel) ?_
  refine ms_I (k := 5) (n := 710) dmi_26 dmi_28 rfl (Or.inl rfl) (W0_in (tp_1 (List.mem_of_getElem? (i := 82) (by decide +kernel))) rfl) rfl (by decide) (by decide) (by decide) (by decide) rfl fl_17 (by decide) zn_zq0 ?_
  refine T_aload_n 0 dmi_31 rfl rfl ?_
  refine T_sipush (v := 710) dmi_32 (by decide +kernel) ?_
  refine ms_I (k := 6) (n := 710) dmi_35 dmi_37 rfl (Or.inl rfl) (W0_in (tp_1 (List.mem_of_getElem? (i := 82) (by decide +kernel))) rfl) rfl (by decide) (by decide) (by decide) (by decide) rfl fl_20 (by decide) zn_zq0 ?_
  refine T_aload_n 0 dmi_40 rfl rfl ?_
  refine T_sipush (v := 710) dmi_41 (by decide +kernel) ?_
  refine ms_I (k := 7) (n := 710) dmi_44 dmi_46 rfl (Or.inl rfl) (W0_in (tp_1 (List.mem_of_getElem? (i := 82) (by decide +kernel))) rfl) rfl (by decide) (by decide) (by decide) (by decide) rfl fl_23 (by decide) zn_zq0 ?_
  refine T_aload_n 0 dmi_49 rfl rfl ?_
  refine T_iconst (v := (-1)) dmi_50 (by decide +kernel) ?_
  refine T_putI 0 11 dmi_51 fl_26 mk_0 mS_0 (by decide) rfl ⟨rfl, rfl⟩ ?_
  show T (mE G) (d + 1) z_init 54 [(0, vr 0)] [] z2 (mSv [7, 6, 5, 4, 1] _ _) Q
  refine T_aload_n 0 dmi_54 rfl rfl ?_
  refine T_iconst (v := (-1)) dmi_55 (by decide +kernel) ?_
  refine T_putI 0 12 dmi_56 fl_30 mk_0 mS_0 (by decide) rfl ⟨rfl, rfl⟩ ?_
  show T (mE G) (d + 1) z_init 59 [(0, vr 0)] [] z1 (mSv [7, 6, 5, 4, 1] _ _) Q
  refine T_aload_n 0 dmi_59 rfl rfl ?_
  refine T_sipush (v := 3000) dmi_60 (by decide +kernel) ?_
  refine ms_I (k := 14) (n := 3000) dmi_63 dmi_65 rfl (Or.inl rfl) (W0_in (tp_1 (List.mem_of_getElem? (i := 82) (by decide +kernel))) rfl) rfl (by decide) (by decide) (by decide) (by decide) rfl fl_33 (by decide) zn_z1 ?_
  refine T_aload_n 0 dmi_68 rfl rfl ?_
  refine T_sipush (v := 3000) dmi_69 (by decide +kernel) ?_
  refine ms_I (k := 15) (n := 3000) dmi_72 dmi_74 rfl (Or.inl rfl) (W0_in (tp_1 (List.mem_of_getElem? (i := 82) (by decide +kernel))) rfl) rfl (by decide) (by decide) (by decide) (by decide) rfl fl_36 (by decide) zn_z1 ?_
  refine T_aload_n 0 dmi_77 rfl rfl ?_
  refine T_sipush (v := 3000) dmi_78 (by decide +kernel) ?_
  refine ms_I (k := 16) (n := 3000) dmi_81 dmi_83 rfl (Or.inl rfl) (W0_in (tp_1 (List.mem_of_getElem? (i := 82) (by decide +kernel))) rfl) rfl (by decide) (by decide) (by decide) (by decide) rfl fl_39 (by decide) zn_z1 ?_
  refine T_aload_n 0 dmi_86 rfl rfl ?_
  refine T_sipush (v := 3000) dmi_87 (by decide +kernel) ?_
  refine ms_I (k := 17) (n := 3000) dmi_90 dmi_92 rfl (Or.inl rfl) (W0_in (tp_1 (List.mem_of_getElem? (i := 82) (by decide +kernel))) rfl) rfl (by decide) (by decide) (by decide) (by decide) rfl fl_42 (by decide) zn_z1 ?_
  refine T_aload_n 0 dmi_95 rfl rfl ?_
  refine T_sipush (v := 3000) dmi_96 (by decide +kernel) ?_
  refine ms_I (k := 18) (n := 3000) dmi_99 dmi_101 rfl (Or.inl rfl) (W0_in (tp_1 (List.mem_of_getElem? (i := 82) (by decide +kernel))) rfl) rfl (by decide) (by decide) (by decide) (by decide) rfl fl_45 (by decide) zn_z1 ?_
  refine T_aload_n 0 dmi_104 rfl rfl ?_
  refine T_sipush (v := 3000) dmi_105 (by decide +kernel) ?_
  refine ms_I (k := 19) (n := 3000) dmi_108 dmi_110 rfl (Or.inl rfl) (W0_in (tp_1 (List.mem_of_getElem? (i := 82) (by decide +kernel))) rfl) rfl (by decide) (by decide) (by decide) (by decide) rfl fl_48 (by decide) zn_z1 ?_
  refine T_aload_n 0 dmi_113 rfl rfl ?_
  refine T_bipush (v := 40) dmi_114 (by decide +kernel) ?_
  refine ms_I (k := 29) (n := 40) dmi_116 dmi_118 rfl (Or.inl rfl) (W0_in (tp_1 (List.mem_of_getElem? (i := 82) (by decide +kernel))) rfl) rfl (by decide) (by decide) (by decide) (by decide) rfl fl_51 (by decide) zn_z1 ?_
  refine T_aload_n 0 dmi_121 rfl rfl ?_
  refine T_bipush (v := 40) dmi_122 (by decide +kernel) ?_
  refine ms_I (k := 30) (n := 40) dmi_124 dmi_126 rfl (Or.inl rfl) (W0_in (tp_1 (List.mem_of_getElem? (i := 82) (by decide +kernel))) rfl) rfl (by decide) (by decide) (by decide) (by decide) rfl fl_54 (by decide) zn_z1 ?_
  refine T_aload_n 0 dmi_129 rfl rfl ?_
  refine T_bipush (v := 40) dmi_130 (by decide +kernel) ?_
  refine ms_I (k := 31) (n := 40) dmi_132 dmi_134 rfl (Or.inl rfl) (W0_in (tp_1 (List.mem_of_getElem? (i := 82) (by decide +kernel))) rfl) rfl (by decide) (by decide) (by decide) (by decide) rfl fl_57 (by decide) zn_z1 ?_
  refine T_aload_n 0 dmi_137 rfl rfl ?_
  refine T_bipush (v := 40) dmi_138 (by decide +kernel) ?_
  refine ms_I (k := 32) (n := 40) dmi_140 dmi_142 rfl (Or.inl rfl) (W0_in (tp_1 (List.mem_of_getElem? (i := 82) (by decide +kernel))) rfl) rfl (by decide) (by decide) (by decide) (by decide) rfl fl_60 (by decide) zn_z1 ?_
  refine T_aload_n 0 dmi_145 rfl rfl ?_
  refine T_bipush (v := 40) dmi_146 (by decide +kernel) ?_
  refine ms_I (k := 33) (n := 40) dmi_148 dmi_150 rfl (Or.inr (Or.inr rfl)) (W0_in (tp_2 (List.mem_of_getElem? (i := 47) (by decide +kernel))) rfl) rfl (by decide) (by decide) (by decide) (by decide) rfl fl_63 (by decide) zn_z1 ?_
  refine T_aload_n 0 dmi_153 rfl rfl ?_
  refine T_bipush (v := 40) dmi_154 (by decide +kernel) ?_
  refine ms_I (k := 34) (n := 40) dmi_156 dmi_158 rfl (Or.inl rfl) (W0_in (tp_1 (List.mem_of_getElem? (i := 82) (by decide +kernel))) rfl) rfl (by decide) (by decide) (by decide) (by decide) rfl fl_67 (by decide) zn_z1 ?_
  refine T_aload_n 0 dmi_161 rfl rfl ?_
  refine T_bipush (v := 24) dmi_162 (by decide +kernel) ?_
  refine ms_I (k := 35) (n := 24) dmi_164 dmi_166 rfl (Or.inl rfl) (W0_in (tp_1 (List.mem_of_getElem? (i := 82) (by decide +kernel))) rfl) rfl (by decide) (by decide) (by decide) (by decide) rfl fl_70 (by decide) zn_z1 ?_
  refine T_aload_n 0 dmi_169 rfl rfl ?_
  refine T_bipush (v := 24) dmi_170 (by decide +kernel) ?_
  refine ms_I (k := 36) (n := 24) dmi_172 dmi_174 rfl (Or.inr (Or.inr rfl)) (W0_in (tp_2 (List.mem_of_getElem? (i := 47) (by decide +kernel))) rfl) rfl (by decide) (by decide) (by decide) (by decide) rfl fl_73 (by decide) zn_z1 ?_
  refine T_aload_n 0 dmi_177 rfl rfl ?_
  refine T_bipush (v := 6) dmi_178 (by decide +kernel) ?_
  refine ms_I (k := 37) (n := 6) dmi_180 dmi_182 rfl (Or.inr (Or.inr rfl)) (W0_in (tp_2 (List.mem_of_getElem? (i := 47) (by decide +kernel))) rfl) rfl (by decide) (by decide) (by decide) (by decide) rfl fl_76 (by decide) zn_z1 ?_
  refine T_aload_n 0 dmi_185 rfl rfl ?_
  refine T_bipush (v := 6) dmi_186 (by decide +kernel) ?_
  refine ms_I (k := 38) (n := 6) dmi_188 dmi_190 rfl (Or.inl rfl) (W0_in (tp_1 (List.mem_of_getElem? (i := 82) (by decide +kernel))) rfl) rfl (by decide) (by decide) (by decide) (by decide) rfl fl_79 (by decide) zn_z1 ?_
  refine T_aload_n 0 dmi_193 rfl rfl ?_
  refine T_iconst (v := 4) dmi_194 (by decide +kernel) ?_
  refine ms_I (k := 39) (n := 4) dmi_195 dmi_197 rfl (Or.inl rfl) (W0_in (tp_1 (List.mem_of_getElem? (i := 82) (by decide +kernel))) rfl) rfl (by decide) (by decide) (by decide) (by decide) rfl fl_82 (by decide) zn_z1 ?_
  refine T_aload_n 0 dmi_200 rfl rfl ?_
  refine T_iconst (v := 4) dmi_201 (by decide +kernel) ?_
  refine ms_I (k := 40) (n := 4) dmi_202 dmi_204 rfl (Or.inl rfl) (W0_in (tp_1 (List.mem_of_getElem? (i := 82) (by decide +kernel))) rfl) rfl (by decide) (by decide) (by decide) (by decide) rfl fl_85 (by decide) zn_z1 ?_
  refine T_aload_n 0 dmi_207 rfl rfl ?_
  refine T_bipush (v := 40) dmi_208 (by decide +kernel) ?_
  refine ms_I (k := 44) (n := 40) dmi_210 dmi_212 rfl (Or.inl rfl) (W0_in (tp_1 (List.mem_of_getElem? (i := 82) (by decide +kernel))) rfl) rfl (by decide) (by decide) (by decide) (by decide) rfl fl_88 (by decide) zn_z1 ?_
  refine T_aload_n 0 dmi_215 rfl rfl ?_
  refine T_bipush (v := 40) dmi_216 (by decide +kernel) ?_
  refine ms_I (k := 45) (n := 40) dmi_218 dmi_220 rfl (Or.inl rfl) (W0_in (tp_1 (List.mem_of_getElem? (i := 82) (by decide +kernel))) rfl) rfl (by decide) (by decide) (by decide) (by decide) rfl fl_91 (by decide) zn_z1 ?_
  rw [show ce + 1 + 1 + 1 + 1 + 1 + 1 + 1 + 1 + 1 + 1 + 1 + 1 + 1 + 1 + 1 + 1 + 1 + 1 + 1 + 1 + 1 + 1 + 1 + 1 + 1 = ce + 25 by omega, show sl + 3000 + 710 + 710 + 710 + 710 + 3000 + 3000 + 3000 + 3000 + 3000 + 3000 + 40 + 40 + 40 + 40 + 40 + 40 + 24 + 24 + 6 + 6 + 4 + 4 + 40 + 40 = sl + 24228 by omega]
  exact h
def mAll : List Nat := [138, 137, 135, 134, 133, 132, 131, 130, 129, 128, 127, 126, 125, 124, 123, 122, 121, 120, 119, 118, 117, 115, 114, 113, 112, 111, 110, 109, 108, 106, 105, 104, 103, 102, 101, 100, 99, 98, 97, 95, 87, 86, 85, 83, 81, 80, 79, 78, 77, 76, 75, 74, 73, 72, 71, 70, 69, 65, 64, 63, 62, 61, 60, 59, 58, 57, 56, 55, 54, 53, 51, 50, 46, 45, 44, 40, 39, 38, 37, 36, 35, 34, 33, 32, 31, 30, 29, 19, 18, 17, 16, 15, 14, 7, 6, 5, 4, 1]
theorem mi_all {G : mG} {d : Nat} {Q : gr → gd → gf → Prop} {ce sl : Nat} (h : Q (.inl none) z1 (mSv mAll (ce + 98) (sl + 948697))) : T (mE G) (d + 1) z_init 0 [(0, vr 0)] [] zq0 (mSv [] ce sl) Q := by
  refine mi_0 (ce := ce) (sl := sl) ?_
  refine mi_1 (ce := ce + 25) (sl := sl + 24228) ?_
  refine mi_2 (ce := ce + 25 + 25) (sl := sl + 24228 + 27168) ?_
  refine mi_3 (ce := ce + 25 + 25 + 25) (sl := sl + 24228 + 27168 + 6888) ?_
  rw [show ce + 25 + 25 + 25 + 23 = ce + 98 by omega, show sl + 24228 + 27168 + 6888 + 890413 = sl + 948697 by omega]
  exact h
end
section
/-! the law begins: the class is made, the model, the long -/
section LNW
variable {p : Program} {e : Env} {R : Room} {s : State} {m : MethodId} {args : Array Value} {below : List Frame} {meth : Method} {c : Code} {H : Heap} {locs : List Loc} {cells slots : Nat} {Q : State → Prop} {pc : Nat} {ls : Array Slot} {A : Nat → Prop} {D : Nat} {y z : gy} {E : gE} {x : gd} {f : gf} {ad : Nat → Nat} {st : List Value}
abbrev nul (sl : List Bool) : List Value := (List.range sl.length).map (fun j => if sl.getD j false = true then .null else .int 0)
theorem L_new {ws : va_W} {idx ci : Nat} {sl : List Bool} (C : gC E D y p R s m args meth c A) (hP : va_P E.2.1 vwCl ws H) (hD : va_D A ws) (hS : va_S A s.heap H locs) (hd : decode y.2.1 pc = .ok (.new idx, 3)) (hM : gNw y.1.cls idx ci sl) (h1 : cells + 1 ≤ R.cells) (h2 : slots + sl.length ≤ R.slots)
    (kk : ∀ (q : Nat) (H1 : Heap), va_P E.2.1 vwCl (ws ++ [(q, .inr (ci, nul sl))]) H1 → va_D A (ws ++ [(q, .inr (ci, nul sl))]) → va_S A s.heap H1 locs → W p E.1 e R s m args below meth c H1 locs (cells + 1) (slots + sl.length) Q (F0 m (pc + 3) ls (.ref q :: st))) : W p E.1 e R s m args below meth c H locs cells slots Q (F0 m pc ls st) := by
  obtain ⟨C0, U, ty, m1, m2, m3, m4, m5, m6, m7⟩ := hM
  refine va_new (C := C0) (T := U) (ci := ci) (fs := nul sl) C.1.1 C.1.2.1 C.1.2.2.2.2 m2 ty m6 C.1.2.2.2.1 (C.1.2.2.2.2 _ m3) (C.1.2.2.2.2 _ m4) (C.1.2.2.2.2 _ m5) C.2.2.2.1.1 hP hD hS C.2.2.2.2 m1 (fun j hj => ?_) h1 h2 hd (fun q H1 hP1 hD1 hS1 => kk q H1 hP1 hD1 hS1)
  rw [m7 j hj]; unfold vp_V; rw [List.getD_eq_getElem?_getD (l := List.map _ _), List.getElem?_map, List.getElem?_range hj]; rfl
theorem gP_one {c9 ci q : Nat} {sl : List Bool} (hL : f.2.1 = [c9]) (hf : ∀ j, f.1 c9 j = none) (hx : ∀ j, x.1 c9 j = 0) (hK : E.2.2.2.1 c9 = .inl (ci, sl)) (had : ad c9 = q) (hat : va_at E.2.1 vwCl (q, .inr (ci, nul sl)) H) (hA : A q) (hg : gad E ad) : gP E x f ad A H := by
  have e1 : gwl E x f ad = [(q, .inr (ci, nul sl))] := by
    unfold gwl
    rw [hL]
    show [(ad c9, gce E x f ad c9)] = _
    rw [had, gce_obj hK]
    congr 4
    unfold gfl
    apply List.map_congr_left
    intro j _
    rw [hf j, hx j]; rfl
  have one : ∀ (k : Nat) (q9 : Nat × va_E), ([(q, .inr (ci, nul sl))] : va_W)[k]? = some q9 → k = 0 ∧ q9 = (q, .inr (ci, nul sl)) := fun k q9 hk => by
    have hz : k < 1 := (List.getElem?_eq_some_iff.mp hk).1
    have hz : k = 0 := by omega
    subst hz
    cases hk
    exact ⟨rfl, rfl⟩
  refine ⟨⟨?_, ?_⟩, hg⟩
  · rw [e1]
    intro k q9 hk
    obtain ⟨-, rfl⟩ := one k q9 hk
    exact hat
  · rw [e1]
    refine ⟨fun i j p9 q9 hi hj _ => by have := (one i p9 hi).1; have := (one j q9 hj).1; omega, fun k q9 hk => ?_⟩
    obtain ⟨-, rfl⟩ := one k q9 hk
    exact hA
/-- a constructor -/
theorem L_I {cr idx : Nat} {QQ : gd → gf → Prop} {restv : List Value} (C : gC E D y p R s m args meth c A) (hP : gP E x f ad A H) (hS : va_S A s.heap H locs) (hls : ls.size = y.2.2.1) (d1 : Nat) (hd : decode y.2.1 pc = .ok (.invokespecial idx, 3)) (hM : gMi y.1.cls idx z 0) (hd1 : d1 + 1 ≤ D) (hfit : gsz [vr cr] ≤ z.2.2.1) (hcat : (restv.map fun v => v.category).sum ≤ 8)
    (k : T E d1 z 0 (glv 0 [vr cr]) [] x f (fun o x1 f1 => o = .inl none ∧ QQ x1 f1)) (hroom9 : ∀ x1 f1, QQ x1 f1 → cells + (f1.2.2.1 - f.2.2.1) ≤ R.cells ∧ slots + (f1.2.2.2 - f.2.2.2) ≤ R.slots)
    (kk : ∀ (x1 : gd) (f1 : gf) (ad1 : Nat → Nat) (H1 : Heap) (locs1 : List Loc), QQ x1 f1 → gle f f1 → gex f ad ad1 → gP E x1 f1 ad1 (gA f ad H.size) H1 → (∀ q : Nat, q < H.size → ¬ gA f ad H.size q → H1[q]? = H[q]?) → va_S A s.heap H1 locs1 → W p E.1 e R s m args below meth c H1 locs1 (cells + (f1.2.2.1 - f.2.2.1)) (slots + (f1.2.2.2 - f.2.2.2)) Q (F0 m (pc + 3) ls restv)) :
    W p E.1 e R s m args below meth c H locs cells slots Q (F0 m pc ls (.ref (ad cr) :: restv)) := by
  obtain ⟨⟨m1, m2, m4, m5⟩, m6, ⟨m7, m10⟩, m8, m9⟩ := hM
  obtain ⟨o1, x1, f1, ⟨rfl, hk⟩, hle, hw1⟩ := k
  obtain ⟨hc1, hs1⟩ := hroom9 x1 f1 hk
  have hroom : 8 + (z.2.2.1 + 11) + 41 * d1 ≤ R.locals := by
    have hq := C.2.2.1.2
    omega
  have hz : z.2.2.2.2 = [] := by rw [m9]
  have hz1 : z.2.2.2.1 = none := by rw [m9]
  have hrun := va_runI (g := F0 m pc ls (.ref (ad cr) :: restv)) (rest := restv) (As := ([] : List gv).map (gcv ad)) (b := ad cr) (Pc := va_Pc ([vr cr].map (gcv ad)) (gst E x f ad H.size)) (e := e) (below := below) (meth := meth) (locs := locs) (cells := cells) (slots := slots) ⟨C.1.1, C.1.2.1, C.1.2.2.1, C.1.2.2.2.1, C.1.2.2.2.2⟩ (gM_ofI C.2.2.2.1.2.2.2 m7 hfit hw1 ad H.size)
      ⟨callB_of (bytes := z.2.1) (maxL := z.2.2.1) (ret := none) (ws' := W0) 0 C.1.2.2.2.2 (gwsz m5) (by rw [gws, gcw, hz, hz1]) rfl rfl (C.1.2.2.2.2 _ m4) (C.1.2.2.2.2 _ m1) m6 ⟨Nat.le_trans hd1 C.2.2.1.1, hroom⟩, m10, C.1.2.2.2.2 _ m2⟩ ⟨gst_blind, fun U hU hW => ⟨rfl, gst_in C hP hS hU hW⟩⟩ rfl rfl hls rfl (lv_room hcat) hd ⟨hc1, hs1⟩
  intro T9 hT X
  obtain ⟨v', st₀, t, T', L, h0, X', hL, e1, e2, ⟨ad1, hex, ⟨v2, ev1, ev2⟩, hP1, hF⟩, stp⟩ := hrun T9 hT X
  cases ev1
  cases ev2
  have hin := gA_in (sz := H.size) hP (fun q hq => C.2.2.2.2 q (Nat.le_trans hS.1 hq))
  obtain ⟨k1, k2, k3⟩ := vx_keep h0 e1 hS (fun q _ h => hin q h) hin hL hF
  obtain ⟨t2, s1, s2⟩ := kk x1 f1 ad1 T'.heap (locs ++ L) hk hle hex (by rw [e1]; exact hP1) k2 k3 T' rfl X'
  exact ⟨t2, stp t2 s1, s2⟩
/-- a shape that looks alike where it is looked at -/
theorem gwl_rf {f2 : gf} (hL : f2.2.1 = f.2.1) (hr : ∀ c ∈ f.2.1, ∀ k, (∀ ci sl, E.2.2.2.1 c = .inl (ci, sl) → k < sl.length ∧ sl.getD k false = true) → (∀ ty n, E.2.2.2.1 c = .inr (ty, n) → ty.isReference = true) → f2.1 c k = f.1 c k) : gwl E x f2 ad = gwl E x f ad := by
  unfold gwl
  rw [hL]
  apply List.map_congr_left
  intro c hc
  have hg : gce E x f2 ad c = gce E x f ad c := by
    cases hk : E.2.2.2.1 c with
    | inl o =>
      obtain ⟨ci, sl⟩ := o
      rw [gce_obj hk, gce_obj hk]
      congr 2
      unfold gfl
      apply List.map_congr_left
      intro j hj
      by_cases hs : sl.getD j false = true
      · rw [if_pos hs, if_pos hs, hr c hc j (fun ci' sl' h' => by rw [hk] at h'; cases h'; exact ⟨List.mem_range.mp hj, hs⟩) (fun ty n h' => by rw [hk] at h'; cases h')]
      · rw [if_neg hs, if_neg hs]
    | inr a =>
      obtain ⟨ty, n⟩ := a
      rw [gce_arr hk, gce_arr hk]
      congr 3
      have hz : ty.isReference = true → ∀ j, f2.1 c j = f.1 c j := fun ht j => hr c hc j (fun ci' sl' h' => by rw [hk] at h'; cases h') (fun ty' n' h' => by rw [hk] at h'; cases h'; exact ht)
      unfold gar
      cases ty <;> first | rfl | (simp only [hz rfl])
  rw [hg]
end LNW
def fE : gf := (fun _ _ => none, [], 0, 0)
def q00 : kP := kmk false false false false none 0 0 0 (0 :: news_0) 66 19895
abbrev x00 : gd := xops (znew zq0 0) ops_0
abbrev f00 : gf := fops (fnew fE 0 13) ops_0
theorem q00_U : kU q00 := by
  refine ⟨⟨by decide +kernel, fun e => absurd e (by decide), fun e => absurd e (by decide), fun e => absurd e (by decide), fun e => absurd e (by decide), fun k hk => absurd hk (Nat.not_lt_zero _), fun k hk => absurd hk (Nat.not_lt_zero _), fun k hk => absurd hk (Nat.not_lt_zero _)⟩, fun c hc => Or.inl ((by decide +kernel : ∀ c ∈ 0 :: news_0, c ∈ kl0) c hc), ⟨fun _ => ⟨rfl, rfl⟩, fun _ => rfl, fun _ => rfl⟩, fun o e => (by cases e), Nat.zero_le _, Nat.zero_le _, Nat.zero_le _⟩
theorem f00_L : f00.2.1 = (kf q00).2.1 := by
  rw [ops_L]
  show ([] ++ [0]) ++ ops_0.flatMap onew = 0 :: news_0
  rw [show ops_0.flatMap onew = news_0 by decide +kernel]; rfl
theorem f00_c : f00.2.2 = (66, 19895) := by
  rw [ops_ct, show (ops_0.map fun o => (ocel o).1).sum = 65 by decide +kernel, show (ops_0.map fun o => (ocel o).2).sum = 19882 by decide +kernel]; rfl
def chk0 : Bool := (0 :: news_0).all (fun c => match kK c with
  | .inl (_, sl) => (List.range sl.length).all (fun k => !sl.getD k false || decide (kR q00 c k = f00.1 c k))
  | .inr (ty, _) => !ty.isReference || c == 7)
theorem chk0_t : chk0 = true := by decide +kernel
theorem f00_r {c k : Nat} (hc : c ∈ (0 :: news_0)) (g1 : ∀ ci sl, kK c = .inl (ci, sl) → k < sl.length ∧ sl.getD k false = true) (g2 : ∀ ty n, kK c = .inr (ty, n) → ty.isReference = true) : kR q00 c k = f00.1 c k := by
  have h := List.all_eq_true.mp chk0_t c hc
  cases hk : kK c with
  | inl o =>
    obtain ⟨ci, sl⟩ := o
    obtain ⟨a1, a2⟩ := g1 ci sl hk
    rw [hk] at h
    have h2 := List.all_eq_true.mp h k (List.mem_range.mpr a1)
    rw [a2] at h2
    exact of_decide_eq_true (by simpa using h2)
  | inr a =>
    obtain ⟨ty, n⟩ := a
    have a1 := g2 ty n hk
    rw [hk] at h
    have h2 : (!ty.isReference || c == 7) = true := h
    rw [a1] at h2
    have : c = 7 := by simpa using h2
    subst this
    show (if k = 0 then (if false = true then some 260 else none) else if k = 1 then (if false = true then some 280 else none) else none) = none
    split
    · rfl
    · split <;> rfl
theorem x00_H : HOI x00 q00 := by
  have z : ∀ o, (o = 260 ∨ o = 280) → x00.1 o 0 = 0 ∧ x00.1 o 3 = 0 := fun o hO => by
    rcases hO with e | e <;> subst e <;> exact ⟨by decide +kernel, by decide +kernel⟩
  refine ⟨?_, fun e => absurd (by decide +kernel) e, fun e => absurd (by decide +kernel) e, fun o hO => ⟨⟨?_, Or.inl (z o hO).1⟩, fun _ => (z o hO).1⟩⟩
  · unfold kL
    rw [show x00.1 20 1 = 0 by decide +kernel]; decide
  · unfold TO
    rw [(z o hO).2]
    have k0 : (0 : Int32).toInt = 0 := rfl
    rw [k0]
    exact ⟨⟨by omega, by omega, oN_U q00_U o⟩, fun i hi => by omega⟩
theorem z1_M : MI z1 := by
  have k0 : (0 : Int32).toInt = 0 := rfl
  have zc : ∀ c k, c ≠ 0 → z1.1 c k = 0 := fun c k hc => by
    unfold z1
    rw [si_get, if_neg (by omega), si_get, if_neg (by omega)]; rfl
  refine ⟨⟨by decide, by decide, fun j hj => ?_, by decide, by decide, fun t ht => ?_⟩, fun e => absurd rfl e, fun e => absurd rfl e, fun w hw e => absurd (zc 119 w (by omega)) e⟩
  · rw [zc 6 j (by omega), zc 8 j (by omega), zc 7 j (by omega), k0]; omega
  · rw [zc 118 t (by omega), k0]; omega
theorem mAll_r (j : Nat) : (msl.getD j false = true) ↔ j ∈ mAll := by
  by_cases h : j < 139
  · exact (by decide +kernel : ∀ j, j < 139 → ((msl.getD j false = true) ↔ j ∈ mAll)) j h
  · constructor
    · intro e
      have hl : msl.length = 139 := by decide +kernel
      rw [List.getD_eq_getElem?_getD, List.getElem?_eq_none (by omega)] at e; cases e
    · intro e
      have := (by decide +kernel : ∀ k ∈ mAll, k < 139) j e
      omega
theorem m_gwl {G : mG} {ad : Nat → Nat} {ce sl : Nat} : gwl (mE G) z1 (mf G) ad = gwl (mE G) z1 (mSv mAll ce sl) ad := by
  refine gwl_ag (by show mL = 0 :: mAll.reverse.map (· + 1); decide +kernel) (fun _ _ => rfl) rfl (fun _ _ => rfl) (fun _ _ => rfl) (fun _ _ => rfl) (fun c _ j => ?_)
  show Option.map ad (if c = 0 then (if msl.getD j false = true then some (j + 1) else none) else none) = Option.map ad (if c = 0 ∧ j ∈ mAll then some (j + 1) else none)
  by_cases e : c = 0
  · by_cases e2 : msl.getD j false = true
    · rw [if_pos e, if_pos e2, if_pos ⟨e, (mAll_r j).mp e2⟩]
    · rw [if_pos e, if_neg e2, if_neg (fun z => e2 ((mAll_r j).mpr z.2))]
  · rw [if_neg e, if_neg (fun z => e z.1)]
set_option maxRecDepth 100000 in
theorem sca_init : tables_1_8[183]? = some (Cond.code yX12_init cX12_init 1 none) := rfl
theorem scw_init : Cond.code yX12_init cX12_init 1 none ∈ W0 := W0_in (tp_8 (List.mem_of_getElem? sca_init)) rfl
theorem kn_L_8 : gNw RL 8 11 ks_X11 := ⟨RX11, TX11, tyX11, rfl, kw_X11, (W0_in (tp_1 (List.mem_of_getElem? (i := 28) (by decide +kernel))) rfl), (W0_in (tp_1 (List.mem_of_getElem? (i := 29) (by decide +kernel))) rfl), (W0_in (tp_1 (List.mem_of_getElem? (i := 1) (by decide +kernel))) rfl), tyX11_ok, by decide⟩
set_option maxRecDepth 100000 in
theorem kn_L_100 : gNw RL 100 12 msl := ⟨RX12, TX12, tyX12, rfl, tw0_X12, (W0_in (tp_8 (List.mem_of_getElem? (i := 179) (by decide +kernel))) rfl), (W0_in (tp_8 (List.mem_of_getElem? (i := 180) (by decide +kernel))) rfl), (W0_in (tp_1 (List.mem_of_getElem? (i := 10) (by decide +kernel))) rfl), tyX12_ok, by decide +kernel⟩
theorem kci_L_99 : gMi RL 99 zk_X11_init 0 := ⟨⟨(W0_in (tp_1 (List.mem_of_getElem? (i := 30) (by decide +kernel))) rfl), (W0_in (tp_1 (List.mem_of_getElem? (i := 31) (by decide +kernel))) rfl), (W0_in (tp_1 (List.mem_of_getElem? (i := 1) (by decide +kernel))) rfl), kcw_X11_init⟩, ⟨by decide, by decide, by decide +kernel⟩, ⟨by decide, rfl⟩, by decide, rfl⟩
theorem kci_L_102 : gMi RL 102 z_init 0 := ⟨⟨(W0_in (tp_8 (List.mem_of_getElem? (i := 181) (by decide +kernel))) rfl), (W0_in (tp_8 (List.mem_of_getElem? (i := 182) (by decide +kernel))) rfl), (W0_in (tp_1 (List.mem_of_getElem? (i := 10) (by decide +kernel))) rfl), scw_init⟩, ⟨by decide, by decide, by decide +kernel⟩, ⟨by decide, rfl⟩, by decide, rfl⟩
theorem aL_W : Cond.arrayClass .long ∈ W0 := (W0_in (tp_10 (List.mem_of_getElem? (i := 124) (by decide +kernel))) rfl)
theorem aB_W : Cond.arrayClass .byte ∈ W0 := (W0_in (tp_1 (List.mem_of_getElem? (i := 81) (by decide +kernel))) rfl)
theorem aZ_W : Cond.arrayClass .boolean ∈ W0 := (W0_in (tp_2 (List.mem_of_getElem? (i := 47) (by decide +kernel))) rfl)
end
section
/-! the law, from its entry -/
theorem ar_of {args : Array Value} {s : State} {ty : FieldType} (h : (Cond.arrayClass ty).before args s = true) : ∃ cA : ClassId, ArrOfT s cA ty ∧ s.vm.findClass ("[" ++ ty.toString) = some cA := by
  obtain ⟨cA, kA, comp, h1, h2, h3⟩ := Cond.arrayClass_spec h
  exact ⟨cA, fun n z => ⟨fun k h => (by cases h), kA, h2, comp, h3⟩, h1⟩
set_option maxHeartbeats 4000000 in
set_option maxRecDepth 100000 in
theorem whole_start {p : Program} {e : Env} {s : State} {m : MethodId} {below : List Frame} {meth : Method} {c : Code} (l : Launch) (hlt : l.stackTraces = false) {b L : Nat} {xs : Nat → Int32} (hL : L ≤ 256) (C0 : lw_At p s m meth c b L xs) (hE : ev s) {sA : Nat → Nat} (hZ : ev_Z sA (fun q : Nat => s.heap.size ≤ q) s s.heap) (htab : c.exceptionTable.toList = []) (hnm : meth.name = "law") : W p l e room_1 s m #[Value.ref b] below meth c s.heap [] 0 0 (lw_Z below #[Value.ref b] s) (entryFrame m ([Value.ref b] : List Value).toArray 7) := by
  obtain ⟨hx, hb, hr, hml, hown, hts, hX, hbl, hlocks, hgv⟩ := id C0
  have hW0 : ∀ w ∈ W0, w.before #[Value.ref b] s = true := fun w hw => hts w (List.mem_filter.mp hw).1
  obtain ⟨k0, iS0, hKn0⟩ := u_known (C := RX0) (T := TX0) (N := 18) (n := 18) hts tw_X0 (hts (.instantiable RX0 18) (List.mem_of_getElem? (i := 337) (by decide +kernel)))
  obtain ⟨k1, iS1, hKn1⟩ := u_known (C := RX1) (T := TX1) (N := 7) (n := 7) hts tw_X1 (hts (.instantiable RX1 7) (List.mem_of_getElem? (i := 562) (by decide +kernel)))
  obtain ⟨k2, iS2, hKn2⟩ := u_known (C := RX2) (T := TX2) (N := 10) (n := 10) hts tw_X2 (hts (.instantiable RX2 10) (List.mem_of_getElem? (i := 1780) (by decide +kernel)))
  obtain ⟨k3, iS3, hKn3⟩ := u_known (C := RX3) (T := TX3) (N := 13) (n := 13) hts tw_X3 (hts (.instantiable RX3 13) (List.mem_of_getElem? (i := 1672) (by decide +kernel)))
  obtain ⟨k4, iS4, hKn4⟩ := u_known (C := RX4) (T := TX4) (N := 18) (n := 18) hts tw_X4 (hts (.instantiable RX4 18) (List.mem_of_getElem? (i := 660) (by decide +kernel)))
  obtain ⟨k5, iS5, hKn5⟩ := u_known (C := RX5) (T := TX5) (N := 15) (n := 15) hts tw_X5 (hts (.instantiable RX5 15) (List.mem_of_getElem? (i := 556) (by decide +kernel)))
  obtain ⟨k6, iS6, hKn6⟩ := u_known (C := RX6) (T := TX6) (N := 12) (n := 12) hts tw_X6 (hts (.instantiable RX6 12) (List.mem_of_getElem? (i := 289) (by decide +kernel)))
  obtain ⟨k7, iS7, hKn7⟩ := u_known (C := RX7) (T := TX7) (N := 18) (n := 18) hts tw_X7 (hts (.instantiable RX7 18) (List.mem_of_getElem? (i := 494) (by decide +kernel)))
  obtain ⟨k8, iS8, hKn8⟩ := u_known (C := RX8) (T := TX8) (N := 10) (n := 10) hts tw_X8 (hts (.instantiable RX8 10) (List.mem_of_getElem? (i := 343) (by decide +kernel)))
  obtain ⟨k9, iS9, hKn9⟩ := u_known (C := RX9) (T := TX9) (N := 10) (n := 10) hts tw_X9 (hts (.instantiable RX9 10) (List.mem_of_getElem? (i := 242) (by decide +kernel)))
  obtain ⟨k10, iS10, hKn10⟩ := u_known (C := RX10) (T := TX10) (N := 14) (n := 14) hts tw_X10 (hts (.instantiable RX10 14) (List.mem_of_getElem? (i := 1819) (by decide +kernel)))
  obtain ⟨k11, iS11, hKn11⟩ := u_known (C := RX11) (T := TX11) (N := 13) (n := 13) hts tw_X11 (hts (.instantiable RX11 13) (List.mem_of_getElem? (i := 234) (by decide +kernel)))
  obtain ⟨k12, iS12, hKn12⟩ := u_known (C := RX12) (T := TX12) (N := 139) (n := 139) hts tw_X12 (hts (.instantiable RX12 139) (List.mem_of_getElem? (i := 2065) (by decide +kernel)))
  obtain ⟨D, hKc⟩ : ∃ D : va_G, ∀ (k : Nat) (q : vw_C), vwCl[k]? = some q → u_Kn s q.1 q.2.1 q.2.2 (D.1 k) (D.2 k) := by
    refine ⟨(fun k => if k = 0 then k0 else if k = 1 then k1 else if k = 2 then k2 else if k = 3 then k3 else if k = 4 then k4 else if k = 5 then k5 else if k = 6 then k6 else if k = 7 then k7 else if k = 8 then k8 else if k = 9 then k9 else if k = 10 then k10 else if k = 11 then k11 else k12, fun k => if k = 0 then iS0 else if k = 1 then iS1 else if k = 2 then iS2 else if k = 3 then iS3 else if k = 4 then iS4 else if k = 5 then iS5 else if k = 6 then iS6 else if k = 7 then iS7 else if k = 8 then iS8 else if k = 9 then iS9 else if k = 10 then iS10 else if k = 11 then iS11 else iS12), ?_⟩
    intro k q hq
    match k, hq with
    | 0, hq => cases hq; exact hKn0
    | 1, hq => cases hq; exact hKn1
    | 2, hq => cases hq; exact hKn2
    | 3, hq => cases hq; exact hKn3
    | 4, hq => cases hq; exact hKn4
    | 5, hq => cases hq; exact hKn5
    | 6, hq => cases hq; exact hKn6
    | 7, hq => cases hq; exact hKn7
    | 8, hq => cases hq; exact hKn8
    | 9, hq => cases hq; exact hKn9
    | 10, hq => cases hq; exact hKn10
    | 11, hq => cases hq; exact hKn11
    | 12, hq => cases hq; exact hKn12
    | k + 13, hq => simp [vwCl] at hq
  obtain ⟨a1, A1, B1⟩ := ar_of (hW0 _ aI_W)
  obtain ⟨a2, A2, B2⟩ := ar_of (hW0 _ aB_W)
  obtain ⟨a3, A3, B3⟩ := ar_of (hW0 _ aZ_W)
  obtain ⟨a4, A4, B4⟩ := ar_of (hW0 _ aL_W)
  obtain ⟨comp5, a5, k5, f51, -, f53, f54, f55⟩ := Cond.arrayOver_spec hE.2.2.2.1
  obtain ⟨comp6, a6, k6, f61, -, f63, f64, f65⟩ := arrayOver_specB hE.2.2.2.2.2
  obtain ⟨ar, har⟩ : ∃ ar : FieldType → ClassId, ar .int = a1 ∧ ar .byte = a2 ∧ ar .boolean = a3 ∧ ar .long = a4 ∧ ar (.object "ScheduleHouse$Trial") = a5 ∧ ar (.array .int) = a6 := ⟨fun ty => match ty with
    | .int => a1
    | .byte => a2
    | .boolean => a3
    | .long => a4
    | .object _ => a5
    | .array _ => a6
    | _ => a1, rfl, rfl, rfl, rfl, rfl, rfl⟩
  obtain ⟨r1, r2, r3, r4, r5, r6⟩ := har
  obtain ⟨G, hG⟩ : ∃ G : kG, G = (l, D, ar, sA) := ⟨_, rfl⟩
  have hKK : va_K D vwCl (gtys (kE (l, D, ar, sA))) s := by
    refine ⟨hKc, fun k q hk => ?_⟩
    have hk : ([(ar .int, FieldType.int), (ar .byte, .byte), (ar .boolean, .boolean), (ar .long, .long), (ar (.object "ScheduleHouse$Trial"), .object "ScheduleHouse$Trial"), (ar (.array .int), .array .int)] : List (ClassId × FieldType))[k]? = some q := hk
    rw [r1, r2, r3, r4, r5, r6] at hk
    match k, hk with
    | 0, hk => cases hk; exact ⟨A1, B1⟩
    | 1, hk => cases hk; exact ⟨A2, B2⟩
    | 2, hk => cases hk; exact ⟨A3, B3⟩
    | 3, hk => cases hk; exact ⟨A4, B4⟩
    | 4, hk => cases hk; exact ⟨fun N z => ⟨(fun k h => by cases h), k5, f53, comp5, f54⟩, k5, comp5, f53, f54, f51, f55⟩
    | 5, hk => cases hk; exact ⟨fun N z => ⟨(fun k h => by cases h), k6, f63, comp6, f64⟩, f65⟩
    | k + 6, hk => cases hk
  have C : gC (wE (kE (l, D, ar, sA))) 1000 yLaw p room_1 s m #[Value.ref b] meth c (fun q : Nat => s.heap.size ≤ q) := ⟨⟨hx, hb, hml, hown, hW0⟩, ⟨hr, hlocks, htab, hnm⟩, ⟨by show 1000 ≤ 2048; omega, by show 41 * 1000 ≤ 84000; omega⟩, ⟨hKK, hE, hZ, hlt⟩, fun q h => h⟩
  have Ck : gC (kE (l, D, ar, sA)) 1000 yLaw p room_1 s m #[Value.ref b] meth c (fun q : Nat => s.heap.size ≤ q) := C
  have Cm : gC (mE (mg (l, D, ar, sA))) 1000 yLaw p room_1 s m #[Value.ref b] meth c (fun q : Nat => s.heap.size ≤ q) := C
  clear hG G
  have hbA : ¬ (fun q : Nat => s.heap.size ≤ q) b := Nat.not_le.mpr hbl
  have hb : c.code = cL_law := hb
  have hl := lv_entry ([.ref b]) (n := 7) (Nat.le_of_ble_eq_true rfl)
  rw [lg_entry_eq]
  generalize (lg_sl ([.ref b]) ++ List.replicate (7 - (lg_sl ([.ref b])).length) Slot.unset).toArray = ls at hl ⊢
  have hl : lv_has ls 7 [(0, .ref b)] := hl
  have hS : va_S (fun q : Nat => s.heap.size ≤ q) s.heap s.heap [] := va_S.rf
  have hPn : va_P D vwCl [] s.heap := fun k q h => by simp at h
  have hDn : va_D (fun q : Nat => s.heap.size ≤ q) [] := ⟨fun i j p q h => by simp at h, fun k q h => by simp at h⟩
  have gadm : ∀ q : Nat, gad (kE (l, D, ar, sA)) (fun c => if c = 0 then q else sA (c - 900)) := fun q i hi => by
    show (if 900 + i = 0 then q else sA (900 + i - 900)) = sA i
    rw [if_neg (by omega), Nat.add_sub_cancel_left]
  -- the class
  refine L_new (E := kE (l, D, ar, sA)) (y := yLaw) (st := []) Ck hPn hDn hS dlw_0 kn_L_8 (by show 0 + 1 ≤ 600128; omega) (by show 0 + 13 ≤ 7301098; omega) (fun qx H1 hP1 hD1 hS1 => ?_)
  refine lv_dup C.1.1 hb dlw_3 rfl ?_
  have hg0 : gP (kE (l, D, ar, sA)) (znew zq0 0) (fnew fE 0 13) (fun c => if c = 0 then qx else sA (c - 900)) (fun q : Nat => s.heap.size ≤ q) H1 := gP_one (c9 := 0) (ci := 11) (q := qx) (sl := ks_X11) rfl (fun j => rfl) (fun j => rfl) kk_0 (if_pos rfl) (hP1 0 _ rfl) (hD1.2 0 _ rfl) (gadm qx)
  have fr0 : ∀ c ∈ news_0, c ∉ (fnew fE 0 13).2.1 ∧ NR (fnew fE 0 13) c := fun c hc => ⟨fun h => (by decide +kernel : ∀ c ∈ news_0, c ≠ 0) c hc (List.mem_singleton.mp h), fun c' _ j h => by
    have h : (if c' = 0 then none else none) = some c := h
    split at h <;> cases h⟩
  refine L_I (E := kE (l, D, ar, sA)) (y := yLaw) (cr := 0) (restv := [.ref qx]) (ad := fun c => if c = 0 then qx else sA (c - 900)) (QQ := fun x1 f1 => x1 = x00 ∧ f1 = f00) Ck hg0 hS1 hl.1 900 dlw_4 kci_L_99 (by omega) (Nat.le_of_ble_eq_true rfl) (by show (1 : Nat) ≤ 8; omega) (kc_0 (d := 897) List.mem_cons_self fr0 ⟨rfl, rfl, rfl⟩) (fun x1 f1 h => ?_) (fun x1 f1 ak H2 locs2 h hle hex hPk hkp hS2 => ?_)
  · obtain ⟨-, rfl⟩ := h
    rw [f00_c]
    exact ⟨by show 0 + 1 + (66 - 1) ≤ 600128; omega, by show 0 + 13 + (19895 - 13) ≤ 7301098; omega⟩
  obtain ⟨rfl, rfl⟩ := h
  have ak0 : ak 0 = qx := (hex.1 0 List.mem_cons_self).trans (if_pos rfl)
  have hin0 := gA_in (sz := H1.size) hg0 (fun q hq => Nat.le_trans hS1.1 hq)
  have hPc : gP (kE (l, D, ar, sA)) x00 (kf q00) ak (fun q : Nat => s.heap.size ≤ q) H2 := by
    have e1 : gwl (kE (l, D, ar, sA)) x00 (kf q00) ak = gwl (kE (l, D, ar, sA)) x00 f00 ak := gwl_rf f00_L.symm (fun c hc k g1 g2 => f00_r (by rw [f00_L] at hc; exact hc) g1 g2)
    have h9 := gP_w hPk hin0
    exact ⟨⟨by rw [e1]; exact h9.1.1, by rw [e1]; exact h9.1.2⟩, h9.2⟩
  rw [f00_c]
  show W p l e room_1 s m #[Value.ref b] below meth c H2 locs2 (0 + 1 + (66 - 1)) (0 + 13 + (19895 - 13)) _ _
  refine lv_astore_n (x := qx) (lv' := [(1, .ref qx), (0, .ref b)]) C.1.1 hb dlw_7 rfl hl (by decide) rfl (fun ls hl => ?_)
  -- the model
  refine L_new (E := kE (l, D, ar, sA)) (y := yLaw) (st := []) Ck hPc.1.1 hPc.1.2 hS2 dlw_8 kn_L_100 (by show 0 + 1 + (66 - 1) + 1 ≤ 600128; omega) (by show 0 + 13 + (19895 - 13) + 139 ≤ 7301098; omega) (fun qm H3 hP3 hD3 hS3 => ?_)
  refine lv_dup C.1.1 hb dlw_11 rfl ?_
  obtain ⟨ws, hws⟩ : ∃ ws, ws = gwl (kE (l, D, ar, sA)) x00 (kf q00) ak := ⟨_, rfl⟩
  rw [← hws] at hP3 hD3
  have lw : (ws ++ [(qm, .inr (12, nul msl))])[ws.length]? = some (qm, .inr (12, nul msl)) := by rw [List.getElem?_append_right (Nat.le_refl _), Nat.sub_self]; rfl
  have l1 : ∀ (k : Nat) (q : Nat × va_E), ws[k]? = some q → (ws ++ [(qm, .inr (12, nul msl))])[k]? = some q := fun k q hk => by
    rw [List.getElem?_append_left (List.getElem?_eq_some_iff.mp hk).1]; exact hk
  have hg1 : gP (mE (mg (l, D, ar, sA))) zq0 (mSv [] 0 0) (fun c => if c = 0 then qm else sA (c - 900)) (fun q : Nat => s.heap.size ≤ q) H3 := gP_one (c9 := 0) (ci := 12) (q := qm) (sl := msl) rfl (fun j => rfl) (fun j => rfl) mk_0 (if_pos rfl) (hP3 _ _ lw) (hD3.2 _ _ lw) (gadm qm)
  have hPc3 : gP (kE (l, D, ar, sA)) x00 (kf q00) ak (fun q : Nat => s.heap.size ≤ q) H3 := ⟨⟨by rw [← hws]; exact fun k q hk => hP3 k q (l1 k q hk), by rw [← hws]; exact ⟨fun i j p9 q9 hi hj e9 => hD3.1 i j p9 q9 (l1 i p9 hi) (l1 j q9 hj) e9, fun k q hk => hD3.2 k q (l1 k q hk)⟩⟩, hPc.2⟩
  have hd3 : gdis (mSv [] 0 0) (fun c => if c = 0 then qm else sA (c - 900)) (kf q00) ak := fun c1 hc1 c' hc' e9 => by
    have : c1 = 0 := List.mem_singleton.mp hc1
    subst this
    obtain ⟨i9, -, hi9⟩ := gwl_at (E := kE (l, D, ar, sA)) (x := x00) (f := kf q00) (ad := ak) hc'
    rw [← hws] at hi9
    have := hD3.1 _ _ _ _ lw (l1 i9 _ hi9) (by show qm = ak c'; have e9 : (if (0 : Nat) = 0 then qm else sA (0 - 900)) = ak c' := e9; rw [if_pos rfl] at e9; exact e9)
    have := (List.getElem?_eq_some_iff.mp hi9).1
    omega
  refine L_I (E := mE (mg (l, D, ar, sA))) (y := yLaw) (cr := 0) (restv := [.ref qm]) (ad := fun c => if c = 0 then qm else sA (c - 900)) (QQ := fun x1 f1 => x1 = z1 ∧ f1 = mSv mAll (0 + 98) (0 + 948697)) Cm hg1 hS3 hl.1 900 dlw_12 kci_L_102 (by omega) (Nat.le_of_ble_eq_true rfl) (by show (1 : Nat) ≤ 8; omega) (mi_all (d := 899) ⟨rfl, rfl, rfl⟩) (fun x1 f1 h => ?_) (fun x1 f1 am H4 locs4 h hle4 hex4 hPm hkp4 hS4 => ?_)
  · obtain ⟨-, rfl⟩ := h
    exact ⟨by show 0 + 1 + (66 - 1) + 1 + (0 + 98 - 0) ≤ 600128; omega, by show 0 + 13 + (19895 - 13) + 139 + (0 + 948697 - 0) ≤ 7301098; omega⟩
  obtain ⟨rfl, rfl⟩ := h
  have am0 : am 0 = qm := (hex4.1 0 List.mem_cons_self).trans (if_pos rfl)
  have hin4 := gA_in (sz := H3.size) hg1 (fun q hq => Nat.le_trans hS3.1 hq)
  obtain ⟨hPc4, hd4⟩ := keep2 hPc3 hd3 hkp4 hPm
  have hPm4 : gP (mE (mg (l, D, ar, sA))) z1 (mf (mg (l, D, ar, sA))) am (fun q : Nat => s.heap.size ≤ q) H4 := by
    have h9 := gP_w hPm hin4
    exact ⟨⟨by rw [m_gwl]; exact h9.1.1, by rw [m_gwl]; exact h9.1.2⟩, h9.2⟩
  have hd5 : gdis (mf (mg (l, D, ar, sA))) am (kf q00) ak := fun c1 hc1 c' hc' => hd4 c1 ((by decide +kernel : ∀ c ∈ mL, c ∈ 0 :: mAll.reverse.map (· + 1)) c1 hc1) c' hc'
  show W p l e room_1 s m #[Value.ref b] below meth c H4 locs4 (0 + 1 + (66 - 1) + 1 + (0 + 98 - 0)) (0 + 13 + (19895 - 13) + 139 + (0 + 948697 - 0)) _ _
  refine lv_astore_n (x := qm) (lv' := [(2, .ref qm), (1, .ref qx), (0, .ref b)]) C.1.1 hb dlw_15 rfl hl (by decide) rfl (fun ls hl => ?_)
  -- the long
  refine lv_iconst (v := 1) C.1.1 hb dlw_16 (by decide +kernel) ?_
  have hall : va_P D vwCl (gwl (kE (l, D, ar, sA)) x00 (kf q00) ak ++ gwl (mE (mg (l, D, ar, sA))) z1 (mf (mg (l, D, ar, sA))) am) H4 := hPc4.1.1.app hPm4.1.1
  have hallD : va_D (fun q : Nat => s.heap.size ≤ q) (gwl (kE (l, D, ar, sA)) x00 (kf q00) ak ++ gwl (mE (mg (l, D, ar, sA))) z1 (mf (mg (l, D, ar, sA))) am) := hPc4.1.2.app hPm4.1.2 (fun i j p9 q9 hi hj e9 => by
    obtain ⟨c1, hc1, rfl⟩ := gwl_in hi
    obtain ⟨c2, hc2, rfl⟩ := gwl_in hj
    exact hd5 c2 (List.mem_of_getElem? hc2) c1 (List.mem_of_getElem? hc1) e9.symm)
  obtain ⟨wk, hwk⟩ : ∃ ws, ws = gwl (kE (l, D, ar, sA)) x00 (kf q00) ak := ⟨_, rfl⟩
  obtain ⟨wm, hwm⟩ : ∃ ws, ws = gwl (mE (mg (l, D, ar, sA))) z1 (mf (mg (l, D, ar, sA))) am := ⟨_, rfl⟩
  rw [← hwk, ← hwm] at hall hallD
  refine va_newa (atype := .long) (ty := .long) (a0 := (1, .inr (.inl (fun _ => 0)))) (N' := 1) (n := 1) C.1.1 hb (hW0 _ (show Cond.arrayClass (newarray.typeOf .long) ∈ W0 from aL_W)) rfl hKK hall hallD hS4 (fun q h => h) (fun cA => rfl) (by decide) (by decide) (by decide) (by show 0 + 1 + (66 - 1) + 1 + (0 + 98 - 0) + 1 ≤ 600128; omega) (by show 0 + 13 + (19895 - 13) + 139 + (0 + 948697 - 0) + 1 ≤ 7301098; omega) dlw_17 (fun qo cA H5 hK5 hP5 hD5 hS5 => ?_)
  have hcA : cA = ar .long := cA_eq (E := kE (l, D, ar, sA)) (t0 := 3) hKK hK5 rfl
  have lo : (wk ++ wm ++ [(qo, .inl (cA, 1, .inr (.inl (fun _ => 0))))])[(wk ++ wm).length]? = some (qo, .inl (cA, 1, .inr (.inl (fun _ => 0)))) := by rw [List.getElem?_append_right (Nat.le_refl _), Nat.sub_self]; rfl
  have l5k : ∀ (k : Nat) (q : Nat × va_E), wk[k]? = some q → (wk ++ wm ++ [(qo, .inl (cA, 1, .inr (.inl (fun _ => 0))))])[k]? = some q := fun k q hk => by
    have h1 := (List.getElem?_eq_some_iff.mp hk).1
    rw [List.getElem?_append_left (by rw [List.length_append]; omega), List.getElem?_append_left h1]; exact hk
  have l5m : ∀ (k : Nat) (q : Nat × va_E), wm[k]? = some q → (wk ++ wm ++ [(qo, .inl (cA, 1, .inr (.inl (fun _ => 0))))])[wk.length + k]? = some q := fun k q hk => by
    have h1 := (List.getElem?_eq_some_iff.mp hk).1
    rw [List.getElem?_append_left (by rw [List.length_append]; omega), List.getElem?_append_right (by omega), Nat.add_sub_cancel_left]; exact hk
  have hPk5 : gP (kE (l, D, ar, sA)) x00 (kf q00) ak (fun q : Nat => s.heap.size ≤ q) H5 := ⟨⟨by rw [← hwk]; exact fun k q hk => hP5 k q (l5k k q hk), by rw [← hwk]; exact ⟨fun i j p9 q9 hi hj e9 => hD5.1 i j p9 q9 (l5k i p9 hi) (l5k j q9 hj) e9, fun k q hk => hD5.2 k q (l5k k q hk)⟩⟩, hPc4.2⟩
  have hPm5 : gP (mE (mg (l, D, ar, sA))) z1 (mf (mg (l, D, ar, sA))) am (fun q : Nat => s.heap.size ≤ q) H5 := ⟨⟨by rw [← hwm]; exact fun k q hk => hP5 _ q (l5m k q hk), by rw [← hwm]; exact ⟨fun i j p9 q9 hi hj e9 => by have := hD5.1 _ _ p9 q9 (l5m i p9 hi) (l5m j q9 hj) e9; omega, fun k q hk => hD5.2 _ q (l5m k q hk)⟩⟩, hPm4.2⟩
  have n9 : 299 ∉ (kf q00).2.1 := n299 q00_U
  obtain ⟨ax, hax⟩ : ∃ ax : Nat → Nat, ax = fun c => if c = 299 then qo else ak c := ⟨_, rfl⟩
  have axk : ∀ c ∈ (kf q00).2.1, ax c = ak c := fun c hc => by rw [hax]; exact if_neg (fun e : c = 299 => n9 (e ▸ hc))
  have ax9 : ax 299 = qo := by rw [hax]; exact if_pos rfl
  have axg : gad (kE (l, D, ar, sA)) ax := fun i hi => by
    rw [hax]
    show (if 900 + i = 299 then qo else ak (900 + i)) = _
    rw [if_neg (by omega)]; exact hPk5.2 i hi
  have hPx : gP (kE (l, D, ar, sA)) x00 (kf q00) ax (fun q : Nat => s.heap.size ≤ q) H5 := by
    have e1 : gwl (kE (l, D, ar, sA)) x00 (kf q00) ax = gwl (kE (l, D, ar, sA)) x00 (kf q00) ak := gwl_ag rfl (fun _ _ => rfl) rfl (fun _ _ => rfl) (fun _ _ => rfl) axk (fun c hc j => by
      cases hr9 : (kf q00).1 c j with
      | none => rfl
      | some b9 => show some (ax b9) = some (ak b9); rw [axk b9 (kU_cl q00_U hc hr9)])
    exact ⟨⟨by rw [e1]; exact hPk5.1.1, by rw [e1]; exact hPk5.1.2⟩, axg⟩
  have hPO : gP (wE (kE (l, D, ar, sA))) x00 (fO (kf q00)) ax (fun q : Nat => s.heap.size ≤ q) H5 := by
    have e1 : gwl (wE (kE (l, D, ar, sA))) x00 (fO (kf q00)) ax = [(qo, .inl (cA, 1, .inr (.inl (fun _ => 0))))] := by
      show [(ax 299, gce (wE (kE (l, D, ar, sA))) x00 (fO (kf q00)) ax 299)] = _
      rw [ax9, gce_arr (n := 1) (ty := .long) wE_9, hcA]
      show [(qo, Sum.inl (ar .long, 1, Sum.inr (Sum.inl (x00.2 299))))] = _
      rw [show x00.2 299 = fun _ => 0 from rfl]
    have one : ∀ (k : Nat) (q9 : Nat × va_E), ([(qo, .inl (cA, 1, .inr (.inl (fun _ => 0))))] : va_W)[k]? = some q9 → k = 0 ∧ q9 = (qo, .inl (cA, 1, .inr (.inl (fun _ => 0)))) := fun k q9 hk => by
      have hz : k < 1 := (List.getElem?_eq_some_iff.mp hk).1
      have hz : k = 0 := by omega
      subst hz
      cases hk
      exact ⟨rfl, rfl⟩
    refine ⟨⟨?_, ?_⟩, axg⟩
    · rw [e1]
      intro k q9 hk
      obtain ⟨-, rfl⟩ := one k q9 hk
      exact hP5 _ _ lo
    · rw [e1]
      refine ⟨fun i j p9 q9 hi hj _ => by have := (one i p9 hi).1; have := (one j q9 hj).1; omega, fun k q9 hk => ?_⟩
      obtain ⟨-, rfl⟩ := one k q9 hk
      exact hD5.2 _ _ lo
  have nqo : ∀ c ∈ (kf q00).2.1, ak c ≠ qo := fun c hc e9 => by
    obtain ⟨i9, -, hi9⟩ := gwl_at (E := kE (l, D, ar, sA)) (x := x00) (f := kf q00) (ad := ak) hc
    rw [← hwk] at hi9
    have := hD5.1 _ _ _ _ (l5k i9 _ hi9) lo e9
    have := (List.getElem?_eq_some_iff.mp hi9).1
    rw [List.length_append] at *
    omega
  have nqm : ∀ c ∈ mL, am c ≠ qo := fun c hc e9 => by
    obtain ⟨i9, -, hi9⟩ := gwl_at (E := mE (mg (l, D, ar, sA))) (x := z1) (f := mf (mg (l, D, ar, sA))) (ad := am) hc
    rw [← hwm] at hi9
    have := hD5.1 _ _ _ _ (l5m i9 _ hi9) lo e9
    have := (List.getElem?_eq_some_iff.mp hi9).1
    rw [List.length_append] at *
    omega
  have hLI : LI (l, D, ar, sA) (fun q : Nat => s.heap.size ≤ q) H5 x00 q00 z1 qx qm qo := by
    refine ⟨ax, am, fo_gl n9 hPx hPO (fun c1 hc1 c' hc' => ?_), hPm5, fun c1 hc1 c' hc' => ?_, ?_, ax9, am0⟩
    · rw [List.mem_singleton.mp hc', axk c1 hc1, ax9]; exact nqo c1 hc1
    · rcases List.mem_append.mp hc1 with h | h
      · rw [axk c1 h]; exact fun e9 => hd5 c' hc' c1 h e9.symm
      · rw [List.mem_singleton.mp h, ax9]; exact fun e9 => nqm c' hc' e9.symm
    · rw [axk 0 List.mem_cons_self]; exact ak0
  refine lv_astore_n (x := qo) (lv' := [(3, .ref qo), (2, .ref qm), (1, .ref qx), (0, .ref b)]) C.1.1 hb dlw_19 rfl hl (by decide) rfl (fun ls hl => ?_)
  refine lv_iconst (v := 0) C.1.1 hb dlw_20 (by decide +kernel) ?_
  refine lv_istore (lv' := [(4, .int 0), (3, .ref qo), (2, .ref qm), (1, .ref qx), (0, .ref b)]) C.1.1 hb dlw_21 hl (by decide) rfl (fun ls hl => ?_)
  refine W.widen (k := 66 + 200) (n := 19895 + 960000) (by omega) (by omega) ?_
  exact law_loop (G := (l, D, ar, sA)) C rfl hX hbl hbA hL 64 0 0 x00 q00 z1 H5 locs4 ls (by omega) rfl hLI ⟨q00_U, x00_H, z1_M, JR3_z (JR_wipe (by decide +kernel) (by decide +kernel) rfl rfl ⟨rfl, rfl, rfl, rfl, rfl⟩) ⟨by decide +kernel, fun o hO => by rcases hO with e | e <;> rw [e] <;> decide +kernel⟩ ⟨rfl, rfl, rfl⟩, by show 66 ≤ _; omega, by show 19895 ≤ _; omega⟩ hS5 hl
end
section
/-! the premises of the claim, read off -/
def fA : Cond → List Cond → List Cond
  | .and a b, k => fA a (fA b k)
  | c, k => c :: k
theorem fA_eq : ∀ (c : Cond) (k : List Cond), flatC c ++ k = fA c k
  | .and a b, k => by rw [flatC, fA, List.append_assoc, fA_eq b k, fA_eq a]
  | c, k => by cases c <;> first | rfl | (rename_i a b; rw [flatC, fA, List.append_assoc, fA_eq b k, fA_eq a])
theorem fA_mem {c d : Cond} (h : d ∈ fA c []) : d ∈ flatC c := by rw [← fA_eq, List.append_nil] at h; exact h
theorem fA_at {c d : Cond} (i : Nat) (h : (fA c [])[i]? = some d) : d ∈ flatC c := fA_mem (List.mem_of_getElem? h)
theorem st_txt {args : Array Value} {s : State} {own : String} {k : Nat} {t : String} (h1 : (Cond.stringRef own k t).before args s = true) (h2 : (Cond.exactly (Term.string own k) "java/lang/String").before args s = true) : ∃ a : Nat, vk_R own k t a s := by
  obtain ⟨b', cB, cellB, kB, hb, -⟩ := Cond.exactly_spec h2
  exact ⟨b', vk_R.of h1 hb⟩
theorem nx_X11_72 {args : Array Value} {s : State} (hs : ∀ c ∈ flatC (Jvm.Cond.and given_1 narrow_1), c.before args s = true) : (Cond.exactly (Term.string "ScheduleHouse" 72) "java/lang/String").before args s = true := hs _ (fA_at 308 (by decide +kernel))
theorem nx_X11_80 {args : Array Value} {s : State} (hs : ∀ c ∈ flatC (Jvm.Cond.and given_1 narrow_1), c.before args s = true) : (Cond.exactly (Term.string "ScheduleHouse" 80) "java/lang/String").before args s = true := hs _ (fA_at 329 (by decide +kernel))
theorem nx_X7_104 {args : Array Value} {s : State} (hs : ∀ c ∈ flatC (Jvm.Cond.and given_1 narrow_1), c.before args s = true) : (Cond.exactly (Term.string "ScheduleHouse$Reader" 104) "java/lang/String").before args s = true := hs _ (fA_at 284 (by decide +kernel))
theorem nx_X11_129 {args : Array Value} {s : State} (hs : ∀ c ∈ flatC (Jvm.Cond.and given_1 narrow_1), c.before args s = true) : (Cond.exactly (Term.string "ScheduleHouse" 129) "java/lang/String").before args s = true := hs _ (fA_at 356 (by decide +kernel))
theorem nx_X11_189 {args : Array Value} {s : State} (hs : ∀ c ∈ flatC (Jvm.Cond.and given_1 narrow_1), c.before args s = true) : (Cond.exactly (Term.string "ScheduleHouse" 189) "java/lang/String").before args s = true := hs _ (fA_at 481 (by decide +kernel))
theorem nx_X11_195 {args : Array Value} {s : State} (hs : ∀ c ∈ flatC (Jvm.Cond.and given_1 narrow_1), c.before args s = true) : (Cond.exactly (Term.string "ScheduleHouse" 195) "java/lang/String").before args s = true := hs _ (fA_at 515 (by decide +kernel))
theorem nx_X11_198 {args : Array Value} {s : State} (hs : ∀ c ∈ flatC (Jvm.Cond.and given_1 narrow_1), c.before args s = true) : (Cond.exactly (Term.string "ScheduleHouse" 198) "java/lang/String").before args s = true := hs _ (fA_at 546 (by decide +kernel))
theorem nx_X11_276 {args : Array Value} {s : State} (hs : ∀ c ∈ flatC (Jvm.Cond.and given_1 narrow_1), c.before args s = true) : (Cond.exactly (Term.string "ScheduleHouse" 276) "java/lang/String").before args s = true := hs _ (fA_at 593 (by decide +kernel))
theorem nx_X11_292 {args : Array Value} {s : State} (hs : ∀ c ∈ flatC (Jvm.Cond.and given_1 narrow_1), c.before args s = true) : (Cond.exactly (Term.string "ScheduleHouse" 292) "java/lang/String").before args s = true := hs _ (fA_at 626 (by decide +kernel))
theorem nx_X11_340 {args : Array Value} {s : State} (hs : ∀ c ∈ flatC (Jvm.Cond.and given_1 narrow_1), c.before args s = true) : (Cond.exactly (Term.string "ScheduleHouse" 340) "java/lang/String").before args s = true := hs _ (fA_at 665 (by decide +kernel))
theorem nx_X11_342 {args : Array Value} {s : State} (hs : ∀ c ∈ flatC (Jvm.Cond.and given_1 narrow_1), c.before args s = true) : (Cond.exactly (Term.string "ScheduleHouse" 342) "java/lang/String").before args s = true := hs _ (fA_at 698 (by decide +kernel))
theorem nx_X11_384 {args : Array Value} {s : State} (hs : ∀ c ∈ flatC (Jvm.Cond.and given_1 narrow_1), c.before args s = true) : (Cond.exactly (Term.string "ScheduleHouse" 384) "java/lang/String").before args s = true := hs _ (fA_at 376 (by decide +kernel))
theorem nx_X11_386 {args : Array Value} {s : State} (hs : ∀ c ∈ flatC (Jvm.Cond.and given_1 narrow_1), c.before args s = true) : (Cond.exactly (Term.string "ScheduleHouse" 386) "java/lang/String").before args s = true := hs _ (fA_at 425 (by decide +kernel))
theorem nx_X11_388 {args : Array Value} {s : State} (hs : ∀ c ∈ flatC (Jvm.Cond.and given_1 narrow_1), c.before args s = true) : (Cond.exactly (Term.string "ScheduleHouse" 388) "java/lang/String").before args s = true := hs _ (fA_at 404 (by decide +kernel))
theorem nx_X11_390 {args : Array Value} {s : State} (hs : ∀ c ∈ flatC (Jvm.Cond.and given_1 narrow_1), c.before args s = true) : (Cond.exactly (Term.string "ScheduleHouse" 390) "java/lang/String").before args s = true := hs _ (fA_at 451 (by decide +kernel))
theorem nn_0 {args : Array Value} {s : State} (hs : ∀ c ∈ flatC (Jvm.Cond.and given_1 narrow_1), c.before args s = true) : (Cond.not (.castable iAE iSE)).before args s = true := hs _ (fA_at 21 (by decide +kernel))
theorem nn_1 {args : Array Value} {s : State} (hs : ∀ c ∈ flatC (Jvm.Cond.and given_1 narrow_1), c.before args s = true) : (Cond.not (.castable iOE iSE)).before args s = true := hs _ (fA_at 22 (by decide +kernel))
theorem nn_2 {args : Array Value} {s : State} (hs : ∀ c ∈ flatC (Jvm.Cond.and given_1 narrow_1), c.before args s = true) : (Cond.not (.castable iOE iAE)).before args s = true := hs _ (fA_at 37 (by decide +kernel))
theorem nn_3 {args : Array Value} {s : State} (hs : ∀ c ∈ flatC (Jvm.Cond.and given_1 narrow_1), c.before args s = true) : (Cond.not (.castable iSE iAE)).before args s = true := hs _ (fA_at 36 (by decide +kernel))
theorem nn_4 {args : Array Value} {s : State} (hs : ∀ c ∈ flatC (Jvm.Cond.and given_1 narrow_1), c.before args s = true) : (Cond.not (.castable iSE iOE)).before args s = true := hs _ (fA_at 52 (by decide +kernel))
theorem nn_5 {args : Array Value} {s : State} (hs : ∀ c ∈ flatC (Jvm.Cond.and given_1 narrow_1), c.before args s = true) : (Cond.not (.castable iAE iOE)).before args s = true := hs _ (fA_at 51 (by decide +kernel))
theorem nz_UNASSIGNED_STACK {args : Array Value} {s : State} (hs : ∀ c ∈ flatC (Jvm.Cond.and given_1 narrow_1), c.before args s = true) : (Cond.isRef (.static Bundle.tN "UNASSIGNED_STACK" Bundle.steD)).before args s = true := hs _ (fA_at 9 (by decide +kernel))
theorem nz_SUPPRESSED_SENTINEL {args : Array Value} {s : State} (hs : ∀ c ∈ flatC (Jvm.Cond.and given_1 narrow_1), c.before args s = true) : (Cond.isRef (.static Bundle.tN "SUPPRESSED_SENTINEL" Bundle.listD)).before args s = true := hs _ (fA_at 10 (by decide +kernel))
theorem nz_CS {args : Array Value} {s : State} (hs : ∀ c ∈ flatC (Jvm.Cond.and given_1 narrow_1), c.before args s = true) : (Cond.eq (.static "java/lang/String" "COMPACT_STRINGS" "Z") (.int 1)).before args s = true := hs _ (fA_at 4 (by decide +kernel))
theorem nz_FM {args : Array Value} {s : State} (hs : ∀ c ∈ flatC (Jvm.Cond.and given_1 narrow_1), c.before args s = true) : (Cond.isRef (.static "jdk/internal/util/Preconditions" "SIOOBE_FORMATTER" "Ljava/util/function/BiFunction;")).before args s = true := hs _ (fA_at 5 (by decide +kernel))
def tmS (i : Nat) : Term := if i = 0 then (Term.string "ScheduleHouse$Tokens" 79) else (Term.string "ScheduleHouseModel" 326)
theorem sx_0 {args : Array Value} {s : State} (hs : ∀ c ∈ flatC (Jvm.Cond.and given_1 narrow_1), c.before args s = true) : (Cond.exactly (Term.string "ScheduleHouse$Tokens" 79) "java/lang/String").before args s = true := hs _ (fA_at 56 (by decide +kernel))
theorem sc_0 {args : Array Value} {s : State} (hs : ∀ c ∈ flatC (Jvm.Cond.and given_1 narrow_1), c.before args s = true) : (Cond.eq (.field (Term.string "ScheduleHouse$Tokens" 79) "java/lang/String" "coder" "B") (.int 0)).before args s = true := hs _ (fA_at 57 (by decide +kernel))
theorem sb_0 {args : Array Value} {s : State} (hs : ∀ c ∈ flatC (Jvm.Cond.and given_1 narrow_1), c.before args s = true) : (Cond.arrayOf (.field (Term.string "ScheduleHouse$Tokens" 79) "java/lang/String" "value" "[B") .byte).before args s = true := hs _ (fA_at 58 (by decide +kernel))
theorem sl_0 {args : Array Value} {s : State} (hs : ∀ c ∈ flatC (Jvm.Cond.and given_1 narrow_1), c.before args s = true) : (Cond.eq (.length (.field (Term.string "ScheduleHouse$Tokens" 79) "java/lang/String" "value" "[B")) (.int 224)).before args s = true := hs _ (fA_at 59 (by decide +kernel))
set_option maxRecDepth 100000 in
theorem sk_0 : ((fA (Jvm.Cond.and given_1 narrow_1) []).drop 60).take 224 = (List.range 224).map (fun j => Cond.eq (.elem (.field (Term.string "ScheduleHouse$Tokens" 79) "java/lang/String" "value" "[B") (.int (Int32.ofNat j))) (.int ((es_byt.getD 0 []).getD j 0))) := by decide +kernel
theorem se_0 (j : Nat) (hj : j < 224) : (Cond.eq (.elem (.field (Term.string "ScheduleHouse$Tokens" 79) "java/lang/String" "value" "[B") (.int (Int32.ofNat j))) (.int ((es_byt.getD 0 []).getD j 0))) ∈ flatC (Jvm.Cond.and given_1 narrow_1) := fA_mem (List.mem_of_mem_drop (List.mem_of_mem_take (sk_0 ▸ List.mem_map.mpr ⟨j, List.mem_range.mpr hj, rfl⟩)))
theorem sx_1 {args : Array Value} {s : State} (hs : ∀ c ∈ flatC (Jvm.Cond.and given_1 narrow_1), c.before args s = true) : (Cond.exactly (Term.string "ScheduleHouseModel" 326) "java/lang/String").before args s = true := hs _ (fA_at 749 (by decide +kernel))
theorem sc_1 {args : Array Value} {s : State} (hs : ∀ c ∈ flatC (Jvm.Cond.and given_1 narrow_1), c.before args s = true) : (Cond.eq (.field (Term.string "ScheduleHouseModel" 326) "java/lang/String" "coder" "B") (.int 0)).before args s = true := hs _ (fA_at 750 (by decide +kernel))
theorem sb_1 {args : Array Value} {s : State} (hs : ∀ c ∈ flatC (Jvm.Cond.and given_1 narrow_1), c.before args s = true) : (Cond.arrayOf (.field (Term.string "ScheduleHouseModel" 326) "java/lang/String" "value" "[B") .byte).before args s = true := hs _ (fA_at 751 (by decide +kernel))
theorem sl_1 {args : Array Value} {s : State} (hs : ∀ c ∈ flatC (Jvm.Cond.and given_1 narrow_1), c.before args s = true) : (Cond.eq (.length (.field (Term.string "ScheduleHouseModel" 326) "java/lang/String" "value" "[B")) (.int 165)).before args s = true := hs _ (fA_at 752 (by decide +kernel))
set_option maxRecDepth 100000 in
theorem sk_1 : ((fA (Jvm.Cond.and given_1 narrow_1) []).drop 753).take 165 = (List.range 165).map (fun j => Cond.eq (.elem (.field (Term.string "ScheduleHouseModel" 326) "java/lang/String" "value" "[B") (.int (Int32.ofNat j))) (.int ((es_byt.getD 1 []).getD j 0))) := by decide +kernel
theorem se_1 (j : Nat) (hj : j < 165) : (Cond.eq (.elem (.field (Term.string "ScheduleHouseModel" 326) "java/lang/String" "value" "[B") (.int (Int32.ofNat j))) (.int ((es_byt.getD 1 []).getD j 0))) ∈ flatC (Jvm.Cond.and given_1 narrow_1) := fA_mem (List.mem_of_mem_drop (List.mem_of_mem_take (sk_1 ▸ List.mem_map.mpr ⟨j, List.mem_range.mpr hj, rfl⟩)))
theorem sn_01 {args : Array Value} {s : State} (hs : ∀ c ∈ flatC (Jvm.Cond.and given_1 narrow_1), c.before args s = true) : (Cond.not (Cond.eq (Term.string "ScheduleHouse$Tokens" 79) (Term.string "ScheduleHouseModel" 326))).before args s = true ∨ (Cond.not (Cond.eq (Term.string "ScheduleHouseModel" 326) (Term.string "ScheduleHouse$Tokens" 79))).before args s = true := Or.inl (hs _ (fA_at 918 (by decide +kernel)))
theorem st_S {args : Array Value} {s : State} (hs : ∀ c ∈ flatC (Jvm.Cond.and given_1 narrow_1), c.before args s = true) : ∃ adK adV : Nat → Nat, vk_S 2 es_len es_byt adK adV (fun q : Nat => s.heap.size ≤ q) s s.heap ∧ ∀ i : Nat, i < 2 → (tmS i).eval args s none [] s = some (.ref (adK i)) := by
  refine vk_Sof (tm := tmS) (fun i hi => ?_) (fun i hi => by
    have : i = 0 ∨ i = 1 := by omega
    rcases this with rfl | rfl
    · exact sx_0 hs
    · exact sx_1 hs) (fun i hi => by
    have : i = 0 ∨ i = 1 := by omega
    rcases this with rfl | rfl
    · exact sc_0 hs
    · exact sc_1 hs) (fun i hi => by
    have : i = 0 ∨ i = 1 := by omega
    rcases this with rfl | rfl
    · exact sb_0 hs
    · exact sb_1 hs) (fun i hi => ?_) (fun i hi j hj => ?_) (fun i j hi hj hne => ?_) (fun a h => Nat.not_le.mpr h)
  · have : i = 0 ∨ i = 1 := by omega
    rcases this with rfl | rfl
    · rw [es_l0]; decide
    · rw [es_l1]; decide
  · have : i = 0 ∨ i = 1 := by omega
    rcases this with rfl | rfl
    · rw [es_l0]; exact sl_0 hs
    · rw [es_l1]; exact sl_1 hs
  · have : i = 0 ∨ i = 1 := by omega
    rcases this with rfl | rfl
    · rw [es_l0] at hj; exact hs _ (se_0 j hj)
    · rw [es_l1] at hj; exact hs _ (se_1 j hj)
  · have h1 : i = 0 ∨ i = 1 := by omega
    have h2 : j = 0 ∨ j = 1 := by omega
    rcases h1 with rfl | rfl <;> rcases h2 with rfl | rfl
    · exact absurd rfl hne
    · exact sn_01 hs
    · exact (sn_01 hs).symm
    · exact absurd rfl hne
end
