section
/-! the two lists of words: texts whose bytes are known (cells 900, 901; their bytes 902, 903); length, charAt -/
/-- the byte, the char at k of text i -/
def cby (i k : Nat) : Int32 := (es_byt.getD i []).getD k 0
def cch (i k : Nat) : Int32 := ((cby i k &&& 255).toUInt32 % 65536).toInt32
theorem nar_char (v : Int32) : narrow .char (.int ((v.toUInt32 % 65536).toInt32)) = .int ((v.toUInt32 % 65536).toInt32) := by
  show Value.int (((v.toUInt32 % 65536).toInt32.toUInt32 % 65536).toInt32) = _
  have e : (v.toUInt32 % 65536).toInt32.toUInt32 = v.toUInt32 % 65536 := by simp
  rw [e]
  congr 2
  apply UInt32.toNat_inj.mp
  simp
section SSR
variable {p : Program} {l : Launch} {e : Env} {R : Room} {s : State} {m : MethodId} {args : Array Value} {below : List Frame} {meth : Method} {c : Code} {H : Heap} {locs : List Loc} {cells slots : Nat} {Q : State → Prop}
variable {cc : ByteArray} {pc : Nat} {ls : Array Slot} {rest : List Value}
theorem va_ldcwS (hexec : p.tables.exec = Jvm.exec) (hb : c.code = cc) {own tx : String} {index q : Nat} (hown : s.vm.findClass own = some m.cls) (hZ : vk_R own index tx q s) (hdg : decode cc pc = .ok (.ldc_w index, 3))
    (k : W p l e R s m args below meth c H locs cells slots Q (F0 m (pc + 3) ls (.ref q :: rest))) : W p l e R s m args below meth c H locs cells slots Q (F0 m pc ls rest) := by
  intro T hT X
  obtain ⟨t, a1, b1⟩ := k T hT X
  refine ⟨t, ?_, b1⟩
  obtain ⟨k, cf, i, a', hk, hcf, hcp, -, hr, hev'⟩ := Cond.stringRef_spec hown hZ.1
  cases hZ.2.symm.trans hev'
  obtain ⟨k', hk', he⟩ := X.warmed.alike.2.2 _ _ hk
  have hr' : k'.resolved[index]? = some (some (.string q)) := by
    rcases X.warmed.entry hk hk' index with h | ⟨h, -⟩
    · rw [h]; exact hr
    · rw [hr] at h; cases h
  have hdg2 : decode c.code (F0 m pc ls rest).pc = .ok (.ldc_w index, 3) := by rw [hb]; exact hdg
  jvm_step X.here [hexec, hdg2, ldc_w.wp_string (e := e) (s := T) (f := F0 m pc ls rest) X.here.top hk' (by rw [he]; exact hcf) hcp hr']
  exact a1
end SSR
section SST
variable {E : gE} {d : Nat} {y : gy} {pc : Nat} {lv : List (Nat × gv)} {st : List gv} {x : gd} {f : gf} {Q : gr → gd → gf → Prop}
theorem T_ldcwS (i : Nat) {idx : Nat} {tx : String} (hi : i < 2) (hd : decode y.2.1 pc = .ok (.ldc_w idx, 3)) (h : es_txt[i]? = some (y.1.cls, idx, tx)) (k : T E d y (pc + 3) lv (vr (900 + i) :: st) x f Q) : T E d y pc lv st x f Q :=
  T_step (fun p e R s m args below meth c A H locs cells slots ls ad Q9 C hP hS hl kk => by
    refine va_ldcwS C.1.1 C.1.2.1 C.1.2.2.2.1 (C.2.2.2.1.2.2.1.2.2 i _ h) hd ?_
    have := kk ls hl
    rw [← hP.2 i (by omega)]
    exact this) k
theorem T_ldcS (i : Nat) {idx : Nat} {tx : String} (hi : i < 2) (hd : decode y.2.1 pc = .ok (.ldc idx, 2)) (h : es_txt[i]? = some (y.1.cls, idx, tx)) (k : T E d y (pc + 2) lv (vr (900 + i) :: st) x f Q) : T E d y pc lv st x f Q :=
  T_step (fun p e R s m args below meth c A H locs cells slots ls ad Q9 C hP hS hl kk => by
    refine va_ldcS C.1.1 C.1.2.1 C.1.2.2.2.1 (C.2.2.2.1.2.2.1.2.2 i _ h) hd ?_
    have := kk ls hl
    rw [← hP.2 i (by omega)]
    exact this) k
theorem T_getSV (i : Nat) {idx : Nat} (hi : i < 2) (hd : decode y.2.1 pc = .ok (.getfield idx, 3)) (hw : Cond.fieldLink y.1.cls idx "java/lang/String" "value" "[B" ∈ W0) (k : T E d y (pc + 3) lv (vr (902 + i) :: st) x f Q) : T E d y pc lv (vr (900 + i) :: st) x f Q :=
  T_step (fun p e R s m args below meth c A H locs cells slots ls ad Q9 C hP hS hl kk => by
    have q := (C.2.2.2.1.2.2.1.2.1.1.1 i hi).2.2.1
    have := kk ls hl
    have e1 := hP.2 i (by omega)
    have e2 := hP.2 (2 + i) (by omega)
    rw [show 900 + (2 + i) = 902 + i by omega] at e2
    show W _ _ _ _ _ _ _ _ _ _ _ _ _ _ _ (F0 m pc ls (.ref (ad (900 + i)) :: _))
    rw [e1]
    refine vk_getf C.1.1 C.1.2.1 q hS C.1.2.2.2.1 (C.1.2.2.2.2 _ hw) (fun _ h => h) hd ?_
    show W _ _ _ _ _ _ _ _ _ _ _ _ _ _ _ (F0 m (pc + 3) ls (.ref (E.2.2.2.2 (2 + i)) :: _))
    rw [← e2]
    exact this) k
theorem T_getSC (i : Nat) {idx : Nat} (hi : i < 2) (hd : decode y.2.1 pc = .ok (.getfield idx, 3)) (hw : Cond.fieldLink y.1.cls idx "java/lang/String" "coder" "B" ∈ W0) (k : T E d y (pc + 3) lv (vi 0 :: st) x f Q) : T E d y pc lv (vr (900 + i) :: st) x f Q :=
  T_step (fun p e R s m args below meth c A H locs cells slots ls ad Q9 C hP hS hl kk => by
    have q := (C.2.2.2.1.2.2.1.2.1.1.1 i hi).2.1
    have := kk ls hl
    have e1 := hP.2 i (by omega)
    show W _ _ _ _ _ _ _ _ _ _ _ _ _ _ _ (F0 m pc ls (.ref (ad (900 + i)) :: _))
    rw [e1]
    exact vk_getf C.1.1 C.1.2.1 q hS C.1.2.2.2.1 (C.1.2.2.2.2 _ hw) (fun _ h => h) hd this) k
theorem T_getCS {idx : Nat} (hd : decode y.2.1 pc = .ok (.getstatic idx, 3)) (hw : Cond.fieldLink y.1.cls idx "java/lang/String" "COMPACT_STRINGS" "Z" ∈ W0) (k : T E d y (pc + 3) lv (vi 1 :: st) x f Q) : T E d y pc lv st x f Q :=
  T_step (fun p e R s m args below meth c A H locs cells slots ls ad Q9 C hP hS hl kk => va_gets C.1.1 C.1.2.1 C.2.2.2.1.2.2.1.2.1.2.1 hS C.1.2.2.2.1 (C.1.2.2.2.2 _ hw) (fun _ h => h) hd (kk ls hl)) k
theorem T_getFM {idx : Nat} (hd : decode y.2.1 pc = .ok (.getstatic idx, 3)) (hw : Cond.fieldLink y.1.cls idx "jdk/internal/util/Preconditions" "SIOOBE_FORMATTER" "Ljava/util/function/BiFunction;" ∈ W0) (k0 : T E d y (pc + 3) lv (vn :: st) x f Q) (k : T E d y (pc + 3) lv (vr 904 :: st) x f Q) : T E d y pc lv st x f Q := by
  by_cases h5 : E.2.2.2.2 5 = 0
  · exact T_step (fun p e R s m args below meth c A H locs cells slots ls ad Q9 C hP hS hl kk => by
      have := kk ls hl
      have hz := C.2.2.2.1.2.2.1.2.1.2.2
      rw [if_pos h5] at hz
      exact va_gets C.1.1 C.1.2.1 hz hS C.1.2.2.2.1 (C.1.2.2.2.2 _ hw) (fun _ h => h) hd this) k0
  · exact T_step (fun p e R s m args below meth c A H locs cells slots ls ad Q9 C hP hS hl kk => by
      have := kk ls hl
      have e1 := hP.2 4 (by omega)
      have hz := C.2.2.2.1.2.2.1.2.1.2.2
      rw [if_neg h5] at hz
      refine va_gets C.1.1 C.1.2.1 hz hS C.1.2.2.2.1 (C.1.2.2.2.2 _ hw) (fun _ h => h) hd ?_
      rw [← e1]
      exact this) k
theorem T_alenS (i : Nat) {v : Int32} (hi : i < 2) (hv : Int32.ofNat (es_len.getD i 0) = v) (hd : decode y.2.1 pc = .ok (.arraylength, 1)) (k : T E d y (pc + 1) lv (vi v :: st) x f Q) : T E d y pc lv (vr (902 + i) :: st) x f Q :=
  T_step (fun p e R s m args below meth c A H locs cells slots ls ad Q9 C hP hS hl kk => by
    have q := (C.2.2.2.1.2.2.1.2.1.1.1 i hi).2.2.2
    have e2 := hP.2 (2 + i) (by omega)
    rw [show 900 + (2 + i) = 902 + i by omega] at e2
    show W _ _ _ _ _ _ _ _ _ _ _ _ _ _ _ (F0 m pc ls (.ref (ad (902 + i)) :: _))
    rw [e2]
    exact va_tlen C.1.1 C.1.2.1 q hS hv hd (kk ls hl)) k
theorem T_baldS (i : Nat) {j : Int32} (hi : i < 2) (hj : vp_in j (es_len.getD i 0)) (hd : decode y.2.1 pc = .ok (.baload, 1)) (k : T E d y (pc + 1) lv (vi (cby i j.toNatClampNeg) :: st) x f Q) : T E d y pc lv (vi j :: vr (902 + i) :: st) x f Q :=
  T_step (fun p e R s m args below meth c A H locs cells slots ls ad Q9 C hP hS hl kk => by
    have q := (C.2.2.2.1.2.2.1.2.1.1.1 i hi).2.2.2
    have e2 := hP.2 (2 + i) (by omega)
    rw [show 900 + (2 + i) = 902 + i by omega] at e2
    show W _ _ _ _ _ _ _ _ _ _ _ _ _ _ _ (F0 m pc ls (.int j :: .ref (ad (902 + i)) :: _))
    rw [e2]
    exact va_tb C.1.1 C.1.2.1 q hS hj rfl hd (kk ls hl)) k
theorem gkS {L : List Nat} {c : Nat} (h : 900 ≤ c ∧ c < 905) : gokv L (vr c) = true := by
  show (L.elem c || decide (900 ≤ c ∧ c < 905)) = true
  rw [decide_eq_true h, Bool.or_true]
theorem gk1 {L : List Nat} {i : Nat} {v : Int32} (hi : i < 2) : gok L [(0, vr (900 + i))] [vi v] = true := by
  show (((gokv L (vr (900 + i))) && true) && true) = true
  rw [gkS ⟨by omega, by omega⟩]; rfl
theorem gk2 {L : List Nat} {i : Nat} {v : Int32} (hi : i < 2) : gok L [(0, vr (902 + i)), (1, vi v)] [] = true := by
  show (((gokv L (vr (902 + i))) && true) && true) = true
  rw [gkS ⟨by omega, by omega⟩]; rfl
theorem gk3 {L : List Nat} {i : Nat} {v : Int32} (hi : i < 2) : gok L [(0, vr (900 + i)), (1, vi v)] [] = true := by
  show (((gokv L (vr (900 + i))) && true) && true) = true
  rw [gkS ⟨by omega, by omega⟩]; rfl
/-- a call of a text's own method -/
theorem T_callK {z : gy} {idx n : Nat} (i : Nat) (hi : i < 2) (As rest : List gv) (d1 : Nat) (hst : st = As.reverse ++ vr (900 + i) :: rest) (hd : decode y.2.1 pc = .ok (.invokevirtual idx, 3)) (hM : gMv y.1.cls idx z n) (hn : As.length = n) (hcl : z.1.cls = "java/lang/String") (hz : z.2.2.2.2 = []) (hd1 : d1 + 1 ≤ d)
    (hfit : gsz (vr (900 + i) :: As) ≤ z.2.2.1) (hcat : gsz rest ≤ 8) (hok : gok f.2.1 lv rest = true) (hno : ∀ z ∈ tableOf y.2.2.2.2, covers z pc = false) (k : T E d1 z 0 (glv 0 (vr (900 + i) :: As)) [] x f (gthen E d y (pc + 3) lv rest Q)) : T E d y pc lv st x f Q := by
  obtain ⟨⟨m1, m2, m3, m4, m5⟩, m6, m7, m8⟩ := hM
  refine T_run (z := z) (d1 := d1) (As := vr (900 + i) :: As) (rest := rest) hno hok ?_ k
  intro o x1 f1 hle hw p e R s m args below meth c0 A H locs cells slots ls ad C hP hS hl hc1 hs1
  have hrec : ∃ cell : Cell, H[ad (900 + i)]? = some cell ∧ cell.vm.isStatics = false ∧ s.vm.findClass z.1.cls = some cell.cls := by
    rw [hcl, hP.2 i (by omega)]
    exact vk_recv C.2.2.2.1.2.2.1.2.1.1 hi hS
  have hG : GoodIn W0 (wsV y.1.cls idx z.1.cls z.1 (gws z)) := by
    intro w hw
    rcases List.mem_append.mp hw with h | h
    · refine W0_good w ?_
      simp only [List.mem_cons, List.not_mem_nil, or_false] at h
      rcases h with rfl | rfl | rfl | rfl
      · exact m1
      · exact m2
      · exact m3
      · exact m4
    · exact gwsz m5 w h
  have hroom : 8 + (z.2.2.1 + 11) + 41 * d1 ≤ R.locals := by
    have hq := C.2.2.1.2
    omega
  have hstk : st.map (gcv ad) = (As.map (gcv ad)).reverse ++ Value.ref (ad (900 + i)) :: rest.map (gcv ad) := by
    rw [hst, List.map_append, List.map_reverse]
    rfl
  exact vx_runV (As := As.map (gcv ad)) (C := z.1.cls) (b := ad (900 + i)) (Pc := va_Pc ((vr (900 + i) :: As).map (gcv ad)) (gst E x f ad H.size)) ⟨C.1.1, C.1.2.1, C.1.2.2.1, C.1.2.2.2.1, C.1.2.2.2.2⟩ (gM_of C.2.2.2.1.2.2.2 m7 hfit hw ad H.size)
      (cwV (bytes := z.2.1) (maxL := z.2.2.1) (ret := z.2.2.2.1) (ws' := W0) n C.1.2.2.2.2 hG (by rw [gws, gcw, hz]) rfl rfl ⟨rfl, m6⟩ ⟨Nat.le_trans hd1 C.2.2.1.1, hroom⟩) ⟨gst_blind, hrec, fun U hU hW => ⟨rfl, gst_in C hP hS hU hW⟩⟩ rfl (by rw [List.length_map]; exact hn) hl.1 hstk (lv_room (by rw [gsz_c]; exact hcat)) hd ⟨hc1, hs1⟩
end SST
abbrev zj_isLatin1 : gy := (yJ0_isLatin1_aae02, cJ0_isLatin1_aae02, 1, some .boolean, [])
theorem dtj_isLatin1 : dck cJ0_isLatin1_aae02 [(0, .getstatic 38, 3), (3, .ifCond .eq 14, 3), (6, .aload_n 0, 1), (7, .getfield 15, 3), (10, .ifCond .ne 7, 3), (13, .iconst 1, 1), (14, .goto 4, 3), (17, .iconst 0, 1), (18, .ireturn, 1)] = true := by decide +kernel
set_option maxRecDepth 100000 in
theorem cwaj_isLatin1 : tables_1_3[147]? = some (Cond.code yJ0_isLatin1_aae02 cJ0_isLatin1_aae02 1 (some .boolean)) := rfl
theorem cwj_isLatin1 : Cond.code yJ0_isLatin1_aae02 cJ0_isLatin1_aae02 1 (some .boolean) ∈ W0 := W0_in (tp_3 (List.mem_of_getElem? cwaj_isLatin1)) rfl
abbrev zj_coder : gy := (yJ0_coder_7d493, cJ0_coder_7d493, 1, some .byte, [])
theorem dtj_coder : dck cJ0_coder_7d493 [(0, .getstatic 38, 3), (3, .ifCond .eq 10, 3), (6, .aload_n 0, 1), (7, .getfield 15, 3), (10, .goto 4, 3), (13, .iconst 1, 1), (14, .ireturn, 1)] = true := by decide +kernel
set_option maxRecDepth 100000 in
theorem cwaj_coder : tables_1_10[178]? = some (Cond.code yJ0_coder_7d493 cJ0_coder_7d493 1 (some .byte)) := rfl
theorem cwj_coder : Cond.code yJ0_coder_7d493 cJ0_coder_7d493 1 (some .byte) ∈ W0 := W0_in (tp_10 (List.mem_of_getElem? cwaj_coder)) rfl
abbrev zj_length : gy := (yJ0_length_8abf5, cJ0_length_8abf5, 1, some .int, [])
theorem dtj_length : dck cJ0_length_8abf5 [(0, .aload_n 0, 1), (1, .getfield 9, 3), (4, .arraylength, 1), (5, .aload_n 0, 1), (6, .invokevirtual 335, 3), (9, .ishr, 1), (10, .ireturn, 1)] = true := by decide +kernel
set_option maxRecDepth 100000 in
theorem cwaj_length : tables_1_10[174]? = some (Cond.code yJ0_length_8abf5 cJ0_length_8abf5 1 (some .int)) := rfl
theorem cwj_length : Cond.code yJ0_length_8abf5 cJ0_length_8abf5 1 (some .int) ∈ W0 := W0_in (tp_10 (List.mem_of_getElem? cwaj_length)) rfl
abbrev zj_checkP : gy := (yJ3_checkIndex_8e157, cJ3_checkIndex_8e157, 3, some .int, [])
theorem dtj_checkP : dck cJ3_checkIndex_8e157 [(0, .iload_n 0, 1), (1, .ifCond .lt 8, 3), (4, .iload_n 0, 1), (5, .iload_n 1, 1), (6, .if_icmp .lt 10, 3), (9, .aload_n 2, 1), (10, .iload_n 0, 1), (11, .iload_n 1, 1), (12, .invokestatic 95, 3), (15, .athrow, 1), (16, .iload_n 0, 1), (17, .ireturn, 1)] = true := by decide +kernel
set_option maxRecDepth 100000 in
theorem cwaj_checkP : tables_1_3[160]? = some (Cond.code yJ3_checkIndex_8e157 cJ3_checkIndex_8e157 3 (some .int)) := rfl
theorem cwj_checkP : Cond.code yJ3_checkIndex_8e157 cJ3_checkIndex_8e157 3 (some .int) ∈ W0 := W0_in (tp_3 (List.mem_of_getElem? cwaj_checkP)) rfl
abbrev zj_checkS : gy := (yJ0_checkIndex_df160, cJ0_checkIndex_df160, 2, none, [])
theorem dtj_checkS : dck cJ0_checkIndex_df160 [(0, .iload_n 0, 1), (1, .iload_n 1, 1), (2, .getstatic 1053, 3), (5, .invokestatic 1059, 3), (8, .pop, 1), (9, .return_, 1)] = true := by decide +kernel
set_option maxRecDepth 100000 in
theorem cwaj_checkS : tables_1_3[155]? = some (Cond.code yJ0_checkIndex_df160 cJ0_checkIndex_df160 2 (none)) := rfl
theorem cwj_checkS : Cond.code yJ0_checkIndex_df160 cJ0_checkIndex_df160 2 (none) ∈ W0 := W0_in (tp_3 (List.mem_of_getElem? cwaj_checkS)) rfl
abbrev zj_charL : gy := (yJ1_charAt_3b067, cJ1_charAt_3b067, 2, some .char, [])
theorem dtj_charL : dck cJ1_charAt_3b067 [(0, .iload_n 1, 1), (1, .aload_n 0, 1), (2, .arraylength, 1), (3, .invokestatic 9, 3), (6, .aload_n 0, 1), (7, .iload_n 1, 1), (8, .baload, 1), (9, .sipush 255, 3), (12, .iand, 1), (13, .i2c, 1), (14, .ireturn, 1)] = true := by decide +kernel
set_option maxRecDepth 100000 in
theorem cwaj_charL : tables_1_3[152]? = some (Cond.code yJ1_charAt_3b067 cJ1_charAt_3b067 2 (some .char)) := rfl
theorem cwj_charL : Cond.code yJ1_charAt_3b067 cJ1_charAt_3b067 2 (some .char) ∈ W0 := W0_in (tp_3 (List.mem_of_getElem? cwaj_charL)) rfl
abbrev zj_charAt : gy := (yJ0_charAt_5068e, cJ0_charAt_5068e, 2, some .char, [])
theorem dtj_charAt : dck cJ0_charAt_5068e [(0, .aload_n 0, 1), (1, .invokevirtual 492, 3), (4, .ifCond .eq 12, 3), (7, .aload_n 0, 1), (8, .getfield 9, 3), (11, .iload_n 1, 1), (12, .invokestatic 495, 3), (15, .ireturn, 1), (16, .aload_n 0, 1), (17, .getfield 9, 3), (20, .iload_n 1, 1), (21, .invokestatic 498, 3), (24, .ireturn, 1)] = true := by decide +kernel
set_option maxRecDepth 100000 in
theorem cwaj_charAt : tables_1_3[143]? = some (Cond.code yJ0_charAt_5068e cJ0_charAt_5068e 2 (some .char)) := rfl
theorem cwj_charAt : Cond.code yJ0_charAt_5068e cJ0_charAt_5068e 2 (some .char) ∈ W0 := W0_in (tp_3 (List.mem_of_getElem? cwaj_charAt)) rfl
theorem fj_9 : Cond.fieldLink RJ0 9 "java/lang/String" "value" "[B" ∈ W0 := W0_in (tp_12 (List.mem_of_getElem? (i := 166) (by decide +kernel))) rfl
theorem fj_15 : Cond.fieldLink RJ0 15 "java/lang/String" "coder" "B" ∈ W0 := W0_in (tp_12 (List.mem_of_getElem? (i := 165) (by decide +kernel))) rfl
theorem fj_38 : Cond.fieldLink RJ0 38 "java/lang/String" "COMPACT_STRINGS" "Z" ∈ W0 := W0_in (tp_3 (List.mem_of_getElem? (i := 148) (by decide +kernel))) rfl
theorem fj_1053 : Cond.fieldLink RJ0 1053 "jdk/internal/util/Preconditions" "SIOOBE_FORMATTER" "Ljava/util/function/BiFunction;" ∈ W0 := W0_in (tp_3 (List.mem_of_getElem? (i := 156) (by decide +kernel))) rfl
theorem cj_335 : gMv RJ0 335 zj_coder 0 := ⟨⟨W0_in (tp_10 (List.mem_of_getElem? (i := 175) (by decide +kernel))) rfl, W0_in (tp_10 (List.mem_of_getElem? (i := 176) (by decide +kernel))) rfl, W0_in (tp_10 (List.mem_of_getElem? (i := 177) (by decide +kernel))) rfl, W0_in (tp_1 (List.mem_of_getElem? (i := 15) (by decide +kernel))) rfl, cwj_coder⟩, ⟨by decide, by decide, by decide +kernel⟩, by decide, by decide⟩
theorem cj_492 : gMv RJ0 492 zj_isLatin1 0 := ⟨⟨W0_in (tp_3 (List.mem_of_getElem? (i := 144) (by decide +kernel))) rfl, W0_in (tp_3 (List.mem_of_getElem? (i := 145) (by decide +kernel))) rfl, W0_in (tp_3 (List.mem_of_getElem? (i := 146) (by decide +kernel))) rfl, W0_in (tp_1 (List.mem_of_getElem? (i := 15) (by decide +kernel))) rfl, cwj_isLatin1⟩, ⟨by decide, by decide, by decide +kernel⟩, by decide, by decide⟩
theorem cj_1059 : gMs RJ0 1059 zj_checkP 3 := ⟨⟨W0_in (tp_3 (List.mem_of_getElem? (i := 158) (by decide +kernel))) rfl, W0_in (tp_3 (List.mem_of_getElem? (i := 159) (by decide +kernel))) rfl, W0_in (tp_1 (List.mem_of_getElem? (i := 17) (by decide +kernel))) rfl, cwj_checkP⟩, ⟨by decide, by decide, by decide +kernel⟩, by decide, by decide⟩
theorem cj_9 : gMs RJ1 9 zj_checkS 2 := ⟨⟨W0_in (tp_3 (List.mem_of_getElem? (i := 153) (by decide +kernel))) rfl, W0_in (tp_3 (List.mem_of_getElem? (i := 154) (by decide +kernel))) rfl, W0_in (tp_1 (List.mem_of_getElem? (i := 15) (by decide +kernel))) rfl, cwj_checkS⟩, ⟨by decide, by decide, by decide +kernel⟩, by decide, by decide⟩
theorem cj_495 : gMs RJ0 495 zj_charL 2 := ⟨⟨W0_in (tp_3 (List.mem_of_getElem? (i := 150) (by decide +kernel))) rfl, W0_in (tp_3 (List.mem_of_getElem? (i := 151) (by decide +kernel))) rfl, W0_in (tp_1 (List.mem_of_getElem? (i := 16) (by decide +kernel))) rfl, cwj_charL⟩, ⟨by decide, by decide, by decide +kernel⟩, by decide, by decide⟩
theorem cv_328 : gMv RX12 328 zj_length 0 := ⟨⟨W0_in (tp_10 (List.mem_of_getElem? (i := 171) (by decide +kernel))) rfl, W0_in (tp_10 (List.mem_of_getElem? (i := 172) (by decide +kernel))) rfl, W0_in (tp_10 (List.mem_of_getElem? (i := 173) (by decide +kernel))) rfl, W0_in (tp_1 (List.mem_of_getElem? (i := 15) (by decide +kernel))) rfl, cwj_length⟩, ⟨by decide, by decide, by decide +kernel⟩, by decide, by decide⟩
theorem cv_334 : gMv RX12 334 zj_charAt 1 := ⟨⟨W0_in (tp_10 (List.mem_of_getElem? (i := 179) (by decide +kernel))) rfl, W0_in (tp_3 (List.mem_of_getElem? (i := 141) (by decide +kernel))) rfl, W0_in (tp_3 (List.mem_of_getElem? (i := 142) (by decide +kernel))) rfl, W0_in (tp_1 (List.mem_of_getElem? (i := 15) (by decide +kernel))) rfl, cwj_charAt⟩, ⟨by decide, by decide, by decide +kernel⟩, by decide, by decide⟩
section SSM
variable {E : gE} {d : Nat} {y : gy} {pc : Nat} {lv : List (Nat × gv)} {st : List gv} {x : gd} {f : gf} {Q : gr → gd → gf → Prop}
theorem tj_isLatin1 (i : Nat) (hi : i < 2) (h : Q (.inl (some (vi 1))) x f) : T E d zj_isLatin1 0 [(0, vr (900 + i))] [] x f Q := by
  refine T_getCS (dk dtj_isLatin1 0 rfl) fj_38 ?_
  refine T_if_eq 17 (dk dtj_isLatin1 1 rfl) (by decide) (fun c => absurd c (by decide)) (fun _ => ?_)
  refine T_aload_n 0 (dk dtj_isLatin1 2 rfl) rfl rfl ?_
  refine T_getSC i hi (dk dtj_isLatin1 3 rfl) fj_15 ?_
  refine T_if_ne 17 (dk dtj_isLatin1 4 rfl) (by decide) (fun c => absurd rfl c) (fun _ => ?_)
  refine T_iconst (v := 1) (dk dtj_isLatin1 5 rfl) (by decide +kernel) ?_
  refine T_goto 18 (dk dtj_isLatin1 6 rfl) (by decide) ?_
  exact T_iret (dk dtj_isLatin1 8 rfl) rfl rfl h
theorem tj_coder (i : Nat) (hi : i < 2) (h : Q (.inl (some (vi 0))) x f) : T E d zj_coder 0 [(0, vr (900 + i))] [] x f Q := by
  refine T_getCS (dk dtj_coder 0 rfl) fj_38 ?_
  refine T_if_eq 13 (dk dtj_coder 1 rfl) (by decide) (fun c => absurd c (by decide)) (fun _ => ?_)
  refine T_aload_n 0 (dk dtj_coder 2 rfl) rfl rfl ?_
  refine T_getSC i hi (dk dtj_coder 3 rfl) fj_15 ?_
  refine T_goto 14 (dk dtj_coder 4 rfl) (by decide) ?_
  exact T_iret (dk dtj_coder 6 rfl) rfl rfl h
theorem sh0 (v : Int32) : v >>> ((0 : Int32) &&& 31) = v := by
  apply Int32.toBitVec_inj.mp
  show v.toBitVec.sshiftRight _ = v.toBitVec
  exact BitVec.sshiftRight_zero
theorem tj_length (i : Nat) (hi : i < 2) {v : Int32} (hv : Int32.ofNat (es_len.getD i 0) = v) (h : Q (.inl (some (vi v))) x f) : T E (d + 1) zj_length 0 [(0, vr (900 + i))] [] x f Q := by
  refine T_aload_n 0 (dk dtj_length 0 rfl) rfl rfl ?_
  refine T_getSV i hi (dk dtj_length 1 rfl) fj_9 ?_
  refine T_alenS i hi hv (dk dtj_length 2 rfl) ?_
  refine T_aload_n 0 (dk dtj_length 3 rfl) rfl rfl ?_
  refine T_callK i hi [] [vi v] d rfl (dk dtj_length 4 rfl) cj_335 rfl rfl rfl (Nat.le_refl _) (Nat.le_of_ble_eq_true rfl) (Nat.le_of_ble_eq_true rfl) (gk1 hi) (by intro z hz; cases hz) ?_
  refine tj_coder i hi ?_
  show T E (d + 1) zj_length 9 [(0, vr (900 + i))] [vi 0, vi v] x f Q
  refine T_ishr (dk dtj_length 5 rfl) ?_
  rw [sh0]
  exact T_iret (dk dtj_length 6 rfl) rfl rfl h
theorem tj_checkP {j n : Int32} {w9 : gv} (hj : ¬ j < 0) (hn : j < n) (h : Q (.inl (some (vi j))) x f) : T E d zj_checkP 0 [(0, vi j), (1, vi n), (2, w9)] [] x f Q := by
  refine T_iload_n 0 (dk dtj_checkP 0 rfl) rfl rfl ?_
  refine T_if_lt 9 (dk dtj_checkP 1 rfl) (by decide) (fun c => absurd c hj) (fun _ => ?_)
  refine T_iload_n 0 (dk dtj_checkP 2 rfl) rfl rfl ?_
  refine T_iload_n 1 (dk dtj_checkP 3 rfl) rfl rfl ?_
  refine T_icmp_lt 16 (dk dtj_checkP 4 rfl) (by decide) (fun _ => ?_) (fun c => absurd hn c)
  refine T_iload_n 0 (dk dtj_checkP 10 rfl) rfl rfl ?_
  exact T_iret (dk dtj_checkP 11 rfl) rfl rfl h
theorem tj_checkS {j n : Int32} (hj : ¬ j < 0) (hn : j < n) (h : Q (.inl none) x f) : T E (d + 1) zj_checkS 0 [(0, vi j), (1, vi n)] [] x f Q := by
  refine T_iload_n 0 (dk dtj_checkS 0 rfl) rfl rfl ?_
  refine T_iload_n 1 (dk dtj_checkS 1 rfl) rfl rfl ?_
  refine T_getFM (dk dtj_checkS 2 rfl) fj_1053 ?_ ?_
  · refine T_callS [vi j, vi n, vn] [] d rfl (dk dtj_checkS 3 rfl) cj_1059 rfl (Nat.le_refl _) (Nat.le_of_ble_eq_true rfl) (Nat.le_of_ble_eq_true rfl) rfl (by intro z hz; cases hz) ?_
    refine tj_checkP hj hn ?_
    show T E (d + 1) zj_checkS 8 [(0, vi j), (1, vi n)] [vi j] x f Q
    refine T_pop (dk dtj_checkS 4 rfl) rfl ?_
    exact T_vret (dk dtj_checkS 5 rfl) rfl h
  · refine T_callS [vi j, vi n, vr 904] [] d rfl (dk dtj_checkS 3 rfl) cj_1059 rfl (Nat.le_refl _) (Nat.le_of_ble_eq_true rfl) (Nat.le_of_ble_eq_true rfl) rfl (by intro z hz; cases hz) ?_
    refine tj_checkP hj hn ?_
    show T E (d + 1) zj_checkS 8 [(0, vi j), (1, vi n)] [vi j] x f Q
    refine T_pop (dk dtj_checkS 4 rfl) rfl ?_
    exact T_vret (dk dtj_checkS 5 rfl) rfl h
theorem tj_charL (i : Nat) (hi : i < 2) {j : Int32} (hj : vp_in j (es_len.getD i 0)) (hlen : es_len.getD i 0 < 1000) (h : Q (.inl (some (vi (cch i j.toNatClampNeg)))) x f) : T E (d + 2) zj_charL 0 [(0, vr (902 + i)), (1, vi j)] [] x f Q := by
  have q := vp_in_iff.mp hj
  have n0 : ¬ j < 0 := fun c => by
    have := Int32.lt_iff_toInt_lt.mp c
    have z : (0 : Int32).toInt = 0 := rfl
    omega
  have n1 : j < Int32.ofNat (es_len.getD i 0) := by
    refine Int32.lt_iff_toInt_lt.mpr ?_
    rw [Int32.toInt_ofNat_of_lt (by omega)]
    exact q.2
  refine T_iload_n 1 (dk dtj_charL 0 rfl) rfl rfl ?_
  refine T_aload_n 0 (dk dtj_charL 1 rfl) rfl rfl ?_
  refine T_alenS i hi rfl (dk dtj_charL 2 rfl) ?_
  refine T_callS [vi j, vi (Int32.ofNat (es_len.getD i 0))] [] (d + 1) rfl (dk dtj_charL 3 rfl) cj_9 rfl (Nat.le_refl _) (Nat.le_of_ble_eq_true rfl) (Nat.le_of_ble_eq_true rfl) (gk2 hi) (by intro z hz; cases hz) ?_
  refine tj_checkS n0 n1 ?_
  show T E (d + 2) zj_charL 6 [(0, vr (902 + i)), (1, vi j)] [] x f Q
  refine T_aload_n 0 (dk dtj_charL 4 rfl) rfl rfl ?_
  refine T_iload_n 1 (dk dtj_charL 5 rfl) rfl rfl ?_
  refine T_baldS i hi hj (dk dtj_charL 6 rfl) ?_
  refine T_sipush (v := 255) (dk dtj_charL 7 rfl) (by decide +kernel) ?_
  refine T_iand (dk dtj_charL 8 rfl) ?_
  refine T_i2c (dk dtj_charL 9 rfl) ?_
  exact T_iret (dk dtj_charL 10 rfl) rfl (nar_char _) h
theorem tj_charAt (i : Nat) (hi : i < 2) {j : Int32} (hj : vp_in j (es_len.getD i 0)) (hlen : es_len.getD i 0 < 1000) (h : Q (.inl (some (vi (cch i j.toNatClampNeg)))) x f) : T E (d + 3) zj_charAt 0 [(0, vr (900 + i)), (1, vi j)] [] x f Q := by
  refine T_aload_n 0 (dk dtj_charAt 0 rfl) rfl rfl ?_
  refine T_callK i hi [] [] (d + 2) rfl (dk dtj_charAt 1 rfl) cj_492 rfl rfl rfl (Nat.le_refl _) (Nat.le_of_ble_eq_true rfl) (Nat.le_of_ble_eq_true rfl) (gk3 hi) (by intro z hz; cases hz) ?_
  refine tj_isLatin1 i hi ?_
  show T E (d + 3) zj_charAt 4 [(0, vr (900 + i)), (1, vi j)] [vi 1] x f Q
  refine T_if_eq 16 (dk dtj_charAt 2 rfl) (by decide) (fun c => absurd c (by decide)) (fun _ => ?_)
  refine T_aload_n 0 (dk dtj_charAt 3 rfl) rfl rfl ?_
  refine T_getSV i hi (dk dtj_charAt 4 rfl) fj_9 ?_
  refine T_iload_n 1 (dk dtj_charAt 5 rfl) rfl rfl ?_
  refine T_callS [vr (902 + i), vi j] [] (d + 2) rfl (dk dtj_charAt 6 rfl) cj_495 rfl (Nat.le_refl _) (Nat.le_of_ble_eq_true rfl) (Nat.le_of_ble_eq_true rfl) (gk3 hi) (by intro z hz; cases hz) ?_
  refine tj_charL i hi hj hlen ?_
  show T E (d + 3) zj_charAt 15 [(0, vr (900 + i)), (1, vi j)] [vi (cch i j.toNatClampNeg)] x f Q
  exact T_iret (dk dtj_charAt 7 rfl) rfl (nar_char _) h
theorem es_l0 : es_len.getD 0 0 = 224 := by decide +kernel
theorem es_l1 : es_len.getD 1 0 = 165 := by decide +kernel
/-- length of a text, its char -/
theorem T_slen (i : Nat) {idx : Nat} {v : Int32} {rest : List gv} (hi : i < 2) (hv : Int32.ofNat (es_len.getD i 0) = v) (hd : decode y.2.1 pc = .ok (.invokevirtual idx, 3)) (hM : gMv y.1.cls idx zj_length 0) (hd1 : 2 ≤ d) (hcat : gsz rest ≤ 8) (hok : gok f.2.1 lv rest = true) (hy : y.2.2.2.2 = []) (k : T E d y (pc + 3) lv (vi v :: rest) x f Q) : T E d y pc lv (vr (900 + i) :: rest) x f Q :=
  T_callK i hi [] rest 1 rfl hd hM rfl rfl rfl hd1 (Nat.le_of_ble_eq_true rfl) hcat hok (by rw [hy]; intro z hz; cases hz) (tj_length i hi hv k)
theorem T_chat (i : Nat) {idx : Nat} {j : Int32} {rest : List gv} (hi : i < 2) (hj : vp_in j (es_len.getD i 0)) (hlen : es_len.getD i 0 < 1000) (hd : decode y.2.1 pc = .ok (.invokevirtual idx, 3)) (hM : gMv y.1.cls idx zj_charAt 1) (hd1 : 4 ≤ d) (hcat : gsz rest ≤ 8) (hok : gok f.2.1 lv rest = true) (hy : y.2.2.2.2 = []) (k : T E d y (pc + 3) lv (vi (cch i j.toNatClampNeg) :: rest) x f Q) : T E d y pc lv (vi j :: vr (900 + i) :: rest) x f Q :=
  T_callK i hi [vi j] rest 3 rfl hd hM rfl rfl rfl hd1 (Nat.le_of_ble_eq_true rfl) hcat hok (by rw [hy]; intro z hz; cases hz) (tj_charAt i hi hj hlen k)
end SSM
set_option maxRecDepth 100000 in
theorem dt_wordOf : dck cX12_wordOf [(0, .ldc_w 326, 3), (3, .astore_n 3, 1), (4, .bipush 10, 2), (6, .istore 4, 2), (8, .iconst 0, 1), (9, .istore 5, 2), (11, .iload 5, 2), (13, .aload_n 3, 1), (14, .invokevirtual 328, 3), (17, .if_icmp .ge 107, 3), (20, .iload 5, 2), (22, .istore 6, 2), (24, .aload_n 3, 1), (25, .iload 6, 2), (27, .invokevirtual 334, 3), (30, .bipush 32, 2), (32, .if_icmp .eq 9, 3), (35, .iinc 6 1, 3), (38, .goto (-14), 3), (41, .iload 6, 2), (43, .iload 5, 2), (45, .isub, 1), (46, .iload_n 2, 1), (47, .if_icmp .ne 7, 3), (50, .iconst 1, 1), (51, .goto 4, 3), (54, .iconst 0, 1), (55, .istore 7, 2), (57, .iconst 0, 1), (58, .istore 8, 2), (60, .iload 8, 2), (62, .iload_n 2, 1), (63, .if_icmp .ge 41, 3), (66, .iload 7, 2), (68, .ifCond .eq 36, 3), (71, .aload_n 0, 1), (72, .iload_n 1, 1), (73, .iload 8, 2), (75, .iadd, 1), (76, .invokevirtual 338, 3), (79, .aload_n 3, 1), (80, .iload 5, 2), (82, .iload 8, 2), (84, .iadd, 1), (85, .invokevirtual 334, 3), (88, .if_icmp .ne 7, 3), (91, .iconst 1, 1), (92, .goto 4, 3), (95, .iconst 0, 1), (96, .istore 7, 2), (98, .iinc 8 1, 3), (101, .goto (-41), 3), (104, .iload 7, 2), (106, .ifCond .eq 6, 3), (109, .iload 4, 2), (111, .ireturn, 1), (112, .iinc 4 1, 3), (115, .iload 6, 2), (117, .iconst 1, 1), (118, .iadd, 1), (119, .istore 5, 2), (121, .goto (-110), 3), (124, .iconst 1, 1), (125, .ireturn, 1)] = true := by decide +kernel
set_option maxRecDepth 100000 in
set_option maxHeartbeats 4000000 in
theorem sg_wordOf_0 {G : mG} {d : Nat} {x : gd} {P : Option gv → gd → Prop} (l1 : Int32) (l2 : Int32)
    (h : MT G (d + 7) z_wordOf 11 [(0, vr 0), (1, vi l1), (2, vi l2), (3, vr 901), (4, vi 10), (5, vi 0)] [] x P) :
    MT G (d + 7) z_wordOf 0 [(0, vr 0), (1, vi l1), (2, vi l2)] [] x P := by
  refine T_ldcwS 1 (by decide) (dk dt_wordOf 0 rfl) rfl ?_
  refine T_astore_n (lv2 := [(3, vr 901), (0, vr 0), (1, vi l1), (2, vi l2)]) (dk dt_wordOf 1 rfl) rfl (by decide) rfl ?_
  refine T_bipush (v := 10) (dk dt_wordOf 2 rfl) (by decide +kernel) ?_
  refine T_istore (lv2 := [(4, vi 10), (3, vr 901), (0, vr 0), (1, vi l1), (2, vi l2)]) (dk dt_wordOf 3 rfl) (by decide) rfl ?_
  refine T_iconst (v := 0) (dk dt_wordOf 4 rfl) (by decide +kernel) ?_
  refine T_istore (lv2 := [(5, vi 0), (4, vi 10), (3, vr 901), (0, vr 0), (1, vi l1), (2, vi l2)]) (dk dt_wordOf 5 rfl) (by decide) rfl ?_
  exact T_sub [3, 4, 5, 2, 1, 0] rfl h
set_option maxRecDepth 100000 in
set_option maxHeartbeats 4000000 in
theorem sg_wordOf_11 {G : mG} {d : Nat} {x : gd} {P : Option gv → gd → Prop} (l1 : Int32) (l2 : Int32) (l4 : Int32) (l5 : Int32)
    (h : (((165 : Int32) ≤ l5 → P (some (vi 1)) x) ∧ (¬ ((165 : Int32) ≤ l5) → MT G (d + 7) z_wordOf 24 [(0, vr 0), (1, vi l1), (2, vi l2), (3, vr 901), (4, vi l4), (5, vi l5), (6, vi l5)] [] x P))) :
    MT G (d + 7) z_wordOf 11 [(0, vr 0), (1, vi l1), (2, vi l2), (3, vr 901), (4, vi l4), (5, vi l5)] [] x P := by
  refine T_iload 5 (dk dt_wordOf 6 rfl) rfl ?_
  refine T_aload_n 3 (dk dt_wordOf 7 rfl) rfl rfl ?_
  refine T_slen 1 (v := 165) (by decide) (by rw [es_l1]; decide) (dk dt_wordOf 8 rfl) cv_328 (by omega) (Nat.le_of_ble_eq_true rfl) rfl rfl ?_
  refine T_icmp_ge 124 (dk dt_wordOf 9 rfl) (by decide) (fun c1 => ?_) (fun c1 => ?_)
  · have h := h.1 c1
    refine T_iconst (v := 1) (dk dt_wordOf 62 rfl) (by decide +kernel) ?_
    exact MT_iret (dk dt_wordOf 63 rfl) rfl rfl h
  · have h := h.2 c1
    refine T_iload 5 (dk dt_wordOf 10 rfl) rfl ?_
    refine T_istore (lv2 := [(6, vi l5), (0, vr 0), (1, vi l1), (2, vi l2), (3, vr 901), (4, vi l4), (5, vi l5)]) (dk dt_wordOf 11 rfl) (by decide) rfl ?_
    exact T_sub [1, 2, 3, 4, 5, 6, 0] rfl h
set_option maxRecDepth 100000 in
set_option maxHeartbeats 4000000 in
theorem sg_wordOf_24 {G : mG} {d : Nat} {x : gd} {P : Option gv → gd → Prop} (l1 : Int32) (l2 : Int32) (l4 : Int32) (l5 : Int32) (l6 : Int32)
    (h : vp_in l6 165 ∧ (((cch 1 (l6 : Int32).toNatClampNeg) = (32 : Int32) → ((¬ ((l6 - l5) = l2) → MT G (d + 7) z_wordOf 60 [(0, vr 0), (1, vi l1), (2, vi l2), (3, vr 901), (4, vi l4), (5, vi l5), (6, vi l6), (7, vi 0), (8, vi 0)] [] x P) ∧ ((l6 - l5) = l2 → MT G (d + 7) z_wordOf 60 [(0, vr 0), (1, vi l1), (2, vi l2), (3, vr 901), (4, vi l4), (5, vi l5), (6, vi l6), (7, vi 1), (8, vi 0)] [] x P))) ∧ (¬ ((cch 1 (l6 : Int32).toNatClampNeg) = (32 : Int32)) → MT G (d + 7) z_wordOf 24 [(0, vr 0), (1, vi l1), (2, vi l2), (3, vr 901), (4, vi l4), (5, vi l5), (6, vi (l6 + 1))] [] x P))) :
    MT G (d + 7) z_wordOf 24 [(0, vr 0), (1, vi l1), (2, vi l2), (3, vr 901), (4, vi l4), (5, vi l5), (6, vi l6)] [] x P := by
  refine T_aload_n 3 (dk dt_wordOf 12 rfl) rfl rfl ?_
  refine T_iload 6 (dk dt_wordOf 13 rfl) rfl ?_
  obtain ⟨h1, h⟩ := h
  refine T_chat 1 (by decide) (by rw [es_l1]; exact h1) (by rw [es_l1]; decide) (dk dt_wordOf 14 rfl) cv_334 (by omega) (Nat.le_of_ble_eq_true rfl) rfl rfl ?_
  refine T_bipush (v := 32) (dk dt_wordOf 15 rfl) (by decide +kernel) ?_
  refine T_icmp_eq 41 (dk dt_wordOf 16 rfl) (by decide) (fun c2 => ?_) (fun c2 => ?_)
  · have h := h.1 c2
    refine T_iload 6 (dk dt_wordOf 19 rfl) rfl ?_
    refine T_iload 5 (dk dt_wordOf 20 rfl) rfl ?_
    refine T_isub (dk dt_wordOf 21 rfl) ?_
    refine T_iload_n 2 (dk dt_wordOf 22 rfl) rfl rfl ?_
    refine T_icmp_ne 54 (dk dt_wordOf 23 rfl) (by decide) (fun c3 => ?_) (fun c3 => ?_)
    · have h := h.1 c3
      refine T_iconst (v := 0) (dk dt_wordOf 26 rfl) (by decide +kernel) ?_
      refine T_istore (lv2 := [(7, vi 0), (0, vr 0), (1, vi l1), (2, vi l2), (3, vr 901), (4, vi l4), (5, vi l5), (6, vi l6)]) (dk dt_wordOf 27 rfl) (by decide) rfl ?_
      refine T_iconst (v := 0) (dk dt_wordOf 28 rfl) (by decide +kernel) ?_
      refine T_istore (lv2 := [(8, vi 0), (7, vi 0), (0, vr 0), (1, vi l1), (2, vi l2), (3, vr 901), (4, vi l4), (5, vi l5), (6, vi l6)]) (dk dt_wordOf 29 rfl) (by decide) rfl ?_
      exact T_sub [2, 3, 4, 5, 6, 7, 8, 1, 0] rfl h
    · have h := h.2 c3
      refine T_iconst (v := 1) (dk dt_wordOf 24 rfl) (by decide +kernel) ?_
      refine T_goto 55 (dk dt_wordOf 25 rfl) (by decide) ?_
      refine T_istore (lv2 := [(7, vi 1), (0, vr 0), (1, vi l1), (2, vi l2), (3, vr 901), (4, vi l4), (5, vi l5), (6, vi l6)]) (dk dt_wordOf 27 rfl) (by decide) rfl ?_
      refine T_iconst (v := 0) (dk dt_wordOf 28 rfl) (by decide +kernel) ?_
      refine T_istore (lv2 := [(8, vi 0), (7, vi 1), (0, vr 0), (1, vi l1), (2, vi l2), (3, vr 901), (4, vi l4), (5, vi l5), (6, vi l6)]) (dk dt_wordOf 29 rfl) (by decide) rfl ?_
      exact T_sub [2, 3, 4, 5, 6, 7, 8, 1, 0] rfl h
  · have h := h.2 c2
    refine T_iinc (v := l6 + 1) (lv2 := [(6, vi (l6 + 1)), (0, vr 0), (1, vi l1), (2, vi l2), (3, vr 901), (4, vi l4), (5, vi l5)]) 6 (dk dt_wordOf 17 rfl) rfl rfl (by decide) rfl ?_
    refine T_goto 24 (dk dt_wordOf 18 rfl) (by decide) ?_
    exact T_sub [1, 2, 3, 4, 5, 6, 0] rfl h
set_option maxRecDepth 100000 in
set_option maxHeartbeats 4000000 in
theorem sg_wordOf_60 {G : mG} {d : Nat} {x : gd} {P : Option gv → gd → Prop} (l1 : Int32) (l2 : Int32) (l4 : Int32) (l5 : Int32) (l6 : Int32) (l7 : Int32) (l8 : Int32)
    (h : ((l2 ≤ l8 → MT G (d + 7) z_wordOf 104 [(0, vr 0), (1, vi l1), (2, vi l2), (3, vr 901), (4, vi l4), (6, vi l6), (7, vi l7)] [] x P) ∧ (¬ (l2 ≤ l8) → ((l7 = (0 : Int32) → MT G (d + 7) z_wordOf 104 [(0, vr 0), (1, vi l1), (2, vi l2), (3, vr 901), (4, vi l4), (6, vi l6), (7, vi l7)] [] x P) ∧ (¬ (l7 = (0 : Int32)) → MT G (d + 6) z_byteAt 0 [(0, vr 0), (1, vi (l1 + l8))] [] x (ri (fun r4 x3 => vp_in (l5 + l8) 165 ∧ ((¬ (r4 = (cch 1 (l5 + l8 : Int32).toNatClampNeg)) → MT G (d + 7) z_wordOf 60 [(0, vr 0), (1, vi l1), (2, vi l2), (3, vr 901), (4, vi l4), (5, vi l5), (6, vi l6), (7, vi 0), (8, vi (l8 + 1))] [] x3 P) ∧ (r4 = (cch 1 (l5 + l8 : Int32).toNatClampNeg) → MT G (d + 7) z_wordOf 60 [(0, vr 0), (1, vi l1), (2, vi l2), (3, vr 901), (4, vi l4), (5, vi l5), (6, vi l6), (7, vi 1), (8, vi (l8 + 1))] [] x3 P))))))))) :
    MT G (d + 7) z_wordOf 60 [(0, vr 0), (1, vi l1), (2, vi l2), (3, vr 901), (4, vi l4), (5, vi l5), (6, vi l6), (7, vi l7), (8, vi l8)] [] x P := by
  refine T_iload 8 (dk dt_wordOf 30 rfl) rfl ?_
  refine T_iload_n 2 (dk dt_wordOf 31 rfl) rfl rfl ?_
  refine T_icmp_ge 104 (dk dt_wordOf 32 rfl) (by decide) (fun c1 => ?_) (fun c1 => ?_)
  · have h := h.1 c1
    exact T_sub [0, 1, 2, 3, 4, 6, 7] rfl h
  · have h := h.2 c1
    refine T_iload 7 (dk dt_wordOf 33 rfl) rfl ?_
    refine T_if_eq 104 (dk dt_wordOf 34 rfl) (by decide) (fun c2 => ?_) (fun c2 => ?_)
    · have h := h.1 c2
      exact T_sub [0, 1, 2, 3, 4, 6, 7] rfl h
    · have h := h.2 c2
      refine T_aload_n 0 (dk dt_wordOf 35 rfl) rfl rfl ?_
      refine T_iload_n 1 (dk dt_wordOf 36 rfl) rfl rfl ?_
      refine T_iload 8 (dk dt_wordOf 37 rfl) rfl ?_
      refine T_iadd (dk dt_wordOf 38 rfl) ?_
      refine MT_callVi [vi (l1 + l8)] [] rfl (dk dt_wordOf 39 rfl) cv_338 rfl rfl (Nat.le_of_ble_eq_true rfl) (Nat.le_of_ble_eq_true rfl) rfl rfl h (fun r4 x3 h => ?_)
      refine T_aload_n 3 (dk dt_wordOf 40 rfl) rfl rfl ?_
      refine T_iload 5 (dk dt_wordOf 41 rfl) rfl ?_
      refine T_iload 8 (dk dt_wordOf 42 rfl) rfl ?_
      refine T_iadd (dk dt_wordOf 43 rfl) ?_
      obtain ⟨h5, h⟩ := h
      refine T_chat 1 (by decide) (by rw [es_l1]; exact h5) (by rw [es_l1]; decide) (dk dt_wordOf 44 rfl) cv_334 (by omega) (Nat.le_of_ble_eq_true rfl) rfl rfl ?_
      refine T_icmp_ne 95 (dk dt_wordOf 45 rfl) (by decide) (fun c6 => ?_) (fun c6 => ?_)
      · have h := h.1 c6
        refine T_iconst (v := 0) (dk dt_wordOf 48 rfl) (by decide +kernel) ?_
        refine T_istore (lv2 := [(7, vi 0), (0, vr 0), (1, vi l1), (2, vi l2), (3, vr 901), (4, vi l4), (5, vi l5), (6, vi l6), (8, vi l8)]) (dk dt_wordOf 49 rfl) (by decide) rfl ?_
        refine T_iinc (v := l8 + 1) (lv2 := [(8, vi (l8 + 1)), (7, vi 0), (0, vr 0), (1, vi l1), (2, vi l2), (3, vr 901), (4, vi l4), (5, vi l5), (6, vi l6)]) 8 (dk dt_wordOf 50 rfl) rfl rfl (by decide) rfl ?_
        refine T_goto 60 (dk dt_wordOf 51 rfl) (by decide) ?_
        exact T_sub [2, 3, 4, 5, 6, 7, 8, 1, 0] rfl h
      · have h := h.2 c6
        refine T_iconst (v := 1) (dk dt_wordOf 46 rfl) (by decide +kernel) ?_
        refine T_goto 96 (dk dt_wordOf 47 rfl) (by decide) ?_
        refine T_istore (lv2 := [(7, vi 1), (0, vr 0), (1, vi l1), (2, vi l2), (3, vr 901), (4, vi l4), (5, vi l5), (6, vi l6), (8, vi l8)]) (dk dt_wordOf 49 rfl) (by decide) rfl ?_
        refine T_iinc (v := l8 + 1) (lv2 := [(8, vi (l8 + 1)), (7, vi 1), (0, vr 0), (1, vi l1), (2, vi l2), (3, vr 901), (4, vi l4), (5, vi l5), (6, vi l6)]) 8 (dk dt_wordOf 50 rfl) rfl rfl (by decide) rfl ?_
        refine T_goto 60 (dk dt_wordOf 51 rfl) (by decide) ?_
        exact T_sub [2, 3, 4, 5, 6, 7, 8, 1, 0] rfl h
set_option maxRecDepth 100000 in
set_option maxHeartbeats 4000000 in
theorem sg_wordOf_104 {G : mG} {d : Nat} {x : gd} {P : Option gv → gd → Prop} (l1 : Int32) (l2 : Int32) (l4 : Int32) (l6 : Int32) (l7 : Int32)
    (h : ((l7 = (0 : Int32) → MT G (d + 7) z_wordOf 11 [(0, vr 0), (1, vi l1), (2, vi l2), (3, vr 901), (4, vi (l4 + 1)), (5, vi (l6 + 1))] [] x P) ∧ (¬ (l7 = (0 : Int32)) → P (some (vi l4)) x))) :
    MT G (d + 7) z_wordOf 104 [(0, vr 0), (1, vi l1), (2, vi l2), (3, vr 901), (4, vi l4), (6, vi l6), (7, vi l7)] [] x P := by
  refine T_iload 6 (dk dt_wordOf 52 rfl) rfl ?_
  refine T_if_eq 112 (dk dt_wordOf 53 rfl) (by decide) (fun c1 => ?_) (fun c1 => ?_)
  · have h := h.1 c1
    refine T_iinc (v := l4 + 1) (lv2 := [(4, vi (l4 + 1)), (0, vr 0), (1, vi l1), (2, vi l2), (3, vr 901), (6, vi l6), (7, vi l7)]) 4 (dk dt_wordOf 56 rfl) rfl rfl (by decide) rfl ?_
    refine T_iload 5 (dk dt_wordOf 57 rfl) rfl ?_
    refine T_iconst (v := 1) (dk dt_wordOf 58 rfl) (by decide +kernel) ?_
    refine T_iadd (dk dt_wordOf 59 rfl) ?_
    refine T_istore (lv2 := [(5, vi (l6 + 1)), (4, vi (l4 + 1)), (0, vr 0), (1, vi l1), (2, vi l2), (3, vr 901), (6, vi l6), (7, vi l7)]) (dk dt_wordOf 60 rfl) (by decide) rfl ?_
    refine T_goto 11 (dk dt_wordOf 61 rfl) (by decide) ?_
    exact T_sub [2, 3, 4, 5, 1, 0] rfl h
  · have h := h.2 c1
    refine T_iload 4 (dk dt_wordOf 54 rfl) rfl ?_
    exact MT_iret (dk dt_wordOf 55 rfl) rfl rfl h
end
section
/-! numbers, memory: what the specs use -/
theorem t_lt {a b : Int32} : a < b ↔ a.toInt < b.toInt := Int32.lt_iff_toInt_lt
theorem t_le {a b : Int32} : a ≤ b ↔ a.toInt ≤ b.toInt := Int32.le_iff_toInt_le
theorem t_eq {a b : Int32} : a = b ↔ a.toInt = b.toInt := Int32.toInt_inj.symm
theorem t_rg (a : Int32) : -2147483648 ≤ a.toInt ∧ a.toInt ≤ 2147483647 := ⟨Int32.le_toInt a, by have := Int32.toInt_lt a; omega⟩
theorem t_add {a b : Int32} (h1 : -2147483648 ≤ a.toInt + b.toInt) (h2 : a.toInt + b.toInt ≤ 2147483647) : (a + b).toInt = a.toInt + b.toInt := by
  rw [Int32.toInt_add]
  exact Int.bmod_eq_of_le (by omega) (by omega)
theorem t_sub {a b : Int32} (h1 : -2147483648 ≤ a.toInt - b.toInt) (h2 : a.toInt - b.toInt ≤ 2147483647) : (a - b).toInt = a.toInt - b.toInt := by
  rw [Int32.toInt_sub]
  exact Int.bmod_eq_of_le (by omega) (by omega)
theorem t_mul {a b : Int32} (h1 : -2147483648 ≤ a.toInt * b.toInt) (h2 : a.toInt * b.toInt ≤ 2147483647) : (a * b).toInt = a.toInt * b.toInt := by
  rw [Int32.toInt_mul]
  exact Int.bmod_eq_of_le (by omega) (by omega)
theorem t_cl (a : Int32) : a.toNatClampNeg = a.toInt.toNat := rfl
theorem vp_lt {i : Int32} {n : Nat} (h : vp_in i n) : i.toNatClampNeg < n := by
  have := vp_in_iff.mp h
  rw [t_cl]; omega
theorem si_get {x : gd} {c k c' j : Nat} {v : Int32} : (si x c k v).1 c' j = if c' = c ∧ j = k then v else x.1 c' j := by
  show (if c' = c then upd (x.1 c) k v else x.1 c') j = _
  by_cases h : c' = c
  · subst h
    rw [if_pos rfl]
    show (if j = k then v else x.1 c' j) = _
    by_cases h2 : j = k
    · rw [if_pos h2, if_pos ⟨rfl, h2⟩]
    · rw [if_neg h2, if_neg (fun q => h2 q.2)]
  · rw [if_neg h, if_neg (fun q => h q.1)]
theorem si_cell {x : gd} {c k c' : Nat} {v : Int32} (h : c' ≠ c) : (si x c k v).1 c' = x.1 c' := by
  show (if c' = c then upd (x.1 c) k v else x.1 c') = _
  rw [if_neg h]
/-- x' is x but for the int fields L and the arrays A of the model (longs stay) -/
def md (L A : List Nat) (x x' : gd) : Prop := (∀ k, k ∉ L → x'.1 0 k = x.1 0 k) ∧ (∀ c, c ≠ 0 → c ∉ A → x'.1 c = x.1 c) ∧ x'.2 = x.2
theorem md_rf (x : gd) : md [] [] x x := ⟨fun _ _ => rfl, fun _ _ _ => rfl, rfl⟩
theorem md_w {L A L2 A2 : List Nat} {x x' : gd} (h : md L A x x') (h1 : ∀ k ∈ L, k ∈ L2) (h2 : ∀ k ∈ A, k ∈ A2) : md L2 A2 x x' := ⟨fun k hk => h.1 k (fun m => hk (h1 k m)), fun c hc hk => h.2.1 c hc (fun m => hk (h2 c m)), h.2.2⟩
theorem md_tr {L A L2 A2 L3 A3 : List Nat} {x y z : gd} (h : md L A x y) (g : md L2 A2 y z) (h1 : (L ++ L2).all (L3.elem ·) = true) (h2 : (A ++ A2).all (A3.elem ·) = true) : md L3 A3 x z := by
  rw [List.all_eq_true] at h1 h2
  refine ⟨fun k hk => ?_, fun c hc hk => ?_, g.2.2.trans h.2.2⟩
  · rw [g.1 k (fun m => hk (List.elem_iff.mp (h1 k (List.mem_append_right _ m)))), h.1 k (fun m => hk (List.elem_iff.mp (h1 k (List.mem_append_left _ m))))]
  · rw [g.2.1 c hc (fun m => hk (List.elem_iff.mp (h2 c (List.mem_append_right _ m)))), h.2.1 c hc (fun m => hk (List.elem_iff.mp (h2 c (List.mem_append_left _ m))))]
theorem md_f (x : gd) (k : Nat) (v : Int32) : md [k] [] x (si x 0 k v) := ⟨fun j hj => by rw [si_get, if_neg (fun q => hj (by rw [q.2]; exact List.mem_singleton.mpr rfl))], fun c hc _ => si_cell hc, rfl⟩
theorem md_a (x : gd) (c j : Nat) (v : Int32) (h : c ≠ 0) : md [] [c] x (si x c j v) := ⟨fun k _ => by rw [si_cell (fun e => h e.symm)], fun c' _ hk => si_cell (fun e => hk (by rw [e]; exact List.mem_singleton.mpr rfl)), rfl⟩
/-- true or false -/
def bi (p : Prop) [Decidable p] : Int32 := if p then 1 else 0
theorem bi_t {p : Prop} [Decidable p] (h : p) : bi p = 1 := if_pos h
theorem bi_f {p : Prop} [Decidable p] (h : ¬ p) : bi p = 0 := if_neg h
theorem bi_b {p : Prop} [Decidable p] : gbool (bi p) := by
  by_cases h : p
  · rw [bi_t h]; exact gbool_1
  · rw [bi_f h]; exact gbool_0
theorem bi_ne {p : Prop} [Decidable p] : ¬ bi p = 0 ↔ p := by
  by_cases h : p
  · rw [bi_t h]; exact ⟨fun _ => h, fun _ => by decide⟩
  · rw [bi_f h]; exact ⟨fun q => absurd rfl q, fun q => absurd q h⟩
theorem bi_eq {p : Prop} [Decidable p] : bi p = 0 ↔ ¬ p := by
  by_cases h : p
  · rw [bi_t h]; exact ⟨fun q => absurd q (by decide), fun q => absurd h q⟩
  · rw [bi_f h]; exact ⟨fun _ => h, fun _ => rfl⟩
theorem ri_i {F : Int32 → gd → Prop} {r : Int32} {x : gd} (h : F r x) : ri F (some (vi r)) x := ⟨r, rfl, h⟩
theorem rv_i {F : gd → Prop} {x : gd} (h : F x) : rv F none x := ⟨rfl, h⟩
end
section
/-! the grammar on the tokens' kinds (by the model's numbers); what is used is told as a list (use, token, token). The sums: pE with what may still be nested, how strong an operator must be, where, what was told. -/
abbrev gU := List (Nat × Nat × Nat)
abbrev gOp := Option (Nat × gU)
def pst (k : Int32) : Nat := if k = 30 then 1 else if k = 12 then 2 else if 51 ≤ k ∧ k ≤ 56 then 3 else if k = 57 ∨ k = 58 then 4 else if k = 59 ∨ k = 60 ∨ k = 28 then 5 else 0
abbrev pbg (o : Bool) (k : Int32) : Prop := k = 2 ∨ (k = 32 ∧ o = false) ∨ k = 1 ∨ k = 61 ∨ k = 29 ∨ k = 58
/-- one token is passed: it is the wanted one, and not one too many -/
def pt (K : Nat → Int32) (w : Int32) (q : Nat × gU) : gOp := if K q.1 = w ∧ q.1 < 700 then some (q.1 + 1, q.2) else none
def pW (rE : Nat → Nat → gU → gOp) (K : Nat → Int32) (th : Nat) : Nat → Nat → gU → gOp
  | 0, _, _ => none
  | f + 1, j, L => if th < pst (K j) then (if j < 700 then (rE (pst (K j)) (j + 1) L).bind (fun q => pW rE K th f q.1 (q.2 ++ [(51, j, 0)])) else none) else some (j, L)
def pO (rE : Nat → Nat → gU → gOp) (K : Nat → Int32) (o : Bool) (i : Nat) (L : gU) : gOp :=
  if 700 ≤ i then none
  else if K i = 2 then some (i + 1, L ++ [(52, i, 0)])
  else if K i = 32 then some (i + 1, L ++ [(53, i, 0)])
  else if K i = 61 then (rE 0 (i + 1) L).bind (pt K 62)
  else if K i = 1 then (if o = true then (if K (i + 1) = 65 then (if i + 1 < 700 ∧ (K (i + 2) = 2 ∧ i + 2 < 700) ∧ K (i + 3) = 66 ∧ i + 3 < 700 then some (i + 4, L ++ [(7, i, 0), (12, i + 2, i)]) else none) else some (i + 1, L ++ [(6, i, 0)])) else some (i + 1, L ++ [(3, i, 0)]))
  else none
def pE (K : Nat → Int32) (o : Bool) : Nat → Nat → Nat → gU → gOp
  | 0, _, _, _ => none
  | f + 1, th, i, L => if pbg o (K i) then (if K i = 29 ∨ K i = 58 then (if i < 700 then (pE K o f 5 (i + 1) L).bind (fun q => some (q.1, q.2 ++ [(50, i, 0)])) else none) else pO (pE K o f) K o i L).bind (fun q => pW (pE K o f) K th 701 q.1 q.2) else none
theorem pt_is {K : Nat → Int32} {w : Int32} {j : Nat} {L : gU} {q : Nat × gU} (h : pt K w (j, L) = some q) : K j = w ∧ j < 700 ∧ q = (j + 1, L) := by
  unfold pt at h
  split at h
  · next c => exact ⟨c.1, c.2, (Option.some.inj h).symm⟩
  · exact absurd h (by simp)
abbrev pgo (rE : Nat → Nat → gU → gOp) : Prop := ∀ s i L q, rE s i L = some q → i < q.1 ∧ q.1 ≤ 700
theorem pW_lt {rE : Nat → Nat → gU → gOp} {K : Nat → Int32} {th : Nat} (hr : pgo rE) : ∀ (f j : Nat) (L : gU) (q : Nat × gU), j ≤ 700 → pW rE K th f j L = some q → j ≤ q.1 ∧ q.1 ≤ 700 := by
  intro f
  induction f with
  | zero => intro j L q _ h; exact absurd h (by simp [pW])
  | succ f ih =>
    intro j L q hj h
    rw [pW] at h
    split at h
    · split at h
      · obtain ⟨z, hz, h2⟩ := Option.bind_eq_some_iff.mp h
        have a := hr _ _ _ _ hz
        have b := ih _ _ _ a.2 h2
        omega
      · exact absurd h (by simp)
    · cases Option.some.inj h; exact ⟨Nat.le_refl _, hj⟩
theorem pW_fuel {rE : Nat → Nat → gU → gOp} {K : Nat → Int32} {th : Nat} (hr : pgo rE) : ∀ (f g j : Nat) (L : gU), j ≤ 700 → 701 ≤ f + j → 701 ≤ g + j → pW rE K th f j L = pW rE K th g j L := by
  intro f
  induction f with
  | zero => intro g j L hj h1 h2; omega
  | succ f ih =>
    intro g j L hj h1 h2
    obtain ⟨g, rfl⟩ : ∃ m, g = m + 1 := ⟨g - 1, by omega⟩
    rw [pW, pW]
    split
    · split
      · cases hz : rE (pst (K j)) (j + 1) L with
        | none => rfl
        | some z =>
          have a := hr _ _ _ _ hz
          exact ih g z.1 (z.2 ++ [(51, j, 0)]) a.2 (by omega) (by omega)
      · rfl
    · rfl
theorem pO_lt {rE : Nat → Nat → gU → gOp} {K : Nat → Int32} {o : Bool} (hr : pgo rE) {i : Nat} {L : gU} {q : Nat × gU} (h : pO rE K o i L = some q) : i < q.1 ∧ q.1 ≤ 700 := by
  unfold pO at h
  split at h
  · exact absurd h (by simp)
  · next c =>
    split at h
    · cases Option.some.inj h; exact ⟨by show i < i + 1; omega, by show i + 1 ≤ 700; omega⟩
    split at h
    · cases Option.some.inj h; exact ⟨by show i < i + 1; omega, by show i + 1 ≤ 700; omega⟩
    · split at h
      · obtain ⟨z, hz, h2⟩ := Option.bind_eq_some_iff.mp h
        have a := hr _ _ _ _ hz
        obtain ⟨z1, z2⟩ := z
        obtain ⟨-, b, e⟩ := pt_is h2
        subst e
        exact ⟨by show i < z1 + 1; have := a.1; omega, by show z1 + 1 ≤ 700; omega⟩
      · split at h
        · split at h
          · split at h
            · split at h
              · next d => cases Option.some.inj h; exact ⟨by show i < i + 4; omega, by show i + 4 ≤ 700; omega⟩
              · exact absurd h (by simp)
            · cases Option.some.inj h; exact ⟨by show i < i + 1; omega, by show i + 1 ≤ 700; omega⟩
          · cases Option.some.inj h; exact ⟨by show i < i + 1; omega, by show i + 1 ≤ 700; omega⟩
        · exact absurd h (by simp)
theorem pE_lt {K : Nat → Int32} {o : Bool} : ∀ f : Nat, pgo (pE K o f) := by
  intro f
  induction f with
  | zero => intro s i L q h; exact absurd h (by simp [pE])
  | succ f ih =>
    intro s i L q h
    rw [pE] at h
    split at h
    · obtain ⟨z, hz, h2⟩ := Option.bind_eq_some_iff.mp h
      have a : i < z.1 ∧ z.1 ≤ 700 := by
        split at hz
        · split at hz
          · obtain ⟨y, hy, e⟩ := Option.bind_eq_some_iff.mp hz
            have a := ih _ _ _ _ hy
            cases Option.some.inj e
            exact ⟨by show i < y.1; omega, a.2⟩
          · exact absurd hz (by simp)
        · exact pO_lt ih hz
      have b := pW_lt ih _ _ _ _ a.2 h2
      omega
    · exact absurd h (by simp)
/-! what a reader with a stack of operators has still before it: (strength, what may be nested, what it tells at its end) -/
abbrev gH := List (Nat × Nat × Nat × Nat × Nat)
def dB (K : Nat → Int32) (o : Bool) : gH → Nat → gU → gOp
  | [], _, _ => none
  | [_], j, L => some (j, L)
  | z :: y :: s, j, L => if z.1 = 0 then (if K j = 62 ∧ j < 700 then (pW (pE K o (y.2.1 - 1)) K y.1 701 (j + 1) L).bind (fun q => dB K o (y :: s) q.1 q.2) else none) else (pW (pE K o (y.2.1 - 1)) K y.1 701 j (L ++ [z.2.2])).bind (fun q => dB K o (y :: s) q.1 q.2)
def dAk (K : Nat → Int32) (o : Bool) (s : gH) (i : Nat) (L : gU) : gOp := match s with
  | [] => none
  | z :: _ => (pE K o z.2.1 z.1 i L).bind (fun q => dB K o s q.1 q.2)
def dW (K : Nat → Int32) (o : Bool) (s : gH) (j : Nat) (L : gU) : gOp := match s with
  | [] => none
  | z :: _ => (pW (pE K o (z.2.1 - 1)) K z.1 701 j L).bind (fun q => dB K o s q.1 q.2)
section DEN
variable {K : Nat → Int32} {o : Bool} {a r f i j : Nat} {v w : Nat × Nat × Nat} {y : Nat × Nat × Nat × Nat × Nat} {s : gH} {L : gU}
theorem dB_op (ha : ¬ a = 0) : dB K o ((a, r, v) :: y :: s) j L = dW K o (y :: s) j (L ++ [v]) := by
  rw [dB, if_neg ha]; rfl
theorem dB_par : dB K o ((0, r, v) :: y :: s) j L = if K j = 62 ∧ j < 700 then dW K o (y :: s) (j + 1) L else none := by
  rw [dB, if_pos rfl]; rfl
theorem dA_0 : dAk K o ((a, 0, v) :: s) i L = none := rfl
theorem dA_no (h : ¬ pbg o (K i)) : dAk K o ((a, r, v) :: s) i L = none := by
  cases r with
  | zero => rfl
  | succ f => show (pE K o (f + 1) a i L).bind _ = none; rw [pE, if_neg h]; rfl
theorem dA_pre (h : K i = 29 ∨ K i = 58) (hi : i < 700) : dAk K o ((a, f + 1, v) :: s) i L = dAk K o ((5, f, 50, i, 0) :: (a, f + 1, v) :: s) (i + 1) L := by
  show (pE K o (f + 1) a i L).bind _ = (pE K o f 5 (i + 1) L).bind _
  have hb : pbg o (K i) := Or.inr (Or.inr (Or.inr (Or.inr h)))
  rw [pE, if_pos hb, if_pos h, if_pos hi, Option.bind_assoc, Option.bind_assoc]
  congr 1
theorem dA_pre0 (h : K i = 29 ∨ K i = 58) : dAk K o ((a, 1, v) :: s) i L = none := by
  show (pE K o (0 + 1) a i L).bind _ = none
  have hb : pbg o (K i) := Or.inr (Or.inr (Or.inr (Or.inr h)))
  rw [pE, if_pos hb, if_pos h]
  split <;> rfl
theorem dA_7 (hi : 700 ≤ i) : dAk K o ((a, r, v) :: s) i L = none := by
  cases r with
  | zero => rfl
  | succ f =>
    show (pE K o (f + 1) a i L).bind _ = none
    rw [pE]
    split
    · split
      · rw [if_neg (by omega)]; rfl
      · rw [pO, if_pos hi]; rfl
    · rfl
theorem dA_par (h : K i = 61) (hi : i < 700) : dAk K o ((a, f + 1, v) :: s) i L = dAk K o ((0, f, w) :: (a, f + 1, v) :: s) (i + 1) L := by
  show (pE K o (f + 1) a i L).bind _ = (pE K o f 0 (i + 1) L).bind _
  have hb : pbg o (K i) := Or.inr (Or.inr (Or.inr (Or.inl h)))
  rw [pE, if_pos hb, if_neg (by rw [h]; decide), pO, if_neg (by omega), if_neg (by rw [h]; decide), if_neg (by rw [h]; decide), if_pos h, Option.bind_assoc, Option.bind_assoc]
  congr 1
  funext q
  rw [dB_par, pt]
  split <;> rfl
theorem dA_leaf {q : Nat × gU} (hb : pbg o (K i)) (h : ¬ (K i = 29 ∨ K i = 58)) (h2 : pO (pE K o f) K o i L = some q) : dAk K o ((a, f + 1, v) :: s) i L = dW K o ((a, f + 1, v) :: s) q.1 q.2 := by
  show (pE K o (f + 1) a i L).bind _ = (pW (pE K o f) K a 701 q.1 q.2).bind _
  rw [pE, if_pos hb, if_neg h, h2]
  rfl
theorem dA_leaf0 (h : ¬ (K i = 29 ∨ K i = 58)) (h2 : pO (pE K o f) K o i L = none) : dAk K o ((a, f + 1, v) :: s) i L = none := by
  by_cases hb : pbg o (K i)
  · show (pE K o (f + 1) a i L).bind _ = none
    rw [pE, if_pos hb, if_neg h, h2]
    rfl
  · exact dA_no hb
theorem dW_pop (ha : ¬ a = 0) (h : pst (K j) ≤ a) : dW K o ((a, r, v) :: y :: s) j L = dW K o (y :: s) j (L ++ [v]) := by
  show (pW (pE K o (r - 1)) K a (700 + 1) j L).bind _ = _
  rw [pW, if_neg (by omega)]
  exact dB_op ha
theorem dW_par (h : pst (K j) = 0) : dW K o ((0, r, v) :: y :: s) j L = if K j = 62 ∧ j < 700 then dW K o (y :: s) (j + 1) L else none := by
  show (pW (pE K o (r - 1)) K 0 (700 + 1) j L).bind _ = _
  rw [pW, if_neg (by omega)]
  exact dB_par
theorem dW_end (h : pst (K j) ≤ a) : dW K o [(a, r, v)] j L = some (j, L) := by
  show (pW (pE K o (r - 1)) K a (700 + 1) j L).bind _ = _
  rw [pW, if_neg (by omega)]
  rfl
theorem dW_op (h : a < pst (K j)) (hj : j < 700) : dW K o ((a, f + 1, v) :: s) j L = dAk K o ((pst (K j), f, 51, j, 0) :: (a, f + 1, v) :: s) (j + 1) L := by
  show (pW (pE K o f) K a (700 + 1) j L).bind _ = (pE K o f (pst (K j)) (j + 1) L).bind _
  rw [pW, if_pos h, if_pos hj, Option.bind_assoc]
  cases hz : pE K o f (pst (K j)) (j + 1) L with
  | none => rfl
  | some q =>
    have b := pE_lt f _ _ _ _ hz
    show (pW (pE K o f) K a 700 q.1 (q.2 ++ [(51, j, 0)])).bind _ = dB K o _ q.1 q.2
    rw [dB_op (by omega), pW_fuel (pE_lt f) 700 701 q.1 _ b.2 (by omega) (by omega)]
    rfl
theorem dW_op7 (h : a < pst (K j)) (hj : 700 ≤ j) : dW K o ((a, r, v) :: s) j L = none := by
  show (pW (pE K o (r - 1)) K a (700 + 1) j L).bind _ = none
  rw [pW, if_pos h, if_neg (by omega)]
  rfl
end DEN
end
section
/-! the grammar of statements: (lets so far, where, what was told) -/
abbrev gTs := Option (Nat × Nat × gU)
def pme : Option Nat → gU
  | none => []
  | some t => [(26, t, 0)]
def pma : Option Nat → gU
  | none => []
  | some t => [(25, t, 0)]
def pal : Option Nat → Nat → Nat × Nat × Nat
  | none, i => (24, i, 0)
  | some t, i => (27, t, i)
def pan (v : Nat × Nat × Nat) (q : Nat × gU) : gOp := some (q.1, q.2 ++ [v])
/-- a whole sum, its end told -/
def pX (K : Nat → Int32) (o : Bool) (f i : Nat) (L : gU) : gOp := (pE K o f 0 i L).bind (pan (54, 0, 0))
def pXq (K : Nat → Int32) (f : Nat) (q : Nat × gU) : gOp := pX K false f q.1 q.2
def pP (K : Nat → Int32) (f i : Nat) (L : gU) : gOp := if K i = 1 ∧ i < 700 then (if K (i + 1) = 65 then (if i + 1 < 700 then (pX K false f (i + 2) (L ++ [(7, i, 0)])).bind (pt K 66) else none) else some (i + 1, L ++ [(6, i, 0)])) else none
def pR (K : Nat → Int32) (f : Nat) (t : Option Nat) (i : Nat) (L : gU) : gOp :=
  if K i = 35 ∨ K i = 10 ∨ K i = 16 then (if i < 700 then (((pP K f (i + 1) (L ++ pme t)).bind (pt K 68)).bind (pXq K f)).bind (fun q => (if K i = 16 then (pt K 68 q).bind (pXq K f) else some q).bind (pan (74, i, 0))) else none)
  else if K i = 1 ∧ i < 700 ∧ K (i + 1) = 65 then (pP K f i (L ++ pme t)).bind (pan (75, i, 0))
  else if K i = 1 ∧ K (i + 1) = 67 then (if i < 700 ∧ 1 ≤ f then some (i + 1, L ++ [pal t i]) else none)
  else (pX K false f i (L ++ pma t)).bind (pan (76, i, 0))
def pBl (rS : Nat → Nat → gU → gTs) (K : Nat → Int32) (z : Nat) : Nat → Nat → Nat → gU → gTs
  | 0, _, _, _ => none
  | n + 1, c, i, L => if K i = 64 then (if i < 700 then some (c, i + 1, L ++ [(21, z, 0)]) else none) else (rS c i L).bind (fun q => pBl rS K z n q.1 q.2.1 q.2.2)
def pBk (rS : Nat → Nat → gU → gTs) (K : Nat → Int32) (z c i : Nat) (L : gU) : gTs := if K i = 63 ∧ i < 700 then pBl rS K z 701 c (i + 1) (L ++ [(20, z, 0)]) else none
def pEl (rS : Nat → Nat → gU → gTs) (K : Nat → Int32) (q : Nat × Nat × gU) : gTs := if K q.2.1 = 18 then (if q.2.1 < 700 then (if K (q.2.1 + 1) = 24 then rS q.1 (q.2.1 + 1) (q.2.2 ++ [(62, q.2.1, 0)]) else pBk rS K 4 q.1 (q.2.1 + 1) (q.2.2 ++ [(62, q.2.1, 0)])) else none) else some q
def pup (c : Nat) (v : Nat × Nat × Nat) (r : gOp) : gTs := r.bind (fun q => some (c, q.1, q.2 ++ [v]))
/-- the statements without a block -/
def pS1 (K : Nat → Int32) (f c i : Nat) (L : gU) : gTs :=
  if K i = 26 then (if (K (i + 1) = 1 ∧ i + 1 < 700) ∧ c < 8 ∧ K (i + 2) = 50 ∧ i + 2 < 700 then pup (c + 1) (22, i + 1, i) ((pR K f none (i + 3) (L ++ [(23, i + 1, 0)])).bind (pt K 67)) else none)
  else if K i = 1 then (if K (i + 1) = 65 then (if i + 1 < 700 then pup c (78, i, 0) (((((pX K false f (i + 2) (L ++ [(7, i, 0)])).bind (pt K 66)).bind (pt K 50)).bind (pXq K f)).bind (pt K 67)) else none) else if K (i + 1) = 50 ∧ i + 1 < 700 then pup c (77, i, 0) ((pR K f (some i) (i + 2) L).bind (pt K 67)) else none)
  else if K i = 20 ∨ K i = 31 ∨ K i = 19 then pup c (68, i, 0) (pt K 67 (i + 1, L))
  else if K i = 13 ∨ K i = 14 then pup c (69, i, 0) ((pX K false f (i + 1) L).bind (pt K 67))
  else if K i = 15 then (if (K (i + 1) = 2 ∧ i + 1 < 700) ∧ K (i + 2) = 68 ∧ i + 2 < 700 then pup c (70, i, i + 1) ((pX K false f (i + 3) L).bind (pt K 67)) else none)
  else if K i = 36 ∨ K i = 22 ∨ K i = 38 ∨ K i = 39 ∨ K i = 40 then (if K (i + 1) = 1 ∧ i + 1 < 700 then pup c (66, i, i + 1) (pt K 67 (i + 2, L)) else none)
  else if K i = 33 ∨ K i = 25 then (if K (i + 1) = 1 ∧ i + 1 < 700 then pup c (67, i, i + 1) (pt K 67 (i + 2, L)) else none)
  else none
def pfi (q : Nat × Nat × gU) : gTs := some (q.1, q.2.1, q.2.2 ++ [(63, 0, 0)])
def pS (K : Nat → Int32) : Nat → Nat → Nat → gU → gTs
  | 0, _, _, _ => none
  | f + 1, c, i, L =>
    if 700 ≤ i then none
    else if K i = 24 then (pX K false f (i + 1) L).bind (fun q => ((pBk (pS K f) K 3 c q.1 (q.2 ++ [(60, i, 0)])).bind (pEl (pS K f) K)).bind pfi)
    else if K i = 41 then (pX K false f (i + 1) L).bind (fun q => pBk (pS K f) K 1 c q.1 (q.2 ++ [(61, i, 0)]))
    else if K i = 27 then (if K (i + 1) = 1 ∧ i + 1 < 700 then pBk (pS K f) K 2 c (i + 2) (L ++ [(65, i, i + 1)]) else none)
    else pS1 K f c i L
theorem pt_lt {K : Nat → Int32} {w : Int32} {q r : Nat × gU} (h : pt K w q = some r) : q.1 < r.1 ∧ r.1 ≤ 700 := by
  obtain ⟨a, b⟩ := q
  obtain ⟨-, h1, e⟩ := pt_is h
  subst e
  exact ⟨Nat.lt_succ_self _, h1⟩
theorem pan_lt {v : Nat × Nat × Nat} {q r : Nat × gU} (h : pan v q = some r) : r.1 = q.1 := by
  unfold pan at h
  cases Option.some.inj h
  rfl
theorem pX_lt {K : Nat → Int32} {o : Bool} {f i : Nat} {L : gU} {q : Nat × gU} (h : pX K o f i L = some q) : i < q.1 ∧ q.1 ≤ 700 := by
  obtain ⟨z, hz, h2⟩ := Option.bind_eq_some_iff.mp h
  have a := pE_lt f _ _ _ _ hz
  have b := pan_lt h2
  omega
theorem pXq_lt {K : Nat → Int32} {f : Nat} {r q : Nat × gU} (h : pXq K f r = some q) : r.1 < q.1 ∧ q.1 ≤ 700 := pX_lt h
theorem pP_lt {K : Nat → Int32} {f i : Nat} {L : gU} {q : Nat × gU} (h : pP K f i L = some q) : i < q.1 ∧ q.1 ≤ 700 := by
  unfold pP at h
  split at h
  · split at h
    · split at h
      · obtain ⟨z, hz, h2⟩ := Option.bind_eq_some_iff.mp h
        have a := pX_lt hz
        have b := pt_lt h2
        omega
      · exact absurd h (by simp)
    · next c _ => cases Option.some.inj h; exact ⟨Nat.lt_succ_self _, by show i + 1 ≤ 700; omega⟩
  · exact absurd h (by simp)
theorem pR_lt {K : Nat → Int32} {f i : Nat} {t : Option Nat} {L : gU} {q : Nat × gU} (h : pR K f t i L = some q) : i < q.1 ∧ q.1 ≤ 700 := by
  unfold pR at h
  split at h
  · split at h
    · obtain ⟨z4, hz4, h4⟩ := Option.bind_eq_some_iff.mp h
      obtain ⟨z3, hz3, h3⟩ := Option.bind_eq_some_iff.mp hz4
      obtain ⟨z2, hz2, h2⟩ := Option.bind_eq_some_iff.mp hz3
      have a := pP_lt hz2
      have b := pt_lt h2
      have c := pXq_lt h3
      obtain ⟨z5, hz5, h5⟩ := Option.bind_eq_some_iff.mp h4
      have d := pan_lt h5
      split at hz5
      · obtain ⟨z6, hz6, h6⟩ := Option.bind_eq_some_iff.mp hz5
        have e1 := pt_lt hz6
        have e2 := pXq_lt h6
        omega
      · cases Option.some.inj hz5; omega
    · exact absurd h (by simp)
  · split at h
    · obtain ⟨z, hz, h2⟩ := Option.bind_eq_some_iff.mp h
      have a := pP_lt hz
      have b := pan_lt h2
      omega
    · split at h
      · split at h
        · next c => cases Option.some.inj h; exact ⟨Nat.lt_succ_self _, c.1⟩
        · exact absurd h (by simp)
      · obtain ⟨z, hz, h2⟩ := Option.bind_eq_some_iff.mp h
        have a := pX_lt hz
        have b := pan_lt h2
        omega
abbrev pgs (rS : Nat → Nat → gU → gTs) : Prop := ∀ c i L q, rS c i L = some q → i < q.2.1 ∧ q.2.1 ≤ 700
theorem pBl_lt {rS : Nat → Nat → gU → gTs} {K : Nat → Int32} {z : Nat} (hr : pgs rS) : ∀ (n c i : Nat) (L : gU) (q : Nat × Nat × gU), pBl rS K z n c i L = some q → i < q.2.1 ∧ q.2.1 ≤ 700 := by
  intro n
  induction n with
  | zero => intro c i L q h; exact absurd h (by simp [pBl])
  | succ n ih =>
    intro c i L q h
    rw [pBl] at h
    split at h
    · split at h
      · next d => cases Option.some.inj h; exact ⟨Nat.lt_succ_self _, d⟩
      · exact absurd h (by simp)
    · obtain ⟨y, hy, h2⟩ := Option.bind_eq_some_iff.mp h
      have a := hr _ _ _ _ hy
      have b := ih _ _ _ _ h2
      omega
theorem pBl_fuel {rS : Nat → Nat → gU → gTs} {K : Nat → Int32} {z : Nat} (hr : pgs rS) : ∀ (n m c i : Nat) (L : gU), i ≤ 700 → 701 ≤ n + i → 701 ≤ m + i → pBl rS K z n c i L = pBl rS K z m c i L := by
  intro n
  induction n with
  | zero => intro m c i L h h1 h2; omega
  | succ n ih =>
    intro m c i L h h1 h2
    obtain ⟨m, rfl⟩ : ∃ k, m = k + 1 := ⟨m - 1, by omega⟩
    rw [pBl, pBl]
    split
    · rfl
    · cases hy : rS c i L with
      | none => rfl
      | some y =>
        have a := hr _ _ _ _ hy
        exact ih m y.1 y.2.1 y.2.2 a.2 (by omega) (by omega)
theorem pBk_lt {rS : Nat → Nat → gU → gTs} {K : Nat → Int32} {z : Nat} (hr : pgs rS) {c i : Nat} {L : gU} {q : Nat × Nat × gU} (h : pBk rS K z c i L = some q) : i < q.2.1 ∧ q.2.1 ≤ 700 := by
  unfold pBk at h
  split at h
  · have := pBl_lt hr _ _ _ _ _ h; omega
  · exact absurd h (by simp)
theorem pEl_lt {rS : Nat → Nat → gU → gTs} {K : Nat → Int32} (hr : pgs rS) {q r : Nat × Nat × gU} (hq : q.2.1 ≤ 700) (h : pEl rS K q = some r) : q.2.1 ≤ r.2.1 ∧ r.2.1 ≤ 700 := by
  unfold pEl at h
  split at h
  · split at h
    · split at h
      · have := hr _ _ _ _ h; omega
      · have := pBk_lt hr h; omega
    · exact absurd h (by simp)
  · cases Option.some.inj h; exact ⟨Nat.le_refl _, hq⟩
theorem pup_lt {c : Nat} {v : Nat × Nat × Nat} {r : gOp} {q : Nat × Nat × gU} (h : pup c v r = some q) : ∃ L, r = some (q.2.1, L) := by
  unfold pup at h
  obtain ⟨z, hz, e⟩ := Option.bind_eq_some_iff.mp h
  cases Option.some.inj e
  exact ⟨z.2, hz⟩
theorem pS1_lt {K : Nat → Int32} {f c i : Nat} {L : gU} {q : Nat × Nat × gU} (h : pS1 K f c i L = some q) : i < q.2.1 ∧ q.2.1 ≤ 700 := by
  unfold pS1 at h
  split at h
  · split at h
    · obtain ⟨M, h⟩ := pup_lt h
      obtain ⟨y, hy, h2⟩ := Option.bind_eq_some_iff.mp h
      have a := pR_lt hy
      have b := pt_lt h2
      exact ⟨by have : y.1 < q.2.1 := b.1; omega, b.2⟩
    · exact absurd h (by simp)
  · split at h
    · split at h
      · split at h
        · obtain ⟨M, h⟩ := pup_lt h
          obtain ⟨y5, hy5, h5⟩ := Option.bind_eq_some_iff.mp h
          obtain ⟨y4, hy4, h4⟩ := Option.bind_eq_some_iff.mp hy5
          obtain ⟨y3, hy3, h3⟩ := Option.bind_eq_some_iff.mp hy4
          obtain ⟨y2, hy2, h2⟩ := Option.bind_eq_some_iff.mp hy3
          have a2 := pX_lt hy2
          have b2 := pt_lt h2
          have b3 := pt_lt h3
          have b4 := pXq_lt h4
          have b5 := pt_lt h5
          exact ⟨by have : y5.1 < q.2.1 := b5.1; omega, b5.2⟩
        · exact absurd h (by simp)
      · split at h
        · obtain ⟨M, h⟩ := pup_lt h
          obtain ⟨y2, hy2, h2⟩ := Option.bind_eq_some_iff.mp h
          have a2 := pR_lt hy2
          have b2 := pt_lt h2
          exact ⟨by have : y2.1 < q.2.1 := b2.1; omega, b2.2⟩
        · exact absurd h (by simp)
    · split at h
      · obtain ⟨M, h⟩ := pup_lt h
        have b := pt_lt h
        exact ⟨by have : i + 1 < q.2.1 := b.1; omega, b.2⟩
      · split at h
        · obtain ⟨M, h⟩ := pup_lt h
          obtain ⟨y2, hy2, h2⟩ := Option.bind_eq_some_iff.mp h
          have a2 := pX_lt hy2
          have b2 := pt_lt h2
          exact ⟨by have : y2.1 < q.2.1 := b2.1; omega, b2.2⟩
        · split at h
          · split at h
            · obtain ⟨M, h⟩ := pup_lt h
              obtain ⟨y2, hy2, h2⟩ := Option.bind_eq_some_iff.mp h
              have a2 := pX_lt hy2
              have b2 := pt_lt h2
              exact ⟨by have : y2.1 < q.2.1 := b2.1; omega, b2.2⟩
            · exact absurd h (by simp)
          · split at h
            · split at h
              · obtain ⟨M, h⟩ := pup_lt h
                have b := pt_lt h
                exact ⟨by have : i + 2 < q.2.1 := b.1; omega, b.2⟩
              · exact absurd h (by simp)
            · split at h
              · split at h
                · obtain ⟨M, h⟩ := pup_lt h
                  have b := pt_lt h
                  exact ⟨by have : i + 2 < q.2.1 := b.1; omega, b.2⟩
                · exact absurd h (by simp)
              · exact absurd h (by simp)
theorem pfi_lt {q r : Nat × Nat × gU} (h : pfi q = some r) : r.2.1 = q.2.1 := by
  unfold pfi at h
  cases Option.some.inj h
  rfl
theorem pS_lt {K : Nat → Int32} : ∀ f : Nat, pgs (pS K f) := by
  intro f
  induction f with
  | zero => intro c i L q h; exact absurd h (by simp [pS])
  | succ f ih =>
    intro c i L q h
    rw [pS] at h
    split at h
    · exact absurd h (by simp)
    · split at h
      · obtain ⟨z, hz, h2⟩ := Option.bind_eq_some_iff.mp h
        obtain ⟨x, hx, h4⟩ := Option.bind_eq_some_iff.mp h2
        obtain ⟨y, hy, h3⟩ := Option.bind_eq_some_iff.mp hx
        have a := pX_lt hz
        have b := pBk_lt ih hy
        have d := pEl_lt ih b.2 h3
        have e := pfi_lt h4
        omega
      · split at h
        · obtain ⟨z, hz, h2⟩ := Option.bind_eq_some_iff.mp h
          have a := pX_lt hz
          have b := pBk_lt ih h2
          omega
        · split at h
          · split at h
            · have b := pBk_lt ih h
              omega
            · exact absurd h (by simp)
          · exact pS1_lt h
/-! what a reader with a stack of open statements has still before it (0 a thread's block, 1 while, 2 lock, 3 if, 4 else, 5 the place of an if behind else) -/
def eS (K : Nat → Int32) : List Nat → Nat → Nat → gU → gTs
  | [], _, _, _ => none
  | z :: s, c, j, L => if z = 5 then eS K s c j (L ++ [(63, 0, 0)]) else (pBl (pS K (16 - s.length)) K z 701 c j L).bind (fun q => if z = 0 then some q else if z = 3 then (pEl (pS K (16 - s.length)) K q).bind (fun q => eS K s q.1 q.2.1 (q.2.2 ++ [(63, 0, 0)])) else if z = 4 then eS K s q.1 q.2.1 (q.2.2 ++ [(63, 0, 0)]) else eS K s q.1 q.2.1 q.2.2)
def eX (K : Nat → Int32) (u : List Nat) (c i : Nat) (L : gU) : gTs := (pS K (17 - u.length) c i L).bind (fun q => eS K u q.1 q.2.1 q.2.2)
/-- behind the end of a block -/
def eC (K : Nat → Int32) (z : Nat) (s : List Nat) (c j : Nat) (L : gU) : gTs := if z = 0 then some (c, j, L) else if z = 3 then (pEl (pS K (16 - s.length)) K (c, j, L)).bind (fun q => eS K s q.1 q.2.1 (q.2.2 ++ [(63, 0, 0)])) else if z = 4 then eS K s c j (L ++ [(63, 0, 0)]) else eS K s c j L
section DES
variable {K : Nat → Int32} {z f c i j : Nat} {s u : List Nat} {L : gU}
theorem eS_is (hz : ¬ z = 5) : eS K (z :: s) c j L = (pBl (pS K (16 - s.length)) K z 701 c j L).bind (fun q => eC K z s q.1 q.2.1 q.2.2) := by
  rw [eS, if_neg hz]; rfl
theorem eS_5 : eS K (5 :: s) c j L = eS K s c j (L ++ [(63, 0, 0)]) := by
  rw [eS, if_pos rfl]
theorem eS_close (hz : ¬ z = 5) (hK : K j = 64) (hj : j < 700) : eS K (z :: s) c j L = eC K z s c (j + 1) (L ++ [(21, z, 0)]) := by
  rw [eS_is hz, show (701 : Nat) = 700 + 1 from rfl, pBl, if_pos hK, if_pos hj]; rfl
theorem eS_close7 (hz : ¬ z = 5) (hK : K j = 64) (hj : 700 ≤ j) : eS K (z :: s) c j L = none := by
  rw [eS_is hz, show (701 : Nat) = 700 + 1 from rfl, pBl, if_pos hK, if_neg (by omega)]; rfl
theorem eS_stmt (hz : ¬ z = 5) (hK : ¬ K i = 64) : eS K (z :: s) c i L = eX K (z :: s) c i L := by
  rw [eS_is hz, show (701 : Nat) = 700 + 1 from rfl, pBl, if_neg hK, eX, show 17 - (z :: s).length = 16 - s.length by rw [List.length_cons]; omega]
  cases h : pS K (16 - s.length) c i L with
  | none => rfl
  | some q =>
    have a := pS_lt _ _ _ _ _ h
    show (pBl (pS K (16 - s.length)) K z 700 q.1 q.2.1 q.2.2).bind _ = eS K (z :: s) q.1 q.2.1 q.2.2
    rw [eS_is hz, pBl_fuel (pS_lt _) 700 701 q.1 q.2.1 q.2.2 a.2 (by omega) (by omega)]
theorem eX_0 (h : pS K (17 - u.length) c i L = none) : eX K u c i L = none := by
  rw [eX, h]; rfl
theorem eS_block (hz : ¬ z = 5) (hu : 16 - u.length = f) (hK : K i = 63) (hi : i < 700) : (pBk (pS K f) K z c i L).bind (fun q => eC K z u q.1 q.2.1 q.2.2) = eS K (z :: u) c (i + 1) (L ++ [(20, z, 0)]) := by
  rw [pBk, if_pos ⟨hK, hi⟩, eS_is hz, hu]
theorem eX_while {q : Nat × gU} (hu : 17 - u.length = f + 1) (hi : i < 700) (hK : K i = 41) (h : pX K false f (i + 1) L = some q) : eX K u c i L = (pBk (pS K f) K 1 c q.1 (q.2 ++ [(61, i, 0)])).bind (fun q => eC K 1 u q.1 q.2.1 q.2.2) := by
  rw [eX, hu, pS, if_neg (by omega), if_neg (by rw [hK]; decide), if_pos hK, h]
  rfl
theorem eX_lock (hu : 17 - u.length = f + 1) (hi : i + 1 < 700) (hK : K i = 27) (h : K (i + 1) = 1) : eX K u c i L = (pBk (pS K f) K 2 c (i + 2) (L ++ [(65, i, i + 1)])).bind (fun q => eC K 2 u q.1 q.2.1 q.2.2) := by
  rw [eX, hu, pS, if_neg (by omega), if_neg (by rw [hK]; decide), if_neg (by rw [hK]; decide), if_pos hK, if_pos ⟨h, hi⟩]
  rfl
theorem eX_if {q : Nat × gU} (hu : 17 - u.length = f + 1) (hi : i < 700) (hK : K i = 24) (h : pX K false f (i + 1) L = some q) : eX K u c i L = (pBk (pS K f) K 3 c q.1 (q.2 ++ [(60, i, 0)])).bind (fun q => eC K 3 u q.1 q.2.1 q.2.2) := by
  rw [eX, hu, pS, if_neg (by omega), if_pos hK, h]
  show (((pBk (pS K f) K 3 c q.1 (q.2 ++ [(60, i, 0)])).bind (pEl (pS K f) K)).bind pfi).bind _ = _
  rw [Option.bind_assoc, Option.bind_assoc]
  congr 1
  funext r
  rw [eC, if_neg (by decide), if_pos rfl, show 16 - u.length = f by omega]
  rfl
/-- behind an if's block: no else; else if; else -/
theorem eC_if (h : ¬ K j = 18) : eC K 3 s c j L = eS K s c j (L ++ [(63, 0, 0)]) := by
  rw [eC, if_neg (by decide), if_pos rfl, pEl, if_neg h]; rfl
theorem eC_else7 (h : K j = 18) (hj : 700 ≤ j) : eC K 3 s c j L = none := by
  rw [eC, if_neg (by decide), if_pos rfl, pEl, if_pos h, if_neg (show ¬ j < 700 by omega)]; rfl
theorem eC_elif (h : K j = 18) (hj : j < 700) (h2 : K (j + 1) = 24) : eC K 3 s c j L = eX K (5 :: s) c (j + 1) (L ++ [(62, j, 0)]) := by
  rw [eC, if_neg (by decide), if_pos rfl, pEl, if_pos h, if_pos hj, if_pos h2, eX, show 17 - (5 :: s).length = 16 - s.length by rw [List.length_cons]; omega]
  congr 1
theorem eC_else (h : K j = 18) (hj : j < 700) (h2 : ¬ K (j + 1) = 24) : eC K 3 s c j L = (pBk (pS K (16 - s.length)) K 4 c (j + 1) (L ++ [(62, j, 0)])).bind (fun q => eC K 4 s q.1 q.2.1 q.2.2) := by
  rw [eC, if_neg (by decide), if_pos rfl, pEl, if_pos h, if_pos hj, if_neg h2]
  rfl
end DES
end
section
/-! the grammar of the whole text: (cells, locks, threads, always, finals), where, what was told -/
abbrev gN := Nat × Nat × Nat × Nat × Nat
abbrev gD := Option (gN × Nat × gU)
/-- how many cells a row has, by the whole at w -/
def prz (K V : Nat → Int32) (w : Nat) : Nat := if K w = 2 ∧ 1 ≤ V w ∧ V w ≤ 8 then (V w).toNatClampNeg else 1
/-- the start value: where it ends, what it tells -/
def pCv (K : Nat → Int32) (q : Nat × gU) : gOp := if K q.1 = 50 then (if q.1 < 700 then (if K (q.1 + 1) = 58 then (if q.1 + 1 < 700 ∧ K (q.1 + 2) = 2 ∧ q.1 + 2 < 700 then some (q.1 + 3, q.2 ++ [(81, q.1 + 2, 0)]) else none) else (if K (q.1 + 1) = 2 ∧ q.1 + 1 < 700 then some (q.1 + 2, q.2 ++ [(80, q.1 + 1, 0)]) else none)) else none) else some (q.1, q.2 ++ [(82, 0, 0)])
def pCl (K V : Nat → Int32) (n i t : Nat) (L : gU) : Option (Nat × Nat × gU) :=
  if (K (t - 1) = 17 ∧ t - 1 < 700) ∧ (K t = 1 ∧ t < 700) ∧ n < 24 then
    (if K (t + 1) = 65 then (if t + 1 < 700 ∧ n + prz K V (t + 2) ≤ 24 ∧ (K (t + 2) = 2 ∧ t + 2 < 700) ∧ K (t + 3) = 66 ∧ t + 3 < 700 then ((pCv K (t + 4, L ++ [(32, t, t + 2)])).bind (pt K 67)).bind (fun q => some (n + prz K V (t + 2), q.1, q.2 ++ [(83, i, t)])) else none)
    else ((pCv K (t + 1, L ++ [(31, t, 0)])).bind (pt K 67)).bind (fun q => some (n + 1, q.1, q.2 ++ [(83, i, t)])))
  else none
def pD (K V : Nat → Int32) (n : gN) (i : Nat) (L : gU) : gD :=
  if K i = 34 then (if i < 700 then (pCl K V n.1 i (i + 2) L).bind (fun q => some ((q.1, n.2), q.2)) else none)
  else if K i = 17 then (pCl K V n.1 i (i + 1) L).bind (fun q => some ((q.1, n.2), q.2))
  else if K i = 27 then (if n.2.1 < 6 ∧ i < 700 ∧ (K (i + 1) = 1 ∧ i + 1 < 700) ∧ K (i + 2) = 67 ∧ i + 2 < 700 then some ((n.1, n.2.1 + 1, n.2.2), i + 3, L ++ [(33, i + 1, 0)]) else none)
  else if K i = 23 then (if n.2.2.1 < 6 ∧ i < 700 ∧ (K (i + 1) = 37 ∧ i + 1 < 700) ∧ K (i + 2) = 1 ∧ i + 2 < 700 then (pBk (pS K 16) K 0 0 (i + 3) (L ++ [(34, i + 2, 1)])).bind (fun q => some ((n.1, n.2.1, n.2.2.1 + 1, n.2.2.2), q.2)) else none)
  else if K i = 37 then (if n.2.2.1 < 6 ∧ i < 700 ∧ K (i + 1) = 1 ∧ i + 1 < 700 then (pBk (pS K 16) K 0 0 (i + 2) (L ++ [(34, i + 1, 0)])).bind (fun q => some ((n.1, n.2.1, n.2.2.1 + 1, n.2.2.2), q.2)) else none)
  else if K i = 11 then (if n.2.2.2.1 < 4 ∧ i < 700 then ((pX K true 16 (i + 1) (L ++ [(35, i, 0)])).bind (pt K 67)).bind (fun q => some ((n.1, n.2.1, n.2.2.1, n.2.2.2.1 + 1, n.2.2.2.2), q)) else none)
  else if K i = 21 then (if n.2.2.2.2 < 4 ∧ i < 700 then ((pX K true 16 (i + 1) (L ++ [(36, i, 0)])).bind (pt K 67)).bind (fun q => some ((n.1, n.2.1, n.2.2.1, n.2.2.2.1, n.2.2.2.2 + 1), q)) else none)
  else none
def pAl (K V : Nat → Int32) : Nat → gN → Nat → gU → gD
  | 0, _, _, _ => none
  | m + 1, n, i, L => if K i = 0 then some (n, i, L) else (pD K V n i L).bind (fun q => pAl K V m q.1 q.2.1 q.2.2)
theorem pCv_lt {K : Nat → Int32} {q r : Nat × gU} (hq : q.1 ≤ 700) (h : pCv K q = some r) : q.1 ≤ r.1 ∧ r.1 ≤ 700 := by
  unfold pCv at h
  split at h
  · split at h
    · split at h
      · split at h
        · next d => cases Option.some.inj h; exact ⟨by show q.1 ≤ q.1 + 3; omega, by show q.1 + 3 ≤ 700; omega⟩
        · exact absurd h (by simp)
      · split at h
        · next d => cases Option.some.inj h; exact ⟨by show q.1 ≤ q.1 + 2; omega, by show q.1 + 2 ≤ 700; omega⟩
        · exact absurd h (by simp)
    · exact absurd h (by simp)
  · cases Option.some.inj h; exact ⟨Nat.le_refl _, hq⟩
theorem pCl_lt {K V : Nat → Int32} {n i t : Nat} {L : gU} {q : Nat × Nat × gU} (h : pCl K V n i t L = some q) : t < q.2.1 ∧ q.2.1 ≤ 700 := by
  unfold pCl at h
  split at h
  · next c =>
    split at h
    · split at h
      · next d =>
        obtain ⟨z, hz, e⟩ := Option.bind_eq_some_iff.mp h
        obtain ⟨y, hy, h2⟩ := Option.bind_eq_some_iff.mp hz
        have a := pCv_lt (by show t + 4 ≤ 700; omega) hy
        have b := pt_lt h2
        cases Option.some.inj e
        exact ⟨by show t < z.1; have : t + 4 ≤ y.1 := a.1; omega, by show z.1 ≤ 700; exact b.2⟩
      · exact absurd h (by simp)
    · obtain ⟨z, hz, e⟩ := Option.bind_eq_some_iff.mp h
      obtain ⟨y, hy, h2⟩ := Option.bind_eq_some_iff.mp hz
      have a := pCv_lt (by show t + 1 ≤ 700; omega) hy
      have b := pt_lt h2
      cases Option.some.inj e
      exact ⟨by show t < z.1; have : t + 1 ≤ y.1 := a.1; omega, by show z.1 ≤ 700; exact b.2⟩
  · exact absurd h (by simp)
theorem pD_lt {K V : Nat → Int32} {n : gN} {i : Nat} {L : gU} {q : gN × Nat × gU} (h : pD K V n i L = some q) : i < q.2.1 ∧ q.2.1 ≤ 700 := by
  have cell : ∀ t, i < t → (pCl K V n.1 i t L).bind (fun q => some ((q.1, n.2), q.2)) = some q → i < q.2.1 ∧ q.2.1 ≤ 700 := fun t ht h => by
    obtain ⟨z, hz, e⟩ := Option.bind_eq_some_iff.mp h
    have a := pCl_lt hz
    cases Option.some.inj e
    exact ⟨by show i < z.2.1; omega, a.2⟩
  have blk : ∀ (t : Nat) (M : gU) (v : gN), i < t → (pBk (pS K 16) K 0 0 t M).bind (fun q => some (v, q.2)) = some q → i < q.2.1 ∧ q.2.1 ≤ 700 := fun t M v ht h => by
    obtain ⟨z, hz, e⟩ := Option.bind_eq_some_iff.mp h
    have a := pBk_lt (pS_lt 16) hz
    cases Option.some.inj e
    exact ⟨by show i < z.2.1; omega, a.2⟩
  have clm : ∀ (M : gU) (v : gN), ((pX K true 16 (i + 1) M).bind (pt K 67)).bind (fun q => some (v, q)) = some q → i < q.2.1 ∧ q.2.1 ≤ 700 := fun M v h => by
    obtain ⟨z, hz, e⟩ := Option.bind_eq_some_iff.mp h
    obtain ⟨y, hy, h2⟩ := Option.bind_eq_some_iff.mp hz
    have a := pX_lt hy
    have b := pt_lt h2
    cases Option.some.inj e
    exact ⟨by show i < z.1; omega, b.2⟩
  unfold pD at h
  split at h
  · split at h
    · exact cell _ (by omega) h
    · exact absurd h (by simp)
  · split at h
    · exact cell _ (by omega) h
    · split at h
      · split at h
        · next d => cases Option.some.inj h; exact ⟨by show i < i + 3; omega, by show i + 3 ≤ 700; omega⟩
        · exact absurd h (by simp)
      · split at h
        · split at h
          · exact blk _ _ _ (by omega) h
          · exact absurd h (by simp)
        · split at h
          · split at h
            · exact blk _ _ _ (by omega) h
            · exact absurd h (by simp)
          · split at h
            · split at h
              · exact clm _ _ h
              · exact absurd h (by simp)
            · split at h
              · split at h
                · exact clm _ _ h
                · exact absurd h (by simp)
              · exact absurd h (by simp)
/-! the tokens, on the text's bytes: b, of which there are n -/
def lxs (b : Nat → Int32) (n : Nat) : Nat → Bool → Nat → Nat
  | 0, _, p => p
  | f + 1, r, p => if n ≤ p then p else if b p = 10 then lxs b n f false (p + 1) else if b p = 47 ∧ (if p + 1 < n then b (p + 1) else 0) = 47 then lxs b n f true (p + 1) else if r = false ∧ ¬ b p = 32 ∧ ¬ b p = 9 ∧ ¬ b p = 13 then p else lxs b n f r (p + 1)
end
section
/-! names: locals known (token, slot; told last first), starts of open blocks, lets so far; what is told; which uses are faults. sN: of the same name -/
abbrev gK := List (Nat × Nat)
abbrev gV := gK × List Nat × Nat
abbrev gTd := List (Nat × Nat × Nat × Nat)
def kfi (sN : Nat → Nat → Bool) : gK → Nat → Option Nat
  | [], _ => none
  | k :: ks, t => if sN k.1 t = true then some ks.length else kfi sN ks t
def exV (E : gV) (v : Nat × Nat × Nat) : gV := if v.1 = 20 then (E.1, E.1.length :: E.2.1, E.2.2) else if v.1 = 21 then (E.1.drop (E.1.length - E.2.1.headD 0), E.2.1.tail, E.2.2) else if v.1 = 22 then ((v.2.1, E.2.2) :: E.1, E.2.1, E.2.2 + 1) else E
def exs (L : gU) (E : gV) : gV := L.foldl exV E
/-- the first told of a sort that has the name -/
def mtP (sN : Nat → Nat → Bool) (T : gTd) (w t : Nat) : Option (Nat × Nat × Nat × Nat) := T.find? (fun q => decide (q.2.1 = w) && sN q.1 t)
def plc (sN : Nat → Nat → Bool) (T : gTd) (t : Nat) : Prop := ∃ q, mtP sN T 0 t = some q ∧ q.2.2.1 = 0
def rwc (sN : Nat → Nat → Bool) (T : gTd) (t n : Nat) : Prop := ∃ q, mtP sN T 0 t = some q ∧ q.2.2.1 = n ∧ 0 < n
/-- whether a use is a fault -/
def fv (sN : Nat → Nat → Bool) (T : gTd) (V : Nat → Int32) (E : gV) (v : Nat × Nat × Nat) : Prop :=
  (v.1 = 3 ∧ kfi sN E.1 v.2.1 = none) ∨
  (v.1 = 6 ∧ ¬ plc sN T v.2.1) ∨
  (v.1 = 7 ∧ ¬ ∃ n, rwc sN T v.2.1 n) ∨
  (v.1 = 12 ∧ ∃ n, rwc sN T v.2.2 n ∧ (n : Int) ≤ (V v.2.1).toInt) ∨
  (v.1 = 23 ∧ ∃ k ∈ E.1.take (E.1.length - E.2.1.headD 0), sN k.1 v.2.1 = true) ∨
  (v.1 = 24 ∧ kfi sN E.1 v.2.1 = none ∧ ¬ plc sN T v.2.1) ∨
  (v.1 = 25 ∧ kfi sN E.1 v.2.1 = none ∧ ¬ plc sN T v.2.1) ∨
  (v.1 = 26 ∧ kfi sN E.1 v.2.1 = none) ∨
  (v.1 = 27 ∧ kfi sN E.1 v.2.2 = none ∧ (kfi sN E.1 v.2.1 = none ∨ ¬ plc sN T v.2.2)) ∨
  (v.1 = 27 ∧ kfi sN E.1 v.2.1 = none ∧ ¬ plc sN T v.2.1) ∨
  ((v.1 = 65 ∨ v.1 = 66) ∧ mtP sN T 1 v.2.2 = none) ∨
  (v.1 = 67 ∧ mtP sN T 2 v.2.2 = none) ∨
  (v.1 = 70 ∧ 3 < (V v.2.2).toInt)
def flt (sN : Nat → Nat → Bool) (T : gTd) (V : Nat → Int32) : gU → gV → Prop
  | [], _ => False
  | v :: L, E => fv sN T V E v ∨ flt sN T V L (exV E v)
section SEM
variable {sN : Nat → Nat → Bool} {T : gTd} {V : Nat → Int32} {E : gV} {L M : gU} {v : Nat × Nat × Nat}
theorem exs_app : exs (L ++ M) E = exs M (exs L E) := List.foldl_append
theorem exs_nil : exs [] E = E := rfl
theorem exs_one : exs [v] E = exV E v := rfl
theorem flt_nil : flt sN T V [] E ↔ False := Iff.rfl
theorem flt_one : flt sN T V [v] E ↔ fv sN T V E v := ⟨fun h => h.elim id (fun q => q.elim), Or.inl⟩
theorem flt_app : ∀ {L : gU} {E : gV}, flt sN T V (L ++ M) E ↔ flt sN T V L E ∨ flt sN T V M (exs L E) := by
  intro L
  induction L with
  | nil => intro E; exact ⟨Or.inr, fun h => h.elim (fun q => q.elim) id⟩
  | cons v L ih =>
    intro E
    show fv sN T V E v ∨ flt sN T V (L ++ M) (exV E v) ↔ (fv sN T V E v ∨ flt sN T V L (exV E v)) ∨ flt sN T V M (exs L (exV E v))
    rw [ih, or_assoc]
/-- events that change nothing of what is known -/
def still (L : gU) : Prop := ∀ v ∈ L, ¬ v.1 = 20 ∧ ¬ v.1 = 21 ∧ ¬ v.1 = 22
theorem exV_still (h : ¬ v.1 = 20 ∧ ¬ v.1 = 21 ∧ ¬ v.1 = 22) : exV E v = E := by
  unfold exV
  rw [if_neg h.1, if_neg h.2.1, if_neg h.2.2]
theorem exs_still : ∀ {L : gU}, still L → exs L E = E := by
  intro L
  induction L with
  | nil => intro _; rfl
  | cons v L ih =>
    intro h
    show exs L (exV E v) = E
    rw [exV_still (h v List.mem_cons_self)]
    exact ih (fun w hw => h w (List.mem_cons_of_mem _ hw))
theorem still_app (h : still L) (g : still M) : still (L ++ M) := fun v hv => (List.mem_append.mp hv).elim (h v) (g v)
theorem still_one (h : ¬ v.1 = 20 ∧ ¬ v.1 = 21 ∧ ¬ v.1 = 22) : still [v] := fun w hw => by
  rw [List.mem_singleton.mp hw]; exact h
theorem still_nil : still [] := fun _ h => by cases h
/-- a use that is no fault -/
theorem fv_no (h : ∀ u ∈ [3, 6, 7, 12, 23, 24, 25, 26, 27, 65, 66, 67, 70], ¬ v.1 = u) : ¬ fv sN T V E v := by
  intro g
  unfold fv at g
  rcases g with g | g | g | g | g | g | g | g | g | g | g | g | g
  · exact h 3 (by decide) g.1
  · exact h 6 (by decide) g.1
  · exact h 7 (by decide) g.1
  · exact h 12 (by decide) g.1
  · exact h 23 (by decide) g.1
  · exact h 24 (by decide) g.1
  · exact h 25 (by decide) g.1
  · exact h 26 (by decide) g.1
  · exact h 27 (by decide) g.1
  · exact h 27 (by decide) g.1
  · exact g.1.elim (h 65 (by decide)) (h 66 (by decide))
  · exact h 67 (by decide) g.1
  · exact h 70 (by decide) g.1
theorem flt_no (h : ∀ u ∈ [3, 6, 7, 12, 23, 24, 25, 26, 27, 65, 66, 67, 70], ¬ v.1 = u) : ¬ flt sN T V [v] E := fun g => fv_no h (flt_one.mp g)
theorem fv_3 {a b : Nat} : fv sN T V E (3, a, b) ↔ kfi sN E.1 a = none := by
  unfold fv
  simp
theorem fv_6 {a b : Nat} : fv sN T V E (6, a, b) ↔ ¬ plc sN T a := by
  unfold fv
  simp
theorem fv_7 {a b : Nat} : fv sN T V E (7, a, b) ↔ ¬ ∃ n, rwc sN T a n := by
  unfold fv
  simp
theorem fv_12 {a b : Nat} : fv sN T V E (12, a, b) ↔ ∃ n, rwc sN T b n ∧ (n : Int) ≤ (V a).toInt := by
  unfold fv
  simp
theorem fv_23 {a b : Nat} : fv sN T V E (23, a, b) ↔ ∃ k ∈ E.1.take (E.1.length - E.2.1.headD 0), sN k.1 a = true := by
  unfold fv
  simp
theorem fv_24 {a b : Nat} : fv sN T V E (24, a, b) ↔ kfi sN E.1 a = none ∧ ¬ plc sN T a := by
  unfold fv
  simp
theorem fv_25 {a b : Nat} : fv sN T V E (25, a, b) ↔ kfi sN E.1 a = none ∧ ¬ plc sN T a := by
  unfold fv
  simp
theorem fv_26 {a b : Nat} : fv sN T V E (26, a, b) ↔ kfi sN E.1 a = none := by
  unfold fv
  simp
theorem fv_27 {a b : Nat} : fv sN T V E (27, a, b) ↔ (kfi sN E.1 b = none ∧ (kfi sN E.1 a = none ∨ ¬ plc sN T b)) ∨ (kfi sN E.1 a = none ∧ ¬ plc sN T a) := by
  unfold fv
  simp
theorem fv_lk {u a b : Nat} (h : u = 65 ∨ u = 66) : fv sN T V E (u, a, b) ↔ mtP sN T 1 b = none := by
  unfold fv
  rcases h with rfl | rfl <;> simp
theorem fv_67 {a b : Nat} : fv sN T V E (67, a, b) ↔ mtP sN T 2 b = none := by
  unfold fv
  simp
theorem fv_70 {a b : Nat} : fv sN T V E (70, a, b) ↔ 3 < (V b).toInt := by
  unfold fv
  simp
end SEM
theorem dr_cons {α : Type} {T : List α} {i : Nat} {q : α} (h : T[i]? = some q) : T.drop i = q :: T.drop (i + 1) := by
  have hi : i < T.length := by
    by_cases c : i < T.length
    · exact c
    · rw [List.getElem?_eq_none (by omega)] at h
      exact absurd h (by simp)
  rw [List.drop_eq_getElem_cons hi]
  rw [List.getElem?_eq_getElem hi] at h
  rw [Option.some.inj h]
end
section
/-! what is told, and when there is a fault, by the row of uses alone -/
abbrev E0v : gV := ([], [], 0)
def tw (sN : Nat → Nat → Bool) (V : Nat → Int32) (T : gTd) (j : Nat) (q : Nat × Nat × Nat × Nat) : Prop := (∃ j' q', j' < j ∧ T[j']? = some q' ∧ sN q'.1 q.1 = true) ∨ (0 < q.2.2.1 ∧ ¬ (1 ≤ V q.2.2.2 ∧ V q.2.2.2 ≤ 8))
def jT (sN : Nat → Nat → Bool) (V : Nat → Int32) (T : gTd) : Prop := ∃ j q, T[j]? = some q ∧ tw sN V T j q
def te1 (K V : Nat → Int32) (v : Nat × Nat × Nat) : Option (Nat × Nat × Nat × Nat) := if v.1 = 31 then some (v.2.1, 0, 0, 0) else if v.1 = 32 then some (v.2.1, 0, prz K V v.2.2, v.2.2) else if v.1 = 33 then some (v.2.1, 1, 0, 0) else if v.1 = 34 then some (v.2.1, 2, 0, 0) else none
def jFl (sN : Nat → Nat → Bool) (K V : Nat → Int32) (L : gU) : Prop := jT sN V (L.filterMap (te1 K V)) ∨ flt sN (L.filterMap (te1 K V)) V L E0v
theorem te1_no {K V : Nat → Int32} {v : Nat × Nat × Nat} (h : ¬ (31 ≤ v.1 ∧ v.1 ≤ 36)) : te1 K V v = none := by
  unfold te1
  rw [if_neg (by omega), if_neg (by omega), if_neg (by omega), if_neg (by omega)]
/-- what is read tells nothing -/
def nT (L L' : gU) : Prop := ∃ N, L' = L ++ N ∧ ∀ v ∈ N, ¬ (31 ≤ v.1 ∧ v.1 ≤ 36)
section NTL
variable {K : Nat → Int32} {L L' L2 : gU} {o : Bool}
theorem nT_rf : nT L L := ⟨[], by rw [List.append_nil], fun _ h => by cases h⟩
theorem nT_tr (h : nT L L') (g : nT L' L2) : nT L L2 := by
  obtain ⟨N, e, h⟩ := h
  obtain ⟨N2, e2, g⟩ := g
  exact ⟨N ++ N2, by rw [e2, e, List.append_assoc], fun v hv => (List.mem_append.mp hv).elim (h v) (g v)⟩
theorem nT_k {k a b : Nat} (h : ¬ (31 ≤ k ∧ k ≤ 36)) : nT L (L ++ [(k, a, b)]) := ⟨_, rfl, fun v hv => by rw [List.mem_singleton.mp hv]; exact h⟩
theorem nT_k2 {k a b k' a' b' : Nat} (h : ¬ (31 ≤ k ∧ k ≤ 36)) (h' : ¬ (31 ≤ k' ∧ k' ≤ 36)) : nT L (L ++ [(k, a, b), (k', a', b')]) := ⟨_, rfl, fun v hv => by
  rcases List.mem_cons.mp hv with e | e
  · rw [e]; exact h
  · rw [List.mem_singleton.mp e]; exact h'⟩
theorem nT_te {V : Nat → Int32} (h : nT L L') : L'.filterMap (te1 K V) = L.filterMap (te1 K V) := by
  obtain ⟨N, e, h⟩ := h
  rw [e, List.filterMap_append]
  have : N.filterMap (te1 K V) = [] := List.filterMap_eq_nil_iff.mpr (fun v hv => te1_no (h v hv))
  rw [this, List.append_nil]
theorem pt_nT {w : Int32} {q r : Nat × gU} (h : pt K w q = some r) : nT q.2 r.2 := by
  obtain ⟨-, -, e⟩ := pt_is h
  rw [e]; exact nT_rf
theorem pan_nT {v : Nat × Nat × Nat} {q r : Nat × gU} (hv : ¬ (31 ≤ v.1 ∧ v.1 ≤ 36)) (h : pan v q = some r) : nT q.2 r.2 := by
  unfold pan at h
  cases Option.some.inj h
  exact nT_k hv
abbrev ngo (rE : Nat → Nat → gU → gOp) : Prop := ∀ s i L q, rE s i L = some q → nT L q.2
theorem pW_nT {rE : Nat → Nat → gU → gOp} {th : Nat} (hr : ngo rE) : ∀ (f j : Nat) (L : gU) (q : Nat × gU), pW rE K th f j L = some q → nT L q.2 := by
  intro f
  induction f with
  | zero => intro j L q h; exact absurd h (by simp [pW])
  | succ f ih =>
    intro j L q h
    rw [pW] at h
    split at h
    · split at h
      · obtain ⟨z, hz, h2⟩ := Option.bind_eq_some_iff.mp h
        exact nT_tr (hr _ _ _ _ hz) (nT_tr (nT_k (by decide)) (ih _ _ _ h2))
      · exact absurd h (by simp)
    · cases Option.some.inj h; exact nT_rf
theorem pO_nT {rE : Nat → Nat → gU → gOp} (hr : ngo rE) {i : Nat} {q : Nat × gU} (h : pO rE K o i L = some q) : nT L q.2 := by
  unfold pO at h
  split at h
  · exact absurd h (by simp)
  · split at h
    · cases Option.some.inj h; exact nT_k (by decide)
    · split at h
      · cases Option.some.inj h; exact nT_k (by decide)
      · split at h
        · obtain ⟨z, hz, h2⟩ := Option.bind_eq_some_iff.mp h
          exact nT_tr (hr _ _ _ _ hz) (pt_nT h2)
        · split at h
          · split at h
            · split at h
              · split at h
                · cases Option.some.inj h; exact nT_k2 (by decide) (by decide)
                · exact absurd h (by simp)
              · cases Option.some.inj h; exact nT_k (by decide)
            · cases Option.some.inj h; exact nT_k (by decide)
          · exact absurd h (by simp)
theorem pE_nT : ∀ f : Nat, ngo (pE K o f) := by
  intro f
  induction f with
  | zero => intro s i L q h; exact absurd h (by simp [pE])
  | succ f ih =>
    intro s i L q h
    rw [pE] at h
    split at h
    · obtain ⟨z, hz, h2⟩ := Option.bind_eq_some_iff.mp h
      refine nT_tr ?_ (pW_nT ih _ _ _ _ h2)
      split at hz
      · split at hz
        · obtain ⟨y, hy, h3⟩ := Option.bind_eq_some_iff.mp hz
          cases Option.some.inj h3
          exact nT_tr (ih _ _ _ _ hy) (nT_k (by decide))
        · exact absurd hz (by simp)
      · exact pO_nT ih hz
    · exact absurd h (by simp)
theorem pX_nT {f i : Nat} {q : Nat × gU} (h : pX K o f i L = some q) : nT L q.2 := by
  obtain ⟨z, hz, h2⟩ := Option.bind_eq_some_iff.mp h
  exact nT_tr (pE_nT f _ _ _ _ hz) (pan_nT (show ¬ (31 ≤ 54 ∧ 54 ≤ 36) by decide) h2)
theorem pXq_nT {f : Nat} {r q : Nat × gU} (h : pXq K f r = some q) : nT r.2 q.2 := pX_nT h
theorem pP_nT {f i : Nat} {q : Nat × gU} (h : pP K f i L = some q) : nT L q.2 := by
  unfold pP at h
  split at h
  · split at h
    · split at h
      · obtain ⟨z, hz, h2⟩ := Option.bind_eq_some_iff.mp h
        exact nT_tr (nT_tr (nT_k (by decide)) (pX_nT hz)) (pt_nT h2)
      · exact absurd h (by simp)
    · cases Option.some.inj h; exact nT_k (by decide)
  · exact absurd h (by simp)
theorem pme_nT {t : Option Nat} : nT L (L ++ pme t) := by
  cases t with
  | none => rw [pme, List.append_nil]; exact nT_rf
  | some t => exact nT_k (by decide)
theorem pma_nT {t : Option Nat} : nT L (L ++ pma t) := by
  cases t with
  | none => rw [pma, List.append_nil]; exact nT_rf
  | some t => exact nT_k (by decide)
theorem pal_nT {t : Option Nat} {i : Nat} : nT L (L ++ [pal t i]) := by
  cases t with
  | none => exact nT_k (by decide)
  | some t => exact nT_k (by decide)
theorem pR_nT {f i : Nat} {t : Option Nat} {q : Nat × gU} (h : pR K f t i L = some q) : nT L q.2 := by
  unfold pR at h
  split at h
  · split at h
    · obtain ⟨z4, hz4, h4⟩ := Option.bind_eq_some_iff.mp h
      obtain ⟨z3, hz3, h3⟩ := Option.bind_eq_some_iff.mp hz4
      obtain ⟨z2, hz2, h2⟩ := Option.bind_eq_some_iff.mp hz3
      obtain ⟨z5, hz5, h5⟩ := Option.bind_eq_some_iff.mp h4
      have d : nT z5.2 q.2 := pan_nT (show ¬ (31 ≤ 74 ∧ 74 ≤ 36) by decide) h5
      have a : nT L z4.2 := nT_tr (nT_tr (nT_tr pme_nT (pP_nT hz2)) (pt_nT h2)) (pXq_nT h3)
      split at hz5
      · obtain ⟨z6, hz6, h6⟩ := Option.bind_eq_some_iff.mp hz5
        exact nT_tr (nT_tr (nT_tr a (pt_nT hz6)) (pXq_nT h6)) d
      · cases Option.some.inj hz5; exact nT_tr a d
    · exact absurd h (by simp)
  · split at h
    · obtain ⟨z, hz, h2⟩ := Option.bind_eq_some_iff.mp h
      exact nT_tr (nT_tr pme_nT (pP_nT hz)) (pan_nT (show ¬ (31 ≤ 75 ∧ 75 ≤ 36) by decide) h2)
    · split at h
      · split at h
        · cases Option.some.inj h; exact pal_nT
        · exact absurd h (by simp)
      · obtain ⟨z, hz, h2⟩ := Option.bind_eq_some_iff.mp h
        exact nT_tr (nT_tr pma_nT (pX_nT hz)) (pan_nT (show ¬ (31 ≤ 76 ∧ 76 ≤ 36) by decide) h2)
abbrev ngs (rS : Nat → Nat → gU → gTs) : Prop := ∀ c i L q, rS c i L = some q → nT L q.2.2
theorem pBl_nT {rS : Nat → Nat → gU → gTs} {z : Nat} (hr : ngs rS) : ∀ (n c i : Nat) (L : gU) (q : Nat × Nat × gU), pBl rS K z n c i L = some q → nT L q.2.2 := by
  intro n
  induction n with
  | zero => intro c i L q h; exact absurd h (by simp [pBl])
  | succ n ih =>
    intro c i L q h
    rw [pBl] at h
    split at h
    · split at h
      · cases Option.some.inj h; exact nT_k (by decide)
      · exact absurd h (by simp)
    · obtain ⟨y, hy, h2⟩ := Option.bind_eq_some_iff.mp h
      exact nT_tr (hr _ _ _ _ hy) (ih _ _ _ _ h2)
theorem pBk_nT {rS : Nat → Nat → gU → gTs} {z : Nat} (hr : ngs rS) {c i : Nat} {q : Nat × Nat × gU} (h : pBk rS K z c i L = some q) : nT L q.2.2 := by
  unfold pBk at h
  split at h
  · exact nT_tr (nT_k (by decide)) (pBl_nT hr _ _ _ _ _ h)
  · exact absurd h (by simp)
theorem pEl_nT {rS : Nat → Nat → gU → gTs} (hr : ngs rS) {q r : Nat × Nat × gU} (h : pEl rS K q = some r) : nT q.2.2 r.2.2 := by
  unfold pEl at h
  split at h
  · split at h
    · split at h
      · exact nT_tr (nT_k (by decide)) (hr _ _ _ _ h)
      · exact nT_tr (nT_k (by decide)) (pBk_nT hr h)
    · exact absurd h (by simp)
  · cases Option.some.inj h; exact nT_rf
theorem pup_nT {c : Nat} {v : Nat × Nat × Nat} {r : gOp} {q : Nat × Nat × gU} (hv : ¬ (31 ≤ v.1 ∧ v.1 ≤ 36)) (h : pup c v r = some q) : ∃ z, r = some z ∧ nT z.2 q.2.2 := by
  unfold pup at h
  obtain ⟨z, hz, e⟩ := Option.bind_eq_some_iff.mp h
  cases Option.some.inj e
  exact ⟨z, hz, nT_k hv⟩
theorem pS1_nT {f c i : Nat} {q : Nat × Nat × gU} (h : pS1 K f c i L = some q) : nT L q.2.2 := by
  unfold pS1 at h
  split at h
  · split at h
    · obtain ⟨z, h, g⟩ := pup_nT (show ¬ (31 ≤ 22 ∧ 22 ≤ 36) by decide) h
      obtain ⟨y, hy, h2⟩ := Option.bind_eq_some_iff.mp h
      exact nT_tr (nT_tr (nT_tr (nT_k (by decide)) (pR_nT hy)) (pt_nT h2)) g
    · exact absurd h (by simp)
  · split at h
    · split at h
      · split at h
        · obtain ⟨z, h, g⟩ := pup_nT (show ¬ (31 ≤ 78 ∧ 78 ≤ 36) by decide) h
          obtain ⟨y5, hy5, h5⟩ := Option.bind_eq_some_iff.mp h
          obtain ⟨y4, hy4, h4⟩ := Option.bind_eq_some_iff.mp hy5
          obtain ⟨y3, hy3, h3⟩ := Option.bind_eq_some_iff.mp hy4
          obtain ⟨y2, hy2, h2⟩ := Option.bind_eq_some_iff.mp hy3
          exact nT_tr (nT_tr (nT_tr (nT_tr (nT_tr (nT_tr (nT_k (by decide)) (pX_nT hy2)) (pt_nT h2)) (pt_nT h3)) (pXq_nT h4)) (pt_nT h5)) g
        · exact absurd h (by simp)
      · split at h
        · obtain ⟨z, h, g⟩ := pup_nT (show ¬ (31 ≤ 77 ∧ 77 ≤ 36) by decide) h
          obtain ⟨y2, hy2, h2⟩ := Option.bind_eq_some_iff.mp h
          exact nT_tr (nT_tr (pR_nT hy2) (pt_nT h2)) g
        · exact absurd h (by simp)
    · split at h
      · obtain ⟨z, h, g⟩ := pup_nT (show ¬ (31 ≤ 68 ∧ 68 ≤ 36) by decide) h
        have := pt_nT h
        exact nT_tr this g
      · split at h
        · obtain ⟨z, h, g⟩ := pup_nT (show ¬ (31 ≤ 69 ∧ 69 ≤ 36) by decide) h
          obtain ⟨y2, hy2, h2⟩ := Option.bind_eq_some_iff.mp h
          exact nT_tr (nT_tr (pX_nT hy2) (pt_nT h2)) g
        · split at h
          · split at h
            · obtain ⟨z, h, g⟩ := pup_nT (show ¬ (31 ≤ 70 ∧ 70 ≤ 36) by decide) h
              obtain ⟨y2, hy2, h2⟩ := Option.bind_eq_some_iff.mp h
              exact nT_tr (nT_tr (pX_nT hy2) (pt_nT h2)) g
            · exact absurd h (by simp)
          · split at h
            · split at h
              · obtain ⟨z, h, g⟩ := pup_nT (show ¬ (31 ≤ 66 ∧ 66 ≤ 36) by decide) h
                have := pt_nT h
                exact nT_tr this g
              · exact absurd h (by simp)
            · split at h
              · split at h
                · obtain ⟨z, h, g⟩ := pup_nT (show ¬ (31 ≤ 67 ∧ 67 ≤ 36) by decide) h
                  have := pt_nT h
                  exact nT_tr this g
                · exact absurd h (by simp)
              · exact absurd h (by simp)
theorem pfi_nT {q r : Nat × Nat × gU} (h : pfi q = some r) : nT q.2.2 r.2.2 := by
  unfold pfi at h
  cases Option.some.inj h
  exact nT_k (by decide)
theorem pS_nT : ∀ f : Nat, ngs (pS K f) := by
  intro f
  induction f with
  | zero => intro c i L q h; exact absurd h (by simp [pS])
  | succ f ih =>
    intro c i L q h
    rw [pS] at h
    split at h
    · exact absurd h (by simp)
    · split at h
      · obtain ⟨z, hz, h2⟩ := Option.bind_eq_some_iff.mp h
        obtain ⟨x, hx, h4⟩ := Option.bind_eq_some_iff.mp h2
        obtain ⟨y, hy, h3⟩ := Option.bind_eq_some_iff.mp hx
        exact nT_tr (nT_tr (nT_tr (nT_tr (pX_nT hz) (nT_k (by decide))) (pBk_nT ih hy)) (pEl_nT ih h3)) (pfi_nT h4)
      · split at h
        · obtain ⟨z, hz, h2⟩ := Option.bind_eq_some_iff.mp h
          exact nT_tr (nT_tr (pX_nT hz) (nT_k (by decide))) (pBk_nT ih h2)
        · split at h
          · split at h
            · exact nT_tr (nT_k (by decide)) (pBk_nT ih h)
            · exact absurd h (by simp)
          · exact pS1_nT h
end NTL
end
