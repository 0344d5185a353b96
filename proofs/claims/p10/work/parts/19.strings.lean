/-! the two lists of words: texts whose bytes are known (cells 900, 901; their bytes 902, 903); length, charAt -/
/-- the byte, the char at k of text i -/
def cby (i k : Nat) : Int32 := (es_byt.getD i []).getD k 0
def cch (i k : Nat) : Int32 := ((cby i k &&& 255).toUInt32 % 65536).toInt32
theorem nar_char (v : Int32) : narrow .char (.int ((v.toUInt32 % 65536).toInt32)) = .int ((v.toUInt32 % 65536).toInt32) := by
  show Value.int (((v.toUInt32 % 65536).toInt32.toUInt32 % 65536).toInt32) = _
  have e : (v.toUInt32 % 65536).toInt32.toUInt32 = v.toUInt32 % 65536 := by simp
  rw [e]
  congr 2
  apply UInt32.toNat_inj.mp
  simp
section SSR
variable {p : Program} {l : Launch} {e : Env} {R : Room} {s : State} {m : MethodId} {args : Array Value} {below : List Frame} {meth : Method} {c : Code} {H : Heap} {locs : List Loc} {cells slots : Nat} {Q : State → Prop}
variable {cc : ByteArray} {pc : Nat} {ls : Array Slot} {rest : List Value}
theorem va_ldcwS (hexec : p.tables.exec = Jvm.exec) (hb : c.code = cc) {own tx : String} {index q : Nat} (hown : s.vm.findClass own = some m.cls) (hZ : vk_R own index tx q s) (hdg : decode cc pc = .ok (.ldc_w index, 3))
    (k : W p l e R s m args below meth c H locs cells slots Q (F0 m (pc + 3) ls (.ref q :: rest))) : W p l e R s m args below meth c H locs cells slots Q (F0 m pc ls rest) := by
  intro T hT X
  obtain ⟨t, a1, b1⟩ := k T hT X
  refine ⟨t, ?_, b1⟩
  obtain ⟨k, cf, i, a', hk, hcf, hcp, -, hr, hev'⟩ := Cond.stringRef_spec hown hZ.1
  cases hZ.2.symm.trans hev'
  obtain ⟨k', hk', he⟩ := X.warmed.alike.2.2 _ _ hk
  have hr' : k'.resolved[index]? = some (some (.string q)) := by
    rcases X.warmed.entry hk hk' index with h | ⟨h, -⟩
    · rw [h]; exact hr
    · rw [hr] at h; cases h
  have hdg2 : decode c.code (F0 m pc ls rest).pc = .ok (.ldc_w index, 3) := by rw [hb]; exact hdg
  jvm_step X.here [hexec, hdg2, ldc_w.wp_string (e := e) (s := T) (f := F0 m pc ls rest) X.here.top hk' (by rw [he]; exact hcf) hcp hr']
  exact a1
end SSR
section SST
variable {E : gE} {d : Nat} {y : gy} {pc : Nat} {lv : List (Nat × gv)} {st : List gv} {x : gd} {f : gf} {Q : gr → gd → gf → Prop}
theorem T_ldcwS (i : Nat) {idx : Nat} {tx : String} (hi : i < 2) (hd : decode y.2.1 pc = .ok (.ldc_w idx, 3)) (h : es_txt[i]? = some (y.1.cls, idx, tx)) (k : T E d y (pc + 3) lv (vr (900 + i) :: st) x f Q) : T E d y pc lv st x f Q :=
  T_step (fun p e R s m args below meth c A H locs cells slots ls ad Q9 C hP hS hl kk => by
    refine va_ldcwS C.1.1 C.1.2.1 C.1.2.2.2.1 (C.2.2.2.1.2.2.1.2.2 i _ h) hd ?_
    have := kk ls hl
    rw [← hP.2 i (by omega)]
    exact this) k
theorem T_ldcS (i : Nat) {idx : Nat} {tx : String} (hi : i < 2) (hd : decode y.2.1 pc = .ok (.ldc idx, 2)) (h : es_txt[i]? = some (y.1.cls, idx, tx)) (k : T E d y (pc + 2) lv (vr (900 + i) :: st) x f Q) : T E d y pc lv st x f Q :=
  T_step (fun p e R s m args below meth c A H locs cells slots ls ad Q9 C hP hS hl kk => by
    refine va_ldcS C.1.1 C.1.2.1 C.1.2.2.2.1 (C.2.2.2.1.2.2.1.2.2 i _ h) hd ?_
    have := kk ls hl
    rw [← hP.2 i (by omega)]
    exact this) k
theorem T_getSV (i : Nat) {idx : Nat} (hi : i < 2) (hd : decode y.2.1 pc = .ok (.getfield idx, 3)) (hw : Cond.fieldLink y.1.cls idx "java/lang/String" "value" "[B" ∈ W0) (k : T E d y (pc + 3) lv (vr (902 + i) :: st) x f Q) : T E d y pc lv (vr (900 + i) :: st) x f Q :=
  T_step (fun p e R s m args below meth c A H locs cells slots ls ad Q9 C hP hS hl kk => by
    have q := (C.2.2.2.1.2.2.1.2.1.1.1 i hi).2.2.1
    have := kk ls hl
    have e1 := hP.2 i (by omega)
    have e2 := hP.2 (2 + i) (by omega)
    rw [show 900 + (2 + i) = 902 + i by omega] at e2
    show W _ _ _ _ _ _ _ _ _ _ _ _ _ _ _ (F0 m pc ls (.ref (ad (900 + i)) :: _))
    rw [e1]
    refine vk_getf C.1.1 C.1.2.1 q hS C.1.2.2.2.1 (C.1.2.2.2.2 _ hw) (fun _ h => h) hd ?_
    show W _ _ _ _ _ _ _ _ _ _ _ _ _ _ _ (F0 m (pc + 3) ls (.ref (E.2.2.2.2 (2 + i)) :: _))
    rw [← e2]
    exact this) k
theorem T_getSC (i : Nat) {idx : Nat} (hi : i < 2) (hd : decode y.2.1 pc = .ok (.getfield idx, 3)) (hw : Cond.fieldLink y.1.cls idx "java/lang/String" "coder" "B" ∈ W0) (k : T E d y (pc + 3) lv (vi 0 :: st) x f Q) : T E d y pc lv (vr (900 + i) :: st) x f Q :=
  T_step (fun p e R s m args below meth c A H locs cells slots ls ad Q9 C hP hS hl kk => by
    have q := (C.2.2.2.1.2.2.1.2.1.1.1 i hi).2.1
    have := kk ls hl
    have e1 := hP.2 i (by omega)
    show W _ _ _ _ _ _ _ _ _ _ _ _ _ _ _ (F0 m pc ls (.ref (ad (900 + i)) :: _))
    rw [e1]
    exact vk_getf C.1.1 C.1.2.1 q hS C.1.2.2.2.1 (C.1.2.2.2.2 _ hw) (fun _ h => h) hd this) k
theorem T_getCS {idx : Nat} (hd : decode y.2.1 pc = .ok (.getstatic idx, 3)) (hw : Cond.fieldLink y.1.cls idx "java/lang/String" "COMPACT_STRINGS" "Z" ∈ W0) (k : T E d y (pc + 3) lv (vi 1 :: st) x f Q) : T E d y pc lv st x f Q :=
  T_step (fun p e R s m args below meth c A H locs cells slots ls ad Q9 C hP hS hl kk => va_gets C.1.1 C.1.2.1 C.2.2.2.1.2.2.1.2.1.2.1 hS C.1.2.2.2.1 (C.1.2.2.2.2 _ hw) (fun _ h => h) hd (kk ls hl)) k
theorem T_getFM {idx : Nat} (hd : decode y.2.1 pc = .ok (.getstatic idx, 3)) (hw : Cond.fieldLink y.1.cls idx "jdk/internal/util/Preconditions" "SIOOBE_FORMATTER" "Ljava/util/function/BiFunction;" ∈ W0) (k0 : T E d y (pc + 3) lv (vn :: st) x f Q) (k : T E d y (pc + 3) lv (vr 904 :: st) x f Q) : T E d y pc lv st x f Q := by
  by_cases h5 : E.2.2.2.2 5 = 0
  · exact T_step (fun p e R s m args below meth c A H locs cells slots ls ad Q9 C hP hS hl kk => by
      have := kk ls hl
      have hz := C.2.2.2.1.2.2.1.2.1.2.2
      rw [if_pos h5] at hz
      exact va_gets C.1.1 C.1.2.1 hz hS C.1.2.2.2.1 (C.1.2.2.2.2 _ hw) (fun _ h => h) hd this) k0
  · exact T_step (fun p e R s m args below meth c A H locs cells slots ls ad Q9 C hP hS hl kk => by
      have := kk ls hl
      have e1 := hP.2 4 (by omega)
      have hz := C.2.2.2.1.2.2.1.2.1.2.2
      rw [if_neg h5] at hz
      refine va_gets C.1.1 C.1.2.1 hz hS C.1.2.2.2.1 (C.1.2.2.2.2 _ hw) (fun _ h => h) hd ?_
      rw [← e1]
      exact this) k
theorem T_alenS (i : Nat) {v : Int32} (hi : i < 2) (hv : Int32.ofNat (es_len.getD i 0) = v) (hd : decode y.2.1 pc = .ok (.arraylength, 1)) (k : T E d y (pc + 1) lv (vi v :: st) x f Q) : T E d y pc lv (vr (902 + i) :: st) x f Q :=
  T_step (fun p e R s m args below meth c A H locs cells slots ls ad Q9 C hP hS hl kk => by
    have q := (C.2.2.2.1.2.2.1.2.1.1.1 i hi).2.2.2
    have e2 := hP.2 (2 + i) (by omega)
    rw [show 900 + (2 + i) = 902 + i by omega] at e2
    show W _ _ _ _ _ _ _ _ _ _ _ _ _ _ _ (F0 m pc ls (.ref (ad (902 + i)) :: _))
    rw [e2]
    exact va_tlen C.1.1 C.1.2.1 q hS hv hd (kk ls hl)) k
theorem T_baldS (i : Nat) {j : Int32} (hi : i < 2) (hj : vp_in j (es_len.getD i 0)) (hd : decode y.2.1 pc = .ok (.baload, 1)) (k : T E d y (pc + 1) lv (vi (cby i j.toNatClampNeg) :: st) x f Q) : T E d y pc lv (vi j :: vr (902 + i) :: st) x f Q :=
  T_step (fun p e R s m args below meth c A H locs cells slots ls ad Q9 C hP hS hl kk => by
    have q := (C.2.2.2.1.2.2.1.2.1.1.1 i hi).2.2.2
    have e2 := hP.2 (2 + i) (by omega)
    rw [show 900 + (2 + i) = 902 + i by omega] at e2
    show W _ _ _ _ _ _ _ _ _ _ _ _ _ _ _ (F0 m pc ls (.int j :: .ref (ad (902 + i)) :: _))
    rw [e2]
    exact va_tb C.1.1 C.1.2.1 q hS hj rfl hd (kk ls hl)) k
theorem gkS {L : List Nat} {c : Nat} (h : 900 ≤ c ∧ c < 905) : gokv L (vr c) = true := by
  show (L.elem c || decide (900 ≤ c ∧ c < 905)) = true
  rw [decide_eq_true h, Bool.or_true]
theorem gk1 {L : List Nat} {i : Nat} {v : Int32} (hi : i < 2) : gok L [(0, vr (900 + i))] [vi v] = true := by
  show (((gokv L (vr (900 + i))) && true) && true) = true
  rw [gkS ⟨by omega, by omega⟩]; rfl
theorem gk2 {L : List Nat} {i : Nat} {v : Int32} (hi : i < 2) : gok L [(0, vr (902 + i)), (1, vi v)] [] = true := by
  show (((gokv L (vr (902 + i))) && true) && true) = true
  rw [gkS ⟨by omega, by omega⟩]; rfl
theorem gk3 {L : List Nat} {i : Nat} {v : Int32} (hi : i < 2) : gok L [(0, vr (900 + i)), (1, vi v)] [] = true := by
  show (((gokv L (vr (900 + i))) && true) && true) = true
  rw [gkS ⟨by omega, by omega⟩]; rfl
/-- a call of a text's own method -/
theorem T_callK {z : gy} {idx n : Nat} (i : Nat) (hi : i < 2) (As rest : List gv) (d1 : Nat) (hst : st = As.reverse ++ vr (900 + i) :: rest) (hd : decode y.2.1 pc = .ok (.invokevirtual idx, 3)) (hM : gMv y.1.cls idx z n) (hn : As.length = n) (hcl : z.1.cls = "java/lang/String") (hz : z.2.2.2.2 = []) (hd1 : d1 + 1 ≤ d)
    (hfit : gsz (vr (900 + i) :: As) ≤ z.2.2.1) (hcat : gsz rest ≤ 8) (hok : gok f.2.1 lv rest = true) (hno : ∀ z ∈ tableOf y.2.2.2.2, covers z pc = false) (k : T E d1 z 0 (glv 0 (vr (900 + i) :: As)) [] x f (gthen E d y (pc + 3) lv rest Q)) : T E d y pc lv st x f Q := by
  obtain ⟨⟨m1, m2, m3, m4, m5⟩, m6, m7, m8⟩ := hM
  refine T_run (z := z) (d1 := d1) (As := vr (900 + i) :: As) (rest := rest) hno hok ?_ k
  intro o x1 f1 hle hw p e R s m args below meth c0 A H locs cells slots ls ad C hP hS hl hc1 hs1
  have hrec : ∃ cell : Cell, H[ad (900 + i)]? = some cell ∧ cell.vm.isStatics = false ∧ s.vm.findClass z.1.cls = some cell.cls := by
    rw [hcl, hP.2 i (by omega)]
    exact vk_recv C.2.2.2.1.2.2.1.2.1.1 hi hS
  have hG : GoodIn W0 (wsV y.1.cls idx z.1.cls z.1 (gws z)) := by
    intro w hw
    rcases List.mem_append.mp hw with h | h
    · refine W0_good w ?_
      simp only [List.mem_cons, List.not_mem_nil, or_false] at h
      rcases h with rfl | rfl | rfl | rfl
      · exact m1
      · exact m2
      · exact m3
      · exact m4
    · exact gwsz m5 w h
  have hroom : 8 + (z.2.2.1 + 11) + 41 * d1 ≤ R.locals := by
    have hq := C.2.2.1.2
    omega
  have hstk : st.map (gcv ad) = (As.map (gcv ad)).reverse ++ Value.ref (ad (900 + i)) :: rest.map (gcv ad) := by
    rw [hst, List.map_append, List.map_reverse]
    rfl
  exact vx_runV (As := As.map (gcv ad)) (C := z.1.cls) (b := ad (900 + i)) (Pc := va_Pc ((vr (900 + i) :: As).map (gcv ad)) (gst E x f ad H.size)) ⟨C.1.1, C.1.2.1, C.1.2.2.1, C.1.2.2.2.1, C.1.2.2.2.2⟩ (gM_of C.2.2.2.1.2.2.2 m7 hfit hw ad H.size)
      (cwV (bytes := z.2.1) (maxL := z.2.2.1) (ret := z.2.2.2.1) (ws' := W0) n C.1.2.2.2.2 hG (by rw [gws, gcw, hz]) rfl rfl ⟨rfl, m6⟩ ⟨Nat.le_trans hd1 C.2.2.1.1, hroom⟩) ⟨gst_blind, hrec, fun U hU hW => ⟨rfl, gst_in C hP hS hU hW⟩⟩ rfl (by rw [List.length_map]; exact hn) hl.1 hstk (lv_room (by rw [gsz_c]; exact hcat)) hd ⟨hc1, hs1⟩
end SST
abbrev zj_isLatin1 : gy := (yJ0_isLatin1_aae02, cJ0_isLatin1_aae02, 1, some .boolean, [])
theorem dtj_isLatin1 : dck cJ0_isLatin1_aae02 [(0, .getstatic 38, 3), (3, .ifCond .eq 14, 3), (6, .aload_n 0, 1), (7, .getfield 15, 3), (10, .ifCond .ne 7, 3), (13, .iconst 1, 1), (14, .goto 4, 3), (17, .iconst 0, 1), (18, .ireturn, 1)] = true := by decide +kernel
set_option maxRecDepth 100000 in
theorem cwaj_isLatin1 : tables_1_3[147]? = some (Cond.code yJ0_isLatin1_aae02 cJ0_isLatin1_aae02 1 (some .boolean)) := rfl
theorem cwj_isLatin1 : Cond.code yJ0_isLatin1_aae02 cJ0_isLatin1_aae02 1 (some .boolean) ∈ W0 := W0_in (tp_3 (List.mem_of_getElem? cwaj_isLatin1)) rfl
abbrev zj_coder : gy := (yJ0_coder_7d493, cJ0_coder_7d493, 1, some .byte, [])
theorem dtj_coder : dck cJ0_coder_7d493 [(0, .getstatic 38, 3), (3, .ifCond .eq 10, 3), (6, .aload_n 0, 1), (7, .getfield 15, 3), (10, .goto 4, 3), (13, .iconst 1, 1), (14, .ireturn, 1)] = true := by decide +kernel
set_option maxRecDepth 100000 in
theorem cwaj_coder : tables_1_10[178]? = some (Cond.code yJ0_coder_7d493 cJ0_coder_7d493 1 (some .byte)) := rfl
theorem cwj_coder : Cond.code yJ0_coder_7d493 cJ0_coder_7d493 1 (some .byte) ∈ W0 := W0_in (tp_10 (List.mem_of_getElem? cwaj_coder)) rfl
abbrev zj_length : gy := (yJ0_length_8abf5, cJ0_length_8abf5, 1, some .int, [])
theorem dtj_length : dck cJ0_length_8abf5 [(0, .aload_n 0, 1), (1, .getfield 9, 3), (4, .arraylength, 1), (5, .aload_n 0, 1), (6, .invokevirtual 335, 3), (9, .ishr, 1), (10, .ireturn, 1)] = true := by decide +kernel
set_option maxRecDepth 100000 in
theorem cwaj_length : tables_1_10[174]? = some (Cond.code yJ0_length_8abf5 cJ0_length_8abf5 1 (some .int)) := rfl
theorem cwj_length : Cond.code yJ0_length_8abf5 cJ0_length_8abf5 1 (some .int) ∈ W0 := W0_in (tp_10 (List.mem_of_getElem? cwaj_length)) rfl
abbrev zj_checkP : gy := (yJ3_checkIndex_8e157, cJ3_checkIndex_8e157, 3, some .int, [])
theorem dtj_checkP : dck cJ3_checkIndex_8e157 [(0, .iload_n 0, 1), (1, .ifCond .lt 8, 3), (4, .iload_n 0, 1), (5, .iload_n 1, 1), (6, .if_icmp .lt 10, 3), (9, .aload_n 2, 1), (10, .iload_n 0, 1), (11, .iload_n 1, 1), (12, .invokestatic 95, 3), (15, .athrow, 1), (16, .iload_n 0, 1), (17, .ireturn, 1)] = true := by decide +kernel
set_option maxRecDepth 100000 in
theorem cwaj_checkP : tables_1_3[160]? = some (Cond.code yJ3_checkIndex_8e157 cJ3_checkIndex_8e157 3 (some .int)) := rfl
theorem cwj_checkP : Cond.code yJ3_checkIndex_8e157 cJ3_checkIndex_8e157 3 (some .int) ∈ W0 := W0_in (tp_3 (List.mem_of_getElem? cwaj_checkP)) rfl
abbrev zj_checkS : gy := (yJ0_checkIndex_df160, cJ0_checkIndex_df160, 2, none, [])
theorem dtj_checkS : dck cJ0_checkIndex_df160 [(0, .iload_n 0, 1), (1, .iload_n 1, 1), (2, .getstatic 1053, 3), (5, .invokestatic 1059, 3), (8, .pop, 1), (9, .return_, 1)] = true := by decide +kernel
set_option maxRecDepth 100000 in
theorem cwaj_checkS : tables_1_3[155]? = some (Cond.code yJ0_checkIndex_df160 cJ0_checkIndex_df160 2 (none)) := rfl
theorem cwj_checkS : Cond.code yJ0_checkIndex_df160 cJ0_checkIndex_df160 2 (none) ∈ W0 := W0_in (tp_3 (List.mem_of_getElem? cwaj_checkS)) rfl
abbrev zj_charL : gy := (yJ1_charAt_3b067, cJ1_charAt_3b067, 2, some .char, [])
theorem dtj_charL : dck cJ1_charAt_3b067 [(0, .iload_n 1, 1), (1, .aload_n 0, 1), (2, .arraylength, 1), (3, .invokestatic 9, 3), (6, .aload_n 0, 1), (7, .iload_n 1, 1), (8, .baload, 1), (9, .sipush 255, 3), (12, .iand, 1), (13, .i2c, 1), (14, .ireturn, 1)] = true := by decide +kernel
set_option maxRecDepth 100000 in
theorem cwaj_charL : tables_1_3[152]? = some (Cond.code yJ1_charAt_3b067 cJ1_charAt_3b067 2 (some .char)) := rfl
theorem cwj_charL : Cond.code yJ1_charAt_3b067 cJ1_charAt_3b067 2 (some .char) ∈ W0 := W0_in (tp_3 (List.mem_of_getElem? cwaj_charL)) rfl
abbrev zj_charAt : gy := (yJ0_charAt_5068e, cJ0_charAt_5068e, 2, some .char, [])
theorem dtj_charAt : dck cJ0_charAt_5068e [(0, .aload_n 0, 1), (1, .invokevirtual 492, 3), (4, .ifCond .eq 12, 3), (7, .aload_n 0, 1), (8, .getfield 9, 3), (11, .iload_n 1, 1), (12, .invokestatic 495, 3), (15, .ireturn, 1), (16, .aload_n 0, 1), (17, .getfield 9, 3), (20, .iload_n 1, 1), (21, .invokestatic 498, 3), (24, .ireturn, 1)] = true := by decide +kernel
set_option maxRecDepth 100000 in
theorem cwaj_charAt : tables_1_3[143]? = some (Cond.code yJ0_charAt_5068e cJ0_charAt_5068e 2 (some .char)) := rfl
theorem cwj_charAt : Cond.code yJ0_charAt_5068e cJ0_charAt_5068e 2 (some .char) ∈ W0 := W0_in (tp_3 (List.mem_of_getElem? cwaj_charAt)) rfl
theorem fj_9 : Cond.fieldLink RJ0 9 "java/lang/String" "value" "[B" ∈ W0 := W0_in (List.mem_of_getElem? (i := 3011) (by decide +kernel)) rfl
theorem fj_15 : Cond.fieldLink RJ0 15 "java/lang/String" "coder" "B" ∈ W0 := W0_in (List.mem_of_getElem? (i := 3010) (by decide +kernel)) rfl
theorem fj_38 : Cond.fieldLink RJ0 38 "java/lang/String" "COMPACT_STRINGS" "Z" ∈ W0 := W0_in (List.mem_of_getElem? (i := 833) (by decide +kernel)) rfl
theorem fj_1053 : Cond.fieldLink RJ0 1053 "jdk/internal/util/Preconditions" "SIOOBE_FORMATTER" "Ljava/util/function/BiFunction;" ∈ W0 := W0_in (List.mem_of_getElem? (i := 841) (by decide +kernel)) rfl
theorem cj_335 : gMv RJ0 335 zj_coder 0 := ⟨⟨W0_in (List.mem_of_getElem? (i := 2540) (by decide +kernel)) rfl, W0_in (List.mem_of_getElem? (i := 2541) (by decide +kernel)) rfl, W0_in (List.mem_of_getElem? (i := 2542) (by decide +kernel)) rfl, W0_in (List.mem_of_getElem? (i := 220) (by decide +kernel)) rfl, cwj_coder⟩, ⟨by decide, by decide, by decide +kernel⟩, by decide, by decide⟩
theorem cj_492 : gMv RJ0 492 zj_isLatin1 0 := ⟨⟨W0_in (List.mem_of_getElem? (i := 829) (by decide +kernel)) rfl, W0_in (List.mem_of_getElem? (i := 830) (by decide +kernel)) rfl, W0_in (List.mem_of_getElem? (i := 831) (by decide +kernel)) rfl, W0_in (List.mem_of_getElem? (i := 220) (by decide +kernel)) rfl, cwj_isLatin1⟩, ⟨by decide, by decide, by decide +kernel⟩, by decide, by decide⟩
theorem cj_1059 : gMs RJ0 1059 zj_checkP 3 := ⟨⟨W0_in (List.mem_of_getElem? (i := 843) (by decide +kernel)) rfl, W0_in (List.mem_of_getElem? (i := 844) (by decide +kernel)) rfl, W0_in (List.mem_of_getElem? (i := 222) (by decide +kernel)) rfl, cwj_checkP⟩, ⟨by decide, by decide, by decide +kernel⟩, by decide, by decide⟩
theorem cj_9 : gMs RJ1 9 zj_checkS 2 := ⟨⟨W0_in (List.mem_of_getElem? (i := 838) (by decide +kernel)) rfl, W0_in (List.mem_of_getElem? (i := 839) (by decide +kernel)) rfl, W0_in (List.mem_of_getElem? (i := 220) (by decide +kernel)) rfl, cwj_checkS⟩, ⟨by decide, by decide, by decide +kernel⟩, by decide, by decide⟩
theorem cj_495 : gMs RJ0 495 zj_charL 2 := ⟨⟨W0_in (List.mem_of_getElem? (i := 835) (by decide +kernel)) rfl, W0_in (List.mem_of_getElem? (i := 836) (by decide +kernel)) rfl, W0_in (List.mem_of_getElem? (i := 221) (by decide +kernel)) rfl, cwj_charL⟩, ⟨by decide, by decide, by decide +kernel⟩, by decide, by decide⟩
theorem cv_328 : gMv RX12 328 zj_length 0 := ⟨⟨W0_in (List.mem_of_getElem? (i := 2536) (by decide +kernel)) rfl, W0_in (List.mem_of_getElem? (i := 2537) (by decide +kernel)) rfl, W0_in (List.mem_of_getElem? (i := 2538) (by decide +kernel)) rfl, W0_in (List.mem_of_getElem? (i := 220) (by decide +kernel)) rfl, cwj_length⟩, ⟨by decide, by decide, by decide +kernel⟩, by decide, by decide⟩
theorem cv_334 : gMv RX12 334 zj_charAt 1 := ⟨⟨W0_in (List.mem_of_getElem? (i := 2544) (by decide +kernel)) rfl, W0_in (List.mem_of_getElem? (i := 826) (by decide +kernel)) rfl, W0_in (List.mem_of_getElem? (i := 827) (by decide +kernel)) rfl, W0_in (List.mem_of_getElem? (i := 220) (by decide +kernel)) rfl, cwj_charAt⟩, ⟨by decide, by decide, by decide +kernel⟩, by decide, by decide⟩
section SSM
variable {E : gE} {d : Nat} {y : gy} {pc : Nat} {lv : List (Nat × gv)} {st : List gv} {x : gd} {f : gf} {Q : gr → gd → gf → Prop}
theorem tj_isLatin1 (i : Nat) (hi : i < 2) (h : Q (.inl (some (vi 1))) x f) : T E d zj_isLatin1 0 [(0, vr (900 + i))] [] x f Q := by
  refine T_getCS (dk dtj_isLatin1 0 rfl) fj_38 ?_
  refine T_if_eq 17 (dk dtj_isLatin1 1 rfl) (by decide) (fun c => absurd c (by decide)) (fun _ => ?_)
  refine T_aload_n 0 (dk dtj_isLatin1 2 rfl) rfl rfl ?_
  refine T_getSC i hi (dk dtj_isLatin1 3 rfl) fj_15 ?_
  refine T_if_ne 17 (dk dtj_isLatin1 4 rfl) (by decide) (fun c => absurd rfl c) (fun _ => ?_)
  refine T_iconst (v := 1) (dk dtj_isLatin1 5 rfl) (by decide +kernel) ?_
  refine T_goto 18 (dk dtj_isLatin1 6 rfl) (by decide) ?_
  exact T_iret (dk dtj_isLatin1 8 rfl) rfl rfl h
theorem tj_coder (i : Nat) (hi : i < 2) (h : Q (.inl (some (vi 0))) x f) : T E d zj_coder 0 [(0, vr (900 + i))] [] x f Q := by
  refine T_getCS (dk dtj_coder 0 rfl) fj_38 ?_
  refine T_if_eq 13 (dk dtj_coder 1 rfl) (by decide) (fun c => absurd c (by decide)) (fun _ => ?_)
  refine T_aload_n 0 (dk dtj_coder 2 rfl) rfl rfl ?_
  refine T_getSC i hi (dk dtj_coder 3 rfl) fj_15 ?_
  refine T_goto 14 (dk dtj_coder 4 rfl) (by decide) ?_
  exact T_iret (dk dtj_coder 6 rfl) rfl rfl h
theorem sh0 (v : Int32) : v >>> ((0 : Int32) &&& 31) = v := by
  apply Int32.toBitVec_inj.mp
  show v.toBitVec.sshiftRight _ = v.toBitVec
  exact BitVec.sshiftRight_zero
theorem tj_length (i : Nat) (hi : i < 2) {v : Int32} (hv : Int32.ofNat (es_len.getD i 0) = v) (h : Q (.inl (some (vi v))) x f) : T E (d + 1) zj_length 0 [(0, vr (900 + i))] [] x f Q := by
  refine T_aload_n 0 (dk dtj_length 0 rfl) rfl rfl ?_
  refine T_getSV i hi (dk dtj_length 1 rfl) fj_9 ?_
  refine T_alenS i hi hv (dk dtj_length 2 rfl) ?_
  refine T_aload_n 0 (dk dtj_length 3 rfl) rfl rfl ?_
  refine T_callK i hi [] [vi v] d rfl (dk dtj_length 4 rfl) cj_335 rfl rfl rfl (Nat.le_refl _) (Nat.le_of_ble_eq_true rfl) (Nat.le_of_ble_eq_true rfl) (gk1 hi) (by intro z hz; cases hz) ?_
  refine tj_coder i hi ?_
  show T E (d + 1) zj_length 9 [(0, vr (900 + i))] [vi 0, vi v] x f Q
  refine T_ishr (dk dtj_length 5 rfl) ?_
  rw [sh0]
  exact T_iret (dk dtj_length 6 rfl) rfl rfl h
theorem tj_checkP {j n : Int32} {w9 : gv} (hj : ¬ j < 0) (hn : j < n) (h : Q (.inl (some (vi j))) x f) : T E d zj_checkP 0 [(0, vi j), (1, vi n), (2, w9)] [] x f Q := by
  refine T_iload_n 0 (dk dtj_checkP 0 rfl) rfl rfl ?_
  refine T_if_lt 9 (dk dtj_checkP 1 rfl) (by decide) (fun c => absurd c hj) (fun _ => ?_)
  refine T_iload_n 0 (dk dtj_checkP 2 rfl) rfl rfl ?_
  refine T_iload_n 1 (dk dtj_checkP 3 rfl) rfl rfl ?_
  refine T_icmp_lt 16 (dk dtj_checkP 4 rfl) (by decide) (fun _ => ?_) (fun c => absurd hn c)
  refine T_iload_n 0 (dk dtj_checkP 10 rfl) rfl rfl ?_
  exact T_iret (dk dtj_checkP 11 rfl) rfl rfl h
theorem tj_checkS {j n : Int32} (hj : ¬ j < 0) (hn : j < n) (h : Q (.inl none) x f) : T E (d + 1) zj_checkS 0 [(0, vi j), (1, vi n)] [] x f Q := by
  refine T_iload_n 0 (dk dtj_checkS 0 rfl) rfl rfl ?_
  refine T_iload_n 1 (dk dtj_checkS 1 rfl) rfl rfl ?_
  refine T_getFM (dk dtj_checkS 2 rfl) fj_1053 ?_ ?_
  · refine T_callS [vi j, vi n, vn] [] d rfl (dk dtj_checkS 3 rfl) cj_1059 rfl (Nat.le_refl _) (Nat.le_of_ble_eq_true rfl) (Nat.le_of_ble_eq_true rfl) rfl (by intro z hz; cases hz) ?_
    refine tj_checkP hj hn ?_
    show T E (d + 1) zj_checkS 8 [(0, vi j), (1, vi n)] [vi j] x f Q
    refine T_pop (dk dtj_checkS 4 rfl) rfl ?_
    exact T_vret (dk dtj_checkS 5 rfl) rfl h
  · refine T_callS [vi j, vi n, vr 904] [] d rfl (dk dtj_checkS 3 rfl) cj_1059 rfl (Nat.le_refl _) (Nat.le_of_ble_eq_true rfl) (Nat.le_of_ble_eq_true rfl) rfl (by intro z hz; cases hz) ?_
    refine tj_checkP hj hn ?_
    show T E (d + 1) zj_checkS 8 [(0, vi j), (1, vi n)] [vi j] x f Q
    refine T_pop (dk dtj_checkS 4 rfl) rfl ?_
    exact T_vret (dk dtj_checkS 5 rfl) rfl h
theorem tj_charL (i : Nat) (hi : i < 2) {j : Int32} (hj : vp_in j (es_len.getD i 0)) (hlen : es_len.getD i 0 < 1000) (h : Q (.inl (some (vi (cch i j.toNatClampNeg)))) x f) : T E (d + 2) zj_charL 0 [(0, vr (902 + i)), (1, vi j)] [] x f Q := by
  have q := vp_in_iff.mp hj
  have n0 : ¬ j < 0 := fun c => by
    have := Int32.lt_iff_toInt_lt.mp c
    have z : (0 : Int32).toInt = 0 := rfl
    omega
  have n1 : j < Int32.ofNat (es_len.getD i 0) := by
    refine Int32.lt_iff_toInt_lt.mpr ?_
    rw [Int32.toInt_ofNat_of_lt (by omega)]
    exact q.2
  refine T_iload_n 1 (dk dtj_charL 0 rfl) rfl rfl ?_
  refine T_aload_n 0 (dk dtj_charL 1 rfl) rfl rfl ?_
  refine T_alenS i hi rfl (dk dtj_charL 2 rfl) ?_
  refine T_callS [vi j, vi (Int32.ofNat (es_len.getD i 0))] [] (d + 1) rfl (dk dtj_charL 3 rfl) cj_9 rfl (Nat.le_refl _) (Nat.le_of_ble_eq_true rfl) (Nat.le_of_ble_eq_true rfl) (gk2 hi) (by intro z hz; cases hz) ?_
  refine tj_checkS n0 n1 ?_
  show T E (d + 2) zj_charL 6 [(0, vr (902 + i)), (1, vi j)] [] x f Q
  refine T_aload_n 0 (dk dtj_charL 4 rfl) rfl rfl ?_
  refine T_iload_n 1 (dk dtj_charL 5 rfl) rfl rfl ?_
  refine T_baldS i hi hj (dk dtj_charL 6 rfl) ?_
  refine T_sipush (v := 255) (dk dtj_charL 7 rfl) (by decide +kernel) ?_
  refine T_iand (dk dtj_charL 8 rfl) ?_
  refine T_i2c (dk dtj_charL 9 rfl) ?_
  exact T_iret (dk dtj_charL 10 rfl) rfl (nar_char _) h
theorem tj_charAt (i : Nat) (hi : i < 2) {j : Int32} (hj : vp_in j (es_len.getD i 0)) (hlen : es_len.getD i 0 < 1000) (h : Q (.inl (some (vi (cch i j.toNatClampNeg)))) x f) : T E (d + 3) zj_charAt 0 [(0, vr (900 + i)), (1, vi j)] [] x f Q := by
  refine T_aload_n 0 (dk dtj_charAt 0 rfl) rfl rfl ?_
  refine T_callK i hi [] [] (d + 2) rfl (dk dtj_charAt 1 rfl) cj_492 rfl rfl rfl (Nat.le_refl _) (Nat.le_of_ble_eq_true rfl) (Nat.le_of_ble_eq_true rfl) (gk3 hi) (by intro z hz; cases hz) ?_
  refine tj_isLatin1 i hi ?_
  show T E (d + 3) zj_charAt 4 [(0, vr (900 + i)), (1, vi j)] [vi 1] x f Q
  refine T_if_eq 16 (dk dtj_charAt 2 rfl) (by decide) (fun c => absurd c (by decide)) (fun _ => ?_)
  refine T_aload_n 0 (dk dtj_charAt 3 rfl) rfl rfl ?_
  refine T_getSV i hi (dk dtj_charAt 4 rfl) fj_9 ?_
  refine T_iload_n 1 (dk dtj_charAt 5 rfl) rfl rfl ?_
  refine T_callS [vr (902 + i), vi j] [] (d + 2) rfl (dk dtj_charAt 6 rfl) cj_495 rfl (Nat.le_refl _) (Nat.le_of_ble_eq_true rfl) (Nat.le_of_ble_eq_true rfl) (gk3 hi) (by intro z hz; cases hz) ?_
  refine tj_charL i hi hj hlen ?_
  show T E (d + 3) zj_charAt 15 [(0, vr (900 + i)), (1, vi j)] [vi (cch i j.toNatClampNeg)] x f Q
  exact T_iret (dk dtj_charAt 7 rfl) rfl (nar_char _) h
theorem es_l0 : es_len.getD 0 0 = 224 := by decide +kernel
theorem es_l1 : es_len.getD 1 0 = 165 := by decide +kernel
/-- length of a text, its char -/
theorem T_slen (i : Nat) {idx : Nat} {v : Int32} {rest : List gv} (hi : i < 2) (hv : Int32.ofNat (es_len.getD i 0) = v) (hd : decode y.2.1 pc = .ok (.invokevirtual idx, 3)) (hM : gMv y.1.cls idx zj_length 0) (hd1 : 2 ≤ d) (hcat : gsz rest ≤ 8) (hok : gok f.2.1 lv rest = true) (hy : y.2.2.2.2 = []) (k : T E d y (pc + 3) lv (vi v :: rest) x f Q) : T E d y pc lv (vr (900 + i) :: rest) x f Q :=
  T_callK i hi [] rest 1 rfl hd hM rfl rfl rfl hd1 (Nat.le_of_ble_eq_true rfl) hcat hok (by rw [hy]; intro z hz; cases hz) (tj_length i hi hv k)
theorem T_chat (i : Nat) {idx : Nat} {j : Int32} {rest : List gv} (hi : i < 2) (hj : vp_in j (es_len.getD i 0)) (hlen : es_len.getD i 0 < 1000) (hd : decode y.2.1 pc = .ok (.invokevirtual idx, 3)) (hM : gMv y.1.cls idx zj_charAt 1) (hd1 : 4 ≤ d) (hcat : gsz rest ≤ 8) (hok : gok f.2.1 lv rest = true) (hy : y.2.2.2.2 = []) (k : T E d y (pc + 3) lv (vi (cch i j.toNatClampNeg) :: rest) x f Q) : T E d y pc lv (vi j :: vr (900 + i) :: rest) x f Q :=
  T_callK i hi [vi j] rest 3 rfl hd hM rfl rfl rfl hd1 (Nat.le_of_ble_eq_true rfl) hcat hok (by rw [hy]; intro z hz; cases hz) (tj_charAt i hi hj hlen k)
end SSM
set_option maxRecDepth 100000 in
theorem dt_wordOf : dck cX12_wordOf [(0, .ldc_w 326, 3), (3, .astore_n 3, 1), (4, .bipush 10, 2), (6, .istore 4, 2), (8, .iconst 0, 1), (9, .istore 5, 2), (11, .iload 5, 2), (13, .aload_n 3, 1), (14, .invokevirtual 328, 3), (17, .if_icmp .ge 107, 3), (20, .iload 5, 2), (22, .istore 6, 2), (24, .aload_n 3, 1), (25, .iload 6, 2), (27, .invokevirtual 334, 3), (30, .bipush 32, 2), (32, .if_icmp .eq 9, 3), (35, .iinc 6 1, 3), (38, .goto (-14), 3), (41, .iload 6, 2), (43, .iload 5, 2), (45, .isub, 1), (46, .iload_n 2, 1), (47, .if_icmp .ne 7, 3), (50, .iconst 1, 1), (51, .goto 4, 3), (54, .iconst 0, 1), (55, .istore 7, 2), (57, .iconst 0, 1), (58, .istore 8, 2), (60, .iload 8, 2), (62, .iload_n 2, 1), (63, .if_icmp .ge 41, 3), (66, .iload 7, 2), (68, .ifCond .eq 36, 3), (71, .aload_n 0, 1), (72, .iload_n 1, 1), (73, .iload 8, 2), (75, .iadd, 1), (76, .invokevirtual 338, 3), (79, .aload_n 3, 1), (80, .iload 5, 2), (82, .iload 8, 2), (84, .iadd, 1), (85, .invokevirtual 334, 3), (88, .if_icmp .ne 7, 3), (91, .iconst 1, 1), (92, .goto 4, 3), (95, .iconst 0, 1), (96, .istore 7, 2), (98, .iinc 8 1, 3), (101, .goto (-41), 3), (104, .iload 7, 2), (106, .ifCond .eq 6, 3), (109, .iload 4, 2), (111, .ireturn, 1), (112, .iinc 4 1, 3), (115, .iload 6, 2), (117, .iconst 1, 1), (118, .iadd, 1), (119, .istore 5, 2), (121, .goto (-110), 3), (124, .iconst 1, 1), (125, .ireturn, 1)] = true := by decide +kernel
set_option maxRecDepth 100000 in
set_option maxHeartbeats 4000000 in
theorem sg_wordOf_0 {G : mG} {d : Nat} {x : gd} {P : Option gv → gd → Prop} (l1 : Int32) (l2 : Int32)
    (h : MT G (d + 7) z_wordOf 11 [(0, vr 0), (1, vi l1), (2, vi l2), (3, vr 901), (4, vi 10), (5, vi 0)] [] x P) :
    MT G (d + 7) z_wordOf 0 [(0, vr 0), (1, vi l1), (2, vi l2)] [] x P := by
  refine T_ldcwS 1 (by decide) (dk dt_wordOf 0 rfl) rfl ?_
  refine T_astore_n (lv2 := [(3, vr 901), (0, vr 0), (1, vi l1), (2, vi l2)]) (dk dt_wordOf 1 rfl) rfl (by decide) rfl ?_
  refine T_bipush (v := 10) (dk dt_wordOf 2 rfl) (by decide +kernel) ?_
  refine T_istore (lv2 := [(4, vi 10), (3, vr 901), (0, vr 0), (1, vi l1), (2, vi l2)]) (dk dt_wordOf 3 rfl) (by decide) rfl ?_
  refine T_iconst (v := 0) (dk dt_wordOf 4 rfl) (by decide +kernel) ?_
  refine T_istore (lv2 := [(5, vi 0), (4, vi 10), (3, vr 901), (0, vr 0), (1, vi l1), (2, vi l2)]) (dk dt_wordOf 5 rfl) (by decide) rfl ?_
  exact T_sub [3, 4, 5, 2, 1, 0] rfl h
set_option maxRecDepth 100000 in
set_option maxHeartbeats 4000000 in
theorem sg_wordOf_11 {G : mG} {d : Nat} {x : gd} {P : Option gv → gd → Prop} (l1 : Int32) (l2 : Int32) (l4 : Int32) (l5 : Int32)
    (h : (((165 : Int32) ≤ l5 → P (some (vi 1)) x) ∧ (¬ ((165 : Int32) ≤ l5) → MT G (d + 7) z_wordOf 24 [(0, vr 0), (1, vi l1), (2, vi l2), (3, vr 901), (4, vi l4), (5, vi l5), (6, vi l5)] [] x P))) :
    MT G (d + 7) z_wordOf 11 [(0, vr 0), (1, vi l1), (2, vi l2), (3, vr 901), (4, vi l4), (5, vi l5)] [] x P := by
  refine T_iload 5 (dk dt_wordOf 6 rfl) rfl ?_
  refine T_aload_n 3 (dk dt_wordOf 7 rfl) rfl rfl ?_
  refine T_slen 1 (v := 165) (by decide) (by rw [es_l1]; decide) (dk dt_wordOf 8 rfl) cv_328 (by omega) (Nat.le_of_ble_eq_true rfl) rfl rfl ?_
  refine T_icmp_ge 124 (dk dt_wordOf 9 rfl) (by decide) (fun c1 => ?_) (fun c1 => ?_)
  · have h := h.1 c1
    refine T_iconst (v := 1) (dk dt_wordOf 62 rfl) (by decide +kernel) ?_
    exact MT_iret (dk dt_wordOf 63 rfl) rfl rfl h
  · have h := h.2 c1
    refine T_iload 5 (dk dt_wordOf 10 rfl) rfl ?_
    refine T_istore (lv2 := [(6, vi l5), (0, vr 0), (1, vi l1), (2, vi l2), (3, vr 901), (4, vi l4), (5, vi l5)]) (dk dt_wordOf 11 rfl) (by decide) rfl ?_
    exact T_sub [1, 2, 3, 4, 5, 6, 0] rfl h
set_option maxRecDepth 100000 in
set_option maxHeartbeats 4000000 in
theorem sg_wordOf_24 {G : mG} {d : Nat} {x : gd} {P : Option gv → gd → Prop} (l1 : Int32) (l2 : Int32) (l4 : Int32) (l5 : Int32) (l6 : Int32)
    (h : vp_in l6 165 ∧ (((cch 1 (l6 : Int32).toNatClampNeg) = (32 : Int32) → ((¬ ((l6 - l5) = l2) → MT G (d + 7) z_wordOf 60 [(0, vr 0), (1, vi l1), (2, vi l2), (3, vr 901), (4, vi l4), (5, vi l5), (6, vi l6), (7, vi 0), (8, vi 0)] [] x P) ∧ ((l6 - l5) = l2 → MT G (d + 7) z_wordOf 60 [(0, vr 0), (1, vi l1), (2, vi l2), (3, vr 901), (4, vi l4), (5, vi l5), (6, vi l6), (7, vi 1), (8, vi 0)] [] x P))) ∧ (¬ ((cch 1 (l6 : Int32).toNatClampNeg) = (32 : Int32)) → MT G (d + 7) z_wordOf 24 [(0, vr 0), (1, vi l1), (2, vi l2), (3, vr 901), (4, vi l4), (5, vi l5), (6, vi (l6 + 1))] [] x P))) :
    MT G (d + 7) z_wordOf 24 [(0, vr 0), (1, vi l1), (2, vi l2), (3, vr 901), (4, vi l4), (5, vi l5), (6, vi l6)] [] x P := by
  refine T_aload_n 3 (dk dt_wordOf 12 rfl) rfl rfl ?_
  refine T_iload 6 (dk dt_wordOf 13 rfl) rfl ?_
  obtain ⟨h1, h⟩ := h
  refine T_chat 1 (by decide) (by rw [es_l1]; exact h1) (by rw [es_l1]; decide) (dk dt_wordOf 14 rfl) cv_334 (by omega) (Nat.le_of_ble_eq_true rfl) rfl rfl ?_
  refine T_bipush (v := 32) (dk dt_wordOf 15 rfl) (by decide +kernel) ?_
  refine T_icmp_eq 41 (dk dt_wordOf 16 rfl) (by decide) (fun c2 => ?_) (fun c2 => ?_)
  · have h := h.1 c2
    refine T_iload 6 (dk dt_wordOf 19 rfl) rfl ?_
    refine T_iload 5 (dk dt_wordOf 20 rfl) rfl ?_
    refine T_isub (dk dt_wordOf 21 rfl) ?_
    refine T_iload_n 2 (dk dt_wordOf 22 rfl) rfl rfl ?_
    refine T_icmp_ne 54 (dk dt_wordOf 23 rfl) (by decide) (fun c3 => ?_) (fun c3 => ?_)
    · have h := h.1 c3
      refine T_iconst (v := 0) (dk dt_wordOf 26 rfl) (by decide +kernel) ?_
      refine T_istore (lv2 := [(7, vi 0), (0, vr 0), (1, vi l1), (2, vi l2), (3, vr 901), (4, vi l4), (5, vi l5), (6, vi l6)]) (dk dt_wordOf 27 rfl) (by decide) rfl ?_
      refine T_iconst (v := 0) (dk dt_wordOf 28 rfl) (by decide +kernel) ?_
      refine T_istore (lv2 := [(8, vi 0), (7, vi 0), (0, vr 0), (1, vi l1), (2, vi l2), (3, vr 901), (4, vi l4), (5, vi l5), (6, vi l6)]) (dk dt_wordOf 29 rfl) (by decide) rfl ?_
      exact T_sub [2, 3, 4, 5, 6, 7, 8, 1, 0] rfl h
    · have h := h.2 c3
      refine T_iconst (v := 1) (dk dt_wordOf 24 rfl) (by decide +kernel) ?_
      refine T_goto 55 (dk dt_wordOf 25 rfl) (by decide) ?_
      refine T_istore (lv2 := [(7, vi 1), (0, vr 0), (1, vi l1), (2, vi l2), (3, vr 901), (4, vi l4), (5, vi l5), (6, vi l6)]) (dk dt_wordOf 27 rfl) (by decide) rfl ?_
      refine T_iconst (v := 0) (dk dt_wordOf 28 rfl) (by decide +kernel) ?_
      refine T_istore (lv2 := [(8, vi 0), (7, vi 1), (0, vr 0), (1, vi l1), (2, vi l2), (3, vr 901), (4, vi l4), (5, vi l5), (6, vi l6)]) (dk dt_wordOf 29 rfl) (by decide) rfl ?_
      exact T_sub [2, 3, 4, 5, 6, 7, 8, 1, 0] rfl h
  · have h := h.2 c2
    refine T_iinc (v := l6 + 1) (lv2 := [(6, vi (l6 + 1)), (0, vr 0), (1, vi l1), (2, vi l2), (3, vr 901), (4, vi l4), (5, vi l5)]) 6 (dk dt_wordOf 17 rfl) rfl rfl (by decide) rfl ?_
    refine T_goto 24 (dk dt_wordOf 18 rfl) (by decide) ?_
    exact T_sub [1, 2, 3, 4, 5, 6, 0] rfl h
set_option maxRecDepth 100000 in
set_option maxHeartbeats 4000000 in
theorem sg_wordOf_60 {G : mG} {d : Nat} {x : gd} {P : Option gv → gd → Prop} (l1 : Int32) (l2 : Int32) (l4 : Int32) (l5 : Int32) (l6 : Int32) (l7 : Int32) (l8 : Int32)
    (h : ((l2 ≤ l8 → MT G (d + 7) z_wordOf 104 [(0, vr 0), (1, vi l1), (2, vi l2), (3, vr 901), (4, vi l4), (6, vi l6), (7, vi l7)] [] x P) ∧ (¬ (l2 ≤ l8) → ((l7 = (0 : Int32) → MT G (d + 7) z_wordOf 104 [(0, vr 0), (1, vi l1), (2, vi l2), (3, vr 901), (4, vi l4), (6, vi l6), (7, vi l7)] [] x P) ∧ (¬ (l7 = (0 : Int32)) → MT G (d + 6) z_byteAt 0 [(0, vr 0), (1, vi (l1 + l8))] [] x (ri (fun r4 x3 => vp_in (l5 + l8) 165 ∧ ((¬ (r4 = (cch 1 (l5 + l8 : Int32).toNatClampNeg)) → MT G (d + 7) z_wordOf 60 [(0, vr 0), (1, vi l1), (2, vi l2), (3, vr 901), (4, vi l4), (5, vi l5), (6, vi l6), (7, vi 0), (8, vi (l8 + 1))] [] x3 P) ∧ (r4 = (cch 1 (l5 + l8 : Int32).toNatClampNeg) → MT G (d + 7) z_wordOf 60 [(0, vr 0), (1, vi l1), (2, vi l2), (3, vr 901), (4, vi l4), (5, vi l5), (6, vi l6), (7, vi 1), (8, vi (l8 + 1))] [] x3 P))))))))) :
    MT G (d + 7) z_wordOf 60 [(0, vr 0), (1, vi l1), (2, vi l2), (3, vr 901), (4, vi l4), (5, vi l5), (6, vi l6), (7, vi l7), (8, vi l8)] [] x P := by
  refine T_iload 8 (dk dt_wordOf 30 rfl) rfl ?_
  refine T_iload_n 2 (dk dt_wordOf 31 rfl) rfl rfl ?_
  refine T_icmp_ge 104 (dk dt_wordOf 32 rfl) (by decide) (fun c1 => ?_) (fun c1 => ?_)
  · have h := h.1 c1
    exact T_sub [0, 1, 2, 3, 4, 6, 7] rfl h
  · have h := h.2 c1
    refine T_iload 7 (dk dt_wordOf 33 rfl) rfl ?_
    refine T_if_eq 104 (dk dt_wordOf 34 rfl) (by decide) (fun c2 => ?_) (fun c2 => ?_)
    · have h := h.1 c2
      exact T_sub [0, 1, 2, 3, 4, 6, 7] rfl h
    · have h := h.2 c2
      refine T_aload_n 0 (dk dt_wordOf 35 rfl) rfl rfl ?_
      refine T_iload_n 1 (dk dt_wordOf 36 rfl) rfl rfl ?_
      refine T_iload 8 (dk dt_wordOf 37 rfl) rfl ?_
      refine T_iadd (dk dt_wordOf 38 rfl) ?_
      refine MT_callVi [vi (l1 + l8)] [] rfl (dk dt_wordOf 39 rfl) cv_338 rfl rfl (Nat.le_of_ble_eq_true rfl) (Nat.le_of_ble_eq_true rfl) rfl rfl h (fun r4 x3 h => ?_)
      refine T_aload_n 3 (dk dt_wordOf 40 rfl) rfl rfl ?_
      refine T_iload 5 (dk dt_wordOf 41 rfl) rfl ?_
      refine T_iload 8 (dk dt_wordOf 42 rfl) rfl ?_
      refine T_iadd (dk dt_wordOf 43 rfl) ?_
      obtain ⟨h5, h⟩ := h
      refine T_chat 1 (by decide) (by rw [es_l1]; exact h5) (by rw [es_l1]; decide) (dk dt_wordOf 44 rfl) cv_334 (by omega) (Nat.le_of_ble_eq_true rfl) rfl rfl ?_
      refine T_icmp_ne 95 (dk dt_wordOf 45 rfl) (by decide) (fun c6 => ?_) (fun c6 => ?_)
      · have h := h.1 c6
        refine T_iconst (v := 0) (dk dt_wordOf 48 rfl) (by decide +kernel) ?_
        refine T_istore (lv2 := [(7, vi 0), (0, vr 0), (1, vi l1), (2, vi l2), (3, vr 901), (4, vi l4), (5, vi l5), (6, vi l6), (8, vi l8)]) (dk dt_wordOf 49 rfl) (by decide) rfl ?_
        refine T_iinc (v := l8 + 1) (lv2 := [(8, vi (l8 + 1)), (7, vi 0), (0, vr 0), (1, vi l1), (2, vi l2), (3, vr 901), (4, vi l4), (5, vi l5), (6, vi l6)]) 8 (dk dt_wordOf 50 rfl) rfl rfl (by decide) rfl ?_
        refine T_goto 60 (dk dt_wordOf 51 rfl) (by decide) ?_
        exact T_sub [2, 3, 4, 5, 6, 7, 8, 1, 0] rfl h
      · have h := h.2 c6
        refine T_iconst (v := 1) (dk dt_wordOf 46 rfl) (by decide +kernel) ?_
        refine T_goto 96 (dk dt_wordOf 47 rfl) (by decide) ?_
        refine T_istore (lv2 := [(7, vi 1), (0, vr 0), (1, vi l1), (2, vi l2), (3, vr 901), (4, vi l4), (5, vi l5), (6, vi l6), (8, vi l8)]) (dk dt_wordOf 49 rfl) (by decide) rfl ?_
        refine T_iinc (v := l8 + 1) (lv2 := [(8, vi (l8 + 1)), (7, vi 1), (0, vr 0), (1, vi l1), (2, vi l2), (3, vr 901), (4, vi l4), (5, vi l5), (6, vi l6)]) 8 (dk dt_wordOf 50 rfl) rfl rfl (by decide) rfl ?_
        refine T_goto 60 (dk dt_wordOf 51 rfl) (by decide) ?_
        exact T_sub [2, 3, 4, 5, 6, 7, 8, 1, 0] rfl h
set_option maxRecDepth 100000 in
set_option maxHeartbeats 4000000 in
theorem sg_wordOf_104 {G : mG} {d : Nat} {x : gd} {P : Option gv → gd → Prop} (l1 : Int32) (l2 : Int32) (l4 : Int32) (l6 : Int32) (l7 : Int32)
    (h : ((l7 = (0 : Int32) → MT G (d + 7) z_wordOf 11 [(0, vr 0), (1, vi l1), (2, vi l2), (3, vr 901), (4, vi (l4 + 1)), (5, vi (l6 + 1))] [] x P) ∧ (¬ (l7 = (0 : Int32)) → P (some (vi l4)) x))) :
    MT G (d + 7) z_wordOf 104 [(0, vr 0), (1, vi l1), (2, vi l2), (3, vr 901), (4, vi l4), (6, vi l6), (7, vi l7)] [] x P := by
  refine T_iload 6 (dk dt_wordOf 52 rfl) rfl ?_
  refine T_if_eq 112 (dk dt_wordOf 53 rfl) (by decide) (fun c1 => ?_) (fun c1 => ?_)
  · have h := h.1 c1
    refine T_iinc (v := l4 + 1) (lv2 := [(4, vi (l4 + 1)), (0, vr 0), (1, vi l1), (2, vi l2), (3, vr 901), (6, vi l6), (7, vi l7)]) 4 (dk dt_wordOf 56 rfl) rfl rfl (by decide) rfl ?_
    refine T_iload 5 (dk dt_wordOf 57 rfl) rfl ?_
    refine T_iconst (v := 1) (dk dt_wordOf 58 rfl) (by decide +kernel) ?_
    refine T_iadd (dk dt_wordOf 59 rfl) ?_
    refine T_istore (lv2 := [(5, vi (l6 + 1)), (4, vi (l4 + 1)), (0, vr 0), (1, vi l1), (2, vi l2), (3, vr 901), (6, vi l6), (7, vi l7)]) (dk dt_wordOf 60 rfl) (by decide) rfl ?_
    refine T_goto 11 (dk dt_wordOf 61 rfl) (by decide) ?_
    exact T_sub [2, 3, 4, 5, 1, 0] rfl h
  · have h := h.2 c1
    refine T_iload 4 (dk dt_wordOf 54 rfl) rfl ?_
    exact MT_iret (dk dt_wordOf 55 rfl) rfl rfl h
