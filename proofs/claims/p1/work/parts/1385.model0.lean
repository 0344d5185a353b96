theorem mz_ok : ∀ j ∈ mz, j ∉ ([138, 137, 135, 134, 133, 132, 131, 130, 129, 128, 127, 126, 125, 124, 123, 122, 121, 120, 119, 118, 117, 115, 114, 113, 112, 111, 110, 109, 108, 106, 105, 104, 103, 102, 101, 100, 99, 98, 97, 95, 87, 86, 85, 83, 81, 80, 79, 78, 77, 76, 75, 74, 73, 72, 71, 70, 69, 65, 64, 63, 62, 61, 60, 59, 58, 57, 56, 55, 54, 53, 51, 50, 46, 45, 44, 40, 39, 38, 37, 36, 35, 34, 33, 32, 31, 30, 29, 19, 18, 17, 16, 15, 14, 12, 11, 7, 6, 5, 4, 1] : List Nat) := by decide
noncomputable def v_c_Model_init : List Cond := .code yX12_init cX12_init 1 none :: ([.methodLink RX12 1 objectInit, .instanceMethod objectInit, .code objectInit ⟨#[0xb1]⟩ 1 none, .arrayClass .byte, .fieldLink RX12 7 "ScheduleHouseModel" "text" "[B", .arrayClass .int, .fieldLink RX12 13 "ScheduleHouseModel" "kind" "[I", .fieldLink RX12 17 "ScheduleHouseModel" "place" "[I", .fieldLink RX12 20 "ScheduleHouseModel" "valueOf" "[I", .fieldLink RX12 23 "ScheduleHouseModel" "sizeOf" "[I", .fieldLink RX12 26 "ScheduleHouseModel" "faultPlace" "I", .fieldLink RX12 30 "ScheduleHouseModel" "faultLine" "I", .fieldLink RX12 33 "ScheduleHouseModel" "sort" "[I", .fieldLink RX12 36 "ScheduleHouseModel" "partA" "[I", .fieldLink RX12 39 "ScheduleHouseModel" "partB" "[I", .fieldLink RX12 42 "ScheduleHouseModel" "partC" "[I", .fieldLink RX12 45 "ScheduleHouseModel" "token" "[I", .fieldLink RX12 48 "ScheduleHouseModel" "nextS" "[I", .fieldLink RX12 51 "ScheduleHouseModel" "toldToken" "[I", .fieldLink RX12 54 "ScheduleHouseModel" "toldSort" "[I", .fieldLink RX12 57 "ScheduleHouseModel" "toldNumber" "[I", .fieldLink RX12 60 "ScheduleHouseModel" "toldSize" "[I", .arrayClass .boolean, .fieldLink RX12 63 "ScheduleHouseModel" "toldRow" "[Z", .fieldLink RX12 67 "ScheduleHouseModel" "rowToken" "[I", .fieldLink RX12 70 "ScheduleHouseModel" "first" "[I", .fieldLink RX12 73 "ScheduleHouseModel" "isSure" "[Z", .fieldLink RX12 76 "ScheduleHouseModel" "isIdle" "[Z", .fieldLink RX12 79 "ScheduleHouseModel" "threadBlock" "[I", .fieldLink RX12 82 "ScheduleHouseModel" "alwaysE" "[I", .fieldLink RX12 85 "ScheduleHouseModel" "finalE" "[I", .fieldLink RX12 88 "ScheduleHouseModel" "knownToken" "[I", .fieldLink RX12 91 "ScheduleHouseModel" "knownSlot" "[I", .fieldLink RX12 94 "ScheduleHouseModel" "knownBlock" "[I", .fieldLink RX12 97 "ScheduleHouseModel" "work" "[I", .fieldLink RX12 100 "ScheduleHouseModel" "workA" "[I", .fieldLink RX12 103 "ScheduleHouseModel" "stepWhat" "[I", .fieldLink RX12 106 "ScheduleHouseModel" "stepSort" "[I", .fieldLink RX12 109 "ScheduleHouseModel" "stepOf" "[I", .fieldLink RX12 112 "ScheduleHouseModel" "stepSize" "[I", .fieldLink RX12 115 "ScheduleHouseModel" "stepAt" "[I", .fieldLink RX12 118 "ScheduleHouseModel" "stepE" "[I", .fieldLink RX12 121 "ScheduleHouseModel" "stepF" "[I", .fieldLink RX12 124 "ScheduleHouseModel" "stepTo" "[I", .fieldLink RX12 127 "ScheduleHouseModel" "stepKnown" "[I", .fieldLink RX12 130 "ScheduleHouseModel" "stepLine" "[I", .fieldLink RX12 133 "ScheduleHouseModel" "begins" "[I", .fieldLink RX12 136 "ScheduleHouseModel" "alwaysWork" "[I", .fieldLink RX12 139 "ScheduleHouseModel" "finalWork" "[I", .fieldLink RX12 142 "ScheduleHouseModel" "cell" "[I", .fieldLink RX12 145 "ScheduleHouseModel" "holder" "[I", .fieldLink RX12 148 "ScheduleHouseModel" "held" "[I", .fieldLink RX12 151 "ScheduleHouseModel" "state" "[I", .fieldLink RX12 154 "ScheduleHouseModel" "at" "[I", .fieldLink RX12 157 "ScheduleHouseModel" "number" "[I", .fieldLink RX12 160 "ScheduleHouseModel" "local" "[I", .fieldLink RX12 163 "ScheduleHouseModel" "waits" "[I", .fieldLink RX12 166 "ScheduleHouseModel" "waitHeld" "[I", .fieldLink RX12 169 "ScheduleHouseModel" "calling" "[I", .fieldLink RX12 172 "ScheduleHouseModel" "lateMany" "[I", .fieldLink RX12 175 "ScheduleHouseModel" "lateCell" "[I", .fieldLink RX12 178 "ScheduleHouseModel" "lateValue" "[I", .fieldLink RX12 181 "ScheduleHouseModel" "pile" "[I", .fieldLink RX12 184 "ScheduleHouseModel" "choiceThread" "[I", .fieldLink RX12 187 "ScheduleHouseModel" "choiceLate" "[I", .fieldLink RX12 190 "ScheduleHouseModel" "choiceWakes" "[I", .fieldLink RX12 193 "ScheduleHouseModel" "doneChoice" "[I", .fieldLink RX12 196 "ScheduleHouseModel" "actThread" "[I", .fieldLink RX12 199 "ScheduleHouseModel" "actSort" "[I", .fieldLink RX12 202 "ScheduleHouseModel" "actOf" "[I", .fieldLink RX12 205 "ScheduleHouseModel" "actRead" "[I", .fieldLink RX12 208 "ScheduleHouseModel" "actWrote" "[I", .fieldLink RX12 211 "ScheduleHouseModel" "actFailed" "[Z", .fieldLink RX12 214 "ScheduleHouseModel" "actWakes" "[I", .arrayClass .long, .fieldLink RX12 217 "ScheduleHouseModel" "sooner" "[J", .fieldLink RX12 221 "ScheduleHouseModel" "startedBy" "[I", .fieldLink RX12 224 "ScheduleHouseModel" "wokenBy" "[I", .fieldLink RX12 227 "ScheduleHouseModel" "callKind" "[I", .fieldLink RX12 230 "ScheduleHouseModel" "callValue" "[I", .fieldLink RX12 233 "ScheduleHouseModel" "callAnswer" "[I", .fieldLink RX12 236 "ScheduleHouseModel" "callFrom" "[I", .fieldLink RX12 239 "ScheduleHouseModel" "callTo" "[I", .fieldLink RX12 242 "ScheduleHouseModel" "row" "[I", .fieldLink RX12 245 "ScheduleHouseModel" "tried" "[I", .fieldLink RX12 248 "ScheduleHouseModel" "content" "[I", .fieldLink RX12 251 "ScheduleHouseModel" "openCall" "[I", .fieldLink RX12 254 "ScheduleHouseModel" "wasTried" "[Z", .fieldLink RX12 257 "ScheduleHouseModel" "many" "[I", .fieldLink RX12 260 "ScheduleHouseModel" "isPartly" "[Z", .fieldLink RX12 263 "ScheduleHouseModel" "ends" "[I", .fieldLink RX12 266 "ScheduleHouseModel" "outcomes" "[I", .fieldLink RX12 269 "ScheduleHouseModel" "quiet" "[I", .fieldLink RX12 272 "ScheduleHouseModel" "sums" "[I", .fieldLink RX12 275 "ScheduleHouseModel" "findings" "[I", .fieldLink RX12 278 "ScheduleHouseModel" "commons" "[I", .fieldLink RX12 281 "ScheduleHouseModel" "comes" "[Z", .constant RX12 284 (144000), .fieldLink RX12 285 "ScheduleHouseModel" "outcome" "[I", .fieldLink RX12 288 "ScheduleHouseModel" "parent" "[I", .fieldLink RX12 291 "ScheduleHouseModel" "byChoice" "[I", .fieldLink RX12 294 "ScheduleHouseModel" "far" "[I", .constant RX12 297 (720480), .fieldLink RX12 298 "ScheduleHouseModel" "rows" "[I", .fieldLink RX12 301 "ScheduleHouseModel" "nextRow" "[I", .fieldLink RX12 304 "ScheduleHouseModel" "heads" "[I", .fieldLink RX12 307 "ScheduleHouseModel" "kept" "[I", .fieldLink RX12 310 "ScheduleHouseModel" "path" "[I", .fieldLink RX12 313 "ScheduleHouseModel" "ringFar" "[I"] ++ (wsX120 ++ ([])))
theorem i_v_c_Model_init_X12 : ∀ w ∈ wsX120, w ∈ v_c_Model_init := fun _ h => List.mem_cons_of_mem _ (List.mem_append_right _ (List.mem_append_left _ h))
theorem t_v_c_Model_init : ∀ w ∈ v_c_Model_init, w ∈ lw_tbl := tb_c (List.mem_of_getElem? (i := 2068) (by decide +kernel)) (tb_a (tb_l (ps := [2069, 239, 240, 286, 2073, 287, 2076, 2077, 2078, 2079, 2083, 2084, 2086, 2087, 2088, 2089, 2090, 2091, 2100, 2101, 2102, 2103, 492, 2104, 2105, 2106, 2107, 2108, 2109, 2110, 2111, 2115, 2116, 2117, 2121, 2122, 2124, 2125, 2126, 2127, 2128, 2129, 2130, 2131, 2132, 2133, 2134, 2135, 2136, 2140, 2141, 2142, 2143, 2144, 2145, 2146, 2147, 2148, 2149, 2150, 2151, 2152, 2154, 2156, 2157, 2158, 2166, 2168, 2169, 2170, 2171, 2172, 2173, 2174, 2489, 2175, 2176, 2177, 2179, 2180, 2181, 2182, 2183, 2184, 2185, 2186, 2188, 2189, 2190, 2191, 2192, 2193, 2194, 2195, 2196, 2197, 2198, 2070, 2199, 2200, 2201, 2202, 2071, 2203, 2204, 2205, 2206, 2208, 2209]) (by decide +kernel)) (tb_a (tw_wsX120) (tb_n)))
set_option maxHeartbeats 20000000 in
set_option maxRecDepth 100000 in
/-- ScheduleHouseModel() -/
theorem c_Model_init (l : Launch) (D : va_G) (h0 : Nat) (fs : List Value) (sz : Nat) (hlen : fs.length = 139) (hz : ∀ j ∈ mz, fs[j]? = some (.int 0)) : Met l yX12_init v_c_Model_init ({ frames := 1, cells := 98, slots := 948697, locals := 12 }) (va_Pc [.ref h0] (st_ D [(h0, .inr (12, fs))] [] sz)) (va_Qv (fun u : List Value => u.length = 139 ∧ (∀ j ∈ mz, u[j]? = some (.int 0)) ∧ u[11]? = some (.int (-1)) ∧ u[12]? = some (.int (-1))) (fun u t => ∃ (b0 b1 b2 b3 b4 b5 : Nat) (cb0 cb1 cb2 cb3 cb4 cb5 : ClassId), u[1]? = some (.ref b0) ∧ u[4]? = some (.ref b1) ∧ u[5]? = some (.ref b2) ∧ u[6]? = some (.ref b3) ∧ u[7]? = some (.ref b4) ∧ u[118]? = some (.ref b5) ∧ va_P D vwCl [(h0, .inr (12, u)), (b0, .inl (cb0, 3000, .inl (fun _ => 0))), (b1, .inl (cb1, 710, .inl (fun _ => 0))), (b2, .inl (cb2, 710, .inl (fun _ => 0))), (b3, .inl (cb3, 710, .inl (fun _ => 0))), (b4, .inl (cb4, 710, .inl (fun _ => 0))), (b5, .inl (cb5, 2, .inl (fun _ => 0)))] t.heap ∧ va_K D vwCl [(cb0, .byte), (cb1, .int), (cb2, .int), (cb3, .int), (cb4, .int), (cb5, .boolean)] t ∧ va_D (va_A [(h0, .inr (12, fs))] sz) [(h0, .inr (12, u)), (b0, .inl (cb0, 3000, .inl (fun _ => 0))), (b1, .inl (cb1, 710, .inl (fun _ => 0))), (b2, .inl (cb2, 710, .inl (fun _ => 0))), (b3, .inl (cb3, 710, .inl (fun _ => 0))), (b4, .inl (cb4, 710, .inl (fun _ => 0))), (b5, .inl (cb5, 2, .inl (fun _ => 0)))]) (va_A [(h0, .inr (12, fs))] sz)) 98 948697 (va_A [(h0, .inr (12, fs))] sz) := by
  refine Met.ofW (cc := cX12_init) (maxL := 1) (ret := none) (by decide) rfl ?_
  intro p e s m args below meth c s₁ B hml hv
  obtain ⟨rfl, hsz, hP, hK, hD0, hZ, hE⟩ := hv
  have hx := B.exec
  have hb := B.bytes
  have hr := B.returns
  have hts := atoms_spec (ws := v_c_Model_init) B.pre
  have hown : s.vm.findClass RX12 = some m.cls := findClass_of_methodNamed B.named
  have hlocks := B.notSynchronized
  have hin : meth.name = "<init>" := (name_of_methodNamed B.named B.method).1
  subst hsz
  have hD := hD0.self (sz := s.heap.size)
  generalize hAe : va_A [(h0, .inr (12, fs))] s.heap.size = A at hD hZ ⊢
  have hA : ∀ q : Nat, s.heap.size ≤ q → A q := fun q h => by rw [← hAe]; exact Or.inr h
  have hS : va_S A s.heap s.heap [] := va_S.rf
  have hAO := hE.2.2.2.1
  have hP : va_P D vwCl [(h0, .inr (12, fs))] s.heap := hP
  have hl := lv_entry ([.ref h0]) (n := 1) (Nat.le_of_ble_eq_true rfl)
  rw [lg_entry_eq]
  generalize (lg_sl ([.ref h0]) ++ List.replicate (1 - (lg_sl ([.ref h0])).length) Slot.unset).toArray = ls at hl ⊢
  have hl : lv_has ls 1 [(0, .ref h0)] := hl
  refine lv_aload_n hx hb dX12_init_0 rfl (lv_at hl 0 rfl) ?_
  refine W.objInit hx hb hown (hts (.methodLink RX12 1 objectInit) (by decide +kernel)) (hts (.instanceMethod objectInit) (by decide +kernel)) (hts (.code objectInit ⟨#[0xb1]⟩ 1 none) (by decide +kernel)) rfl (by rw [hml]; exact hl.1) rfl dX12_init_1 (Nat.le_of_ble_eq_true rfl) (Nat.le_of_ble_eq_true rfl) ?_
  refine W.eq (g2 := F0 m 4 ls []) rfl ?_
  have k0 := kp_0 fs
  refine lv_aload_n hx hb dX12_init_4 rfl (lv_at hl 0 rfl) ?_
  refine lv_sipush (v := 3000) hx hb dX12_init_5 (by decide +kernel) ?_
  refine va_newa (atype := .byte) (ty := .byte) (N' := 3000) (a0 := (3000, .inl (fun _ => 0))) hx hb (hts (.arrayClass .byte) (by decide +kernel)) rfl hK hP hD hS hA (na_byte 3000) (by decide +kernel) (by decide +kernel) (by decide +kernel) (Nat.le_of_ble_eq_true rfl) (Nat.le_of_ble_eq_true rfl) dX12_init_8 (fun q1 cq1 H hK hP hD hS => ?_)
  have hP : va_P D vwCl [(h0, .inr (12, fs)), (q1, .inl (cq1, 3000, .inl (fun _ => 0)))] H := hP
  have hD : va_D A [(h0, .inr (12, fs)), (q1, .inl (cq1, 3000, .inl (fun _ => 0)))] := hD
  have hK : va_K D vwCl [(cq1, .byte)] s := hK
  refine W.widen (k := 1) (n := 3000) (Nat.le_of_ble_eq_true rfl) (Nat.le_of_ble_eq_true rfl) ?_
  refine va_put (D := D) (ci := 12) (v := .ref q1) (ty := .array .byte) (C := RX12) (T := TX12) (N := 139) hx hb hts i_v_c_Model_init_X12 tyX12 tyX12_ok nmX12 hown hK hP hD hS 0 rfl rfl 1 (by decide) (hts (.fieldLink RX12 7 "ScheduleHouseModel" "text" "[B") (by decide +kernel)) (fun _ h9 => h9) rfl (by decide +kernel) rfl rfl (kp_lt k0 hlen (by decide)) dX12_init_10 (fun H locs hP hD hS => ?_)
  obtain ⟨fs2, hfs2⟩ : ∃ z, z = fs.set 1 (.ref q1) := ⟨_, rfl⟩
  have kfs2 := kp_s 1 (.ref q1) k0
  have gfs2_1 : fs2[1]? = some (.ref q1) := by rw [hfs2]; exact se_eq (kp_lt k0 hlen (by decide))
  rw [← hfs2] at hP hD kfs2
  have hP : va_P D vwCl [(h0, .inr (12, fs2)), (q1, .inl (cq1, 3000, .inl (fun _ => 0)))] H := hP
  have hD : va_D A [(h0, .inr (12, fs2)), (q1, .inl (cq1, 3000, .inl (fun _ => 0)))] := hD
  refine lv_aload_n hx hb dX12_init_13 rfl (lv_at hl 0 rfl) ?_
  refine lv_sipush (v := 710) hx hb dX12_init_14 (by decide +kernel) ?_
  refine va_newa (atype := .int) (ty := .int) (N' := 710) (a0 := (710, .inl (fun _ => 0))) hx hb (hts (.arrayClass .int) (by decide +kernel)) rfl hK hP hD hS hA (na_int 710) (by decide +kernel) (by decide +kernel) (by decide +kernel) (Nat.le_of_ble_eq_true rfl) (Nat.le_of_ble_eq_true rfl) dX12_init_17 (fun q3 cq3 H hK hP hD hS => ?_)
  have hP : va_P D vwCl [(h0, .inr (12, fs2)), (q1, .inl (cq1, 3000, .inl (fun _ => 0))), (q3, .inl (cq3, 710, .inl (fun _ => 0)))] H := hP
  have hD : va_D A [(h0, .inr (12, fs2)), (q1, .inl (cq1, 3000, .inl (fun _ => 0))), (q3, .inl (cq3, 710, .inl (fun _ => 0)))] := hD
  have hK : va_K D vwCl [(cq1, .byte), (cq3, .int)] s := hK
  refine W.widen (k := 2) (n := 3710) (Nat.le_of_ble_eq_true rfl) (Nat.le_of_ble_eq_true rfl) ?_
  refine va_put (D := D) (ci := 12) (v := .ref q3) (ty := .array .int) (C := RX12) (T := TX12) (N := 139) hx hb hts i_v_c_Model_init_X12 tyX12 tyX12_ok nmX12 hown hK hP hD hS 0 rfl rfl 4 (by decide) (hts (.fieldLink RX12 13 "ScheduleHouseModel" "kind" "[I") (by decide +kernel)) (fun _ h9 => h9) rfl (by decide +kernel) rfl rfl (kp_lt kfs2 hlen (by decide)) dX12_init_19 (fun H locs hP hD hS => ?_)
  obtain ⟨fs4, hfs4⟩ : ∃ z, z = fs2.set 4 (.ref q3) := ⟨_, rfl⟩
  have kfs4 := kp_s 4 (.ref q3) kfs2
  have gfs4_4 : fs4[4]? = some (.ref q3) := by rw [hfs4]; exact se_eq (kp_lt kfs2 hlen (by decide))
  have gfs4_1 : fs4[1]? = some (.ref q1) := by rw [hfs4]; exact se_ne gfs2_1 (by decide)
  rw [← hfs4] at hP hD kfs4
  have hP : va_P D vwCl [(h0, .inr (12, fs4)), (q1, .inl (cq1, 3000, .inl (fun _ => 0))), (q3, .inl (cq3, 710, .inl (fun _ => 0)))] H := hP
  have hD : va_D A [(h0, .inr (12, fs4)), (q1, .inl (cq1, 3000, .inl (fun _ => 0))), (q3, .inl (cq3, 710, .inl (fun _ => 0)))] := hD
  refine lv_aload_n hx hb dX12_init_22 rfl (lv_at hl 0 rfl) ?_
  refine lv_sipush (v := 710) hx hb dX12_init_23 (by decide +kernel) ?_
  refine va_newa (atype := .int) (ty := .int) (N' := 710) (a0 := (710, .inl (fun _ => 0))) hx hb (hts (.arrayClass .int) (by decide +kernel)) rfl hK hP hD hS hA (na_int 710) (by decide +kernel) (by decide +kernel) (by decide +kernel) (Nat.le_of_ble_eq_true rfl) (Nat.le_of_ble_eq_true rfl) dX12_init_26 (fun q5 cq5 H hK hP hD hS => ?_)
  have hP : va_P D vwCl [(h0, .inr (12, fs4)), (q1, .inl (cq1, 3000, .inl (fun _ => 0))), (q3, .inl (cq3, 710, .inl (fun _ => 0))), (q5, .inl (cq5, 710, .inl (fun _ => 0)))] H := hP
  have hD : va_D A [(h0, .inr (12, fs4)), (q1, .inl (cq1, 3000, .inl (fun _ => 0))), (q3, .inl (cq3, 710, .inl (fun _ => 0))), (q5, .inl (cq5, 710, .inl (fun _ => 0)))] := hD
  have hK : va_K D vwCl [(cq1, .byte), (cq3, .int), (cq5, .int)] s := hK
  refine W.widen (k := 3) (n := 4420) (Nat.le_of_ble_eq_true rfl) (Nat.le_of_ble_eq_true rfl) ?_
  refine va_put (D := D) (ci := 12) (v := .ref q5) (ty := .array .int) (C := RX12) (T := TX12) (N := 139) hx hb hts i_v_c_Model_init_X12 tyX12 tyX12_ok nmX12 hown hK hP hD hS 0 rfl rfl 5 (by decide) (hts (.fieldLink RX12 17 "ScheduleHouseModel" "place" "[I") (by decide +kernel)) (fun _ h9 => h9) rfl (by decide +kernel) rfl rfl (kp_lt kfs4 hlen (by decide)) dX12_init_28 (fun H locs hP hD hS => ?_)
  obtain ⟨fs6, hfs6⟩ : ∃ z, z = fs4.set 5 (.ref q5) := ⟨_, rfl⟩
  have kfs6 := kp_s 5 (.ref q5) kfs4
  have gfs6_5 : fs6[5]? = some (.ref q5) := by rw [hfs6]; exact se_eq (kp_lt kfs4 hlen (by decide))
  have gfs6_4 : fs6[4]? = some (.ref q3) := by rw [hfs6]; exact se_ne gfs4_4 (by decide)
  have gfs6_1 : fs6[1]? = some (.ref q1) := by rw [hfs6]; exact se_ne gfs4_1 (by decide)
  rw [← hfs6] at hP hD kfs6
  have hP : va_P D vwCl [(h0, .inr (12, fs6)), (q1, .inl (cq1, 3000, .inl (fun _ => 0))), (q3, .inl (cq3, 710, .inl (fun _ => 0))), (q5, .inl (cq5, 710, .inl (fun _ => 0)))] H := hP
  have hD : va_D A [(h0, .inr (12, fs6)), (q1, .inl (cq1, 3000, .inl (fun _ => 0))), (q3, .inl (cq3, 710, .inl (fun _ => 0))), (q5, .inl (cq5, 710, .inl (fun _ => 0)))] := hD
  refine lv_aload_n hx hb dX12_init_31 rfl (lv_at hl 0 rfl) ?_
  refine lv_sipush (v := 710) hx hb dX12_init_32 (by decide +kernel) ?_
  refine va_newa (atype := .int) (ty := .int) (N' := 710) (a0 := (710, .inl (fun _ => 0))) hx hb (hts (.arrayClass .int) (by decide +kernel)) rfl hK hP hD hS hA (na_int 710) (by decide +kernel) (by decide +kernel) (by decide +kernel) (Nat.le_of_ble_eq_true rfl) (Nat.le_of_ble_eq_true rfl) dX12_init_35 (fun q7 cq7 H hK hP hD hS => ?_)
  have hP : va_P D vwCl [(h0, .inr (12, fs6)), (q1, .inl (cq1, 3000, .inl (fun _ => 0))), (q3, .inl (cq3, 710, .inl (fun _ => 0))), (q5, .inl (cq5, 710, .inl (fun _ => 0))), (q7, .inl (cq7, 710, .inl (fun _ => 0)))] H := hP
  have hD : va_D A [(h0, .inr (12, fs6)), (q1, .inl (cq1, 3000, .inl (fun _ => 0))), (q3, .inl (cq3, 710, .inl (fun _ => 0))), (q5, .inl (cq5, 710, .inl (fun _ => 0))), (q7, .inl (cq7, 710, .inl (fun _ => 0)))] := hD
  have hK : va_K D vwCl [(cq1, .byte), (cq3, .int), (cq5, .int), (cq7, .int)] s := hK
  refine W.widen (k := 4) (n := 5130) (Nat.le_of_ble_eq_true rfl) (Nat.le_of_ble_eq_true rfl) ?_
  refine va_put (D := D) (ci := 12) (v := .ref q7) (ty := .array .int) (C := RX12) (T := TX12) (N := 139) hx hb hts i_v_c_Model_init_X12 tyX12 tyX12_ok nmX12 hown hK hP hD hS 0 rfl rfl 6 (by decide) (hts (.fieldLink RX12 20 "ScheduleHouseModel" "valueOf" "[I") (by decide +kernel)) (fun _ h9 => h9) rfl (by decide +kernel) rfl rfl (kp_lt kfs6 hlen (by decide)) dX12_init_37 (fun H locs hP hD hS => ?_)
  obtain ⟨fs8, hfs8⟩ : ∃ z, z = fs6.set 6 (.ref q7) := ⟨_, rfl⟩
  have kfs8 := kp_s 6 (.ref q7) kfs6
  have gfs8_6 : fs8[6]? = some (.ref q7) := by rw [hfs8]; exact se_eq (kp_lt kfs6 hlen (by decide))
  have gfs8_5 : fs8[5]? = some (.ref q5) := by rw [hfs8]; exact se_ne gfs6_5 (by decide)
  have gfs8_4 : fs8[4]? = some (.ref q3) := by rw [hfs8]; exact se_ne gfs6_4 (by decide)
  have gfs8_1 : fs8[1]? = some (.ref q1) := by rw [hfs8]; exact se_ne gfs6_1 (by decide)
  rw [← hfs8] at hP hD kfs8
  have hP : va_P D vwCl [(h0, .inr (12, fs8)), (q1, .inl (cq1, 3000, .inl (fun _ => 0))), (q3, .inl (cq3, 710, .inl (fun _ => 0))), (q5, .inl (cq5, 710, .inl (fun _ => 0))), (q7, .inl (cq7, 710, .inl (fun _ => 0)))] H := hP
  have hD : va_D A [(h0, .inr (12, fs8)), (q1, .inl (cq1, 3000, .inl (fun _ => 0))), (q3, .inl (cq3, 710, .inl (fun _ => 0))), (q5, .inl (cq5, 710, .inl (fun _ => 0))), (q7, .inl (cq7, 710, .inl (fun _ => 0)))] := hD
  refine lv_aload_n hx hb dX12_init_40 rfl (lv_at hl 0 rfl) ?_
  refine lv_sipush (v := 710) hx hb dX12_init_41 (by decide +kernel) ?_
  refine va_newa (atype := .int) (ty := .int) (N' := 710) (a0 := (710, .inl (fun _ => 0))) hx hb (hts (.arrayClass .int) (by decide +kernel)) rfl hK hP hD hS hA (na_int 710) (by decide +kernel) (by decide +kernel) (by decide +kernel) (Nat.le_of_ble_eq_true rfl) (Nat.le_of_ble_eq_true rfl) dX12_init_44 (fun q9 cq9 H hK hP hD hS => ?_)
  have hP : va_P D vwCl [(h0, .inr (12, fs8)), (q1, .inl (cq1, 3000, .inl (fun _ => 0))), (q3, .inl (cq3, 710, .inl (fun _ => 0))), (q5, .inl (cq5, 710, .inl (fun _ => 0))), (q7, .inl (cq7, 710, .inl (fun _ => 0))), (q9, .inl (cq9, 710, .inl (fun _ => 0)))] H := hP
  have hD : va_D A [(h0, .inr (12, fs8)), (q1, .inl (cq1, 3000, .inl (fun _ => 0))), (q3, .inl (cq3, 710, .inl (fun _ => 0))), (q5, .inl (cq5, 710, .inl (fun _ => 0))), (q7, .inl (cq7, 710, .inl (fun _ => 0))), (q9, .inl (cq9, 710, .inl (fun _ => 0)))] := hD
  have hK : va_K D vwCl [(cq1, .byte), (cq3, .int), (cq5, .int), (cq7, .int), (cq9, .int)] s := hK
  refine W.widen (k := 5) (n := 5840) (Nat.le_of_ble_eq_true rfl) (Nat.le_of_ble_eq_true rfl) ?_
  refine va_put (D := D) (ci := 12) (v := .ref q9) (ty := .array .int) (C := RX12) (T := TX12) (N := 139) hx hb hts i_v_c_Model_init_X12 tyX12 tyX12_ok nmX12 hown hK hP hD hS 0 rfl rfl 7 (by decide) (hts (.fieldLink RX12 23 "ScheduleHouseModel" "sizeOf" "[I") (by decide +kernel)) (fun _ h9 => h9) rfl (by decide +kernel) rfl rfl (kp_lt kfs8 hlen (by decide)) dX12_init_46 (fun H locs hP hD hS => ?_)
  obtain ⟨fs10, hfs10⟩ : ∃ z, z = fs8.set 7 (.ref q9) := ⟨_, rfl⟩
  have kfs10 := kp_s 7 (.ref q9) kfs8
  have gfs10_7 : fs10[7]? = some (.ref q9) := by rw [hfs10]; exact se_eq (kp_lt kfs8 hlen (by decide))
  have gfs10_6 : fs10[6]? = some (.ref q7) := by rw [hfs10]; exact se_ne gfs8_6 (by decide)
  have gfs10_5 : fs10[5]? = some (.ref q5) := by rw [hfs10]; exact se_ne gfs8_5 (by decide)
  have gfs10_4 : fs10[4]? = some (.ref q3) := by rw [hfs10]; exact se_ne gfs8_4 (by decide)
  have gfs10_1 : fs10[1]? = some (.ref q1) := by rw [hfs10]; exact se_ne gfs8_1 (by decide)
  rw [← hfs10] at hP hD kfs10
  have hP : va_P D vwCl [(h0, .inr (12, fs10)), (q1, .inl (cq1, 3000, .inl (fun _ => 0))), (q3, .inl (cq3, 710, .inl (fun _ => 0))), (q5, .inl (cq5, 710, .inl (fun _ => 0))), (q7, .inl (cq7, 710, .inl (fun _ => 0))), (q9, .inl (cq9, 710, .inl (fun _ => 0)))] H := hP
  have hD : va_D A [(h0, .inr (12, fs10)), (q1, .inl (cq1, 3000, .inl (fun _ => 0))), (q3, .inl (cq3, 710, .inl (fun _ => 0))), (q5, .inl (cq5, 710, .inl (fun _ => 0))), (q7, .inl (cq7, 710, .inl (fun _ => 0))), (q9, .inl (cq9, 710, .inl (fun _ => 0)))] := hD
  refine lv_aload_n hx hb dX12_init_49 rfl (lv_at hl 0 rfl) ?_
  refine lv_iconst (v := (-1)) hx hb dX12_init_50 (by decide +kernel) ?_
  refine va_put (D := D) (ci := 12) (v := .int (-1)) (ty := .int) (C := RX12) (T := TX12) (N := 139) hx hb hts i_v_c_Model_init_X12 tyX12 tyX12_ok nmX12 hown hK hP hD hS 0 rfl rfl 11 (by decide) (hts (.fieldLink RX12 26 "ScheduleHouseModel" "faultPlace" "I") (by decide +kernel)) (fun _ h9 => h9) rfl (by decide +kernel) rfl rfl (kp_lt kfs10 hlen (by decide)) dX12_init_51 (fun H locs hP hD hS => ?_)
  obtain ⟨fs11, hfs11⟩ : ∃ z, z = fs10.set 11 (.int (-1)) := ⟨_, rfl⟩
  have kfs11 := kp_s 11 (.int (-1)) kfs10
  have gfs11_11 : fs11[11]? = some (.int (-1)) := by rw [hfs11]; exact se_eq (kp_lt kfs10 hlen (by decide))
  have gfs11_7 : fs11[7]? = some (.ref q9) := by rw [hfs11]; exact se_ne gfs10_7 (by decide)
  have gfs11_6 : fs11[6]? = some (.ref q7) := by rw [hfs11]; exact se_ne gfs10_6 (by decide)
  have gfs11_5 : fs11[5]? = some (.ref q5) := by rw [hfs11]; exact se_ne gfs10_5 (by decide)
  have gfs11_4 : fs11[4]? = some (.ref q3) := by rw [hfs11]; exact se_ne gfs10_4 (by decide)
  have gfs11_1 : fs11[1]? = some (.ref q1) := by rw [hfs11]; exact se_ne gfs10_1 (by decide)
  rw [← hfs11] at hP hD kfs11
  have hP : va_P D vwCl [(h0, .inr (12, fs11)), (q1, .inl (cq1, 3000, .inl (fun _ => 0))), (q3, .inl (cq3, 710, .inl (fun _ => 0))), (q5, .inl (cq5, 710, .inl (fun _ => 0))), (q7, .inl (cq7, 710, .inl (fun _ => 0))), (q9, .inl (cq9, 710, .inl (fun _ => 0)))] H := hP
  have hD : va_D A [(h0, .inr (12, fs11)), (q1, .inl (cq1, 3000, .inl (fun _ => 0))), (q3, .inl (cq3, 710, .inl (fun _ => 0))), (q5, .inl (cq5, 710, .inl (fun _ => 0))), (q7, .inl (cq7, 710, .inl (fun _ => 0))), (q9, .inl (cq9, 710, .inl (fun _ => 0)))] := hD
  refine lv_aload_n hx hb dX12_init_54 rfl (lv_at hl 0 rfl) ?_
  refine lv_iconst (v := (-1)) hx hb dX12_init_55 (by decide +kernel) ?_
  refine va_put (D := D) (ci := 12) (v := .int (-1)) (ty := .int) (C := RX12) (T := TX12) (N := 139) hx hb hts i_v_c_Model_init_X12 tyX12 tyX12_ok nmX12 hown hK hP hD hS 0 rfl rfl 12 (by decide) (hts (.fieldLink RX12 30 "ScheduleHouseModel" "faultLine" "I") (by decide +kernel)) (fun _ h9 => h9) rfl (by decide +kernel) rfl rfl (kp_lt kfs11 hlen (by decide)) dX12_init_56 (fun H locs hP hD hS => ?_)
  obtain ⟨fs12, hfs12⟩ : ∃ z, z = fs11.set 12 (.int (-1)) := ⟨_, rfl⟩
  have kfs12 := kp_s 12 (.int (-1)) kfs11
  have gfs12_12 : fs12[12]? = some (.int (-1)) := by rw [hfs12]; exact se_eq (kp_lt kfs11 hlen (by decide))
  have gfs12_11 : fs12[11]? = some (.int (-1)) := by rw [hfs12]; exact se_ne gfs11_11 (by decide)
  have gfs12_7 : fs12[7]? = some (.ref q9) := by rw [hfs12]; exact se_ne gfs11_7 (by decide)
  have gfs12_6 : fs12[6]? = some (.ref q7) := by rw [hfs12]; exact se_ne gfs11_6 (by decide)
  have gfs12_5 : fs12[5]? = some (.ref q5) := by rw [hfs12]; exact se_ne gfs11_5 (by decide)
  have gfs12_4 : fs12[4]? = some (.ref q3) := by rw [hfs12]; exact se_ne gfs11_4 (by decide)
  have gfs12_1 : fs12[1]? = some (.ref q1) := by rw [hfs12]; exact se_ne gfs11_1 (by decide)
  rw [← hfs12] at hP hD kfs12
  have hP : va_P D vwCl [(h0, .inr (12, fs12)), (q1, .inl (cq1, 3000, .inl (fun _ => 0))), (q3, .inl (cq3, 710, .inl (fun _ => 0))), (q5, .inl (cq5, 710, .inl (fun _ => 0))), (q7, .inl (cq7, 710, .inl (fun _ => 0))), (q9, .inl (cq9, 710, .inl (fun _ => 0)))] H := hP
  have hD : va_D A [(h0, .inr (12, fs12)), (q1, .inl (cq1, 3000, .inl (fun _ => 0))), (q3, .inl (cq3, 710, .inl (fun _ => 0))), (q5, .inl (cq5, 710, .inl (fun _ => 0))), (q7, .inl (cq7, 710, .inl (fun _ => 0))), (q9, .inl (cq9, 710, .inl (fun _ => 0)))] := hD
  refine lv_aload_n hx hb dX12_init_59 rfl (lv_at hl 0 rfl) ?_
  refine lv_sipush (v := 3000) hx hb dX12_init_60 (by decide +kernel) ?_
  refine va_newa (atype := .int) (ty := .int) (N' := 3000) (a0 := (3000, .inl (fun _ => 0))) hx hb (hts (.arrayClass .int) (by decide +kernel)) rfl hK hP hD hS hA (na_int 3000) (by decide +kernel) (by decide +kernel) (by decide +kernel) (Nat.le_of_ble_eq_true rfl) (Nat.le_of_ble_eq_true rfl) dX12_init_63 (fun q13 cq13 H hK hP hD hS => ?_)
  have hP : va_P D vwCl [(h0, .inr (12, fs12)), (q1, .inl (cq1, 3000, .inl (fun _ => 0))), (q3, .inl (cq3, 710, .inl (fun _ => 0))), (q5, .inl (cq5, 710, .inl (fun _ => 0))), (q7, .inl (cq7, 710, .inl (fun _ => 0))), (q9, .inl (cq9, 710, .inl (fun _ => 0))), (q13, .inl (cq13, 3000, .inl (fun _ => 0)))] H := hP
  have hD : va_D A [(h0, .inr (12, fs12)), (q1, .inl (cq1, 3000, .inl (fun _ => 0))), (q3, .inl (cq3, 710, .inl (fun _ => 0))), (q5, .inl (cq5, 710, .inl (fun _ => 0))), (q7, .inl (cq7, 710, .inl (fun _ => 0))), (q9, .inl (cq9, 710, .inl (fun _ => 0))), (q13, .inl (cq13, 3000, .inl (fun _ => 0)))] := hD
  have hK : va_K D vwCl [(cq1, .byte), (cq3, .int), (cq5, .int), (cq7, .int), (cq9, .int), (cq13, .int)] s := hK
  refine W.widen (k := 6) (n := 8840) (Nat.le_of_ble_eq_true rfl) (Nat.le_of_ble_eq_true rfl) ?_
  refine va_put (D := D) (ci := 12) (v := .ref q13) (ty := .array .int) (C := RX12) (T := TX12) (N := 139) hx hb hts i_v_c_Model_init_X12 tyX12 tyX12_ok nmX12 hown hK hP hD hS 0 rfl rfl 14 (by decide) (hts (.fieldLink RX12 33 "ScheduleHouseModel" "sort" "[I") (by decide +kernel)) (fun _ h9 => h9) rfl (by decide +kernel) rfl rfl (kp_lt kfs12 hlen (by decide)) dX12_init_65 (fun H locs hP hD hS => ?_)
  obtain ⟨fs14, hfs14⟩ : ∃ z, z = fs12.set 14 (.ref q13) := ⟨_, rfl⟩
  have kfs14 := kp_s 14 (.ref q13) kfs12
  have gfs14_12 : fs14[12]? = some (.int (-1)) := by rw [hfs14]; exact se_ne gfs12_12 (by decide)
  have gfs14_11 : fs14[11]? = some (.int (-1)) := by rw [hfs14]; exact se_ne gfs12_11 (by decide)
  have gfs14_7 : fs14[7]? = some (.ref q9) := by rw [hfs14]; exact se_ne gfs12_7 (by decide)
  have gfs14_6 : fs14[6]? = some (.ref q7) := by rw [hfs14]; exact se_ne gfs12_6 (by decide)
  have gfs14_5 : fs14[5]? = some (.ref q5) := by rw [hfs14]; exact se_ne gfs12_5 (by decide)
  have gfs14_4 : fs14[4]? = some (.ref q3) := by rw [hfs14]; exact se_ne gfs12_4 (by decide)
  have gfs14_1 : fs14[1]? = some (.ref q1) := by rw [hfs14]; exact se_ne gfs12_1 (by decide)
  rw [← hfs14] at hP hD kfs14
  have hP : va_P D vwCl [(h0, .inr (12, fs14)), (q1, .inl (cq1, 3000, .inl (fun _ => 0))), (q3, .inl (cq3, 710, .inl (fun _ => 0))), (q5, .inl (cq5, 710, .inl (fun _ => 0))), (q7, .inl (cq7, 710, .inl (fun _ => 0))), (q9, .inl (cq9, 710, .inl (fun _ => 0))), (q13, .inl (cq13, 3000, .inl (fun _ => 0)))] H := hP
  have hD : va_D A [(h0, .inr (12, fs14)), (q1, .inl (cq1, 3000, .inl (fun _ => 0))), (q3, .inl (cq3, 710, .inl (fun _ => 0))), (q5, .inl (cq5, 710, .inl (fun _ => 0))), (q7, .inl (cq7, 710, .inl (fun _ => 0))), (q9, .inl (cq9, 710, .inl (fun _ => 0))), (q13, .inl (cq13, 3000, .inl (fun _ => 0)))] := hD
  have hP : va_P D vwCl [(h0, .inr (12, fs14)), (q1, .inl (cq1, 3000, .inl (fun _ => 0))), (q3, .inl (cq3, 710, .inl (fun _ => 0))), (q5, .inl (cq5, 710, .inl (fun _ => 0))), (q7, .inl (cq7, 710, .inl (fun _ => 0))), (q9, .inl (cq9, 710, .inl (fun _ => 0)))] H := hP.sub [0, 1, 2, 3, 4, 5] rfl
  have hD : va_D A [(h0, .inr (12, fs14)), (q1, .inl (cq1, 3000, .inl (fun _ => 0))), (q3, .inl (cq3, 710, .inl (fun _ => 0))), (q5, .inl (cq5, 710, .inl (fun _ => 0))), (q7, .inl (cq7, 710, .inl (fun _ => 0))), (q9, .inl (cq9, 710, .inl (fun _ => 0)))] := hD.sub [0, 1, 2, 3, 4, 5] (by decide) rfl
  have hK : va_K D vwCl [(cq1, .byte), (cq3, .int), (cq5, .int), (cq7, .int), (cq9, .int)] s := hK.sub [0, 1, 2, 3, 4] rfl
  refine lv_aload_n hx hb dX12_init_68 rfl (lv_at hl 0 rfl) ?_
  refine lv_sipush (v := 3000) hx hb dX12_init_69 (by decide +kernel) ?_
  refine va_newa (atype := .int) (ty := .int) (N' := 3000) (a0 := (3000, .inl (fun _ => 0))) hx hb (hts (.arrayClass .int) (by decide +kernel)) rfl hK hP hD hS hA (na_int 3000) (by decide +kernel) (by decide +kernel) (by decide +kernel) (Nat.le_of_ble_eq_true rfl) (Nat.le_of_ble_eq_true rfl) dX12_init_72 (fun q15 cq15 H hK hP hD hS => ?_)
  have hP : va_P D vwCl [(h0, .inr (12, fs14)), (q1, .inl (cq1, 3000, .inl (fun _ => 0))), (q3, .inl (cq3, 710, .inl (fun _ => 0))), (q5, .inl (cq5, 710, .inl (fun _ => 0))), (q7, .inl (cq7, 710, .inl (fun _ => 0))), (q9, .inl (cq9, 710, .inl (fun _ => 0))), (q15, .inl (cq15, 3000, .inl (fun _ => 0)))] H := hP
  have hD : va_D A [(h0, .inr (12, fs14)), (q1, .inl (cq1, 3000, .inl (fun _ => 0))), (q3, .inl (cq3, 710, .inl (fun _ => 0))), (q5, .inl (cq5, 710, .inl (fun _ => 0))), (q7, .inl (cq7, 710, .inl (fun _ => 0))), (q9, .inl (cq9, 710, .inl (fun _ => 0))), (q15, .inl (cq15, 3000, .inl (fun _ => 0)))] := hD
  have hK : va_K D vwCl [(cq1, .byte), (cq3, .int), (cq5, .int), (cq7, .int), (cq9, .int), (cq15, .int)] s := hK
  refine W.widen (k := 7) (n := 11840) (Nat.le_of_ble_eq_true rfl) (Nat.le_of_ble_eq_true rfl) ?_
  refine va_put (D := D) (ci := 12) (v := .ref q15) (ty := .array .int) (C := RX12) (T := TX12) (N := 139) hx hb hts i_v_c_Model_init_X12 tyX12 tyX12_ok nmX12 hown hK hP hD hS 0 rfl rfl 15 (by decide) (hts (.fieldLink RX12 36 "ScheduleHouseModel" "partA" "[I") (by decide +kernel)) (fun _ h9 => h9) rfl (by decide +kernel) rfl rfl (kp_lt kfs14 hlen (by decide)) dX12_init_74 (fun H locs hP hD hS => ?_)
  obtain ⟨fs16, hfs16⟩ : ∃ z, z = fs14.set 15 (.ref q15) := ⟨_, rfl⟩
  have kfs16 := kp_s 15 (.ref q15) kfs14
  have gfs16_12 : fs16[12]? = some (.int (-1)) := by rw [hfs16]; exact se_ne gfs14_12 (by decide)
  have gfs16_11 : fs16[11]? = some (.int (-1)) := by rw [hfs16]; exact se_ne gfs14_11 (by decide)
  have gfs16_7 : fs16[7]? = some (.ref q9) := by rw [hfs16]; exact se_ne gfs14_7 (by decide)
  have gfs16_6 : fs16[6]? = some (.ref q7) := by rw [hfs16]; exact se_ne gfs14_6 (by decide)
  have gfs16_5 : fs16[5]? = some (.ref q5) := by rw [hfs16]; exact se_ne gfs14_5 (by decide)
  have gfs16_4 : fs16[4]? = some (.ref q3) := by rw [hfs16]; exact se_ne gfs14_4 (by decide)
  have gfs16_1 : fs16[1]? = some (.ref q1) := by rw [hfs16]; exact se_ne gfs14_1 (by decide)
  rw [← hfs16] at hP hD kfs16
  have hP : va_P D vwCl [(h0, .inr (12, fs16)), (q1, .inl (cq1, 3000, .inl (fun _ => 0))), (q3, .inl (cq3, 710, .inl (fun _ => 0))), (q5, .inl (cq5, 710, .inl (fun _ => 0))), (q7, .inl (cq7, 710, .inl (fun _ => 0))), (q9, .inl (cq9, 710, .inl (fun _ => 0))), (q15, .inl (cq15, 3000, .inl (fun _ => 0)))] H := hP
  have hD : va_D A [(h0, .inr (12, fs16)), (q1, .inl (cq1, 3000, .inl (fun _ => 0))), (q3, .inl (cq3, 710, .inl (fun _ => 0))), (q5, .inl (cq5, 710, .inl (fun _ => 0))), (q7, .inl (cq7, 710, .inl (fun _ => 0))), (q9, .inl (cq9, 710, .inl (fun _ => 0))), (q15, .inl (cq15, 3000, .inl (fun _ => 0)))] := hD
  have hP : va_P D vwCl [(h0, .inr (12, fs16)), (q1, .inl (cq1, 3000, .inl (fun _ => 0))), (q3, .inl (cq3, 710, .inl (fun _ => 0))), (q5, .inl (cq5, 710, .inl (fun _ => 0))), (q7, .inl (cq7, 710, .inl (fun _ => 0))), (q9, .inl (cq9, 710, .inl (fun _ => 0)))] H := hP.sub [0, 1, 2, 3, 4, 5] rfl
  have hD : va_D A [(h0, .inr (12, fs16)), (q1, .inl (cq1, 3000, .inl (fun _ => 0))), (q3, .inl (cq3, 710, .inl (fun _ => 0))), (q5, .inl (cq5, 710, .inl (fun _ => 0))), (q7, .inl (cq7, 710, .inl (fun _ => 0))), (q9, .inl (cq9, 710, .inl (fun _ => 0)))] := hD.sub [0, 1, 2, 3, 4, 5] (by decide) rfl
  have hK : va_K D vwCl [(cq1, .byte), (cq3, .int), (cq5, .int), (cq7, .int), (cq9, .int)] s := hK.sub [0, 1, 2, 3, 4] rfl
  refine lv_aload_n hx hb dX12_init_77 rfl (lv_at hl 0 rfl) ?_
  refine lv_sipush (v := 3000) hx hb dX12_init_78 (by decide +kernel) ?_
  refine va_newa (atype := .int) (ty := .int) (N' := 3000) (a0 := (3000, .inl (fun _ => 0))) hx hb (hts (.arrayClass .int) (by decide +kernel)) rfl hK hP hD hS hA (na_int 3000) (by decide +kernel) (by decide +kernel) (by decide +kernel) (Nat.le_of_ble_eq_true rfl) (Nat.le_of_ble_eq_true rfl) dX12_init_81 (fun q17 cq17 H hK hP hD hS => ?_)
  have hP : va_P D vwCl [(h0, .inr (12, fs16)), (q1, .inl (cq1, 3000, .inl (fun _ => 0))), (q3, .inl (cq3, 710, .inl (fun _ => 0))), (q5, .inl (cq5, 710, .inl (fun _ => 0))), (q7, .inl (cq7, 710, .inl (fun _ => 0))), (q9, .inl (cq9, 710, .inl (fun _ => 0))), (q17, .inl (cq17, 3000, .inl (fun _ => 0)))] H := hP
  have hD : va_D A [(h0, .inr (12, fs16)), (q1, .inl (cq1, 3000, .inl (fun _ => 0))), (q3, .inl (cq3, 710, .inl (fun _ => 0))), (q5, .inl (cq5, 710, .inl (fun _ => 0))), (q7, .inl (cq7, 710, .inl (fun _ => 0))), (q9, .inl (cq9, 710, .inl (fun _ => 0))), (q17, .inl (cq17, 3000, .inl (fun _ => 0)))] := hD
  have hK : va_K D vwCl [(cq1, .byte), (cq3, .int), (cq5, .int), (cq7, .int), (cq9, .int), (cq17, .int)] s := hK
  refine W.widen (k := 8) (n := 14840) (Nat.le_of_ble_eq_true rfl) (Nat.le_of_ble_eq_true rfl) ?_
  refine va_put (D := D) (ci := 12) (v := .ref q17) (ty := .array .int) (C := RX12) (T := TX12) (N := 139) hx hb hts i_v_c_Model_init_X12 tyX12 tyX12_ok nmX12 hown hK hP hD hS 0 rfl rfl 16 (by decide) (hts (.fieldLink RX12 39 "ScheduleHouseModel" "partB" "[I") (by decide +kernel)) (fun _ h9 => h9) rfl (by decide +kernel) rfl rfl (kp_lt kfs16 hlen (by decide)) dX12_init_83 (fun H locs hP hD hS => ?_)
  obtain ⟨fs18, hfs18⟩ : ∃ z, z = fs16.set 16 (.ref q17) := ⟨_, rfl⟩
  have kfs18 := kp_s 16 (.ref q17) kfs16
  have gfs18_12 : fs18[12]? = some (.int (-1)) := by rw [hfs18]; exact se_ne gfs16_12 (by decide)
  have gfs18_11 : fs18[11]? = some (.int (-1)) := by rw [hfs18]; exact se_ne gfs16_11 (by decide)
  have gfs18_7 : fs18[7]? = some (.ref q9) := by rw [hfs18]; exact se_ne gfs16_7 (by decide)
  have gfs18_6 : fs18[6]? = some (.ref q7) := by rw [hfs18]; exact se_ne gfs16_6 (by decide)
  have gfs18_5 : fs18[5]? = some (.ref q5) := by rw [hfs18]; exact se_ne gfs16_5 (by decide)
  have gfs18_4 : fs18[4]? = some (.ref q3) := by rw [hfs18]; exact se_ne gfs16_4 (by decide)
  have gfs18_1 : fs18[1]? = some (.ref q1) := by rw [hfs18]; exact se_ne gfs16_1 (by decide)
  rw [← hfs18] at hP hD kfs18
  have hP : va_P D vwCl [(h0, .inr (12, fs18)), (q1, .inl (cq1, 3000, .inl (fun _ => 0))), (q3, .inl (cq3, 710, .inl (fun _ => 0))), (q5, .inl (cq5, 710, .inl (fun _ => 0))), (q7, .inl (cq7, 710, .inl (fun _ => 0))), (q9, .inl (cq9, 710, .inl (fun _ => 0))), (q17, .inl (cq17, 3000, .inl (fun _ => 0)))] H := hP
  have hD : va_D A [(h0, .inr (12, fs18)), (q1, .inl (cq1, 3000, .inl (fun _ => 0))), (q3, .inl (cq3, 710, .inl (fun _ => 0))), (q5, .inl (cq5, 710, .inl (fun _ => 0))), (q7, .inl (cq7, 710, .inl (fun _ => 0))), (q9, .inl (cq9, 710, .inl (fun _ => 0))), (q17, .inl (cq17, 3000, .inl (fun _ => 0)))] := hD
  have hP : va_P D vwCl [(h0, .inr (12, fs18)), (q1, .inl (cq1, 3000, .inl (fun _ => 0))), (q3, .inl (cq3, 710, .inl (fun _ => 0))), (q5, .inl (cq5, 710, .inl (fun _ => 0))), (q7, .inl (cq7, 710, .inl (fun _ => 0))), (q9, .inl (cq9, 710, .inl (fun _ => 0)))] H := hP.sub [0, 1, 2, 3, 4, 5] rfl
  have hD : va_D A [(h0, .inr (12, fs18)), (q1, .inl (cq1, 3000, .inl (fun _ => 0))), (q3, .inl (cq3, 710, .inl (fun _ => 0))), (q5, .inl (cq5, 710, .inl (fun _ => 0))), (q7, .inl (cq7, 710, .inl (fun _ => 0))), (q9, .inl (cq9, 710, .inl (fun _ => 0)))] := hD.sub [0, 1, 2, 3, 4, 5] (by decide) rfl
  have hK : va_K D vwCl [(cq1, .byte), (cq3, .int), (cq5, .int), (cq7, .int), (cq9, .int)] s := hK.sub [0, 1, 2, 3, 4] rfl
  refine lv_aload_n hx hb dX12_init_86 rfl (lv_at hl 0 rfl) ?_
  refine lv_sipush (v := 3000) hx hb dX12_init_87 (by decide +kernel) ?_
  refine va_newa (atype := .int) (ty := .int) (N' := 3000) (a0 := (3000, .inl (fun _ => 0))) hx hb (hts (.arrayClass .int) (by decide +kernel)) rfl hK hP hD hS hA (na_int 3000) (by decide +kernel) (by decide +kernel) (by decide +kernel) (Nat.le_of_ble_eq_true rfl) (Nat.le_of_ble_eq_true rfl) dX12_init_90 (fun q19 cq19 H hK hP hD hS => ?_)
  have hP : va_P D vwCl [(h0, .inr (12, fs18)), (q1, .inl (cq1, 3000, .inl (fun _ => 0))), (q3, .inl (cq3, 710, .inl (fun _ => 0))), (q5, .inl (cq5, 710, .inl (fun _ => 0))), (q7, .inl (cq7, 710, .inl (fun _ => 0))), (q9, .inl (cq9, 710, .inl (fun _ => 0))), (q19, .inl (cq19, 3000, .inl (fun _ => 0)))] H := hP
  have hD : va_D A [(h0, .inr (12, fs18)), (q1, .inl (cq1, 3000, .inl (fun _ => 0))), (q3, .inl (cq3, 710, .inl (fun _ => 0))), (q5, .inl (cq5, 710, .inl (fun _ => 0))), (q7, .inl (cq7, 710, .inl (fun _ => 0))), (q9, .inl (cq9, 710, .inl (fun _ => 0))), (q19, .inl (cq19, 3000, .inl (fun _ => 0)))] := hD
  have hK : va_K D vwCl [(cq1, .byte), (cq3, .int), (cq5, .int), (cq7, .int), (cq9, .int), (cq19, .int)] s := hK
  refine W.widen (k := 9) (n := 17840) (Nat.le_of_ble_eq_true rfl) (Nat.le_of_ble_eq_true rfl) ?_
  refine va_put (D := D) (ci := 12) (v := .ref q19) (ty := .array .int) (C := RX12) (T := TX12) (N := 139) hx hb hts i_v_c_Model_init_X12 tyX12 tyX12_ok nmX12 hown hK hP hD hS 0 rfl rfl 17 (by decide) (hts (.fieldLink RX12 42 "ScheduleHouseModel" "partC" "[I") (by decide +kernel)) (fun _ h9 => h9) rfl (by decide +kernel) rfl rfl (kp_lt kfs18 hlen (by decide)) dX12_init_92 (fun H locs hP hD hS => ?_)
  obtain ⟨fs20, hfs20⟩ : ∃ z, z = fs18.set 17 (.ref q19) := ⟨_, rfl⟩
  have kfs20 := kp_s 17 (.ref q19) kfs18
  have gfs20_12 : fs20[12]? = some (.int (-1)) := by rw [hfs20]; exact se_ne gfs18_12 (by decide)
  have gfs20_11 : fs20[11]? = some (.int (-1)) := by rw [hfs20]; exact se_ne gfs18_11 (by decide)
  have gfs20_7 : fs20[7]? = some (.ref q9) := by rw [hfs20]; exact se_ne gfs18_7 (by decide)
  have gfs20_6 : fs20[6]? = some (.ref q7) := by rw [hfs20]; exact se_ne gfs18_6 (by decide)
  have gfs20_5 : fs20[5]? = some (.ref q5) := by rw [hfs20]; exact se_ne gfs18_5 (by decide)
  have gfs20_4 : fs20[4]? = some (.ref q3) := by rw [hfs20]; exact se_ne gfs18_4 (by decide)
  have gfs20_1 : fs20[1]? = some (.ref q1) := by rw [hfs20]; exact se_ne gfs18_1 (by decide)
  rw [← hfs20] at hP hD kfs20
  have hP : va_P D vwCl [(h0, .inr (12, fs20)), (q1, .inl (cq1, 3000, .inl (fun _ => 0))), (q3, .inl (cq3, 710, .inl (fun _ => 0))), (q5, .inl (cq5, 710, .inl (fun _ => 0))), (q7, .inl (cq7, 710, .inl (fun _ => 0))), (q9, .inl (cq9, 710, .inl (fun _ => 0))), (q19, .inl (cq19, 3000, .inl (fun _ => 0)))] H := hP
  have hD : va_D A [(h0, .inr (12, fs20)), (q1, .inl (cq1, 3000, .inl (fun _ => 0))), (q3, .inl (cq3, 710, .inl (fun _ => 0))), (q5, .inl (cq5, 710, .inl (fun _ => 0))), (q7, .inl (cq7, 710, .inl (fun _ => 0))), (q9, .inl (cq9, 710, .inl (fun _ => 0))), (q19, .inl (cq19, 3000, .inl (fun _ => 0)))] := hD
  have hP : va_P D vwCl [(h0, .inr (12, fs20)), (q1, .inl (cq1, 3000, .inl (fun _ => 0))), (q3, .inl (cq3, 710, .inl (fun _ => 0))), (q5, .inl (cq5, 710, .inl (fun _ => 0))), (q7, .inl (cq7, 710, .inl (fun _ => 0))), (q9, .inl (cq9, 710, .inl (fun _ => 0)))] H := hP.sub [0, 1, 2, 3, 4, 5] rfl
  have hD : va_D A [(h0, .inr (12, fs20)), (q1, .inl (cq1, 3000, .inl (fun _ => 0))), (q3, .inl (cq3, 710, .inl (fun _ => 0))), (q5, .inl (cq5, 710, .inl (fun _ => 0))), (q7, .inl (cq7, 710, .inl (fun _ => 0))), (q9, .inl (cq9, 710, .inl (fun _ => 0)))] := hD.sub [0, 1, 2, 3, 4, 5] (by decide) rfl
  have hK : va_K D vwCl [(cq1, .byte), (cq3, .int), (cq5, .int), (cq7, .int), (cq9, .int)] s := hK.sub [0, 1, 2, 3, 4] rfl
  refine lv_aload_n hx hb dX12_init_95 rfl (lv_at hl 0 rfl) ?_
  refine lv_sipush (v := 3000) hx hb dX12_init_96 (by decide +kernel) ?_
  refine va_newa (atype := .int) (ty := .int) (N' := 3000) (a0 := (3000, .inl (fun _ => 0))) hx hb (hts (.arrayClass .int) (by decide +kernel)) rfl hK hP hD hS hA (na_int 3000) (by decide +kernel) (by decide +kernel) (by decide +kernel) (Nat.le_of_ble_eq_true rfl) (Nat.le_of_ble_eq_true rfl) dX12_init_99 (fun q21 cq21 H hK hP hD hS => ?_)
  have hP : va_P D vwCl [(h0, .inr (12, fs20)), (q1, .inl (cq1, 3000, .inl (fun _ => 0))), (q3, .inl (cq3, 710, .inl (fun _ => 0))), (q5, .inl (cq5, 710, .inl (fun _ => 0))), (q7, .inl (cq7, 710, .inl (fun _ => 0))), (q9, .inl (cq9, 710, .inl (fun _ => 0))), (q21, .inl (cq21, 3000, .inl (fun _ => 0)))] H := hP
  have hD : va_D A [(h0, .inr (12, fs20)), (q1, .inl (cq1, 3000, .inl (fun _ => 0))), (q3, .inl (cq3, 710, .inl (fun _ => 0))), (q5, .inl (cq5, 710, .inl (fun _ => 0))), (q7, .inl (cq7, 710, .inl (fun _ => 0))), (q9, .inl (cq9, 710, .inl (fun _ => 0))), (q21, .inl (cq21, 3000, .inl (fun _ => 0)))] := hD
  have hK : va_K D vwCl [(cq1, .byte), (cq3, .int), (cq5, .int), (cq7, .int), (cq9, .int), (cq21, .int)] s := hK
  refine W.widen (k := 10) (n := 20840) (Nat.le_of_ble_eq_true rfl) (Nat.le_of_ble_eq_true rfl) ?_
  refine va_put (D := D) (ci := 12) (v := .ref q21) (ty := .array .int) (C := RX12) (T := TX12) (N := 139) hx hb hts i_v_c_Model_init_X12 tyX12 tyX12_ok nmX12 hown hK hP hD hS 0 rfl rfl 18 (by decide) (hts (.fieldLink RX12 45 "ScheduleHouseModel" "token" "[I") (by decide +kernel)) (fun _ h9 => h9) rfl (by decide +kernel) rfl rfl (kp_lt kfs20 hlen (by decide)) dX12_init_101 (fun H locs hP hD hS => ?_)
  obtain ⟨fs22, hfs22⟩ : ∃ z, z = fs20.set 18 (.ref q21) := ⟨_, rfl⟩
  have kfs22 := kp_s 18 (.ref q21) kfs20
  have gfs22_12 : fs22[12]? = some (.int (-1)) := by rw [hfs22]; exact se_ne gfs20_12 (by decide)
  have gfs22_11 : fs22[11]? = some (.int (-1)) := by rw [hfs22]; exact se_ne gfs20_11 (by decide)
  have gfs22_7 : fs22[7]? = some (.ref q9) := by rw [hfs22]; exact se_ne gfs20_7 (by decide)
  have gfs22_6 : fs22[6]? = some (.ref q7) := by rw [hfs22]; exact se_ne gfs20_6 (by decide)
  have gfs22_5 : fs22[5]? = some (.ref q5) := by rw [hfs22]; exact se_ne gfs20_5 (by decide)
  have gfs22_4 : fs22[4]? = some (.ref q3) := by rw [hfs22]; exact se_ne gfs20_4 (by decide)
  have gfs22_1 : fs22[1]? = some (.ref q1) := by rw [hfs22]; exact se_ne gfs20_1 (by decide)
  rw [← hfs22] at hP hD kfs22
  have hP : va_P D vwCl [(h0, .inr (12, fs22)), (q1, .inl (cq1, 3000, .inl (fun _ => 0))), (q3, .inl (cq3, 710, .inl (fun _ => 0))), (q5, .inl (cq5, 710, .inl (fun _ => 0))), (q7, .inl (cq7, 710, .inl (fun _ => 0))), (q9, .inl (cq9, 710, .inl (fun _ => 0))), (q21, .inl (cq21, 3000, .inl (fun _ => 0)))] H := hP
  have hD : va_D A [(h0, .inr (12, fs22)), (q1, .inl (cq1, 3000, .inl (fun _ => 0))), (q3, .inl (cq3, 710, .inl (fun _ => 0))), (q5, .inl (cq5, 710, .inl (fun _ => 0))), (q7, .inl (cq7, 710, .inl (fun _ => 0))), (q9, .inl (cq9, 710, .inl (fun _ => 0))), (q21, .inl (cq21, 3000, .inl (fun _ => 0)))] := hD
  have hP : va_P D vwCl [(h0, .inr (12, fs22)), (q1, .inl (cq1, 3000, .inl (fun _ => 0))), (q3, .inl (cq3, 710, .inl (fun _ => 0))), (q5, .inl (cq5, 710, .inl (fun _ => 0))), (q7, .inl (cq7, 710, .inl (fun _ => 0))), (q9, .inl (cq9, 710, .inl (fun _ => 0)))] H := hP.sub [0, 1, 2, 3, 4, 5] rfl
  have hD : va_D A [(h0, .inr (12, fs22)), (q1, .inl (cq1, 3000, .inl (fun _ => 0))), (q3, .inl (cq3, 710, .inl (fun _ => 0))), (q5, .inl (cq5, 710, .inl (fun _ => 0))), (q7, .inl (cq7, 710, .inl (fun _ => 0))), (q9, .inl (cq9, 710, .inl (fun _ => 0)))] := hD.sub [0, 1, 2, 3, 4, 5] (by decide) rfl
  have hK : va_K D vwCl [(cq1, .byte), (cq3, .int), (cq5, .int), (cq7, .int), (cq9, .int)] s := hK.sub [0, 1, 2, 3, 4] rfl
  refine lv_aload_n hx hb dX12_init_104 rfl (lv_at hl 0 rfl) ?_
  refine lv_sipush (v := 3000) hx hb dX12_init_105 (by decide +kernel) ?_
  refine va_newa (atype := .int) (ty := .int) (N' := 3000) (a0 := (3000, .inl (fun _ => 0))) hx hb (hts (.arrayClass .int) (by decide +kernel)) rfl hK hP hD hS hA (na_int 3000) (by decide +kernel) (by decide +kernel) (by decide +kernel) (Nat.le_of_ble_eq_true rfl) (Nat.le_of_ble_eq_true rfl) dX12_init_108 (fun q23 cq23 H hK hP hD hS => ?_)
  have hP : va_P D vwCl [(h0, .inr (12, fs22)), (q1, .inl (cq1, 3000, .inl (fun _ => 0))), (q3, .inl (cq3, 710, .inl (fun _ => 0))), (q5, .inl (cq5, 710, .inl (fun _ => 0))), (q7, .inl (cq7, 710, .inl (fun _ => 0))), (q9, .inl (cq9, 710, .inl (fun _ => 0))), (q23, .inl (cq23, 3000, .inl (fun _ => 0)))] H := hP
  have hD : va_D A [(h0, .inr (12, fs22)), (q1, .inl (cq1, 3000, .inl (fun _ => 0))), (q3, .inl (cq3, 710, .inl (fun _ => 0))), (q5, .inl (cq5, 710, .inl (fun _ => 0))), (q7, .inl (cq7, 710, .inl (fun _ => 0))), (q9, .inl (cq9, 710, .inl (fun _ => 0))), (q23, .inl (cq23, 3000, .inl (fun _ => 0)))] := hD
  have hK : va_K D vwCl [(cq1, .byte), (cq3, .int), (cq5, .int), (cq7, .int), (cq9, .int), (cq23, .int)] s := hK
  refine W.widen (k := 11) (n := 23840) (Nat.le_of_ble_eq_true rfl) (Nat.le_of_ble_eq_true rfl) ?_
  refine va_put (D := D) (ci := 12) (v := .ref q23) (ty := .array .int) (C := RX12) (T := TX12) (N := 139) hx hb hts i_v_c_Model_init_X12 tyX12 tyX12_ok nmX12 hown hK hP hD hS 0 rfl rfl 19 (by decide) (hts (.fieldLink RX12 48 "ScheduleHouseModel" "nextS" "[I") (by decide +kernel)) (fun _ h9 => h9) rfl (by decide +kernel) rfl rfl (kp_lt kfs22 hlen (by decide)) dX12_init_110 (fun H locs hP hD hS => ?_)
  obtain ⟨fs24, hfs24⟩ : ∃ z, z = fs22.set 19 (.ref q23) := ⟨_, rfl⟩
  have kfs24 := kp_s 19 (.ref q23) kfs22
  have gfs24_12 : fs24[12]? = some (.int (-1)) := by rw [hfs24]; exact se_ne gfs22_12 (by decide)
  have gfs24_11 : fs24[11]? = some (.int (-1)) := by rw [hfs24]; exact se_ne gfs22_11 (by decide)
  have gfs24_7 : fs24[7]? = some (.ref q9) := by rw [hfs24]; exact se_ne gfs22_7 (by decide)
  have gfs24_6 : fs24[6]? = some (.ref q7) := by rw [hfs24]; exact se_ne gfs22_6 (by decide)
  have gfs24_5 : fs24[5]? = some (.ref q5) := by rw [hfs24]; exact se_ne gfs22_5 (by decide)
  have gfs24_4 : fs24[4]? = some (.ref q3) := by rw [hfs24]; exact se_ne gfs22_4 (by decide)
  have gfs24_1 : fs24[1]? = some (.ref q1) := by rw [hfs24]; exact se_ne gfs22_1 (by decide)
  rw [← hfs24] at hP hD kfs24
  have hP : va_P D vwCl [(h0, .inr (12, fs24)), (q1, .inl (cq1, 3000, .inl (fun _ => 0))), (q3, .inl (cq3, 710, .inl (fun _ => 0))), (q5, .inl (cq5, 710, .inl (fun _ => 0))), (q7, .inl (cq7, 710, .inl (fun _ => 0))), (q9, .inl (cq9, 710, .inl (fun _ => 0))), (q23, .inl (cq23, 3000, .inl (fun _ => 0)))] H := hP
  have hD : va_D A [(h0, .inr (12, fs24)), (q1, .inl (cq1, 3000, .inl (fun _ => 0))), (q3, .inl (cq3, 710, .inl (fun _ => 0))), (q5, .inl (cq5, 710, .inl (fun _ => 0))), (q7, .inl (cq7, 710, .inl (fun _ => 0))), (q9, .inl (cq9, 710, .inl (fun _ => 0))), (q23, .inl (cq23, 3000, .inl (fun _ => 0)))] := hD
  have hP : va_P D vwCl [(h0, .inr (12, fs24)), (q1, .inl (cq1, 3000, .inl (fun _ => 0))), (q3, .inl (cq3, 710, .inl (fun _ => 0))), (q5, .inl (cq5, 710, .inl (fun _ => 0))), (q7, .inl (cq7, 710, .inl (fun _ => 0))), (q9, .inl (cq9, 710, .inl (fun _ => 0)))] H := hP.sub [0, 1, 2, 3, 4, 5] rfl
  have hD : va_D A [(h0, .inr (12, fs24)), (q1, .inl (cq1, 3000, .inl (fun _ => 0))), (q3, .inl (cq3, 710, .inl (fun _ => 0))), (q5, .inl (cq5, 710, .inl (fun _ => 0))), (q7, .inl (cq7, 710, .inl (fun _ => 0))), (q9, .inl (cq9, 710, .inl (fun _ => 0)))] := hD.sub [0, 1, 2, 3, 4, 5] (by decide) rfl
  have hK : va_K D vwCl [(cq1, .byte), (cq3, .int), (cq5, .int), (cq7, .int), (cq9, .int)] s := hK.sub [0, 1, 2, 3, 4] rfl
  refine lv_aload_n hx hb dX12_init_113 rfl (lv_at hl 0 rfl) ?_
  refine lv_bipush (v := 40) hx hb dX12_init_114 (by decide +kernel) ?_
  refine va_newa (atype := .int) (ty := .int) (N' := 40) (a0 := (40, .inl (fun _ => 0))) hx hb (hts (.arrayClass .int) (by decide +kernel)) rfl hK hP hD hS hA (na_int 40) (by decide +kernel) (by decide +kernel) (by decide +kernel) (Nat.le_of_ble_eq_true rfl) (Nat.le_of_ble_eq_true rfl) dX12_init_116 (fun q25 cq25 H hK hP hD hS => ?_)
  have hP : va_P D vwCl [(h0, .inr (12, fs24)), (q1, .inl (cq1, 3000, .inl (fun _ => 0))), (q3, .inl (cq3, 710, .inl (fun _ => 0))), (q5, .inl (cq5, 710, .inl (fun _ => 0))), (q7, .inl (cq7, 710, .inl (fun _ => 0))), (q9, .inl (cq9, 710, .inl (fun _ => 0))), (q25, .inl (cq25, 40, .inl (fun _ => 0)))] H := hP
  have hD : va_D A [(h0, .inr (12, fs24)), (q1, .inl (cq1, 3000, .inl (fun _ => 0))), (q3, .inl (cq3, 710, .inl (fun _ => 0))), (q5, .inl (cq5, 710, .inl (fun _ => 0))), (q7, .inl (cq7, 710, .inl (fun _ => 0))), (q9, .inl (cq9, 710, .inl (fun _ => 0))), (q25, .inl (cq25, 40, .inl (fun _ => 0)))] := hD
  have hK : va_K D vwCl [(cq1, .byte), (cq3, .int), (cq5, .int), (cq7, .int), (cq9, .int), (cq25, .int)] s := hK
  refine W.widen (k := 12) (n := 23880) (Nat.le_of_ble_eq_true rfl) (Nat.le_of_ble_eq_true rfl) ?_
  refine va_put (D := D) (ci := 12) (v := .ref q25) (ty := .array .int) (C := RX12) (T := TX12) (N := 139) hx hb hts i_v_c_Model_init_X12 tyX12 tyX12_ok nmX12 hown hK hP hD hS 0 rfl rfl 29 (by decide) (hts (.fieldLink RX12 51 "ScheduleHouseModel" "toldToken" "[I") (by decide +kernel)) (fun _ h9 => h9) rfl (by decide +kernel) rfl rfl (kp_lt kfs24 hlen (by decide)) dX12_init_118 (fun H locs hP hD hS => ?_)
  obtain ⟨fs26, hfs26⟩ : ∃ z, z = fs24.set 29 (.ref q25) := ⟨_, rfl⟩
  have kfs26 := kp_s 29 (.ref q25) kfs24
  have gfs26_12 : fs26[12]? = some (.int (-1)) := by rw [hfs26]; exact se_ne gfs24_12 (by decide)
  have gfs26_11 : fs26[11]? = some (.int (-1)) := by rw [hfs26]; exact se_ne gfs24_11 (by decide)
  have gfs26_7 : fs26[7]? = some (.ref q9) := by rw [hfs26]; exact se_ne gfs24_7 (by decide)
  have gfs26_6 : fs26[6]? = some (.ref q7) := by rw [hfs26]; exact se_ne gfs24_6 (by decide)
  have gfs26_5 : fs26[5]? = some (.ref q5) := by rw [hfs26]; exact se_ne gfs24_5 (by decide)
  have gfs26_4 : fs26[4]? = some (.ref q3) := by rw [hfs26]; exact se_ne gfs24_4 (by decide)
  have gfs26_1 : fs26[1]? = some (.ref q1) := by rw [hfs26]; exact se_ne gfs24_1 (by decide)
  rw [← hfs26] at hP hD kfs26
  have hP : va_P D vwCl [(h0, .inr (12, fs26)), (q1, .inl (cq1, 3000, .inl (fun _ => 0))), (q3, .inl (cq3, 710, .inl (fun _ => 0))), (q5, .inl (cq5, 710, .inl (fun _ => 0))), (q7, .inl (cq7, 710, .inl (fun _ => 0))), (q9, .inl (cq9, 710, .inl (fun _ => 0))), (q25, .inl (cq25, 40, .inl (fun _ => 0)))] H := hP
  have hD : va_D A [(h0, .inr (12, fs26)), (q1, .inl (cq1, 3000, .inl (fun _ => 0))), (q3, .inl (cq3, 710, .inl (fun _ => 0))), (q5, .inl (cq5, 710, .inl (fun _ => 0))), (q7, .inl (cq7, 710, .inl (fun _ => 0))), (q9, .inl (cq9, 710, .inl (fun _ => 0))), (q25, .inl (cq25, 40, .inl (fun _ => 0)))] := hD
  have hP : va_P D vwCl [(h0, .inr (12, fs26)), (q1, .inl (cq1, 3000, .inl (fun _ => 0))), (q3, .inl (cq3, 710, .inl (fun _ => 0))), (q5, .inl (cq5, 710, .inl (fun _ => 0))), (q7, .inl (cq7, 710, .inl (fun _ => 0))), (q9, .inl (cq9, 710, .inl (fun _ => 0)))] H := hP.sub [0, 1, 2, 3, 4, 5] rfl
  have hD : va_D A [(h0, .inr (12, fs26)), (q1, .inl (cq1, 3000, .inl (fun _ => 0))), (q3, .inl (cq3, 710, .inl (fun _ => 0))), (q5, .inl (cq5, 710, .inl (fun _ => 0))), (q7, .inl (cq7, 710, .inl (fun _ => 0))), (q9, .inl (cq9, 710, .inl (fun _ => 0)))] := hD.sub [0, 1, 2, 3, 4, 5] (by decide) rfl
  have hK : va_K D vwCl [(cq1, .byte), (cq3, .int), (cq5, .int), (cq7, .int), (cq9, .int)] s := hK.sub [0, 1, 2, 3, 4] rfl
  refine lv_aload_n hx hb dX12_init_121 rfl (lv_at hl 0 rfl) ?_
  refine lv_bipush (v := 40) hx hb dX12_init_122 (by decide +kernel) ?_
  refine va_newa (atype := .int) (ty := .int) (N' := 40) (a0 := (40, .inl (fun _ => 0))) hx hb (hts (.arrayClass .int) (by decide +kernel)) rfl hK hP hD hS hA (na_int 40) (by decide +kernel) (by decide +kernel) (by decide +kernel) (Nat.le_of_ble_eq_true rfl) (Nat.le_of_ble_eq_true rfl) dX12_init_124 (fun q27 cq27 H hK hP hD hS => ?_)
  have hP : va_P D vwCl [(h0, .inr (12, fs26)), (q1, .inl (cq1, 3000, .inl (fun _ => 0))), (q3, .inl (cq3, 710, .inl (fun _ => 0))), (q5, .inl (cq5, 710, .inl (fun _ => 0))), (q7, .inl (cq7, 710, .inl (fun _ => 0))), (q9, .inl (cq9, 710, .inl (fun _ => 0))), (q27, .inl (cq27, 40, .inl (fun _ => 0)))] H := hP
  have hD : va_D A [(h0, .inr (12, fs26)), (q1, .inl (cq1, 3000, .inl (fun _ => 0))), (q3, .inl (cq3, 710, .inl (fun _ => 0))), (q5, .inl (cq5, 710, .inl (fun _ => 0))), (q7, .inl (cq7, 710, .inl (fun _ => 0))), (q9, .inl (cq9, 710, .inl (fun _ => 0))), (q27, .inl (cq27, 40, .inl (fun _ => 0)))] := hD
  have hK : va_K D vwCl [(cq1, .byte), (cq3, .int), (cq5, .int), (cq7, .int), (cq9, .int), (cq27, .int)] s := hK
  refine W.widen (k := 13) (n := 23920) (Nat.le_of_ble_eq_true rfl) (Nat.le_of_ble_eq_true rfl) ?_
  refine va_put (D := D) (ci := 12) (v := .ref q27) (ty := .array .int) (C := RX12) (T := TX12) (N := 139) hx hb hts i_v_c_Model_init_X12 tyX12 tyX12_ok nmX12 hown hK hP hD hS 0 rfl rfl 30 (by decide) (hts (.fieldLink RX12 54 "ScheduleHouseModel" "toldSort" "[I") (by decide +kernel)) (fun _ h9 => h9) rfl (by decide +kernel) rfl rfl (kp_lt kfs26 hlen (by decide)) dX12_init_126 (fun H locs hP hD hS => ?_)
  obtain ⟨fs28, hfs28⟩ : ∃ z, z = fs26.set 30 (.ref q27) := ⟨_, rfl⟩
  have kfs28 := kp_s 30 (.ref q27) kfs26
  have gfs28_12 : fs28[12]? = some (.int (-1)) := by rw [hfs28]; exact se_ne gfs26_12 (by decide)
  have gfs28_11 : fs28[11]? = some (.int (-1)) := by rw [hfs28]; exact se_ne gfs26_11 (by decide)
  have gfs28_7 : fs28[7]? = some (.ref q9) := by rw [hfs28]; exact se_ne gfs26_7 (by decide)
  have gfs28_6 : fs28[6]? = some (.ref q7) := by rw [hfs28]; exact se_ne gfs26_6 (by decide)
  have gfs28_5 : fs28[5]? = some (.ref q5) := by rw [hfs28]; exact se_ne gfs26_5 (by decide)
  have gfs28_4 : fs28[4]? = some (.ref q3) := by rw [hfs28]; exact se_ne gfs26_4 (by decide)
  have gfs28_1 : fs28[1]? = some (.ref q1) := by rw [hfs28]; exact se_ne gfs26_1 (by decide)
  rw [← hfs28] at hP hD kfs28
  have hP : va_P D vwCl [(h0, .inr (12, fs28)), (q1, .inl (cq1, 3000, .inl (fun _ => 0))), (q3, .inl (cq3, 710, .inl (fun _ => 0))), (q5, .inl (cq5, 710, .inl (fun _ => 0))), (q7, .inl (cq7, 710, .inl (fun _ => 0))), (q9, .inl (cq9, 710, .inl (fun _ => 0))), (q27, .inl (cq27, 40, .inl (fun _ => 0)))] H := hP
  have hD : va_D A [(h0, .inr (12, fs28)), (q1, .inl (cq1, 3000, .inl (fun _ => 0))), (q3, .inl (cq3, 710, .inl (fun _ => 0))), (q5, .inl (cq5, 710, .inl (fun _ => 0))), (q7, .inl (cq7, 710, .inl (fun _ => 0))), (q9, .inl (cq9, 710, .inl (fun _ => 0))), (q27, .inl (cq27, 40, .inl (fun _ => 0)))] := hD
  have hP : va_P D vwCl [(h0, .inr (12, fs28)), (q1, .inl (cq1, 3000, .inl (fun _ => 0))), (q3, .inl (cq3, 710, .inl (fun _ => 0))), (q5, .inl (cq5, 710, .inl (fun _ => 0))), (q7, .inl (cq7, 710, .inl (fun _ => 0))), (q9, .inl (cq9, 710, .inl (fun _ => 0)))] H := hP.sub [0, 1, 2, 3, 4, 5] rfl
  have hD : va_D A [(h0, .inr (12, fs28)), (q1, .inl (cq1, 3000, .inl (fun _ => 0))), (q3, .inl (cq3, 710, .inl (fun _ => 0))), (q5, .inl (cq5, 710, .inl (fun _ => 0))), (q7, .inl (cq7, 710, .inl (fun _ => 0))), (q9, .inl (cq9, 710, .inl (fun _ => 0)))] := hD.sub [0, 1, 2, 3, 4, 5] (by decide) rfl
  have hK : va_K D vwCl [(cq1, .byte), (cq3, .int), (cq5, .int), (cq7, .int), (cq9, .int)] s := hK.sub [0, 1, 2, 3, 4] rfl
  refine lv_aload_n hx hb dX12_init_129 rfl (lv_at hl 0 rfl) ?_
  refine lv_bipush (v := 40) hx hb dX12_init_130 (by decide +kernel) ?_
  refine va_newa (atype := .int) (ty := .int) (N' := 40) (a0 := (40, .inl (fun _ => 0))) hx hb (hts (.arrayClass .int) (by decide +kernel)) rfl hK hP hD hS hA (na_int 40) (by decide +kernel) (by decide +kernel) (by decide +kernel) (Nat.le_of_ble_eq_true rfl) (Nat.le_of_ble_eq_true rfl) dX12_init_132 (fun q29 cq29 H hK hP hD hS => ?_)
  have hP : va_P D vwCl [(h0, .inr (12, fs28)), (q1, .inl (cq1, 3000, .inl (fun _ => 0))), (q3, .inl (cq3, 710, .inl (fun _ => 0))), (q5, .inl (cq5, 710, .inl (fun _ => 0))), (q7, .inl (cq7, 710, .inl (fun _ => 0))), (q9, .inl (cq9, 710, .inl (fun _ => 0))), (q29, .inl (cq29, 40, .inl (fun _ => 0)))] H := hP
  have hD : va_D A [(h0, .inr (12, fs28)), (q1, .inl (cq1, 3000, .inl (fun _ => 0))), (q3, .inl (cq3, 710, .inl (fun _ => 0))), (q5, .inl (cq5, 710, .inl (fun _ => 0))), (q7, .inl (cq7, 710, .inl (fun _ => 0))), (q9, .inl (cq9, 710, .inl (fun _ => 0))), (q29, .inl (cq29, 40, .inl (fun _ => 0)))] := hD
  have hK : va_K D vwCl [(cq1, .byte), (cq3, .int), (cq5, .int), (cq7, .int), (cq9, .int), (cq29, .int)] s := hK
  refine W.widen (k := 14) (n := 23960) (Nat.le_of_ble_eq_true rfl) (Nat.le_of_ble_eq_true rfl) ?_
  refine va_put (D := D) (ci := 12) (v := .ref q29) (ty := .array .int) (C := RX12) (T := TX12) (N := 139) hx hb hts i_v_c_Model_init_X12 tyX12 tyX12_ok nmX12 hown hK hP hD hS 0 rfl rfl 31 (by decide) (hts (.fieldLink RX12 57 "ScheduleHouseModel" "toldNumber" "[I") (by decide +kernel)) (fun _ h9 => h9) rfl (by decide +kernel) rfl rfl (kp_lt kfs28 hlen (by decide)) dX12_init_134 (fun H locs hP hD hS => ?_)
  obtain ⟨fs30, hfs30⟩ : ∃ z, z = fs28.set 31 (.ref q29) := ⟨_, rfl⟩
  have kfs30 := kp_s 31 (.ref q29) kfs28
  have gfs30_12 : fs30[12]? = some (.int (-1)) := by rw [hfs30]; exact se_ne gfs28_12 (by decide)
  have gfs30_11 : fs30[11]? = some (.int (-1)) := by rw [hfs30]; exact se_ne gfs28_11 (by decide)
  have gfs30_7 : fs30[7]? = some (.ref q9) := by rw [hfs30]; exact se_ne gfs28_7 (by decide)
  have gfs30_6 : fs30[6]? = some (.ref q7) := by rw [hfs30]; exact se_ne gfs28_6 (by decide)
  have gfs30_5 : fs30[5]? = some (.ref q5) := by rw [hfs30]; exact se_ne gfs28_5 (by decide)
  have gfs30_4 : fs30[4]? = some (.ref q3) := by rw [hfs30]; exact se_ne gfs28_4 (by decide)
  have gfs30_1 : fs30[1]? = some (.ref q1) := by rw [hfs30]; exact se_ne gfs28_1 (by decide)
  rw [← hfs30] at hP hD kfs30
  have hP : va_P D vwCl [(h0, .inr (12, fs30)), (q1, .inl (cq1, 3000, .inl (fun _ => 0))), (q3, .inl (cq3, 710, .inl (fun _ => 0))), (q5, .inl (cq5, 710, .inl (fun _ => 0))), (q7, .inl (cq7, 710, .inl (fun _ => 0))), (q9, .inl (cq9, 710, .inl (fun _ => 0))), (q29, .inl (cq29, 40, .inl (fun _ => 0)))] H := hP
  have hD : va_D A [(h0, .inr (12, fs30)), (q1, .inl (cq1, 3000, .inl (fun _ => 0))), (q3, .inl (cq3, 710, .inl (fun _ => 0))), (q5, .inl (cq5, 710, .inl (fun _ => 0))), (q7, .inl (cq7, 710, .inl (fun _ => 0))), (q9, .inl (cq9, 710, .inl (fun _ => 0))), (q29, .inl (cq29, 40, .inl (fun _ => 0)))] := hD
  have hP : va_P D vwCl [(h0, .inr (12, fs30)), (q1, .inl (cq1, 3000, .inl (fun _ => 0))), (q3, .inl (cq3, 710, .inl (fun _ => 0))), (q5, .inl (cq5, 710, .inl (fun _ => 0))), (q7, .inl (cq7, 710, .inl (fun _ => 0))), (q9, .inl (cq9, 710, .inl (fun _ => 0)))] H := hP.sub [0, 1, 2, 3, 4, 5] rfl
  have hD : va_D A [(h0, .inr (12, fs30)), (q1, .inl (cq1, 3000, .inl (fun _ => 0))), (q3, .inl (cq3, 710, .inl (fun _ => 0))), (q5, .inl (cq5, 710, .inl (fun _ => 0))), (q7, .inl (cq7, 710, .inl (fun _ => 0))), (q9, .inl (cq9, 710, .inl (fun _ => 0)))] := hD.sub [0, 1, 2, 3, 4, 5] (by decide) rfl
  have hK : va_K D vwCl [(cq1, .byte), (cq3, .int), (cq5, .int), (cq7, .int), (cq9, .int)] s := hK.sub [0, 1, 2, 3, 4] rfl
  refine lv_aload_n hx hb dX12_init_137 rfl (lv_at hl 0 rfl) ?_
  refine lv_bipush (v := 40) hx hb dX12_init_138 (by decide +kernel) ?_
  refine va_newa (atype := .int) (ty := .int) (N' := 40) (a0 := (40, .inl (fun _ => 0))) hx hb (hts (.arrayClass .int) (by decide +kernel)) rfl hK hP hD hS hA (na_int 40) (by decide +kernel) (by decide +kernel) (by decide +kernel) (Nat.le_of_ble_eq_true rfl) (Nat.le_of_ble_eq_true rfl) dX12_init_140 (fun q31 cq31 H hK hP hD hS => ?_)
  have hP : va_P D vwCl [(h0, .inr (12, fs30)), (q1, .inl (cq1, 3000, .inl (fun _ => 0))), (q3, .inl (cq3, 710, .inl (fun _ => 0))), (q5, .inl (cq5, 710, .inl (fun _ => 0))), (q7, .inl (cq7, 710, .inl (fun _ => 0))), (q9, .inl (cq9, 710, .inl (fun _ => 0))), (q31, .inl (cq31, 40, .inl (fun _ => 0)))] H := hP
  have hD : va_D A [(h0, .inr (12, fs30)), (q1, .inl (cq1, 3000, .inl (fun _ => 0))), (q3, .inl (cq3, 710, .inl (fun _ => 0))), (q5, .inl (cq5, 710, .inl (fun _ => 0))), (q7, .inl (cq7, 710, .inl (fun _ => 0))), (q9, .inl (cq9, 710, .inl (fun _ => 0))), (q31, .inl (cq31, 40, .inl (fun _ => 0)))] := hD
  have hK : va_K D vwCl [(cq1, .byte), (cq3, .int), (cq5, .int), (cq7, .int), (cq9, .int), (cq31, .int)] s := hK
  refine W.widen (k := 15) (n := 24000) (Nat.le_of_ble_eq_true rfl) (Nat.le_of_ble_eq_true rfl) ?_
  refine va_put (D := D) (ci := 12) (v := .ref q31) (ty := .array .int) (C := RX12) (T := TX12) (N := 139) hx hb hts i_v_c_Model_init_X12 tyX12 tyX12_ok nmX12 hown hK hP hD hS 0 rfl rfl 32 (by decide) (hts (.fieldLink RX12 60 "ScheduleHouseModel" "toldSize" "[I") (by decide +kernel)) (fun _ h9 => h9) rfl (by decide +kernel) rfl rfl (kp_lt kfs30 hlen (by decide)) dX12_init_142 (fun H locs hP hD hS => ?_)
  obtain ⟨fs32, hfs32⟩ : ∃ z, z = fs30.set 32 (.ref q31) := ⟨_, rfl⟩
  have kfs32 := kp_s 32 (.ref q31) kfs30
  have gfs32_12 : fs32[12]? = some (.int (-1)) := by rw [hfs32]; exact se_ne gfs30_12 (by decide)
  have gfs32_11 : fs32[11]? = some (.int (-1)) := by rw [hfs32]; exact se_ne gfs30_11 (by decide)
  have gfs32_7 : fs32[7]? = some (.ref q9) := by rw [hfs32]; exact se_ne gfs30_7 (by decide)
  have gfs32_6 : fs32[6]? = some (.ref q7) := by rw [hfs32]; exact se_ne gfs30_6 (by decide)
  have gfs32_5 : fs32[5]? = some (.ref q5) := by rw [hfs32]; exact se_ne gfs30_5 (by decide)
  have gfs32_4 : fs32[4]? = some (.ref q3) := by rw [hfs32]; exact se_ne gfs30_4 (by decide)
  have gfs32_1 : fs32[1]? = some (.ref q1) := by rw [hfs32]; exact se_ne gfs30_1 (by decide)
  rw [← hfs32] at hP hD kfs32
  have hP : va_P D vwCl [(h0, .inr (12, fs32)), (q1, .inl (cq1, 3000, .inl (fun _ => 0))), (q3, .inl (cq3, 710, .inl (fun _ => 0))), (q5, .inl (cq5, 710, .inl (fun _ => 0))), (q7, .inl (cq7, 710, .inl (fun _ => 0))), (q9, .inl (cq9, 710, .inl (fun _ => 0))), (q31, .inl (cq31, 40, .inl (fun _ => 0)))] H := hP
  have hD : va_D A [(h0, .inr (12, fs32)), (q1, .inl (cq1, 3000, .inl (fun _ => 0))), (q3, .inl (cq3, 710, .inl (fun _ => 0))), (q5, .inl (cq5, 710, .inl (fun _ => 0))), (q7, .inl (cq7, 710, .inl (fun _ => 0))), (q9, .inl (cq9, 710, .inl (fun _ => 0))), (q31, .inl (cq31, 40, .inl (fun _ => 0)))] := hD
  have hP : va_P D vwCl [(h0, .inr (12, fs32)), (q1, .inl (cq1, 3000, .inl (fun _ => 0))), (q3, .inl (cq3, 710, .inl (fun _ => 0))), (q5, .inl (cq5, 710, .inl (fun _ => 0))), (q7, .inl (cq7, 710, .inl (fun _ => 0))), (q9, .inl (cq9, 710, .inl (fun _ => 0)))] H := hP.sub [0, 1, 2, 3, 4, 5] rfl
  have hD : va_D A [(h0, .inr (12, fs32)), (q1, .inl (cq1, 3000, .inl (fun _ => 0))), (q3, .inl (cq3, 710, .inl (fun _ => 0))), (q5, .inl (cq5, 710, .inl (fun _ => 0))), (q7, .inl (cq7, 710, .inl (fun _ => 0))), (q9, .inl (cq9, 710, .inl (fun _ => 0)))] := hD.sub [0, 1, 2, 3, 4, 5] (by decide) rfl
  have hK : va_K D vwCl [(cq1, .byte), (cq3, .int), (cq5, .int), (cq7, .int), (cq9, .int)] s := hK.sub [0, 1, 2, 3, 4] rfl
  refine lv_aload_n hx hb dX12_init_145 rfl (lv_at hl 0 rfl) ?_
  refine lv_bipush (v := 40) hx hb dX12_init_146 (by decide +kernel) ?_
  refine va_newa (atype := .boolean) (ty := .boolean) (N' := 40) (a0 := (40, .inl (fun _ => 0))) hx hb (hts (.arrayClass .boolean) (by decide +kernel)) rfl hK hP hD hS hA (na_boolean 40) (by decide +kernel) (by decide +kernel) (by decide +kernel) (Nat.le_of_ble_eq_true rfl) (Nat.le_of_ble_eq_true rfl) dX12_init_148 (fun q33 cq33 H hK hP hD hS => ?_)
  have hP : va_P D vwCl [(h0, .inr (12, fs32)), (q1, .inl (cq1, 3000, .inl (fun _ => 0))), (q3, .inl (cq3, 710, .inl (fun _ => 0))), (q5, .inl (cq5, 710, .inl (fun _ => 0))), (q7, .inl (cq7, 710, .inl (fun _ => 0))), (q9, .inl (cq9, 710, .inl (fun _ => 0))), (q33, .inl (cq33, 40, .inl (fun _ => 0)))] H := hP
  have hD : va_D A [(h0, .inr (12, fs32)), (q1, .inl (cq1, 3000, .inl (fun _ => 0))), (q3, .inl (cq3, 710, .inl (fun _ => 0))), (q5, .inl (cq5, 710, .inl (fun _ => 0))), (q7, .inl (cq7, 710, .inl (fun _ => 0))), (q9, .inl (cq9, 710, .inl (fun _ => 0))), (q33, .inl (cq33, 40, .inl (fun _ => 0)))] := hD
  have hK : va_K D vwCl [(cq1, .byte), (cq3, .int), (cq5, .int), (cq7, .int), (cq9, .int), (cq33, .boolean)] s := hK
  refine W.widen (k := 16) (n := 24040) (Nat.le_of_ble_eq_true rfl) (Nat.le_of_ble_eq_true rfl) ?_
  refine va_put (D := D) (ci := 12) (v := .ref q33) (ty := .array .boolean) (C := RX12) (T := TX12) (N := 139) hx hb hts i_v_c_Model_init_X12 tyX12 tyX12_ok nmX12 hown hK hP hD hS 0 rfl rfl 33 (by decide) (hts (.fieldLink RX12 63 "ScheduleHouseModel" "toldRow" "[Z") (by decide +kernel)) (fun _ h9 => h9) rfl (by decide +kernel) rfl rfl (kp_lt kfs32 hlen (by decide)) dX12_init_150 (fun H locs hP hD hS => ?_)
  obtain ⟨fs34, hfs34⟩ : ∃ z, z = fs32.set 33 (.ref q33) := ⟨_, rfl⟩
  have kfs34 := kp_s 33 (.ref q33) kfs32
  have gfs34_12 : fs34[12]? = some (.int (-1)) := by rw [hfs34]; exact se_ne gfs32_12 (by decide)
  have gfs34_11 : fs34[11]? = some (.int (-1)) := by rw [hfs34]; exact se_ne gfs32_11 (by decide)
  have gfs34_7 : fs34[7]? = some (.ref q9) := by rw [hfs34]; exact se_ne gfs32_7 (by decide)
  have gfs34_6 : fs34[6]? = some (.ref q7) := by rw [hfs34]; exact se_ne gfs32_6 (by decide)
  have gfs34_5 : fs34[5]? = some (.ref q5) := by rw [hfs34]; exact se_ne gfs32_5 (by decide)
  have gfs34_4 : fs34[4]? = some (.ref q3) := by rw [hfs34]; exact se_ne gfs32_4 (by decide)
  have gfs34_1 : fs34[1]? = some (.ref q1) := by rw [hfs34]; exact se_ne gfs32_1 (by decide)
  rw [← hfs34] at hP hD kfs34
  have hP : va_P D vwCl [(h0, .inr (12, fs34)), (q1, .inl (cq1, 3000, .inl (fun _ => 0))), (q3, .inl (cq3, 710, .inl (fun _ => 0))), (q5, .inl (cq5, 710, .inl (fun _ => 0))), (q7, .inl (cq7, 710, .inl (fun _ => 0))), (q9, .inl (cq9, 710, .inl (fun _ => 0))), (q33, .inl (cq33, 40, .inl (fun _ => 0)))] H := hP
  have hD : va_D A [(h0, .inr (12, fs34)), (q1, .inl (cq1, 3000, .inl (fun _ => 0))), (q3, .inl (cq3, 710, .inl (fun _ => 0))), (q5, .inl (cq5, 710, .inl (fun _ => 0))), (q7, .inl (cq7, 710, .inl (fun _ => 0))), (q9, .inl (cq9, 710, .inl (fun _ => 0))), (q33, .inl (cq33, 40, .inl (fun _ => 0)))] := hD
  have hP : va_P D vwCl [(h0, .inr (12, fs34)), (q1, .inl (cq1, 3000, .inl (fun _ => 0))), (q3, .inl (cq3, 710, .inl (fun _ => 0))), (q5, .inl (cq5, 710, .inl (fun _ => 0))), (q7, .inl (cq7, 710, .inl (fun _ => 0))), (q9, .inl (cq9, 710, .inl (fun _ => 0)))] H := hP.sub [0, 1, 2, 3, 4, 5] rfl
  have hD : va_D A [(h0, .inr (12, fs34)), (q1, .inl (cq1, 3000, .inl (fun _ => 0))), (q3, .inl (cq3, 710, .inl (fun _ => 0))), (q5, .inl (cq5, 710, .inl (fun _ => 0))), (q7, .inl (cq7, 710, .inl (fun _ => 0))), (q9, .inl (cq9, 710, .inl (fun _ => 0)))] := hD.sub [0, 1, 2, 3, 4, 5] (by decide) rfl
  have hK : va_K D vwCl [(cq1, .byte), (cq3, .int), (cq5, .int), (cq7, .int), (cq9, .int)] s := hK.sub [0, 1, 2, 3, 4] rfl
  refine lv_aload_n hx hb dX12_init_153 rfl (lv_at hl 0 rfl) ?_
  refine lv_bipush (v := 40) hx hb dX12_init_154 (by decide +kernel) ?_
  refine va_newa (atype := .int) (ty := .int) (N' := 40) (a0 := (40, .inl (fun _ => 0))) hx hb (hts (.arrayClass .int) (by decide +kernel)) rfl hK hP hD hS hA (na_int 40) (by decide +kernel) (by decide +kernel) (by decide +kernel) (Nat.le_of_ble_eq_true rfl) (Nat.le_of_ble_eq_true rfl) dX12_init_156 (fun q35 cq35 H hK hP hD hS => ?_)
  have hP : va_P D vwCl [(h0, .inr (12, fs34)), (q1, .inl (cq1, 3000, .inl (fun _ => 0))), (q3, .inl (cq3, 710, .inl (fun _ => 0))), (q5, .inl (cq5, 710, .inl (fun _ => 0))), (q7, .inl (cq7, 710, .inl (fun _ => 0))), (q9, .inl (cq9, 710, .inl (fun _ => 0))), (q35, .inl (cq35, 40, .inl (fun _ => 0)))] H := hP
  have hD : va_D A [(h0, .inr (12, fs34)), (q1, .inl (cq1, 3000, .inl (fun _ => 0))), (q3, .inl (cq3, 710, .inl (fun _ => 0))), (q5, .inl (cq5, 710, .inl (fun _ => 0))), (q7, .inl (cq7, 710, .inl (fun _ => 0))), (q9, .inl (cq9, 710, .inl (fun _ => 0))), (q35, .inl (cq35, 40, .inl (fun _ => 0)))] := hD
  have hK : va_K D vwCl [(cq1, .byte), (cq3, .int), (cq5, .int), (cq7, .int), (cq9, .int), (cq35, .int)] s := hK
  refine W.widen (k := 17) (n := 24080) (Nat.le_of_ble_eq_true rfl) (Nat.le_of_ble_eq_true rfl) ?_
  refine va_put (D := D) (ci := 12) (v := .ref q35) (ty := .array .int) (C := RX12) (T := TX12) (N := 139) hx hb hts i_v_c_Model_init_X12 tyX12 tyX12_ok nmX12 hown hK hP hD hS 0 rfl rfl 34 (by decide) (hts (.fieldLink RX12 67 "ScheduleHouseModel" "rowToken" "[I") (by decide +kernel)) (fun _ h9 => h9) rfl (by decide +kernel) rfl rfl (kp_lt kfs34 hlen (by decide)) dX12_init_158 (fun H locs hP hD hS => ?_)
  obtain ⟨fs36, hfs36⟩ : ∃ z, z = fs34.set 34 (.ref q35) := ⟨_, rfl⟩
  have kfs36 := kp_s 34 (.ref q35) kfs34
  have gfs36_12 : fs36[12]? = some (.int (-1)) := by rw [hfs36]; exact se_ne gfs34_12 (by decide)
  have gfs36_11 : fs36[11]? = some (.int (-1)) := by rw [hfs36]; exact se_ne gfs34_11 (by decide)
  have gfs36_7 : fs36[7]? = some (.ref q9) := by rw [hfs36]; exact se_ne gfs34_7 (by decide)
  have gfs36_6 : fs36[6]? = some (.ref q7) := by rw [hfs36]; exact se_ne gfs34_6 (by decide)
  have gfs36_5 : fs36[5]? = some (.ref q5) := by rw [hfs36]; exact se_ne gfs34_5 (by decide)
  have gfs36_4 : fs36[4]? = some (.ref q3) := by rw [hfs36]; exact se_ne gfs34_4 (by decide)
  have gfs36_1 : fs36[1]? = some (.ref q1) := by rw [hfs36]; exact se_ne gfs34_1 (by decide)
  rw [← hfs36] at hP hD kfs36
  have hP : va_P D vwCl [(h0, .inr (12, fs36)), (q1, .inl (cq1, 3000, .inl (fun _ => 0))), (q3, .inl (cq3, 710, .inl (fun _ => 0))), (q5, .inl (cq5, 710, .inl (fun _ => 0))), (q7, .inl (cq7, 710, .inl (fun _ => 0))), (q9, .inl (cq9, 710, .inl (fun _ => 0))), (q35, .inl (cq35, 40, .inl (fun _ => 0)))] H := hP
  have hD : va_D A [(h0, .inr (12, fs36)), (q1, .inl (cq1, 3000, .inl (fun _ => 0))), (q3, .inl (cq3, 710, .inl (fun _ => 0))), (q5, .inl (cq5, 710, .inl (fun _ => 0))), (q7, .inl (cq7, 710, .inl (fun _ => 0))), (q9, .inl (cq9, 710, .inl (fun _ => 0))), (q35, .inl (cq35, 40, .inl (fun _ => 0)))] := hD
  have hP : va_P D vwCl [(h0, .inr (12, fs36)), (q1, .inl (cq1, 3000, .inl (fun _ => 0))), (q3, .inl (cq3, 710, .inl (fun _ => 0))), (q5, .inl (cq5, 710, .inl (fun _ => 0))), (q7, .inl (cq7, 710, .inl (fun _ => 0))), (q9, .inl (cq9, 710, .inl (fun _ => 0)))] H := hP.sub [0, 1, 2, 3, 4, 5] rfl
  have hD : va_D A [(h0, .inr (12, fs36)), (q1, .inl (cq1, 3000, .inl (fun _ => 0))), (q3, .inl (cq3, 710, .inl (fun _ => 0))), (q5, .inl (cq5, 710, .inl (fun _ => 0))), (q7, .inl (cq7, 710, .inl (fun _ => 0))), (q9, .inl (cq9, 710, .inl (fun _ => 0)))] := hD.sub [0, 1, 2, 3, 4, 5] (by decide) rfl
  have hK : va_K D vwCl [(cq1, .byte), (cq3, .int), (cq5, .int), (cq7, .int), (cq9, .int)] s := hK.sub [0, 1, 2, 3, 4] rfl
  refine lv_aload_n hx hb dX12_init_161 rfl (lv_at hl 0 rfl) ?_
  refine lv_bipush (v := 24) hx hb dX12_init_162 (by decide +kernel) ?_
  refine va_newa (atype := .int) (ty := .int) (N' := 24) (a0 := (24, .inl (fun _ => 0))) hx hb (hts (.arrayClass .int) (by decide +kernel)) rfl hK hP hD hS hA (na_int 24) (by decide +kernel) (by decide +kernel) (by decide +kernel) (Nat.le_of_ble_eq_true rfl) (Nat.le_of_ble_eq_true rfl) dX12_init_164 (fun q37 cq37 H hK hP hD hS => ?_)
  have hP : va_P D vwCl [(h0, .inr (12, fs36)), (q1, .inl (cq1, 3000, .inl (fun _ => 0))), (q3, .inl (cq3, 710, .inl (fun _ => 0))), (q5, .inl (cq5, 710, .inl (fun _ => 0))), (q7, .inl (cq7, 710, .inl (fun _ => 0))), (q9, .inl (cq9, 710, .inl (fun _ => 0))), (q37, .inl (cq37, 24, .inl (fun _ => 0)))] H := hP
  have hD : va_D A [(h0, .inr (12, fs36)), (q1, .inl (cq1, 3000, .inl (fun _ => 0))), (q3, .inl (cq3, 710, .inl (fun _ => 0))), (q5, .inl (cq5, 710, .inl (fun _ => 0))), (q7, .inl (cq7, 710, .inl (fun _ => 0))), (q9, .inl (cq9, 710, .inl (fun _ => 0))), (q37, .inl (cq37, 24, .inl (fun _ => 0)))] := hD
  have hK : va_K D vwCl [(cq1, .byte), (cq3, .int), (cq5, .int), (cq7, .int), (cq9, .int), (cq37, .int)] s := hK
  refine W.widen (k := 18) (n := 24104) (Nat.le_of_ble_eq_true rfl) (Nat.le_of_ble_eq_true rfl) ?_
  refine va_put (D := D) (ci := 12) (v := .ref q37) (ty := .array .int) (C := RX12) (T := TX12) (N := 139) hx hb hts i_v_c_Model_init_X12 tyX12 tyX12_ok nmX12 hown hK hP hD hS 0 rfl rfl 35 (by decide) (hts (.fieldLink RX12 70 "ScheduleHouseModel" "first" "[I") (by decide +kernel)) (fun _ h9 => h9) rfl (by decide +kernel) rfl rfl (kp_lt kfs36 hlen (by decide)) dX12_init_166 (fun H locs hP hD hS => ?_)
  obtain ⟨fs38, hfs38⟩ : ∃ z, z = fs36.set 35 (.ref q37) := ⟨_, rfl⟩
  have kfs38 := kp_s 35 (.ref q37) kfs36
  have gfs38_12 : fs38[12]? = some (.int (-1)) := by rw [hfs38]; exact se_ne gfs36_12 (by decide)
  have gfs38_11 : fs38[11]? = some (.int (-1)) := by rw [hfs38]; exact se_ne gfs36_11 (by decide)
  have gfs38_7 : fs38[7]? = some (.ref q9) := by rw [hfs38]; exact se_ne gfs36_7 (by decide)
  have gfs38_6 : fs38[6]? = some (.ref q7) := by rw [hfs38]; exact se_ne gfs36_6 (by decide)
  have gfs38_5 : fs38[5]? = some (.ref q5) := by rw [hfs38]; exact se_ne gfs36_5 (by decide)
  have gfs38_4 : fs38[4]? = some (.ref q3) := by rw [hfs38]; exact se_ne gfs36_4 (by decide)
  have gfs38_1 : fs38[1]? = some (.ref q1) := by rw [hfs38]; exact se_ne gfs36_1 (by decide)
  rw [← hfs38] at hP hD kfs38
  have hP : va_P D vwCl [(h0, .inr (12, fs38)), (q1, .inl (cq1, 3000, .inl (fun _ => 0))), (q3, .inl (cq3, 710, .inl (fun _ => 0))), (q5, .inl (cq5, 710, .inl (fun _ => 0))), (q7, .inl (cq7, 710, .inl (fun _ => 0))), (q9, .inl (cq9, 710, .inl (fun _ => 0))), (q37, .inl (cq37, 24, .inl (fun _ => 0)))] H := hP
  have hD : va_D A [(h0, .inr (12, fs38)), (q1, .inl (cq1, 3000, .inl (fun _ => 0))), (q3, .inl (cq3, 710, .inl (fun _ => 0))), (q5, .inl (cq5, 710, .inl (fun _ => 0))), (q7, .inl (cq7, 710, .inl (fun _ => 0))), (q9, .inl (cq9, 710, .inl (fun _ => 0))), (q37, .inl (cq37, 24, .inl (fun _ => 0)))] := hD
  have hP : va_P D vwCl [(h0, .inr (12, fs38)), (q1, .inl (cq1, 3000, .inl (fun _ => 0))), (q3, .inl (cq3, 710, .inl (fun _ => 0))), (q5, .inl (cq5, 710, .inl (fun _ => 0))), (q7, .inl (cq7, 710, .inl (fun _ => 0))), (q9, .inl (cq9, 710, .inl (fun _ => 0)))] H := hP.sub [0, 1, 2, 3, 4, 5] rfl
  have hD : va_D A [(h0, .inr (12, fs38)), (q1, .inl (cq1, 3000, .inl (fun _ => 0))), (q3, .inl (cq3, 710, .inl (fun _ => 0))), (q5, .inl (cq5, 710, .inl (fun _ => 0))), (q7, .inl (cq7, 710, .inl (fun _ => 0))), (q9, .inl (cq9, 710, .inl (fun _ => 0)))] := hD.sub [0, 1, 2, 3, 4, 5] (by decide) rfl
  have hK : va_K D vwCl [(cq1, .byte), (cq3, .int), (cq5, .int), (cq7, .int), (cq9, .int)] s := hK.sub [0, 1, 2, 3, 4] rfl
  refine lv_aload_n hx hb dX12_init_169 rfl (lv_at hl 0 rfl) ?_
  refine lv_bipush (v := 24) hx hb dX12_init_170 (by decide +kernel) ?_
  refine va_newa (atype := .boolean) (ty := .boolean) (N' := 24) (a0 := (24, .inl (fun _ => 0))) hx hb (hts (.arrayClass .boolean) (by decide +kernel)) rfl hK hP hD hS hA (na_boolean 24) (by decide +kernel) (by decide +kernel) (by decide +kernel) (Nat.le_of_ble_eq_true rfl) (Nat.le_of_ble_eq_true rfl) dX12_init_172 (fun q39 cq39 H hK hP hD hS => ?_)
  have hP : va_P D vwCl [(h0, .inr (12, fs38)), (q1, .inl (cq1, 3000, .inl (fun _ => 0))), (q3, .inl (cq3, 710, .inl (fun _ => 0))), (q5, .inl (cq5, 710, .inl (fun _ => 0))), (q7, .inl (cq7, 710, .inl (fun _ => 0))), (q9, .inl (cq9, 710, .inl (fun _ => 0))), (q39, .inl (cq39, 24, .inl (fun _ => 0)))] H := hP
  have hD : va_D A [(h0, .inr (12, fs38)), (q1, .inl (cq1, 3000, .inl (fun _ => 0))), (q3, .inl (cq3, 710, .inl (fun _ => 0))), (q5, .inl (cq5, 710, .inl (fun _ => 0))), (q7, .inl (cq7, 710, .inl (fun _ => 0))), (q9, .inl (cq9, 710, .inl (fun _ => 0))), (q39, .inl (cq39, 24, .inl (fun _ => 0)))] := hD
  have hK : va_K D vwCl [(cq1, .byte), (cq3, .int), (cq5, .int), (cq7, .int), (cq9, .int), (cq39, .boolean)] s := hK
  refine W.widen (k := 19) (n := 24128) (Nat.le_of_ble_eq_true rfl) (Nat.le_of_ble_eq_true rfl) ?_
  refine va_put (D := D) (ci := 12) (v := .ref q39) (ty := .array .boolean) (C := RX12) (T := TX12) (N := 139) hx hb hts i_v_c_Model_init_X12 tyX12 tyX12_ok nmX12 hown hK hP hD hS 0 rfl rfl 36 (by decide) (hts (.fieldLink RX12 73 "ScheduleHouseModel" "isSure" "[Z") (by decide +kernel)) (fun _ h9 => h9) rfl (by decide +kernel) rfl rfl (kp_lt kfs38 hlen (by decide)) dX12_init_174 (fun H locs hP hD hS => ?_)
  obtain ⟨fs40, hfs40⟩ : ∃ z, z = fs38.set 36 (.ref q39) := ⟨_, rfl⟩
  have kfs40 := kp_s 36 (.ref q39) kfs38
  have gfs40_12 : fs40[12]? = some (.int (-1)) := by rw [hfs40]; exact se_ne gfs38_12 (by decide)
  have gfs40_11 : fs40[11]? = some (.int (-1)) := by rw [hfs40]; exact se_ne gfs38_11 (by decide)
  have gfs40_7 : fs40[7]? = some (.ref q9) := by rw [hfs40]; exact se_ne gfs38_7 (by decide)
  have gfs40_6 : fs40[6]? = some (.ref q7) := by rw [hfs40]; exact se_ne gfs38_6 (by decide)
  have gfs40_5 : fs40[5]? = some (.ref q5) := by rw [hfs40]; exact se_ne gfs38_5 (by decide)
  have gfs40_4 : fs40[4]? = some (.ref q3) := by rw [hfs40]; exact se_ne gfs38_4 (by decide)
  have gfs40_1 : fs40[1]? = some (.ref q1) := by rw [hfs40]; exact se_ne gfs38_1 (by decide)
  rw [← hfs40] at hP hD kfs40
  have hP : va_P D vwCl [(h0, .inr (12, fs40)), (q1, .inl (cq1, 3000, .inl (fun _ => 0))), (q3, .inl (cq3, 710, .inl (fun _ => 0))), (q5, .inl (cq5, 710, .inl (fun _ => 0))), (q7, .inl (cq7, 710, .inl (fun _ => 0))), (q9, .inl (cq9, 710, .inl (fun _ => 0))), (q39, .inl (cq39, 24, .inl (fun _ => 0)))] H := hP
  have hD : va_D A [(h0, .inr (12, fs40)), (q1, .inl (cq1, 3000, .inl (fun _ => 0))), (q3, .inl (cq3, 710, .inl (fun _ => 0))), (q5, .inl (cq5, 710, .inl (fun _ => 0))), (q7, .inl (cq7, 710, .inl (fun _ => 0))), (q9, .inl (cq9, 710, .inl (fun _ => 0))), (q39, .inl (cq39, 24, .inl (fun _ => 0)))] := hD
  have hP : va_P D vwCl [(h0, .inr (12, fs40)), (q1, .inl (cq1, 3000, .inl (fun _ => 0))), (q3, .inl (cq3, 710, .inl (fun _ => 0))), (q5, .inl (cq5, 710, .inl (fun _ => 0))), (q7, .inl (cq7, 710, .inl (fun _ => 0))), (q9, .inl (cq9, 710, .inl (fun _ => 0)))] H := hP.sub [0, 1, 2, 3, 4, 5] rfl
  have hD : va_D A [(h0, .inr (12, fs40)), (q1, .inl (cq1, 3000, .inl (fun _ => 0))), (q3, .inl (cq3, 710, .inl (fun _ => 0))), (q5, .inl (cq5, 710, .inl (fun _ => 0))), (q7, .inl (cq7, 710, .inl (fun _ => 0))), (q9, .inl (cq9, 710, .inl (fun _ => 0)))] := hD.sub [0, 1, 2, 3, 4, 5] (by decide) rfl
  have hK : va_K D vwCl [(cq1, .byte), (cq3, .int), (cq5, .int), (cq7, .int), (cq9, .int)] s := hK.sub [0, 1, 2, 3, 4] rfl
  refine lv_aload_n hx hb dX12_init_177 rfl (lv_at hl 0 rfl) ?_
  refine lv_bipush (v := 6) hx hb dX12_init_178 (by decide +kernel) ?_
  refine va_newa (atype := .boolean) (ty := .boolean) (N' := 6) (a0 := (6, .inl (fun _ => 0))) hx hb (hts (.arrayClass .boolean) (by decide +kernel)) rfl hK hP hD hS hA (na_boolean 6) (by decide +kernel) (by decide +kernel) (by decide +kernel) (Nat.le_of_ble_eq_true rfl) (Nat.le_of_ble_eq_true rfl) dX12_init_180 (fun q41 cq41 H hK hP hD hS => ?_)
  have hP : va_P D vwCl [(h0, .inr (12, fs40)), (q1, .inl (cq1, 3000, .inl (fun _ => 0))), (q3, .inl (cq3, 710, .inl (fun _ => 0))), (q5, .inl (cq5, 710, .inl (fun _ => 0))), (q7, .inl (cq7, 710, .inl (fun _ => 0))), (q9, .inl (cq9, 710, .inl (fun _ => 0))), (q41, .inl (cq41, 6, .inl (fun _ => 0)))] H := hP
  have hD : va_D A [(h0, .inr (12, fs40)), (q1, .inl (cq1, 3000, .inl (fun _ => 0))), (q3, .inl (cq3, 710, .inl (fun _ => 0))), (q5, .inl (cq5, 710, .inl (fun _ => 0))), (q7, .inl (cq7, 710, .inl (fun _ => 0))), (q9, .inl (cq9, 710, .inl (fun _ => 0))), (q41, .inl (cq41, 6, .inl (fun _ => 0)))] := hD
  have hK : va_K D vwCl [(cq1, .byte), (cq3, .int), (cq5, .int), (cq7, .int), (cq9, .int), (cq41, .boolean)] s := hK
  refine W.widen (k := 20) (n := 24134) (Nat.le_of_ble_eq_true rfl) (Nat.le_of_ble_eq_true rfl) ?_
  refine va_put (D := D) (ci := 12) (v := .ref q41) (ty := .array .boolean) (C := RX12) (T := TX12) (N := 139) hx hb hts i_v_c_Model_init_X12 tyX12 tyX12_ok nmX12 hown hK hP hD hS 0 rfl rfl 37 (by decide) (hts (.fieldLink RX12 76 "ScheduleHouseModel" "isIdle" "[Z") (by decide +kernel)) (fun _ h9 => h9) rfl (by decide +kernel) rfl rfl (kp_lt kfs40 hlen (by decide)) dX12_init_182 (fun H locs hP hD hS => ?_)
  obtain ⟨fs42, hfs42⟩ : ∃ z, z = fs40.set 37 (.ref q41) := ⟨_, rfl⟩
  have kfs42 := kp_s 37 (.ref q41) kfs40
  have gfs42_12 : fs42[12]? = some (.int (-1)) := by rw [hfs42]; exact se_ne gfs40_12 (by decide)
  have gfs42_11 : fs42[11]? = some (.int (-1)) := by rw [hfs42]; exact se_ne gfs40_11 (by decide)
  have gfs42_7 : fs42[7]? = some (.ref q9) := by rw [hfs42]; exact se_ne gfs40_7 (by decide)
  have gfs42_6 : fs42[6]? = some (.ref q7) := by rw [hfs42]; exact se_ne gfs40_6 (by decide)
  have gfs42_5 : fs42[5]? = some (.ref q5) := by rw [hfs42]; exact se_ne gfs40_5 (by decide)
  have gfs42_4 : fs42[4]? = some (.ref q3) := by rw [hfs42]; exact se_ne gfs40_4 (by decide)
  have gfs42_1 : fs42[1]? = some (.ref q1) := by rw [hfs42]; exact se_ne gfs40_1 (by decide)
  rw [← hfs42] at hP hD kfs42
  have hP : va_P D vwCl [(h0, .inr (12, fs42)), (q1, .inl (cq1, 3000, .inl (fun _ => 0))), (q3, .inl (cq3, 710, .inl (fun _ => 0))), (q5, .inl (cq5, 710, .inl (fun _ => 0))), (q7, .inl (cq7, 710, .inl (fun _ => 0))), (q9, .inl (cq9, 710, .inl (fun _ => 0))), (q41, .inl (cq41, 6, .inl (fun _ => 0)))] H := hP
  have hD : va_D A [(h0, .inr (12, fs42)), (q1, .inl (cq1, 3000, .inl (fun _ => 0))), (q3, .inl (cq3, 710, .inl (fun _ => 0))), (q5, .inl (cq5, 710, .inl (fun _ => 0))), (q7, .inl (cq7, 710, .inl (fun _ => 0))), (q9, .inl (cq9, 710, .inl (fun _ => 0))), (q41, .inl (cq41, 6, .inl (fun _ => 0)))] := hD
  have hP : va_P D vwCl [(h0, .inr (12, fs42)), (q1, .inl (cq1, 3000, .inl (fun _ => 0))), (q3, .inl (cq3, 710, .inl (fun _ => 0))), (q5, .inl (cq5, 710, .inl (fun _ => 0))), (q7, .inl (cq7, 710, .inl (fun _ => 0))), (q9, .inl (cq9, 710, .inl (fun _ => 0)))] H := hP.sub [0, 1, 2, 3, 4, 5] rfl
  have hD : va_D A [(h0, .inr (12, fs42)), (q1, .inl (cq1, 3000, .inl (fun _ => 0))), (q3, .inl (cq3, 710, .inl (fun _ => 0))), (q5, .inl (cq5, 710, .inl (fun _ => 0))), (q7, .inl (cq7, 710, .inl (fun _ => 0))), (q9, .inl (cq9, 710, .inl (fun _ => 0)))] := hD.sub [0, 1, 2, 3, 4, 5] (by decide) rfl
  have hK : va_K D vwCl [(cq1, .byte), (cq3, .int), (cq5, .int), (cq7, .int), (cq9, .int)] s := hK.sub [0, 1, 2, 3, 4] rfl
  refine lv_aload_n hx hb dX12_init_185 rfl (lv_at hl 0 rfl) ?_
  refine lv_bipush (v := 6) hx hb dX12_init_186 (by decide +kernel) ?_
  refine va_newa (atype := .int) (ty := .int) (N' := 6) (a0 := (6, .inl (fun _ => 0))) hx hb (hts (.arrayClass .int) (by decide +kernel)) rfl hK hP hD hS hA (na_int 6) (by decide +kernel) (by decide +kernel) (by decide +kernel) (Nat.le_of_ble_eq_true rfl) (Nat.le_of_ble_eq_true rfl) dX12_init_188 (fun q43 cq43 H hK hP hD hS => ?_)
  have hP : va_P D vwCl [(h0, .inr (12, fs42)), (q1, .inl (cq1, 3000, .inl (fun _ => 0))), (q3, .inl (cq3, 710, .inl (fun _ => 0))), (q5, .inl (cq5, 710, .inl (fun _ => 0))), (q7, .inl (cq7, 710, .inl (fun _ => 0))), (q9, .inl (cq9, 710, .inl (fun _ => 0))), (q43, .inl (cq43, 6, .inl (fun _ => 0)))] H := hP
  have hD : va_D A [(h0, .inr (12, fs42)), (q1, .inl (cq1, 3000, .inl (fun _ => 0))), (q3, .inl (cq3, 710, .inl (fun _ => 0))), (q5, .inl (cq5, 710, .inl (fun _ => 0))), (q7, .inl (cq7, 710, .inl (fun _ => 0))), (q9, .inl (cq9, 710, .inl (fun _ => 0))), (q43, .inl (cq43, 6, .inl (fun _ => 0)))] := hD
  have hK : va_K D vwCl [(cq1, .byte), (cq3, .int), (cq5, .int), (cq7, .int), (cq9, .int), (cq43, .int)] s := hK
  refine W.widen (k := 21) (n := 24140) (Nat.le_of_ble_eq_true rfl) (Nat.le_of_ble_eq_true rfl) ?_
  refine va_put (D := D) (ci := 12) (v := .ref q43) (ty := .array .int) (C := RX12) (T := TX12) (N := 139) hx hb hts i_v_c_Model_init_X12 tyX12 tyX12_ok nmX12 hown hK hP hD hS 0 rfl rfl 38 (by decide) (hts (.fieldLink RX12 79 "ScheduleHouseModel" "threadBlock" "[I") (by decide +kernel)) (fun _ h9 => h9) rfl (by decide +kernel) rfl rfl (kp_lt kfs42 hlen (by decide)) dX12_init_190 (fun H locs hP hD hS => ?_)
  obtain ⟨fs44, hfs44⟩ : ∃ z, z = fs42.set 38 (.ref q43) := ⟨_, rfl⟩
  have kfs44 := kp_s 38 (.ref q43) kfs42
  have gfs44_12 : fs44[12]? = some (.int (-1)) := by rw [hfs44]; exact se_ne gfs42_12 (by decide)
  have gfs44_11 : fs44[11]? = some (.int (-1)) := by rw [hfs44]; exact se_ne gfs42_11 (by decide)
  have gfs44_7 : fs44[7]? = some (.ref q9) := by rw [hfs44]; exact se_ne gfs42_7 (by decide)
  have gfs44_6 : fs44[6]? = some (.ref q7) := by rw [hfs44]; exact se_ne gfs42_6 (by decide)
  have gfs44_5 : fs44[5]? = some (.ref q5) := by rw [hfs44]; exact se_ne gfs42_5 (by decide)
  have gfs44_4 : fs44[4]? = some (.ref q3) := by rw [hfs44]; exact se_ne gfs42_4 (by decide)
  have gfs44_1 : fs44[1]? = some (.ref q1) := by rw [hfs44]; exact se_ne gfs42_1 (by decide)
  rw [← hfs44] at hP hD kfs44
  have hP : va_P D vwCl [(h0, .inr (12, fs44)), (q1, .inl (cq1, 3000, .inl (fun _ => 0))), (q3, .inl (cq3, 710, .inl (fun _ => 0))), (q5, .inl (cq5, 710, .inl (fun _ => 0))), (q7, .inl (cq7, 710, .inl (fun _ => 0))), (q9, .inl (cq9, 710, .inl (fun _ => 0))), (q43, .inl (cq43, 6, .inl (fun _ => 0)))] H := hP
  have hD : va_D A [(h0, .inr (12, fs44)), (q1, .inl (cq1, 3000, .inl (fun _ => 0))), (q3, .inl (cq3, 710, .inl (fun _ => 0))), (q5, .inl (cq5, 710, .inl (fun _ => 0))), (q7, .inl (cq7, 710, .inl (fun _ => 0))), (q9, .inl (cq9, 710, .inl (fun _ => 0))), (q43, .inl (cq43, 6, .inl (fun _ => 0)))] := hD
  have hP : va_P D vwCl [(h0, .inr (12, fs44)), (q1, .inl (cq1, 3000, .inl (fun _ => 0))), (q3, .inl (cq3, 710, .inl (fun _ => 0))), (q5, .inl (cq5, 710, .inl (fun _ => 0))), (q7, .inl (cq7, 710, .inl (fun _ => 0))), (q9, .inl (cq9, 710, .inl (fun _ => 0)))] H := hP.sub [0, 1, 2, 3, 4, 5] rfl
  have hD : va_D A [(h0, .inr (12, fs44)), (q1, .inl (cq1, 3000, .inl (fun _ => 0))), (q3, .inl (cq3, 710, .inl (fun _ => 0))), (q5, .inl (cq5, 710, .inl (fun _ => 0))), (q7, .inl (cq7, 710, .inl (fun _ => 0))), (q9, .inl (cq9, 710, .inl (fun _ => 0)))] := hD.sub [0, 1, 2, 3, 4, 5] (by decide) rfl
  have hK : va_K D vwCl [(cq1, .byte), (cq3, .int), (cq5, .int), (cq7, .int), (cq9, .int)] s := hK.sub [0, 1, 2, 3, 4] rfl
  refine lv_aload_n hx hb dX12_init_193 rfl (lv_at hl 0 rfl) ?_
  refine lv_iconst (v := 4) hx hb dX12_init_194 (by decide +kernel) ?_
  refine va_newa (atype := .int) (ty := .int) (N' := 4) (a0 := (4, .inl (fun _ => 0))) hx hb (hts (.arrayClass .int) (by decide +kernel)) rfl hK hP hD hS hA (na_int 4) (by decide +kernel) (by decide +kernel) (by decide +kernel) (Nat.le_of_ble_eq_true rfl) (Nat.le_of_ble_eq_true rfl) dX12_init_195 (fun q45 cq45 H hK hP hD hS => ?_)
  have hP : va_P D vwCl [(h0, .inr (12, fs44)), (q1, .inl (cq1, 3000, .inl (fun _ => 0))), (q3, .inl (cq3, 710, .inl (fun _ => 0))), (q5, .inl (cq5, 710, .inl (fun _ => 0))), (q7, .inl (cq7, 710, .inl (fun _ => 0))), (q9, .inl (cq9, 710, .inl (fun _ => 0))), (q45, .inl (cq45, 4, .inl (fun _ => 0)))] H := hP
  have hD : va_D A [(h0, .inr (12, fs44)), (q1, .inl (cq1, 3000, .inl (fun _ => 0))), (q3, .inl (cq3, 710, .inl (fun _ => 0))), (q5, .inl (cq5, 710, .inl (fun _ => 0))), (q7, .inl (cq7, 710, .inl (fun _ => 0))), (q9, .inl (cq9, 710, .inl (fun _ => 0))), (q45, .inl (cq45, 4, .inl (fun _ => 0)))] := hD
  have hK : va_K D vwCl [(cq1, .byte), (cq3, .int), (cq5, .int), (cq7, .int), (cq9, .int), (cq45, .int)] s := hK
  refine W.widen (k := 22) (n := 24144) (Nat.le_of_ble_eq_true rfl) (Nat.le_of_ble_eq_true rfl) ?_
  refine va_put (D := D) (ci := 12) (v := .ref q45) (ty := .array .int) (C := RX12) (T := TX12) (N := 139) hx hb hts i_v_c_Model_init_X12 tyX12 tyX12_ok nmX12 hown hK hP hD hS 0 rfl rfl 39 (by decide) (hts (.fieldLink RX12 82 "ScheduleHouseModel" "alwaysE" "[I") (by decide +kernel)) (fun _ h9 => h9) rfl (by decide +kernel) rfl rfl (kp_lt kfs44 hlen (by decide)) dX12_init_197 (fun H locs hP hD hS => ?_)
  obtain ⟨fs46, hfs46⟩ : ∃ z, z = fs44.set 39 (.ref q45) := ⟨_, rfl⟩
  have kfs46 := kp_s 39 (.ref q45) kfs44
  have gfs46_12 : fs46[12]? = some (.int (-1)) := by rw [hfs46]; exact se_ne gfs44_12 (by decide)
  have gfs46_11 : fs46[11]? = some (.int (-1)) := by rw [hfs46]; exact se_ne gfs44_11 (by decide)
  have gfs46_7 : fs46[7]? = some (.ref q9) := by rw [hfs46]; exact se_ne gfs44_7 (by decide)
  have gfs46_6 : fs46[6]? = some (.ref q7) := by rw [hfs46]; exact se_ne gfs44_6 (by decide)
  have gfs46_5 : fs46[5]? = some (.ref q5) := by rw [hfs46]; exact se_ne gfs44_5 (by decide)
  have gfs46_4 : fs46[4]? = some (.ref q3) := by rw [hfs46]; exact se_ne gfs44_4 (by decide)
  have gfs46_1 : fs46[1]? = some (.ref q1) := by rw [hfs46]; exact se_ne gfs44_1 (by decide)
  rw [← hfs46] at hP hD kfs46
  have hP : va_P D vwCl [(h0, .inr (12, fs46)), (q1, .inl (cq1, 3000, .inl (fun _ => 0))), (q3, .inl (cq3, 710, .inl (fun _ => 0))), (q5, .inl (cq5, 710, .inl (fun _ => 0))), (q7, .inl (cq7, 710, .inl (fun _ => 0))), (q9, .inl (cq9, 710, .inl (fun _ => 0))), (q45, .inl (cq45, 4, .inl (fun _ => 0)))] H := hP
  have hD : va_D A [(h0, .inr (12, fs46)), (q1, .inl (cq1, 3000, .inl (fun _ => 0))), (q3, .inl (cq3, 710, .inl (fun _ => 0))), (q5, .inl (cq5, 710, .inl (fun _ => 0))), (q7, .inl (cq7, 710, .inl (fun _ => 0))), (q9, .inl (cq9, 710, .inl (fun _ => 0))), (q45, .inl (cq45, 4, .inl (fun _ => 0)))] := hD
  have hP : va_P D vwCl [(h0, .inr (12, fs46)), (q1, .inl (cq1, 3000, .inl (fun _ => 0))), (q3, .inl (cq3, 710, .inl (fun _ => 0))), (q5, .inl (cq5, 710, .inl (fun _ => 0))), (q7, .inl (cq7, 710, .inl (fun _ => 0))), (q9, .inl (cq9, 710, .inl (fun _ => 0)))] H := hP.sub [0, 1, 2, 3, 4, 5] rfl
  have hD : va_D A [(h0, .inr (12, fs46)), (q1, .inl (cq1, 3000, .inl (fun _ => 0))), (q3, .inl (cq3, 710, .inl (fun _ => 0))), (q5, .inl (cq5, 710, .inl (fun _ => 0))), (q7, .inl (cq7, 710, .inl (fun _ => 0))), (q9, .inl (cq9, 710, .inl (fun _ => 0)))] := hD.sub [0, 1, 2, 3, 4, 5] (by decide) rfl
  have hK : va_K D vwCl [(cq1, .byte), (cq3, .int), (cq5, .int), (cq7, .int), (cq9, .int)] s := hK.sub [0, 1, 2, 3, 4] rfl
  refine lv_aload_n hx hb dX12_init_200 rfl (lv_at hl 0 rfl) ?_
  refine lv_iconst (v := 4) hx hb dX12_init_201 (by decide +kernel) ?_
  refine va_newa (atype := .int) (ty := .int) (N' := 4) (a0 := (4, .inl (fun _ => 0))) hx hb (hts (.arrayClass .int) (by decide +kernel)) rfl hK hP hD hS hA (na_int 4) (by decide +kernel) (by decide +kernel) (by decide +kernel) (Nat.le_of_ble_eq_true rfl) (Nat.le_of_ble_eq_true rfl) dX12_init_202 (fun q47 cq47 H hK hP hD hS => ?_)
  have hP : va_P D vwCl [(h0, .inr (12, fs46)), (q1, .inl (cq1, 3000, .inl (fun _ => 0))), (q3, .inl (cq3, 710, .inl (fun _ => 0))), (q5, .inl (cq5, 710, .inl (fun _ => 0))), (q7, .inl (cq7, 710, .inl (fun _ => 0))), (q9, .inl (cq9, 710, .inl (fun _ => 0))), (q47, .inl (cq47, 4, .inl (fun _ => 0)))] H := hP
  have hD : va_D A [(h0, .inr (12, fs46)), (q1, .inl (cq1, 3000, .inl (fun _ => 0))), (q3, .inl (cq3, 710, .inl (fun _ => 0))), (q5, .inl (cq5, 710, .inl (fun _ => 0))), (q7, .inl (cq7, 710, .inl (fun _ => 0))), (q9, .inl (cq9, 710, .inl (fun _ => 0))), (q47, .inl (cq47, 4, .inl (fun _ => 0)))] := hD
  have hK : va_K D vwCl [(cq1, .byte), (cq3, .int), (cq5, .int), (cq7, .int), (cq9, .int), (cq47, .int)] s := hK
  refine W.widen (k := 23) (n := 24148) (Nat.le_of_ble_eq_true rfl) (Nat.le_of_ble_eq_true rfl) ?_
  refine va_put (D := D) (ci := 12) (v := .ref q47) (ty := .array .int) (C := RX12) (T := TX12) (N := 139) hx hb hts i_v_c_Model_init_X12 tyX12 tyX12_ok nmX12 hown hK hP hD hS 0 rfl rfl 40 (by decide) (hts (.fieldLink RX12 85 "ScheduleHouseModel" "finalE" "[I") (by decide +kernel)) (fun _ h9 => h9) rfl (by decide +kernel) rfl rfl (kp_lt kfs46 hlen (by decide)) dX12_init_204 (fun H locs hP hD hS => ?_)
  obtain ⟨fs48, hfs48⟩ : ∃ z, z = fs46.set 40 (.ref q47) := ⟨_, rfl⟩
  have kfs48 := kp_s 40 (.ref q47) kfs46
  have gfs48_12 : fs48[12]? = some (.int (-1)) := by rw [hfs48]; exact se_ne gfs46_12 (by decide)
  have gfs48_11 : fs48[11]? = some (.int (-1)) := by rw [hfs48]; exact se_ne gfs46_11 (by decide)
  have gfs48_7 : fs48[7]? = some (.ref q9) := by rw [hfs48]; exact se_ne gfs46_7 (by decide)
  have gfs48_6 : fs48[6]? = some (.ref q7) := by rw [hfs48]; exact se_ne gfs46_6 (by decide)
  have gfs48_5 : fs48[5]? = some (.ref q5) := by rw [hfs48]; exact se_ne gfs46_5 (by decide)
  have gfs48_4 : fs48[4]? = some (.ref q3) := by rw [hfs48]; exact se_ne gfs46_4 (by decide)
  have gfs48_1 : fs48[1]? = some (.ref q1) := by rw [hfs48]; exact se_ne gfs46_1 (by decide)
  rw [← hfs48] at hP hD kfs48
  have hP : va_P D vwCl [(h0, .inr (12, fs48)), (q1, .inl (cq1, 3000, .inl (fun _ => 0))), (q3, .inl (cq3, 710, .inl (fun _ => 0))), (q5, .inl (cq5, 710, .inl (fun _ => 0))), (q7, .inl (cq7, 710, .inl (fun _ => 0))), (q9, .inl (cq9, 710, .inl (fun _ => 0))), (q47, .inl (cq47, 4, .inl (fun _ => 0)))] H := hP
  have hD : va_D A [(h0, .inr (12, fs48)), (q1, .inl (cq1, 3000, .inl (fun _ => 0))), (q3, .inl (cq3, 710, .inl (fun _ => 0))), (q5, .inl (cq5, 710, .inl (fun _ => 0))), (q7, .inl (cq7, 710, .inl (fun _ => 0))), (q9, .inl (cq9, 710, .inl (fun _ => 0))), (q47, .inl (cq47, 4, .inl (fun _ => 0)))] := hD
  have hP : va_P D vwCl [(h0, .inr (12, fs48)), (q1, .inl (cq1, 3000, .inl (fun _ => 0))), (q3, .inl (cq3, 710, .inl (fun _ => 0))), (q5, .inl (cq5, 710, .inl (fun _ => 0))), (q7, .inl (cq7, 710, .inl (fun _ => 0))), (q9, .inl (cq9, 710, .inl (fun _ => 0)))] H := hP.sub [0, 1, 2, 3, 4, 5] rfl
  have hD : va_D A [(h0, .inr (12, fs48)), (q1, .inl (cq1, 3000, .inl (fun _ => 0))), (q3, .inl (cq3, 710, .inl (fun _ => 0))), (q5, .inl (cq5, 710, .inl (fun _ => 0))), (q7, .inl (cq7, 710, .inl (fun _ => 0))), (q9, .inl (cq9, 710, .inl (fun _ => 0)))] := hD.sub [0, 1, 2, 3, 4, 5] (by decide) rfl
  have hK : va_K D vwCl [(cq1, .byte), (cq3, .int), (cq5, .int), (cq7, .int), (cq9, .int)] s := hK.sub [0, 1, 2, 3, 4] rfl
  refine lv_aload_n hx hb dX12_init_207 rfl (lv_at hl 0 rfl) ?_
  refine lv_bipush (v := 40) hx hb dX12_init_208 (by decide +kernel) ?_
  refine va_newa (atype := .int) (ty := .int) (N' := 40) (a0 := (40, .inl (fun _ => 0))) hx hb (hts (.arrayClass .int) (by decide +kernel)) rfl hK hP hD hS hA (na_int 40) (by decide +kernel) (by decide +kernel) (by decide +kernel) (Nat.le_of_ble_eq_true rfl) (Nat.le_of_ble_eq_true rfl) dX12_init_210 (fun q49 cq49 H hK hP hD hS => ?_)
  have hP : va_P D vwCl [(h0, .inr (12, fs48)), (q1, .inl (cq1, 3000, .inl (fun _ => 0))), (q3, .inl (cq3, 710, .inl (fun _ => 0))), (q5, .inl (cq5, 710, .inl (fun _ => 0))), (q7, .inl (cq7, 710, .inl (fun _ => 0))), (q9, .inl (cq9, 710, .inl (fun _ => 0))), (q49, .inl (cq49, 40, .inl (fun _ => 0)))] H := hP
  have hD : va_D A [(h0, .inr (12, fs48)), (q1, .inl (cq1, 3000, .inl (fun _ => 0))), (q3, .inl (cq3, 710, .inl (fun _ => 0))), (q5, .inl (cq5, 710, .inl (fun _ => 0))), (q7, .inl (cq7, 710, .inl (fun _ => 0))), (q9, .inl (cq9, 710, .inl (fun _ => 0))), (q49, .inl (cq49, 40, .inl (fun _ => 0)))] := hD
  have hK : va_K D vwCl [(cq1, .byte), (cq3, .int), (cq5, .int), (cq7, .int), (cq9, .int), (cq49, .int)] s := hK
  refine W.widen (k := 24) (n := 24188) (Nat.le_of_ble_eq_true rfl) (Nat.le_of_ble_eq_true rfl) ?_
  refine va_put (D := D) (ci := 12) (v := .ref q49) (ty := .array .int) (C := RX12) (T := TX12) (N := 139) hx hb hts i_v_c_Model_init_X12 tyX12 tyX12_ok nmX12 hown hK hP hD hS 0 rfl rfl 44 (by decide) (hts (.fieldLink RX12 88 "ScheduleHouseModel" "knownToken" "[I") (by decide +kernel)) (fun _ h9 => h9) rfl (by decide +kernel) rfl rfl (kp_lt kfs48 hlen (by decide)) dX12_init_212 (fun H locs hP hD hS => ?_)
  obtain ⟨fs50, hfs50⟩ : ∃ z, z = fs48.set 44 (.ref q49) := ⟨_, rfl⟩
  have kfs50 := kp_s 44 (.ref q49) kfs48
  have gfs50_12 : fs50[12]? = some (.int (-1)) := by rw [hfs50]; exact se_ne gfs48_12 (by decide)
  have gfs50_11 : fs50[11]? = some (.int (-1)) := by rw [hfs50]; exact se_ne gfs48_11 (by decide)
  have gfs50_7 : fs50[7]? = some (.ref q9) := by rw [hfs50]; exact se_ne gfs48_7 (by decide)
  have gfs50_6 : fs50[6]? = some (.ref q7) := by rw [hfs50]; exact se_ne gfs48_6 (by decide)
  have gfs50_5 : fs50[5]? = some (.ref q5) := by rw [hfs50]; exact se_ne gfs48_5 (by decide)
  have gfs50_4 : fs50[4]? = some (.ref q3) := by rw [hfs50]; exact se_ne gfs48_4 (by decide)
  have gfs50_1 : fs50[1]? = some (.ref q1) := by rw [hfs50]; exact se_ne gfs48_1 (by decide)
  rw [← hfs50] at hP hD kfs50
  have hP : va_P D vwCl [(h0, .inr (12, fs50)), (q1, .inl (cq1, 3000, .inl (fun _ => 0))), (q3, .inl (cq3, 710, .inl (fun _ => 0))), (q5, .inl (cq5, 710, .inl (fun _ => 0))), (q7, .inl (cq7, 710, .inl (fun _ => 0))), (q9, .inl (cq9, 710, .inl (fun _ => 0))), (q49, .inl (cq49, 40, .inl (fun _ => 0)))] H := hP
  have hD : va_D A [(h0, .inr (12, fs50)), (q1, .inl (cq1, 3000, .inl (fun _ => 0))), (q3, .inl (cq3, 710, .inl (fun _ => 0))), (q5, .inl (cq5, 710, .inl (fun _ => 0))), (q7, .inl (cq7, 710, .inl (fun _ => 0))), (q9, .inl (cq9, 710, .inl (fun _ => 0))), (q49, .inl (cq49, 40, .inl (fun _ => 0)))] := hD
  have hP : va_P D vwCl [(h0, .inr (12, fs50)), (q1, .inl (cq1, 3000, .inl (fun _ => 0))), (q3, .inl (cq3, 710, .inl (fun _ => 0))), (q5, .inl (cq5, 710, .inl (fun _ => 0))), (q7, .inl (cq7, 710, .inl (fun _ => 0))), (q9, .inl (cq9, 710, .inl (fun _ => 0)))] H := hP.sub [0, 1, 2, 3, 4, 5] rfl
  have hD : va_D A [(h0, .inr (12, fs50)), (q1, .inl (cq1, 3000, .inl (fun _ => 0))), (q3, .inl (cq3, 710, .inl (fun _ => 0))), (q5, .inl (cq5, 710, .inl (fun _ => 0))), (q7, .inl (cq7, 710, .inl (fun _ => 0))), (q9, .inl (cq9, 710, .inl (fun _ => 0)))] := hD.sub [0, 1, 2, 3, 4, 5] (by decide) rfl
  have hK : va_K D vwCl [(cq1, .byte), (cq3, .int), (cq5, .int), (cq7, .int), (cq9, .int)] s := hK.sub [0, 1, 2, 3, 4] rfl
  refine lv_aload_n hx hb dX12_init_215 rfl (lv_at hl 0 rfl) ?_
  refine lv_bipush (v := 40) hx hb dX12_init_216 (by decide +kernel) ?_
  refine va_newa (atype := .int) (ty := .int) (N' := 40) (a0 := (40, .inl (fun _ => 0))) hx hb (hts (.arrayClass .int) (by decide +kernel)) rfl hK hP hD hS hA (na_int 40) (by decide +kernel) (by decide +kernel) (by decide +kernel) (Nat.le_of_ble_eq_true rfl) (Nat.le_of_ble_eq_true rfl) dX12_init_218 (fun q51 cq51 H hK hP hD hS => ?_)
  have hP : va_P D vwCl [(h0, .inr (12, fs50)), (q1, .inl (cq1, 3000, .inl (fun _ => 0))), (q3, .inl (cq3, 710, .inl (fun _ => 0))), (q5, .inl (cq5, 710, .inl (fun _ => 0))), (q7, .inl (cq7, 710, .inl (fun _ => 0))), (q9, .inl (cq9, 710, .inl (fun _ => 0))), (q51, .inl (cq51, 40, .inl (fun _ => 0)))] H := hP
  have hD : va_D A [(h0, .inr (12, fs50)), (q1, .inl (cq1, 3000, .inl (fun _ => 0))), (q3, .inl (cq3, 710, .inl (fun _ => 0))), (q5, .inl (cq5, 710, .inl (fun _ => 0))), (q7, .inl (cq7, 710, .inl (fun _ => 0))), (q9, .inl (cq9, 710, .inl (fun _ => 0))), (q51, .inl (cq51, 40, .inl (fun _ => 0)))] := hD
  have hK : va_K D vwCl [(cq1, .byte), (cq3, .int), (cq5, .int), (cq7, .int), (cq9, .int), (cq51, .int)] s := hK
  refine W.widen (k := 25) (n := 24228) (Nat.le_of_ble_eq_true rfl) (Nat.le_of_ble_eq_true rfl) ?_
  refine va_put (D := D) (ci := 12) (v := .ref q51) (ty := .array .int) (C := RX12) (T := TX12) (N := 139) hx hb hts i_v_c_Model_init_X12 tyX12 tyX12_ok nmX12 hown hK hP hD hS 0 rfl rfl 45 (by decide) (hts (.fieldLink RX12 91 "ScheduleHouseModel" "knownSlot" "[I") (by decide +kernel)) (fun _ h9 => h9) rfl (by decide +kernel) rfl rfl (kp_lt kfs50 hlen (by decide)) dX12_init_220 (fun H locs hP hD hS => ?_)
  obtain ⟨fs52, hfs52⟩ : ∃ z, z = fs50.set 45 (.ref q51) := ⟨_, rfl⟩
  have kfs52 := kp_s 45 (.ref q51) kfs50
  have gfs52_12 : fs52[12]? = some (.int (-1)) := by rw [hfs52]; exact se_ne gfs50_12 (by decide)
  have gfs52_11 : fs52[11]? = some (.int (-1)) := by rw [hfs52]; exact se_ne gfs50_11 (by decide)
  have gfs52_7 : fs52[7]? = some (.ref q9) := by rw [hfs52]; exact se_ne gfs50_7 (by decide)
  have gfs52_6 : fs52[6]? = some (.ref q7) := by rw [hfs52]; exact se_ne gfs50_6 (by decide)
  have gfs52_5 : fs52[5]? = some (.ref q5) := by rw [hfs52]; exact se_ne gfs50_5 (by decide)
  have gfs52_4 : fs52[4]? = some (.ref q3) := by rw [hfs52]; exact se_ne gfs50_4 (by decide)
  have gfs52_1 : fs52[1]? = some (.ref q1) := by rw [hfs52]; exact se_ne gfs50_1 (by decide)
  rw [← hfs52] at hP hD kfs52
  have hP : va_P D vwCl [(h0, .inr (12, fs52)), (q1, .inl (cq1, 3000, .inl (fun _ => 0))), (q3, .inl (cq3, 710, .inl (fun _ => 0))), (q5, .inl (cq5, 710, .inl (fun _ => 0))), (q7, .inl (cq7, 710, .inl (fun _ => 0))), (q9, .inl (cq9, 710, .inl (fun _ => 0))), (q51, .inl (cq51, 40, .inl (fun _ => 0)))] H := hP
  have hD : va_D A [(h0, .inr (12, fs52)), (q1, .inl (cq1, 3000, .inl (fun _ => 0))), (q3, .inl (cq3, 710, .inl (fun _ => 0))), (q5, .inl (cq5, 710, .inl (fun _ => 0))), (q7, .inl (cq7, 710, .inl (fun _ => 0))), (q9, .inl (cq9, 710, .inl (fun _ => 0))), (q51, .inl (cq51, 40, .inl (fun _ => 0)))] := hD
  have hP : va_P D vwCl [(h0, .inr (12, fs52)), (q1, .inl (cq1, 3000, .inl (fun _ => 0))), (q3, .inl (cq3, 710, .inl (fun _ => 0))), (q5, .inl (cq5, 710, .inl (fun _ => 0))), (q7, .inl (cq7, 710, .inl (fun _ => 0))), (q9, .inl (cq9, 710, .inl (fun _ => 0)))] H := hP.sub [0, 1, 2, 3, 4, 5] rfl
  have hD : va_D A [(h0, .inr (12, fs52)), (q1, .inl (cq1, 3000, .inl (fun _ => 0))), (q3, .inl (cq3, 710, .inl (fun _ => 0))), (q5, .inl (cq5, 710, .inl (fun _ => 0))), (q7, .inl (cq7, 710, .inl (fun _ => 0))), (q9, .inl (cq9, 710, .inl (fun _ => 0)))] := hD.sub [0, 1, 2, 3, 4, 5] (by decide) rfl
  have hK : va_K D vwCl [(cq1, .byte), (cq3, .int), (cq5, .int), (cq7, .int), (cq9, .int)] s := hK.sub [0, 1, 2, 3, 4] rfl
  refine lv_aload_n hx hb dX12_init_223 rfl (lv_at hl 0 rfl) ?_
  refine lv_bipush (v := 40) hx hb dX12_init_224 (by decide +kernel) ?_
  refine va_newa (atype := .int) (ty := .int) (N' := 40) (a0 := (40, .inl (fun _ => 0))) hx hb (hts (.arrayClass .int) (by decide +kernel)) rfl hK hP hD hS hA (na_int 40) (by decide +kernel) (by decide +kernel) (by decide +kernel) (Nat.le_of_ble_eq_true rfl) (Nat.le_of_ble_eq_true rfl) dX12_init_226 (fun q53 cq53 H hK hP hD hS => ?_)
  have hP : va_P D vwCl [(h0, .inr (12, fs52)), (q1, .inl (cq1, 3000, .inl (fun _ => 0))), (q3, .inl (cq3, 710, .inl (fun _ => 0))), (q5, .inl (cq5, 710, .inl (fun _ => 0))), (q7, .inl (cq7, 710, .inl (fun _ => 0))), (q9, .inl (cq9, 710, .inl (fun _ => 0))), (q53, .inl (cq53, 40, .inl (fun _ => 0)))] H := hP
  have hD : va_D A [(h0, .inr (12, fs52)), (q1, .inl (cq1, 3000, .inl (fun _ => 0))), (q3, .inl (cq3, 710, .inl (fun _ => 0))), (q5, .inl (cq5, 710, .inl (fun _ => 0))), (q7, .inl (cq7, 710, .inl (fun _ => 0))), (q9, .inl (cq9, 710, .inl (fun _ => 0))), (q53, .inl (cq53, 40, .inl (fun _ => 0)))] := hD
  have hK : va_K D vwCl [(cq1, .byte), (cq3, .int), (cq5, .int), (cq7, .int), (cq9, .int), (cq53, .int)] s := hK
  refine W.widen (k := 26) (n := 24268) (Nat.le_of_ble_eq_true rfl) (Nat.le_of_ble_eq_true rfl) ?_
  refine va_put (D := D) (ci := 12) (v := .ref q53) (ty := .array .int) (C := RX12) (T := TX12) (N := 139) hx hb hts i_v_c_Model_init_X12 tyX12 tyX12_ok nmX12 hown hK hP hD hS 0 rfl rfl 46 (by decide) (hts (.fieldLink RX12 94 "ScheduleHouseModel" "knownBlock" "[I") (by decide +kernel)) (fun _ h9 => h9) rfl (by decide +kernel) rfl rfl (kp_lt kfs52 hlen (by decide)) dX12_init_228 (fun H locs hP hD hS => ?_)
  obtain ⟨fs54, hfs54⟩ : ∃ z, z = fs52.set 46 (.ref q53) := ⟨_, rfl⟩
  have kfs54 := kp_s 46 (.ref q53) kfs52
  have gfs54_12 : fs54[12]? = some (.int (-1)) := by rw [hfs54]; exact se_ne gfs52_12 (by decide)
  have gfs54_11 : fs54[11]? = some (.int (-1)) := by rw [hfs54]; exact se_ne gfs52_11 (by decide)
  have gfs54_7 : fs54[7]? = some (.ref q9) := by rw [hfs54]; exact se_ne gfs52_7 (by decide)
  have gfs54_6 : fs54[6]? = some (.ref q7) := by rw [hfs54]; exact se_ne gfs52_6 (by decide)
  have gfs54_5 : fs54[5]? = some (.ref q5) := by rw [hfs54]; exact se_ne gfs52_5 (by decide)
  have gfs54_4 : fs54[4]? = some (.ref q3) := by rw [hfs54]; exact se_ne gfs52_4 (by decide)
  have gfs54_1 : fs54[1]? = some (.ref q1) := by rw [hfs54]; exact se_ne gfs52_1 (by decide)
  rw [← hfs54] at hP hD kfs54
  have hP : va_P D vwCl [(h0, .inr (12, fs54)), (q1, .inl (cq1, 3000, .inl (fun _ => 0))), (q3, .inl (cq3, 710, .inl (fun _ => 0))), (q5, .inl (cq5, 710, .inl (fun _ => 0))), (q7, .inl (cq7, 710, .inl (fun _ => 0))), (q9, .inl (cq9, 710, .inl (fun _ => 0))), (q53, .inl (cq53, 40, .inl (fun _ => 0)))] H := hP
  have hD : va_D A [(h0, .inr (12, fs54)), (q1, .inl (cq1, 3000, .inl (fun _ => 0))), (q3, .inl (cq3, 710, .inl (fun _ => 0))), (q5, .inl (cq5, 710, .inl (fun _ => 0))), (q7, .inl (cq7, 710, .inl (fun _ => 0))), (q9, .inl (cq9, 710, .inl (fun _ => 0))), (q53, .inl (cq53, 40, .inl (fun _ => 0)))] := hD
  have hP : va_P D vwCl [(h0, .inr (12, fs54)), (q1, .inl (cq1, 3000, .inl (fun _ => 0))), (q3, .inl (cq3, 710, .inl (fun _ => 0))), (q5, .inl (cq5, 710, .inl (fun _ => 0))), (q7, .inl (cq7, 710, .inl (fun _ => 0))), (q9, .inl (cq9, 710, .inl (fun _ => 0)))] H := hP.sub [0, 1, 2, 3, 4, 5] rfl
  have hD : va_D A [(h0, .inr (12, fs54)), (q1, .inl (cq1, 3000, .inl (fun _ => 0))), (q3, .inl (cq3, 710, .inl (fun _ => 0))), (q5, .inl (cq5, 710, .inl (fun _ => 0))), (q7, .inl (cq7, 710, .inl (fun _ => 0))), (q9, .inl (cq9, 710, .inl (fun _ => 0)))] := hD.sub [0, 1, 2, 3, 4, 5] (by decide) rfl
  have hK : va_K D vwCl [(cq1, .byte), (cq3, .int), (cq5, .int), (cq7, .int), (cq9, .int)] s := hK.sub [0, 1, 2, 3, 4] rfl
  refine lv_aload_n hx hb dX12_init_231 rfl (lv_at hl 0 rfl) ?_
  refine lv_sipush (v := 6000) hx hb dX12_init_232 (by decide +kernel) ?_
  refine va_newa (atype := .int) (ty := .int) (N' := 6000) (a0 := (6000, .inl (fun _ => 0))) hx hb (hts (.arrayClass .int) (by decide +kernel)) rfl hK hP hD hS hA (na_int 6000) (by decide +kernel) (by decide +kernel) (by decide +kernel) (Nat.le_of_ble_eq_true rfl) (Nat.le_of_ble_eq_true rfl) dX12_init_235 (fun q55 cq55 H hK hP hD hS => ?_)
  have hP : va_P D vwCl [(h0, .inr (12, fs54)), (q1, .inl (cq1, 3000, .inl (fun _ => 0))), (q3, .inl (cq3, 710, .inl (fun _ => 0))), (q5, .inl (cq5, 710, .inl (fun _ => 0))), (q7, .inl (cq7, 710, .inl (fun _ => 0))), (q9, .inl (cq9, 710, .inl (fun _ => 0))), (q55, .inl (cq55, 6000, .inl (fun _ => 0)))] H := hP
  have hD : va_D A [(h0, .inr (12, fs54)), (q1, .inl (cq1, 3000, .inl (fun _ => 0))), (q3, .inl (cq3, 710, .inl (fun _ => 0))), (q5, .inl (cq5, 710, .inl (fun _ => 0))), (q7, .inl (cq7, 710, .inl (fun _ => 0))), (q9, .inl (cq9, 710, .inl (fun _ => 0))), (q55, .inl (cq55, 6000, .inl (fun _ => 0)))] := hD
  have hK : va_K D vwCl [(cq1, .byte), (cq3, .int), (cq5, .int), (cq7, .int), (cq9, .int), (cq55, .int)] s := hK
  refine W.widen (k := 27) (n := 30268) (Nat.le_of_ble_eq_true rfl) (Nat.le_of_ble_eq_true rfl) ?_
  refine va_put (D := D) (ci := 12) (v := .ref q55) (ty := .array .int) (C := RX12) (T := TX12) (N := 139) hx hb hts i_v_c_Model_init_X12 tyX12 tyX12_ok nmX12 hown hK hP hD hS 0 rfl rfl 50 (by decide) (hts (.fieldLink RX12 97 "ScheduleHouseModel" "work" "[I") (by decide +kernel)) (fun _ h9 => h9) rfl (by decide +kernel) rfl rfl (kp_lt kfs54 hlen (by decide)) dX12_init_237 (fun H locs hP hD hS => ?_)
  obtain ⟨fs56, hfs56⟩ : ∃ z, z = fs54.set 50 (.ref q55) := ⟨_, rfl⟩
  have kfs56 := kp_s 50 (.ref q55) kfs54
  have gfs56_12 : fs56[12]? = some (.int (-1)) := by rw [hfs56]; exact se_ne gfs54_12 (by decide)
  have gfs56_11 : fs56[11]? = some (.int (-1)) := by rw [hfs56]; exact se_ne gfs54_11 (by decide)
  have gfs56_7 : fs56[7]? = some (.ref q9) := by rw [hfs56]; exact se_ne gfs54_7 (by decide)
  have gfs56_6 : fs56[6]? = some (.ref q7) := by rw [hfs56]; exact se_ne gfs54_6 (by decide)
  have gfs56_5 : fs56[5]? = some (.ref q5) := by rw [hfs56]; exact se_ne gfs54_5 (by decide)
  have gfs56_4 : fs56[4]? = some (.ref q3) := by rw [hfs56]; exact se_ne gfs54_4 (by decide)
  have gfs56_1 : fs56[1]? = some (.ref q1) := by rw [hfs56]; exact se_ne gfs54_1 (by decide)
  rw [← hfs56] at hP hD kfs56
  have hP : va_P D vwCl [(h0, .inr (12, fs56)), (q1, .inl (cq1, 3000, .inl (fun _ => 0))), (q3, .inl (cq3, 710, .inl (fun _ => 0))), (q5, .inl (cq5, 710, .inl (fun _ => 0))), (q7, .inl (cq7, 710, .inl (fun _ => 0))), (q9, .inl (cq9, 710, .inl (fun _ => 0))), (q55, .inl (cq55, 6000, .inl (fun _ => 0)))] H := hP
  have hD : va_D A [(h0, .inr (12, fs56)), (q1, .inl (cq1, 3000, .inl (fun _ => 0))), (q3, .inl (cq3, 710, .inl (fun _ => 0))), (q5, .inl (cq5, 710, .inl (fun _ => 0))), (q7, .inl (cq7, 710, .inl (fun _ => 0))), (q9, .inl (cq9, 710, .inl (fun _ => 0))), (q55, .inl (cq55, 6000, .inl (fun _ => 0)))] := hD
  have hP : va_P D vwCl [(h0, .inr (12, fs56)), (q1, .inl (cq1, 3000, .inl (fun _ => 0))), (q3, .inl (cq3, 710, .inl (fun _ => 0))), (q5, .inl (cq5, 710, .inl (fun _ => 0))), (q7, .inl (cq7, 710, .inl (fun _ => 0))), (q9, .inl (cq9, 710, .inl (fun _ => 0)))] H := hP.sub [0, 1, 2, 3, 4, 5] rfl
  have hD : va_D A [(h0, .inr (12, fs56)), (q1, .inl (cq1, 3000, .inl (fun _ => 0))), (q3, .inl (cq3, 710, .inl (fun _ => 0))), (q5, .inl (cq5, 710, .inl (fun _ => 0))), (q7, .inl (cq7, 710, .inl (fun _ => 0))), (q9, .inl (cq9, 710, .inl (fun _ => 0)))] := hD.sub [0, 1, 2, 3, 4, 5] (by decide) rfl
  have hK : va_K D vwCl [(cq1, .byte), (cq3, .int), (cq5, .int), (cq7, .int), (cq9, .int)] s := hK.sub [0, 1, 2, 3, 4] rfl
  refine lv_aload_n hx hb dX12_init_240 rfl (lv_at hl 0 rfl) ?_
  refine lv_sipush (v := 6000) hx hb dX12_init_241 (by decide +kernel) ?_
  refine va_newa (atype := .int) (ty := .int) (N' := 6000) (a0 := (6000, .inl (fun _ => 0))) hx hb (hts (.arrayClass .int) (by decide +kernel)) rfl hK hP hD hS hA (na_int 6000) (by decide +kernel) (by decide +kernel) (by decide +kernel) (Nat.le_of_ble_eq_true rfl) (Nat.le_of_ble_eq_true rfl) dX12_init_244 (fun q57 cq57 H hK hP hD hS => ?_)
  have hP : va_P D vwCl [(h0, .inr (12, fs56)), (q1, .inl (cq1, 3000, .inl (fun _ => 0))), (q3, .inl (cq3, 710, .inl (fun _ => 0))), (q5, .inl (cq5, 710, .inl (fun _ => 0))), (q7, .inl (cq7, 710, .inl (fun _ => 0))), (q9, .inl (cq9, 710, .inl (fun _ => 0))), (q57, .inl (cq57, 6000, .inl (fun _ => 0)))] H := hP
  have hD : va_D A [(h0, .inr (12, fs56)), (q1, .inl (cq1, 3000, .inl (fun _ => 0))), (q3, .inl (cq3, 710, .inl (fun _ => 0))), (q5, .inl (cq5, 710, .inl (fun _ => 0))), (q7, .inl (cq7, 710, .inl (fun _ => 0))), (q9, .inl (cq9, 710, .inl (fun _ => 0))), (q57, .inl (cq57, 6000, .inl (fun _ => 0)))] := hD
  have hK : va_K D vwCl [(cq1, .byte), (cq3, .int), (cq5, .int), (cq7, .int), (cq9, .int), (cq57, .int)] s := hK
  refine W.widen (k := 28) (n := 36268) (Nat.le_of_ble_eq_true rfl) (Nat.le_of_ble_eq_true rfl) ?_
  refine va_put (D := D) (ci := 12) (v := .ref q57) (ty := .array .int) (C := RX12) (T := TX12) (N := 139) hx hb hts i_v_c_Model_init_X12 tyX12 tyX12_ok nmX12 hown hK hP hD hS 0 rfl rfl 51 (by decide) (hts (.fieldLink RX12 100 "ScheduleHouseModel" "workA" "[I") (by decide +kernel)) (fun _ h9 => h9) rfl (by decide +kernel) rfl rfl (kp_lt kfs56 hlen (by decide)) dX12_init_246 (fun H locs hP hD hS => ?_)
  obtain ⟨fs58, hfs58⟩ : ∃ z, z = fs56.set 51 (.ref q57) := ⟨_, rfl⟩
  have kfs58 := kp_s 51 (.ref q57) kfs56
  have gfs58_12 : fs58[12]? = some (.int (-1)) := by rw [hfs58]; exact se_ne gfs56_12 (by decide)
  have gfs58_11 : fs58[11]? = some (.int (-1)) := by rw [hfs58]; exact se_ne gfs56_11 (by decide)
  have gfs58_7 : fs58[7]? = some (.ref q9) := by rw [hfs58]; exact se_ne gfs56_7 (by decide)
  have gfs58_6 : fs58[6]? = some (.ref q7) := by rw [hfs58]; exact se_ne gfs56_6 (by decide)
  have gfs58_5 : fs58[5]? = some (.ref q5) := by rw [hfs58]; exact se_ne gfs56_5 (by decide)
  have gfs58_4 : fs58[4]? = some (.ref q3) := by rw [hfs58]; exact se_ne gfs56_4 (by decide)
  have gfs58_1 : fs58[1]? = some (.ref q1) := by rw [hfs58]; exact se_ne gfs56_1 (by decide)
  rw [← hfs58] at hP hD kfs58
  have hP : va_P D vwCl [(h0, .inr (12, fs58)), (q1, .inl (cq1, 3000, .inl (fun _ => 0))), (q3, .inl (cq3, 710, .inl (fun _ => 0))), (q5, .inl (cq5, 710, .inl (fun _ => 0))), (q7, .inl (cq7, 710, .inl (fun _ => 0))), (q9, .inl (cq9, 710, .inl (fun _ => 0))), (q57, .inl (cq57, 6000, .inl (fun _ => 0)))] H := hP
  have hD : va_D A [(h0, .inr (12, fs58)), (q1, .inl (cq1, 3000, .inl (fun _ => 0))), (q3, .inl (cq3, 710, .inl (fun _ => 0))), (q5, .inl (cq5, 710, .inl (fun _ => 0))), (q7, .inl (cq7, 710, .inl (fun _ => 0))), (q9, .inl (cq9, 710, .inl (fun _ => 0))), (q57, .inl (cq57, 6000, .inl (fun _ => 0)))] := hD
  have hP : va_P D vwCl [(h0, .inr (12, fs58)), (q1, .inl (cq1, 3000, .inl (fun _ => 0))), (q3, .inl (cq3, 710, .inl (fun _ => 0))), (q5, .inl (cq5, 710, .inl (fun _ => 0))), (q7, .inl (cq7, 710, .inl (fun _ => 0))), (q9, .inl (cq9, 710, .inl (fun _ => 0)))] H := hP.sub [0, 1, 2, 3, 4, 5] rfl
  have hD : va_D A [(h0, .inr (12, fs58)), (q1, .inl (cq1, 3000, .inl (fun _ => 0))), (q3, .inl (cq3, 710, .inl (fun _ => 0))), (q5, .inl (cq5, 710, .inl (fun _ => 0))), (q7, .inl (cq7, 710, .inl (fun _ => 0))), (q9, .inl (cq9, 710, .inl (fun _ => 0)))] := hD.sub [0, 1, 2, 3, 4, 5] (by decide) rfl
  have hK : va_K D vwCl [(cq1, .byte), (cq3, .int), (cq5, .int), (cq7, .int), (cq9, .int)] s := hK.sub [0, 1, 2, 3, 4] rfl
  refine lv_aload_n hx hb dX12_init_249 rfl (lv_at hl 0 rfl) ?_
  refine lv_sipush (v := 1500) hx hb dX12_init_250 (by decide +kernel) ?_
  refine va_newa (atype := .int) (ty := .int) (N' := 1500) (a0 := (1500, .inl (fun _ => 0))) hx hb (hts (.arrayClass .int) (by decide +kernel)) rfl hK hP hD hS hA (na_int 1500) (by decide +kernel) (by decide +kernel) (by decide +kernel) (Nat.le_of_ble_eq_true rfl) (Nat.le_of_ble_eq_true rfl) dX12_init_253 (fun q59 cq59 H hK hP hD hS => ?_)
  have hP : va_P D vwCl [(h0, .inr (12, fs58)), (q1, .inl (cq1, 3000, .inl (fun _ => 0))), (q3, .inl (cq3, 710, .inl (fun _ => 0))), (q5, .inl (cq5, 710, .inl (fun _ => 0))), (q7, .inl (cq7, 710, .inl (fun _ => 0))), (q9, .inl (cq9, 710, .inl (fun _ => 0))), (q59, .inl (cq59, 1500, .inl (fun _ => 0)))] H := hP
  have hD : va_D A [(h0, .inr (12, fs58)), (q1, .inl (cq1, 3000, .inl (fun _ => 0))), (q3, .inl (cq3, 710, .inl (fun _ => 0))), (q5, .inl (cq5, 710, .inl (fun _ => 0))), (q7, .inl (cq7, 710, .inl (fun _ => 0))), (q9, .inl (cq9, 710, .inl (fun _ => 0))), (q59, .inl (cq59, 1500, .inl (fun _ => 0)))] := hD
  have hK : va_K D vwCl [(cq1, .byte), (cq3, .int), (cq5, .int), (cq7, .int), (cq9, .int), (cq59, .int)] s := hK
  refine W.widen (k := 29) (n := 37768) (Nat.le_of_ble_eq_true rfl) (Nat.le_of_ble_eq_true rfl) ?_
  refine va_put (D := D) (ci := 12) (v := .ref q59) (ty := .array .int) (C := RX12) (T := TX12) (N := 139) hx hb hts i_v_c_Model_init_X12 tyX12 tyX12_ok nmX12 hown hK hP hD hS 0 rfl rfl 53 (by decide) (hts (.fieldLink RX12 103 "ScheduleHouseModel" "stepWhat" "[I") (by decide +kernel)) (fun _ h9 => h9) rfl (by decide +kernel) rfl rfl (kp_lt kfs58 hlen (by decide)) dX12_init_255 (fun H locs hP hD hS => ?_)
  obtain ⟨fs60, hfs60⟩ : ∃ z, z = fs58.set 53 (.ref q59) := ⟨_, rfl⟩
  have kfs60 := kp_s 53 (.ref q59) kfs58
  have gfs60_12 : fs60[12]? = some (.int (-1)) := by rw [hfs60]; exact se_ne gfs58_12 (by decide)
  have gfs60_11 : fs60[11]? = some (.int (-1)) := by rw [hfs60]; exact se_ne gfs58_11 (by decide)
  have gfs60_7 : fs60[7]? = some (.ref q9) := by rw [hfs60]; exact se_ne gfs58_7 (by decide)
  have gfs60_6 : fs60[6]? = some (.ref q7) := by rw [hfs60]; exact se_ne gfs58_6 (by decide)
  have gfs60_5 : fs60[5]? = some (.ref q5) := by rw [hfs60]; exact se_ne gfs58_5 (by decide)
  have gfs60_4 : fs60[4]? = some (.ref q3) := by rw [hfs60]; exact se_ne gfs58_4 (by decide)
  have gfs60_1 : fs60[1]? = some (.ref q1) := by rw [hfs60]; exact se_ne gfs58_1 (by decide)
  rw [← hfs60] at hP hD kfs60
  have hP : va_P D vwCl [(h0, .inr (12, fs60)), (q1, .inl (cq1, 3000, .inl (fun _ => 0))), (q3, .inl (cq3, 710, .inl (fun _ => 0))), (q5, .inl (cq5, 710, .inl (fun _ => 0))), (q7, .inl (cq7, 710, .inl (fun _ => 0))), (q9, .inl (cq9, 710, .inl (fun _ => 0))), (q59, .inl (cq59, 1500, .inl (fun _ => 0)))] H := hP
  have hD : va_D A [(h0, .inr (12, fs60)), (q1, .inl (cq1, 3000, .inl (fun _ => 0))), (q3, .inl (cq3, 710, .inl (fun _ => 0))), (q5, .inl (cq5, 710, .inl (fun _ => 0))), (q7, .inl (cq7, 710, .inl (fun _ => 0))), (q9, .inl (cq9, 710, .inl (fun _ => 0))), (q59, .inl (cq59, 1500, .inl (fun _ => 0)))] := hD
  have hP : va_P D vwCl [(h0, .inr (12, fs60)), (q1, .inl (cq1, 3000, .inl (fun _ => 0))), (q3, .inl (cq3, 710, .inl (fun _ => 0))), (q5, .inl (cq5, 710, .inl (fun _ => 0))), (q7, .inl (cq7, 710, .inl (fun _ => 0))), (q9, .inl (cq9, 710, .inl (fun _ => 0)))] H := hP.sub [0, 1, 2, 3, 4, 5] rfl
  have hD : va_D A [(h0, .inr (12, fs60)), (q1, .inl (cq1, 3000, .inl (fun _ => 0))), (q3, .inl (cq3, 710, .inl (fun _ => 0))), (q5, .inl (cq5, 710, .inl (fun _ => 0))), (q7, .inl (cq7, 710, .inl (fun _ => 0))), (q9, .inl (cq9, 710, .inl (fun _ => 0)))] := hD.sub [0, 1, 2, 3, 4, 5] (by decide) rfl
  have hK : va_K D vwCl [(cq1, .byte), (cq3, .int), (cq5, .int), (cq7, .int), (cq9, .int)] s := hK.sub [0, 1, 2, 3, 4] rfl
  refine lv_aload_n hx hb dX12_init_258 rfl (lv_at hl 0 rfl) ?_
  refine lv_sipush (v := 1500) hx hb dX12_init_259 (by decide +kernel) ?_
  refine va_newa (atype := .int) (ty := .int) (N' := 1500) (a0 := (1500, .inl (fun _ => 0))) hx hb (hts (.arrayClass .int) (by decide +kernel)) rfl hK hP hD hS hA (na_int 1500) (by decide +kernel) (by decide +kernel) (by decide +kernel) (Nat.le_of_ble_eq_true rfl) (Nat.le_of_ble_eq_true rfl) dX12_init_262 (fun q61 cq61 H hK hP hD hS => ?_)
  have hP : va_P D vwCl [(h0, .inr (12, fs60)), (q1, .inl (cq1, 3000, .inl (fun _ => 0))), (q3, .inl (cq3, 710, .inl (fun _ => 0))), (q5, .inl (cq5, 710, .inl (fun _ => 0))), (q7, .inl (cq7, 710, .inl (fun _ => 0))), (q9, .inl (cq9, 710, .inl (fun _ => 0))), (q61, .inl (cq61, 1500, .inl (fun _ => 0)))] H := hP
  have hD : va_D A [(h0, .inr (12, fs60)), (q1, .inl (cq1, 3000, .inl (fun _ => 0))), (q3, .inl (cq3, 710, .inl (fun _ => 0))), (q5, .inl (cq5, 710, .inl (fun _ => 0))), (q7, .inl (cq7, 710, .inl (fun _ => 0))), (q9, .inl (cq9, 710, .inl (fun _ => 0))), (q61, .inl (cq61, 1500, .inl (fun _ => 0)))] := hD
  have hK : va_K D vwCl [(cq1, .byte), (cq3, .int), (cq5, .int), (cq7, .int), (cq9, .int), (cq61, .int)] s := hK
  refine W.widen (k := 30) (n := 39268) (Nat.le_of_ble_eq_true rfl) (Nat.le_of_ble_eq_true rfl) ?_
  refine va_put (D := D) (ci := 12) (v := .ref q61) (ty := .array .int) (C := RX12) (T := TX12) (N := 139) hx hb hts i_v_c_Model_init_X12 tyX12 tyX12_ok nmX12 hown hK hP hD hS 0 rfl rfl 54 (by decide) (hts (.fieldLink RX12 106 "ScheduleHouseModel" "stepSort" "[I") (by decide +kernel)) (fun _ h9 => h9) rfl (by decide +kernel) rfl rfl (kp_lt kfs60 hlen (by decide)) dX12_init_264 (fun H locs hP hD hS => ?_)
  obtain ⟨fs62, hfs62⟩ : ∃ z, z = fs60.set 54 (.ref q61) := ⟨_, rfl⟩
  have kfs62 := kp_s 54 (.ref q61) kfs60
  have gfs62_12 : fs62[12]? = some (.int (-1)) := by rw [hfs62]; exact se_ne gfs60_12 (by decide)
  have gfs62_11 : fs62[11]? = some (.int (-1)) := by rw [hfs62]; exact se_ne gfs60_11 (by decide)
  have gfs62_7 : fs62[7]? = some (.ref q9) := by rw [hfs62]; exact se_ne gfs60_7 (by decide)
  have gfs62_6 : fs62[6]? = some (.ref q7) := by rw [hfs62]; exact se_ne gfs60_6 (by decide)
  have gfs62_5 : fs62[5]? = some (.ref q5) := by rw [hfs62]; exact se_ne gfs60_5 (by decide)
  have gfs62_4 : fs62[4]? = some (.ref q3) := by rw [hfs62]; exact se_ne gfs60_4 (by decide)
  have gfs62_1 : fs62[1]? = some (.ref q1) := by rw [hfs62]; exact se_ne gfs60_1 (by decide)
  rw [← hfs62] at hP hD kfs62
  have hP : va_P D vwCl [(h0, .inr (12, fs62)), (q1, .inl (cq1, 3000, .inl (fun _ => 0))), (q3, .inl (cq3, 710, .inl (fun _ => 0))), (q5, .inl (cq5, 710, .inl (fun _ => 0))), (q7, .inl (cq7, 710, .inl (fun _ => 0))), (q9, .inl (cq9, 710, .inl (fun _ => 0))), (q61, .inl (cq61, 1500, .inl (fun _ => 0)))] H := hP
  have hD : va_D A [(h0, .inr (12, fs62)), (q1, .inl (cq1, 3000, .inl (fun _ => 0))), (q3, .inl (cq3, 710, .inl (fun _ => 0))), (q5, .inl (cq5, 710, .inl (fun _ => 0))), (q7, .inl (cq7, 710, .inl (fun _ => 0))), (q9, .inl (cq9, 710, .inl (fun _ => 0))), (q61, .inl (cq61, 1500, .inl (fun _ => 0)))] := hD
  have hP : va_P D vwCl [(h0, .inr (12, fs62)), (q1, .inl (cq1, 3000, .inl (fun _ => 0))), (q3, .inl (cq3, 710, .inl (fun _ => 0))), (q5, .inl (cq5, 710, .inl (fun _ => 0))), (q7, .inl (cq7, 710, .inl (fun _ => 0))), (q9, .inl (cq9, 710, .inl (fun _ => 0)))] H := hP.sub [0, 1, 2, 3, 4, 5] rfl
  have hD : va_D A [(h0, .inr (12, fs62)), (q1, .inl (cq1, 3000, .inl (fun _ => 0))), (q3, .inl (cq3, 710, .inl (fun _ => 0))), (q5, .inl (cq5, 710, .inl (fun _ => 0))), (q7, .inl (cq7, 710, .inl (fun _ => 0))), (q9, .inl (cq9, 710, .inl (fun _ => 0)))] := hD.sub [0, 1, 2, 3, 4, 5] (by decide) rfl
  have hK : va_K D vwCl [(cq1, .byte), (cq3, .int), (cq5, .int), (cq7, .int), (cq9, .int)] s := hK.sub [0, 1, 2, 3, 4] rfl
  refine lv_aload_n hx hb dX12_init_267 rfl (lv_at hl 0 rfl) ?_
  refine lv_sipush (v := 1500) hx hb dX12_init_268 (by decide +kernel) ?_
  refine va_newa (atype := .int) (ty := .int) (N' := 1500) (a0 := (1500, .inl (fun _ => 0))) hx hb (hts (.arrayClass .int) (by decide +kernel)) rfl hK hP hD hS hA (na_int 1500) (by decide +kernel) (by decide +kernel) (by decide +kernel) (Nat.le_of_ble_eq_true rfl) (Nat.le_of_ble_eq_true rfl) dX12_init_271 (fun q63 cq63 H hK hP hD hS => ?_)
  have hP : va_P D vwCl [(h0, .inr (12, fs62)), (q1, .inl (cq1, 3000, .inl (fun _ => 0))), (q3, .inl (cq3, 710, .inl (fun _ => 0))), (q5, .inl (cq5, 710, .inl (fun _ => 0))), (q7, .inl (cq7, 710, .inl (fun _ => 0))), (q9, .inl (cq9, 710, .inl (fun _ => 0))), (q63, .inl (cq63, 1500, .inl (fun _ => 0)))] H := hP
  have hD : va_D A [(h0, .inr (12, fs62)), (q1, .inl (cq1, 3000, .inl (fun _ => 0))), (q3, .inl (cq3, 710, .inl (fun _ => 0))), (q5, .inl (cq5, 710, .inl (fun _ => 0))), (q7, .inl (cq7, 710, .inl (fun _ => 0))), (q9, .inl (cq9, 710, .inl (fun _ => 0))), (q63, .inl (cq63, 1500, .inl (fun _ => 0)))] := hD
  have hK : va_K D vwCl [(cq1, .byte), (cq3, .int), (cq5, .int), (cq7, .int), (cq9, .int), (cq63, .int)] s := hK
  refine W.widen (k := 31) (n := 40768) (Nat.le_of_ble_eq_true rfl) (Nat.le_of_ble_eq_true rfl) ?_
  refine va_put (D := D) (ci := 12) (v := .ref q63) (ty := .array .int) (C := RX12) (T := TX12) (N := 139) hx hb hts i_v_c_Model_init_X12 tyX12 tyX12_ok nmX12 hown hK hP hD hS 0 rfl rfl 55 (by decide) (hts (.fieldLink RX12 109 "ScheduleHouseModel" "stepOf" "[I") (by decide +kernel)) (fun _ h9 => h9) rfl (by decide +kernel) rfl rfl (kp_lt kfs62 hlen (by decide)) dX12_init_273 (fun H locs hP hD hS => ?_)
  obtain ⟨fs64, hfs64⟩ : ∃ z, z = fs62.set 55 (.ref q63) := ⟨_, rfl⟩
  have kfs64 := kp_s 55 (.ref q63) kfs62
  have gfs64_12 : fs64[12]? = some (.int (-1)) := by rw [hfs64]; exact se_ne gfs62_12 (by decide)
  have gfs64_11 : fs64[11]? = some (.int (-1)) := by rw [hfs64]; exact se_ne gfs62_11 (by decide)
  have gfs64_7 : fs64[7]? = some (.ref q9) := by rw [hfs64]; exact se_ne gfs62_7 (by decide)
  have gfs64_6 : fs64[6]? = some (.ref q7) := by rw [hfs64]; exact se_ne gfs62_6 (by decide)
  have gfs64_5 : fs64[5]? = some (.ref q5) := by rw [hfs64]; exact se_ne gfs62_5 (by decide)
  have gfs64_4 : fs64[4]? = some (.ref q3) := by rw [hfs64]; exact se_ne gfs62_4 (by decide)
  have gfs64_1 : fs64[1]? = some (.ref q1) := by rw [hfs64]; exact se_ne gfs62_1 (by decide)
  rw [← hfs64] at hP hD kfs64
  have hP : va_P D vwCl [(h0, .inr (12, fs64)), (q1, .inl (cq1, 3000, .inl (fun _ => 0))), (q3, .inl (cq3, 710, .inl (fun _ => 0))), (q5, .inl (cq5, 710, .inl (fun _ => 0))), (q7, .inl (cq7, 710, .inl (fun _ => 0))), (q9, .inl (cq9, 710, .inl (fun _ => 0))), (q63, .inl (cq63, 1500, .inl (fun _ => 0)))] H := hP
  have hD : va_D A [(h0, .inr (12, fs64)), (q1, .inl (cq1, 3000, .inl (fun _ => 0))), (q3, .inl (cq3, 710, .inl (fun _ => 0))), (q5, .inl (cq5, 710, .inl (fun _ => 0))), (q7, .inl (cq7, 710, .inl (fun _ => 0))), (q9, .inl (cq9, 710, .inl (fun _ => 0))), (q63, .inl (cq63, 1500, .inl (fun _ => 0)))] := hD
  have hP : va_P D vwCl [(h0, .inr (12, fs64)), (q1, .inl (cq1, 3000, .inl (fun _ => 0))), (q3, .inl (cq3, 710, .inl (fun _ => 0))), (q5, .inl (cq5, 710, .inl (fun _ => 0))), (q7, .inl (cq7, 710, .inl (fun _ => 0))), (q9, .inl (cq9, 710, .inl (fun _ => 0)))] H := hP.sub [0, 1, 2, 3, 4, 5] rfl
  have hD : va_D A [(h0, .inr (12, fs64)), (q1, .inl (cq1, 3000, .inl (fun _ => 0))), (q3, .inl (cq3, 710, .inl (fun _ => 0))), (q5, .inl (cq5, 710, .inl (fun _ => 0))), (q7, .inl (cq7, 710, .inl (fun _ => 0))), (q9, .inl (cq9, 710, .inl (fun _ => 0)))] := hD.sub [0, 1, 2, 3, 4, 5] (by decide) rfl
  have hK : va_K D vwCl [(cq1, .byte), (cq3, .int), (cq5, .int), (cq7, .int), (cq9, .int)] s := hK.sub [0, 1, 2, 3, 4] rfl
  refine lv_aload_n hx hb dX12_init_276 rfl (lv_at hl 0 rfl) ?_
  refine lv_sipush (v := 1500) hx hb dX12_init_277 (by decide +kernel) ?_
  refine va_newa (atype := .int) (ty := .int) (N' := 1500) (a0 := (1500, .inl (fun _ => 0))) hx hb (hts (.arrayClass .int) (by decide +kernel)) rfl hK hP hD hS hA (na_int 1500) (by decide +kernel) (by decide +kernel) (by decide +kernel) (Nat.le_of_ble_eq_true rfl) (Nat.le_of_ble_eq_true rfl) dX12_init_280 (fun q65 cq65 H hK hP hD hS => ?_)
  have hP : va_P D vwCl [(h0, .inr (12, fs64)), (q1, .inl (cq1, 3000, .inl (fun _ => 0))), (q3, .inl (cq3, 710, .inl (fun _ => 0))), (q5, .inl (cq5, 710, .inl (fun _ => 0))), (q7, .inl (cq7, 710, .inl (fun _ => 0))), (q9, .inl (cq9, 710, .inl (fun _ => 0))), (q65, .inl (cq65, 1500, .inl (fun _ => 0)))] H := hP
  have hD : va_D A [(h0, .inr (12, fs64)), (q1, .inl (cq1, 3000, .inl (fun _ => 0))), (q3, .inl (cq3, 710, .inl (fun _ => 0))), (q5, .inl (cq5, 710, .inl (fun _ => 0))), (q7, .inl (cq7, 710, .inl (fun _ => 0))), (q9, .inl (cq9, 710, .inl (fun _ => 0))), (q65, .inl (cq65, 1500, .inl (fun _ => 0)))] := hD
  have hK : va_K D vwCl [(cq1, .byte), (cq3, .int), (cq5, .int), (cq7, .int), (cq9, .int), (cq65, .int)] s := hK
  refine W.widen (k := 32) (n := 42268) (Nat.le_of_ble_eq_true rfl) (Nat.le_of_ble_eq_true rfl) ?_
  refine va_put (D := D) (ci := 12) (v := .ref q65) (ty := .array .int) (C := RX12) (T := TX12) (N := 139) hx hb hts i_v_c_Model_init_X12 tyX12 tyX12_ok nmX12 hown hK hP hD hS 0 rfl rfl 56 (by decide) (hts (.fieldLink RX12 112 "ScheduleHouseModel" "stepSize" "[I") (by decide +kernel)) (fun _ h9 => h9) rfl (by decide +kernel) rfl rfl (kp_lt kfs64 hlen (by decide)) dX12_init_282 (fun H locs hP hD hS => ?_)
  obtain ⟨fs66, hfs66⟩ : ∃ z, z = fs64.set 56 (.ref q65) := ⟨_, rfl⟩
  have kfs66 := kp_s 56 (.ref q65) kfs64
  have gfs66_12 : fs66[12]? = some (.int (-1)) := by rw [hfs66]; exact se_ne gfs64_12 (by decide)
  have gfs66_11 : fs66[11]? = some (.int (-1)) := by rw [hfs66]; exact se_ne gfs64_11 (by decide)
  have gfs66_7 : fs66[7]? = some (.ref q9) := by rw [hfs66]; exact se_ne gfs64_7 (by decide)
  have gfs66_6 : fs66[6]? = some (.ref q7) := by rw [hfs66]; exact se_ne gfs64_6 (by decide)
  have gfs66_5 : fs66[5]? = some (.ref q5) := by rw [hfs66]; exact se_ne gfs64_5 (by decide)
  have gfs66_4 : fs66[4]? = some (.ref q3) := by rw [hfs66]; exact se_ne gfs64_4 (by decide)
  have gfs66_1 : fs66[1]? = some (.ref q1) := by rw [hfs66]; exact se_ne gfs64_1 (by decide)
  rw [← hfs66] at hP hD kfs66
  have hP : va_P D vwCl [(h0, .inr (12, fs66)), (q1, .inl (cq1, 3000, .inl (fun _ => 0))), (q3, .inl (cq3, 710, .inl (fun _ => 0))), (q5, .inl (cq5, 710, .inl (fun _ => 0))), (q7, .inl (cq7, 710, .inl (fun _ => 0))), (q9, .inl (cq9, 710, .inl (fun _ => 0))), (q65, .inl (cq65, 1500, .inl (fun _ => 0)))] H := hP
  have hD : va_D A [(h0, .inr (12, fs66)), (q1, .inl (cq1, 3000, .inl (fun _ => 0))), (q3, .inl (cq3, 710, .inl (fun _ => 0))), (q5, .inl (cq5, 710, .inl (fun _ => 0))), (q7, .inl (cq7, 710, .inl (fun _ => 0))), (q9, .inl (cq9, 710, .inl (fun _ => 0))), (q65, .inl (cq65, 1500, .inl (fun _ => 0)))] := hD
  have hP : va_P D vwCl [(h0, .inr (12, fs66)), (q1, .inl (cq1, 3000, .inl (fun _ => 0))), (q3, .inl (cq3, 710, .inl (fun _ => 0))), (q5, .inl (cq5, 710, .inl (fun _ => 0))), (q7, .inl (cq7, 710, .inl (fun _ => 0))), (q9, .inl (cq9, 710, .inl (fun _ => 0)))] H := hP.sub [0, 1, 2, 3, 4, 5] rfl
  have hD : va_D A [(h0, .inr (12, fs66)), (q1, .inl (cq1, 3000, .inl (fun _ => 0))), (q3, .inl (cq3, 710, .inl (fun _ => 0))), (q5, .inl (cq5, 710, .inl (fun _ => 0))), (q7, .inl (cq7, 710, .inl (fun _ => 0))), (q9, .inl (cq9, 710, .inl (fun _ => 0)))] := hD.sub [0, 1, 2, 3, 4, 5] (by decide) rfl
  have hK : va_K D vwCl [(cq1, .byte), (cq3, .int), (cq5, .int), (cq7, .int), (cq9, .int)] s := hK.sub [0, 1, 2, 3, 4] rfl
  refine lv_aload_n hx hb dX12_init_285 rfl (lv_at hl 0 rfl) ?_
  refine lv_sipush (v := 1500) hx hb dX12_init_286 (by decide +kernel) ?_
  refine va_newa (atype := .int) (ty := .int) (N' := 1500) (a0 := (1500, .inl (fun _ => 0))) hx hb (hts (.arrayClass .int) (by decide +kernel)) rfl hK hP hD hS hA (na_int 1500) (by decide +kernel) (by decide +kernel) (by decide +kernel) (Nat.le_of_ble_eq_true rfl) (Nat.le_of_ble_eq_true rfl) dX12_init_289 (fun q67 cq67 H hK hP hD hS => ?_)
  have hP : va_P D vwCl [(h0, .inr (12, fs66)), (q1, .inl (cq1, 3000, .inl (fun _ => 0))), (q3, .inl (cq3, 710, .inl (fun _ => 0))), (q5, .inl (cq5, 710, .inl (fun _ => 0))), (q7, .inl (cq7, 710, .inl (fun _ => 0))), (q9, .inl (cq9, 710, .inl (fun _ => 0))), (q67, .inl (cq67, 1500, .inl (fun _ => 0)))] H := hP
  have hD : va_D A [(h0, .inr (12, fs66)), (q1, .inl (cq1, 3000, .inl (fun _ => 0))), (q3, .inl (cq3, 710, .inl (fun _ => 0))), (q5, .inl (cq5, 710, .inl (fun _ => 0))), (q7, .inl (cq7, 710, .inl (fun _ => 0))), (q9, .inl (cq9, 710, .inl (fun _ => 0))), (q67, .inl (cq67, 1500, .inl (fun _ => 0)))] := hD
  have hK : va_K D vwCl [(cq1, .byte), (cq3, .int), (cq5, .int), (cq7, .int), (cq9, .int), (cq67, .int)] s := hK
  refine W.widen (k := 33) (n := 43768) (Nat.le_of_ble_eq_true rfl) (Nat.le_of_ble_eq_true rfl) ?_
  refine va_put (D := D) (ci := 12) (v := .ref q67) (ty := .array .int) (C := RX12) (T := TX12) (N := 139) hx hb hts i_v_c_Model_init_X12 tyX12 tyX12_ok nmX12 hown hK hP hD hS 0 rfl rfl 57 (by decide) (hts (.fieldLink RX12 115 "ScheduleHouseModel" "stepAt" "[I") (by decide +kernel)) (fun _ h9 => h9) rfl (by decide +kernel) rfl rfl (kp_lt kfs66 hlen (by decide)) dX12_init_291 (fun H locs hP hD hS => ?_)
  obtain ⟨fs68, hfs68⟩ : ∃ z, z = fs66.set 57 (.ref q67) := ⟨_, rfl⟩
  have kfs68 := kp_s 57 (.ref q67) kfs66
  have gfs68_12 : fs68[12]? = some (.int (-1)) := by rw [hfs68]; exact se_ne gfs66_12 (by decide)
  have gfs68_11 : fs68[11]? = some (.int (-1)) := by rw [hfs68]; exact se_ne gfs66_11 (by decide)
  have gfs68_7 : fs68[7]? = some (.ref q9) := by rw [hfs68]; exact se_ne gfs66_7 (by decide)
  have gfs68_6 : fs68[6]? = some (.ref q7) := by rw [hfs68]; exact se_ne gfs66_6 (by decide)
  have gfs68_5 : fs68[5]? = some (.ref q5) := by rw [hfs68]; exact se_ne gfs66_5 (by decide)
  have gfs68_4 : fs68[4]? = some (.ref q3) := by rw [hfs68]; exact se_ne gfs66_4 (by decide)
  have gfs68_1 : fs68[1]? = some (.ref q1) := by rw [hfs68]; exact se_ne gfs66_1 (by decide)
  rw [← hfs68] at hP hD kfs68
  have hP : va_P D vwCl [(h0, .inr (12, fs68)), (q1, .inl (cq1, 3000, .inl (fun _ => 0))), (q3, .inl (cq3, 710, .inl (fun _ => 0))), (q5, .inl (cq5, 710, .inl (fun _ => 0))), (q7, .inl (cq7, 710, .inl (fun _ => 0))), (q9, .inl (cq9, 710, .inl (fun _ => 0))), (q67, .inl (cq67, 1500, .inl (fun _ => 0)))] H := hP
  have hD : va_D A [(h0, .inr (12, fs68)), (q1, .inl (cq1, 3000, .inl (fun _ => 0))), (q3, .inl (cq3, 710, .inl (fun _ => 0))), (q5, .inl (cq5, 710, .inl (fun _ => 0))), (q7, .inl (cq7, 710, .inl (fun _ => 0))), (q9, .inl (cq9, 710, .inl (fun _ => 0))), (q67, .inl (cq67, 1500, .inl (fun _ => 0)))] := hD
  have hP : va_P D vwCl [(h0, .inr (12, fs68)), (q1, .inl (cq1, 3000, .inl (fun _ => 0))), (q3, .inl (cq3, 710, .inl (fun _ => 0))), (q5, .inl (cq5, 710, .inl (fun _ => 0))), (q7, .inl (cq7, 710, .inl (fun _ => 0))), (q9, .inl (cq9, 710, .inl (fun _ => 0)))] H := hP.sub [0, 1, 2, 3, 4, 5] rfl
  have hD : va_D A [(h0, .inr (12, fs68)), (q1, .inl (cq1, 3000, .inl (fun _ => 0))), (q3, .inl (cq3, 710, .inl (fun _ => 0))), (q5, .inl (cq5, 710, .inl (fun _ => 0))), (q7, .inl (cq7, 710, .inl (fun _ => 0))), (q9, .inl (cq9, 710, .inl (fun _ => 0)))] := hD.sub [0, 1, 2, 3, 4, 5] (by decide) rfl
  have hK : va_K D vwCl [(cq1, .byte), (cq3, .int), (cq5, .int), (cq7, .int), (cq9, .int)] s := hK.sub [0, 1, 2, 3, 4] rfl
  refine lv_aload_n hx hb dX12_init_294 rfl (lv_at hl 0 rfl) ?_
  refine lv_sipush (v := 1500) hx hb dX12_init_295 (by decide +kernel) ?_
  refine va_newa (atype := .int) (ty := .int) (N' := 1500) (a0 := (1500, .inl (fun _ => 0))) hx hb (hts (.arrayClass .int) (by decide +kernel)) rfl hK hP hD hS hA (na_int 1500) (by decide +kernel) (by decide +kernel) (by decide +kernel) (Nat.le_of_ble_eq_true rfl) (Nat.le_of_ble_eq_true rfl) dX12_init_298 (fun q69 cq69 H hK hP hD hS => ?_)
  have hP : va_P D vwCl [(h0, .inr (12, fs68)), (q1, .inl (cq1, 3000, .inl (fun _ => 0))), (q3, .inl (cq3, 710, .inl (fun _ => 0))), (q5, .inl (cq5, 710, .inl (fun _ => 0))), (q7, .inl (cq7, 710, .inl (fun _ => 0))), (q9, .inl (cq9, 710, .inl (fun _ => 0))), (q69, .inl (cq69, 1500, .inl (fun _ => 0)))] H := hP
  have hD : va_D A [(h0, .inr (12, fs68)), (q1, .inl (cq1, 3000, .inl (fun _ => 0))), (q3, .inl (cq3, 710, .inl (fun _ => 0))), (q5, .inl (cq5, 710, .inl (fun _ => 0))), (q7, .inl (cq7, 710, .inl (fun _ => 0))), (q9, .inl (cq9, 710, .inl (fun _ => 0))), (q69, .inl (cq69, 1500, .inl (fun _ => 0)))] := hD
  have hK : va_K D vwCl [(cq1, .byte), (cq3, .int), (cq5, .int), (cq7, .int), (cq9, .int), (cq69, .int)] s := hK
  refine W.widen (k := 34) (n := 45268) (Nat.le_of_ble_eq_true rfl) (Nat.le_of_ble_eq_true rfl) ?_
  refine va_put (D := D) (ci := 12) (v := .ref q69) (ty := .array .int) (C := RX12) (T := TX12) (N := 139) hx hb hts i_v_c_Model_init_X12 tyX12 tyX12_ok nmX12 hown hK hP hD hS 0 rfl rfl 58 (by decide) (hts (.fieldLink RX12 118 "ScheduleHouseModel" "stepE" "[I") (by decide +kernel)) (fun _ h9 => h9) rfl (by decide +kernel) rfl rfl (kp_lt kfs68 hlen (by decide)) dX12_init_300 (fun H locs hP hD hS => ?_)
  obtain ⟨fs70, hfs70⟩ : ∃ z, z = fs68.set 58 (.ref q69) := ⟨_, rfl⟩
  have kfs70 := kp_s 58 (.ref q69) kfs68
  have gfs70_12 : fs70[12]? = some (.int (-1)) := by rw [hfs70]; exact se_ne gfs68_12 (by decide)
  have gfs70_11 : fs70[11]? = some (.int (-1)) := by rw [hfs70]; exact se_ne gfs68_11 (by decide)
  have gfs70_7 : fs70[7]? = some (.ref q9) := by rw [hfs70]; exact se_ne gfs68_7 (by decide)
  have gfs70_6 : fs70[6]? = some (.ref q7) := by rw [hfs70]; exact se_ne gfs68_6 (by decide)
  have gfs70_5 : fs70[5]? = some (.ref q5) := by rw [hfs70]; exact se_ne gfs68_5 (by decide)
  have gfs70_4 : fs70[4]? = some (.ref q3) := by rw [hfs70]; exact se_ne gfs68_4 (by decide)
  have gfs70_1 : fs70[1]? = some (.ref q1) := by rw [hfs70]; exact se_ne gfs68_1 (by decide)
  rw [← hfs70] at hP hD kfs70
  have hP : va_P D vwCl [(h0, .inr (12, fs70)), (q1, .inl (cq1, 3000, .inl (fun _ => 0))), (q3, .inl (cq3, 710, .inl (fun _ => 0))), (q5, .inl (cq5, 710, .inl (fun _ => 0))), (q7, .inl (cq7, 710, .inl (fun _ => 0))), (q9, .inl (cq9, 710, .inl (fun _ => 0))), (q69, .inl (cq69, 1500, .inl (fun _ => 0)))] H := hP
  have hD : va_D A [(h0, .inr (12, fs70)), (q1, .inl (cq1, 3000, .inl (fun _ => 0))), (q3, .inl (cq3, 710, .inl (fun _ => 0))), (q5, .inl (cq5, 710, .inl (fun _ => 0))), (q7, .inl (cq7, 710, .inl (fun _ => 0))), (q9, .inl (cq9, 710, .inl (fun _ => 0))), (q69, .inl (cq69, 1500, .inl (fun _ => 0)))] := hD
  have hP : va_P D vwCl [(h0, .inr (12, fs70)), (q1, .inl (cq1, 3000, .inl (fun _ => 0))), (q3, .inl (cq3, 710, .inl (fun _ => 0))), (q5, .inl (cq5, 710, .inl (fun _ => 0))), (q7, .inl (cq7, 710, .inl (fun _ => 0))), (q9, .inl (cq9, 710, .inl (fun _ => 0)))] H := hP.sub [0, 1, 2, 3, 4, 5] rfl
  have hD : va_D A [(h0, .inr (12, fs70)), (q1, .inl (cq1, 3000, .inl (fun _ => 0))), (q3, .inl (cq3, 710, .inl (fun _ => 0))), (q5, .inl (cq5, 710, .inl (fun _ => 0))), (q7, .inl (cq7, 710, .inl (fun _ => 0))), (q9, .inl (cq9, 710, .inl (fun _ => 0)))] := hD.sub [0, 1, 2, 3, 4, 5] (by decide) rfl
  have hK : va_K D vwCl [(cq1, .byte), (cq3, .int), (cq5, .int), (cq7, .int), (cq9, .int)] s := hK.sub [0, 1, 2, 3, 4] rfl
  refine lv_aload_n hx hb dX12_init_303 rfl (lv_at hl 0 rfl) ?_
  refine lv_sipush (v := 1500) hx hb dX12_init_304 (by decide +kernel) ?_
  refine va_newa (atype := .int) (ty := .int) (N' := 1500) (a0 := (1500, .inl (fun _ => 0))) hx hb (hts (.arrayClass .int) (by decide +kernel)) rfl hK hP hD hS hA (na_int 1500) (by decide +kernel) (by decide +kernel) (by decide +kernel) (Nat.le_of_ble_eq_true rfl) (Nat.le_of_ble_eq_true rfl) dX12_init_307 (fun q71 cq71 H hK hP hD hS => ?_)
  have hP : va_P D vwCl [(h0, .inr (12, fs70)), (q1, .inl (cq1, 3000, .inl (fun _ => 0))), (q3, .inl (cq3, 710, .inl (fun _ => 0))), (q5, .inl (cq5, 710, .inl (fun _ => 0))), (q7, .inl (cq7, 710, .inl (fun _ => 0))), (q9, .inl (cq9, 710, .inl (fun _ => 0))), (q71, .inl (cq71, 1500, .inl (fun _ => 0)))] H := hP
  have hD : va_D A [(h0, .inr (12, fs70)), (q1, .inl (cq1, 3000, .inl (fun _ => 0))), (q3, .inl (cq3, 710, .inl (fun _ => 0))), (q5, .inl (cq5, 710, .inl (fun _ => 0))), (q7, .inl (cq7, 710, .inl (fun _ => 0))), (q9, .inl (cq9, 710, .inl (fun _ => 0))), (q71, .inl (cq71, 1500, .inl (fun _ => 0)))] := hD
  have hK : va_K D vwCl [(cq1, .byte), (cq3, .int), (cq5, .int), (cq7, .int), (cq9, .int), (cq71, .int)] s := hK
  refine W.widen (k := 35) (n := 46768) (Nat.le_of_ble_eq_true rfl) (Nat.le_of_ble_eq_true rfl) ?_
  refine va_put (D := D) (ci := 12) (v := .ref q71) (ty := .array .int) (C := RX12) (T := TX12) (N := 139) hx hb hts i_v_c_Model_init_X12 tyX12 tyX12_ok nmX12 hown hK hP hD hS 0 rfl rfl 59 (by decide) (hts (.fieldLink RX12 121 "ScheduleHouseModel" "stepF" "[I") (by decide +kernel)) (fun _ h9 => h9) rfl (by decide +kernel) rfl rfl (kp_lt kfs70 hlen (by decide)) dX12_init_309 (fun H locs hP hD hS => ?_)
  obtain ⟨fs72, hfs72⟩ : ∃ z, z = fs70.set 59 (.ref q71) := ⟨_, rfl⟩
  have kfs72 := kp_s 59 (.ref q71) kfs70
  have gfs72_12 : fs72[12]? = some (.int (-1)) := by rw [hfs72]; exact se_ne gfs70_12 (by decide)
  have gfs72_11 : fs72[11]? = some (.int (-1)) := by rw [hfs72]; exact se_ne gfs70_11 (by decide)
  have gfs72_7 : fs72[7]? = some (.ref q9) := by rw [hfs72]; exact se_ne gfs70_7 (by decide)
  have gfs72_6 : fs72[6]? = some (.ref q7) := by rw [hfs72]; exact se_ne gfs70_6 (by decide)
  have gfs72_5 : fs72[5]? = some (.ref q5) := by rw [hfs72]; exact se_ne gfs70_5 (by decide)
  have gfs72_4 : fs72[4]? = some (.ref q3) := by rw [hfs72]; exact se_ne gfs70_4 (by decide)
  have gfs72_1 : fs72[1]? = some (.ref q1) := by rw [hfs72]; exact se_ne gfs70_1 (by decide)
  rw [← hfs72] at hP hD kfs72
  have hP : va_P D vwCl [(h0, .inr (12, fs72)), (q1, .inl (cq1, 3000, .inl (fun _ => 0))), (q3, .inl (cq3, 710, .inl (fun _ => 0))), (q5, .inl (cq5, 710, .inl (fun _ => 0))), (q7, .inl (cq7, 710, .inl (fun _ => 0))), (q9, .inl (cq9, 710, .inl (fun _ => 0))), (q71, .inl (cq71, 1500, .inl (fun _ => 0)))] H := hP
  have hD : va_D A [(h0, .inr (12, fs72)), (q1, .inl (cq1, 3000, .inl (fun _ => 0))), (q3, .inl (cq3, 710, .inl (fun _ => 0))), (q5, .inl (cq5, 710, .inl (fun _ => 0))), (q7, .inl (cq7, 710, .inl (fun _ => 0))), (q9, .inl (cq9, 710, .inl (fun _ => 0))), (q71, .inl (cq71, 1500, .inl (fun _ => 0)))] := hD
  have hP : va_P D vwCl [(h0, .inr (12, fs72)), (q1, .inl (cq1, 3000, .inl (fun _ => 0))), (q3, .inl (cq3, 710, .inl (fun _ => 0))), (q5, .inl (cq5, 710, .inl (fun _ => 0))), (q7, .inl (cq7, 710, .inl (fun _ => 0))), (q9, .inl (cq9, 710, .inl (fun _ => 0)))] H := hP.sub [0, 1, 2, 3, 4, 5] rfl
  have hD : va_D A [(h0, .inr (12, fs72)), (q1, .inl (cq1, 3000, .inl (fun _ => 0))), (q3, .inl (cq3, 710, .inl (fun _ => 0))), (q5, .inl (cq5, 710, .inl (fun _ => 0))), (q7, .inl (cq7, 710, .inl (fun _ => 0))), (q9, .inl (cq9, 710, .inl (fun _ => 0)))] := hD.sub [0, 1, 2, 3, 4, 5] (by decide) rfl
  have hK : va_K D vwCl [(cq1, .byte), (cq3, .int), (cq5, .int), (cq7, .int), (cq9, .int)] s := hK.sub [0, 1, 2, 3, 4] rfl
  refine lv_aload_n hx hb dX12_init_312 rfl (lv_at hl 0 rfl) ?_
  refine lv_sipush (v := 1500) hx hb dX12_init_313 (by decide +kernel) ?_
  refine va_newa (atype := .int) (ty := .int) (N' := 1500) (a0 := (1500, .inl (fun _ => 0))) hx hb (hts (.arrayClass .int) (by decide +kernel)) rfl hK hP hD hS hA (na_int 1500) (by decide +kernel) (by decide +kernel) (by decide +kernel) (Nat.le_of_ble_eq_true rfl) (Nat.le_of_ble_eq_true rfl) dX12_init_316 (fun q73 cq73 H hK hP hD hS => ?_)
  have hP : va_P D vwCl [(h0, .inr (12, fs72)), (q1, .inl (cq1, 3000, .inl (fun _ => 0))), (q3, .inl (cq3, 710, .inl (fun _ => 0))), (q5, .inl (cq5, 710, .inl (fun _ => 0))), (q7, .inl (cq7, 710, .inl (fun _ => 0))), (q9, .inl (cq9, 710, .inl (fun _ => 0))), (q73, .inl (cq73, 1500, .inl (fun _ => 0)))] H := hP
  have hD : va_D A [(h0, .inr (12, fs72)), (q1, .inl (cq1, 3000, .inl (fun _ => 0))), (q3, .inl (cq3, 710, .inl (fun _ => 0))), (q5, .inl (cq5, 710, .inl (fun _ => 0))), (q7, .inl (cq7, 710, .inl (fun _ => 0))), (q9, .inl (cq9, 710, .inl (fun _ => 0))), (q73, .inl (cq73, 1500, .inl (fun _ => 0)))] := hD
  have hK : va_K D vwCl [(cq1, .byte), (cq3, .int), (cq5, .int), (cq7, .int), (cq9, .int), (cq73, .int)] s := hK
  refine W.widen (k := 36) (n := 48268) (Nat.le_of_ble_eq_true rfl) (Nat.le_of_ble_eq_true rfl) ?_
  refine va_put (D := D) (ci := 12) (v := .ref q73) (ty := .array .int) (C := RX12) (T := TX12) (N := 139) hx hb hts i_v_c_Model_init_X12 tyX12 tyX12_ok nmX12 hown hK hP hD hS 0 rfl rfl 60 (by decide) (hts (.fieldLink RX12 124 "ScheduleHouseModel" "stepTo" "[I") (by decide +kernel)) (fun _ h9 => h9) rfl (by decide +kernel) rfl rfl (kp_lt kfs72 hlen (by decide)) dX12_init_318 (fun H locs hP hD hS => ?_)
  obtain ⟨fs74, hfs74⟩ : ∃ z, z = fs72.set 60 (.ref q73) := ⟨_, rfl⟩
  have kfs74 := kp_s 60 (.ref q73) kfs72
  have gfs74_12 : fs74[12]? = some (.int (-1)) := by rw [hfs74]; exact se_ne gfs72_12 (by decide)
  have gfs74_11 : fs74[11]? = some (.int (-1)) := by rw [hfs74]; exact se_ne gfs72_11 (by decide)
  have gfs74_7 : fs74[7]? = some (.ref q9) := by rw [hfs74]; exact se_ne gfs72_7 (by decide)
  have gfs74_6 : fs74[6]? = some (.ref q7) := by rw [hfs74]; exact se_ne gfs72_6 (by decide)
  have gfs74_5 : fs74[5]? = some (.ref q5) := by rw [hfs74]; exact se_ne gfs72_5 (by decide)
  have gfs74_4 : fs74[4]? = some (.ref q3) := by rw [hfs74]; exact se_ne gfs72_4 (by decide)
  have gfs74_1 : fs74[1]? = some (.ref q1) := by rw [hfs74]; exact se_ne gfs72_1 (by decide)
  rw [← hfs74] at hP hD kfs74
  have hP : va_P D vwCl [(h0, .inr (12, fs74)), (q1, .inl (cq1, 3000, .inl (fun _ => 0))), (q3, .inl (cq3, 710, .inl (fun _ => 0))), (q5, .inl (cq5, 710, .inl (fun _ => 0))), (q7, .inl (cq7, 710, .inl (fun _ => 0))), (q9, .inl (cq9, 710, .inl (fun _ => 0))), (q73, .inl (cq73, 1500, .inl (fun _ => 0)))] H := hP
  have hD : va_D A [(h0, .inr (12, fs74)), (q1, .inl (cq1, 3000, .inl (fun _ => 0))), (q3, .inl (cq3, 710, .inl (fun _ => 0))), (q5, .inl (cq5, 710, .inl (fun _ => 0))), (q7, .inl (cq7, 710, .inl (fun _ => 0))), (q9, .inl (cq9, 710, .inl (fun _ => 0))), (q73, .inl (cq73, 1500, .inl (fun _ => 0)))] := hD
  have hP : va_P D vwCl [(h0, .inr (12, fs74)), (q1, .inl (cq1, 3000, .inl (fun _ => 0))), (q3, .inl (cq3, 710, .inl (fun _ => 0))), (q5, .inl (cq5, 710, .inl (fun _ => 0))), (q7, .inl (cq7, 710, .inl (fun _ => 0))), (q9, .inl (cq9, 710, .inl (fun _ => 0)))] H := hP.sub [0, 1, 2, 3, 4, 5] rfl
  have hD : va_D A [(h0, .inr (12, fs74)), (q1, .inl (cq1, 3000, .inl (fun _ => 0))), (q3, .inl (cq3, 710, .inl (fun _ => 0))), (q5, .inl (cq5, 710, .inl (fun _ => 0))), (q7, .inl (cq7, 710, .inl (fun _ => 0))), (q9, .inl (cq9, 710, .inl (fun _ => 0)))] := hD.sub [0, 1, 2, 3, 4, 5] (by decide) rfl
  have hK : va_K D vwCl [(cq1, .byte), (cq3, .int), (cq5, .int), (cq7, .int), (cq9, .int)] s := hK.sub [0, 1, 2, 3, 4] rfl
  refine lv_aload_n hx hb dX12_init_321 rfl (lv_at hl 0 rfl) ?_
  refine lv_sipush (v := 1500) hx hb dX12_init_322 (by decide +kernel) ?_
  refine va_newa (atype := .int) (ty := .int) (N' := 1500) (a0 := (1500, .inl (fun _ => 0))) hx hb (hts (.arrayClass .int) (by decide +kernel)) rfl hK hP hD hS hA (na_int 1500) (by decide +kernel) (by decide +kernel) (by decide +kernel) (Nat.le_of_ble_eq_true rfl) (Nat.le_of_ble_eq_true rfl) dX12_init_325 (fun q75 cq75 H hK hP hD hS => ?_)
  have hP : va_P D vwCl [(h0, .inr (12, fs74)), (q1, .inl (cq1, 3000, .inl (fun _ => 0))), (q3, .inl (cq3, 710, .inl (fun _ => 0))), (q5, .inl (cq5, 710, .inl (fun _ => 0))), (q7, .inl (cq7, 710, .inl (fun _ => 0))), (q9, .inl (cq9, 710, .inl (fun _ => 0))), (q75, .inl (cq75, 1500, .inl (fun _ => 0)))] H := hP
  have hD : va_D A [(h0, .inr (12, fs74)), (q1, .inl (cq1, 3000, .inl (fun _ => 0))), (q3, .inl (cq3, 710, .inl (fun _ => 0))), (q5, .inl (cq5, 710, .inl (fun _ => 0))), (q7, .inl (cq7, 710, .inl (fun _ => 0))), (q9, .inl (cq9, 710, .inl (fun _ => 0))), (q75, .inl (cq75, 1500, .inl (fun _ => 0)))] := hD
  have hK : va_K D vwCl [(cq1, .byte), (cq3, .int), (cq5, .int), (cq7, .int), (cq9, .int), (cq75, .int)] s := hK
  refine W.widen (k := 37) (n := 49768) (Nat.le_of_ble_eq_true rfl) (Nat.le_of_ble_eq_true rfl) ?_
  refine va_put (D := D) (ci := 12) (v := .ref q75) (ty := .array .int) (C := RX12) (T := TX12) (N := 139) hx hb hts i_v_c_Model_init_X12 tyX12 tyX12_ok nmX12 hown hK hP hD hS 0 rfl rfl 61 (by decide) (hts (.fieldLink RX12 127 "ScheduleHouseModel" "stepKnown" "[I") (by decide +kernel)) (fun _ h9 => h9) rfl (by decide +kernel) rfl rfl (kp_lt kfs74 hlen (by decide)) dX12_init_327 (fun H locs hP hD hS => ?_)
  obtain ⟨fs76, hfs76⟩ : ∃ z, z = fs74.set 61 (.ref q75) := ⟨_, rfl⟩
  have kfs76 := kp_s 61 (.ref q75) kfs74
  have gfs76_12 : fs76[12]? = some (.int (-1)) := by rw [hfs76]; exact se_ne gfs74_12 (by decide)
  have gfs76_11 : fs76[11]? = some (.int (-1)) := by rw [hfs76]; exact se_ne gfs74_11 (by decide)
  have gfs76_7 : fs76[7]? = some (.ref q9) := by rw [hfs76]; exact se_ne gfs74_7 (by decide)
  have gfs76_6 : fs76[6]? = some (.ref q7) := by rw [hfs76]; exact se_ne gfs74_6 (by decide)
  have gfs76_5 : fs76[5]? = some (.ref q5) := by rw [hfs76]; exact se_ne gfs74_5 (by decide)
  have gfs76_4 : fs76[4]? = some (.ref q3) := by rw [hfs76]; exact se_ne gfs74_4 (by decide)
  have gfs76_1 : fs76[1]? = some (.ref q1) := by rw [hfs76]; exact se_ne gfs74_1 (by decide)
  rw [← hfs76] at hP hD kfs76
  have hP : va_P D vwCl [(h0, .inr (12, fs76)), (q1, .inl (cq1, 3000, .inl (fun _ => 0))), (q3, .inl (cq3, 710, .inl (fun _ => 0))), (q5, .inl (cq5, 710, .inl (fun _ => 0))), (q7, .inl (cq7, 710, .inl (fun _ => 0))), (q9, .inl (cq9, 710, .inl (fun _ => 0))), (q75, .inl (cq75, 1500, .inl (fun _ => 0)))] H := hP
  have hD : va_D A [(h0, .inr (12, fs76)), (q1, .inl (cq1, 3000, .inl (fun _ => 0))), (q3, .inl (cq3, 710, .inl (fun _ => 0))), (q5, .inl (cq5, 710, .inl (fun _ => 0))), (q7, .inl (cq7, 710, .inl (fun _ => 0))), (q9, .inl (cq9, 710, .inl (fun _ => 0))), (q75, .inl (cq75, 1500, .inl (fun _ => 0)))] := hD
  have hP : va_P D vwCl [(h0, .inr (12, fs76)), (q1, .inl (cq1, 3000, .inl (fun _ => 0))), (q3, .inl (cq3, 710, .inl (fun _ => 0))), (q5, .inl (cq5, 710, .inl (fun _ => 0))), (q7, .inl (cq7, 710, .inl (fun _ => 0))), (q9, .inl (cq9, 710, .inl (fun _ => 0)))] H := hP.sub [0, 1, 2, 3, 4, 5] rfl
  have hD : va_D A [(h0, .inr (12, fs76)), (q1, .inl (cq1, 3000, .inl (fun _ => 0))), (q3, .inl (cq3, 710, .inl (fun _ => 0))), (q5, .inl (cq5, 710, .inl (fun _ => 0))), (q7, .inl (cq7, 710, .inl (fun _ => 0))), (q9, .inl (cq9, 710, .inl (fun _ => 0)))] := hD.sub [0, 1, 2, 3, 4, 5] (by decide) rfl
  have hK : va_K D vwCl [(cq1, .byte), (cq3, .int), (cq5, .int), (cq7, .int), (cq9, .int)] s := hK.sub [0, 1, 2, 3, 4] rfl
  refine lv_aload_n hx hb dX12_init_330 rfl (lv_at hl 0 rfl) ?_
  refine lv_sipush (v := 1500) hx hb dX12_init_331 (by decide +kernel) ?_
  refine va_newa (atype := .int) (ty := .int) (N' := 1500) (a0 := (1500, .inl (fun _ => 0))) hx hb (hts (.arrayClass .int) (by decide +kernel)) rfl hK hP hD hS hA (na_int 1500) (by decide +kernel) (by decide +kernel) (by decide +kernel) (Nat.le_of_ble_eq_true rfl) (Nat.le_of_ble_eq_true rfl) dX12_init_334 (fun q77 cq77 H hK hP hD hS => ?_)
  have hP : va_P D vwCl [(h0, .inr (12, fs76)), (q1, .inl (cq1, 3000, .inl (fun _ => 0))), (q3, .inl (cq3, 710, .inl (fun _ => 0))), (q5, .inl (cq5, 710, .inl (fun _ => 0))), (q7, .inl (cq7, 710, .inl (fun _ => 0))), (q9, .inl (cq9, 710, .inl (fun _ => 0))), (q77, .inl (cq77, 1500, .inl (fun _ => 0)))] H := hP
  have hD : va_D A [(h0, .inr (12, fs76)), (q1, .inl (cq1, 3000, .inl (fun _ => 0))), (q3, .inl (cq3, 710, .inl (fun _ => 0))), (q5, .inl (cq5, 710, .inl (fun _ => 0))), (q7, .inl (cq7, 710, .inl (fun _ => 0))), (q9, .inl (cq9, 710, .inl (fun _ => 0))), (q77, .inl (cq77, 1500, .inl (fun _ => 0)))] := hD
  have hK : va_K D vwCl [(cq1, .byte), (cq3, .int), (cq5, .int), (cq7, .int), (cq9, .int), (cq77, .int)] s := hK
  refine W.widen (k := 38) (n := 51268) (Nat.le_of_ble_eq_true rfl) (Nat.le_of_ble_eq_true rfl) ?_
  refine va_put (D := D) (ci := 12) (v := .ref q77) (ty := .array .int) (C := RX12) (T := TX12) (N := 139) hx hb hts i_v_c_Model_init_X12 tyX12 tyX12_ok nmX12 hown hK hP hD hS 0 rfl rfl 62 (by decide) (hts (.fieldLink RX12 130 "ScheduleHouseModel" "stepLine" "[I") (by decide +kernel)) (fun _ h9 => h9) rfl (by decide +kernel) rfl rfl (kp_lt kfs76 hlen (by decide)) dX12_init_336 (fun H locs hP hD hS => ?_)
  obtain ⟨fs78, hfs78⟩ : ∃ z, z = fs76.set 62 (.ref q77) := ⟨_, rfl⟩
  have kfs78 := kp_s 62 (.ref q77) kfs76
  have gfs78_12 : fs78[12]? = some (.int (-1)) := by rw [hfs78]; exact se_ne gfs76_12 (by decide)
  have gfs78_11 : fs78[11]? = some (.int (-1)) := by rw [hfs78]; exact se_ne gfs76_11 (by decide)
  have gfs78_7 : fs78[7]? = some (.ref q9) := by rw [hfs78]; exact se_ne gfs76_7 (by decide)
  have gfs78_6 : fs78[6]? = some (.ref q7) := by rw [hfs78]; exact se_ne gfs76_6 (by decide)
  have gfs78_5 : fs78[5]? = some (.ref q5) := by rw [hfs78]; exact se_ne gfs76_5 (by decide)
  have gfs78_4 : fs78[4]? = some (.ref q3) := by rw [hfs78]; exact se_ne gfs76_4 (by decide)
  have gfs78_1 : fs78[1]? = some (.ref q1) := by rw [hfs78]; exact se_ne gfs76_1 (by decide)
  rw [← hfs78] at hP hD kfs78
  have hP : va_P D vwCl [(h0, .inr (12, fs78)), (q1, .inl (cq1, 3000, .inl (fun _ => 0))), (q3, .inl (cq3, 710, .inl (fun _ => 0))), (q5, .inl (cq5, 710, .inl (fun _ => 0))), (q7, .inl (cq7, 710, .inl (fun _ => 0))), (q9, .inl (cq9, 710, .inl (fun _ => 0))), (q77, .inl (cq77, 1500, .inl (fun _ => 0)))] H := hP
  have hD : va_D A [(h0, .inr (12, fs78)), (q1, .inl (cq1, 3000, .inl (fun _ => 0))), (q3, .inl (cq3, 710, .inl (fun _ => 0))), (q5, .inl (cq5, 710, .inl (fun _ => 0))), (q7, .inl (cq7, 710, .inl (fun _ => 0))), (q9, .inl (cq9, 710, .inl (fun _ => 0))), (q77, .inl (cq77, 1500, .inl (fun _ => 0)))] := hD
  have hP : va_P D vwCl [(h0, .inr (12, fs78)), (q1, .inl (cq1, 3000, .inl (fun _ => 0))), (q3, .inl (cq3, 710, .inl (fun _ => 0))), (q5, .inl (cq5, 710, .inl (fun _ => 0))), (q7, .inl (cq7, 710, .inl (fun _ => 0))), (q9, .inl (cq9, 710, .inl (fun _ => 0)))] H := hP.sub [0, 1, 2, 3, 4, 5] rfl
  have hD : va_D A [(h0, .inr (12, fs78)), (q1, .inl (cq1, 3000, .inl (fun _ => 0))), (q3, .inl (cq3, 710, .inl (fun _ => 0))), (q5, .inl (cq5, 710, .inl (fun _ => 0))), (q7, .inl (cq7, 710, .inl (fun _ => 0))), (q9, .inl (cq9, 710, .inl (fun _ => 0)))] := hD.sub [0, 1, 2, 3, 4, 5] (by decide) rfl
  have hK : va_K D vwCl [(cq1, .byte), (cq3, .int), (cq5, .int), (cq7, .int), (cq9, .int)] s := hK.sub [0, 1, 2, 3, 4] rfl
  refine lv_aload_n hx hb dX12_init_339 rfl (lv_at hl 0 rfl) ?_
  refine lv_bipush (v := 6) hx hb dX12_init_340 (by decide +kernel) ?_
  refine va_newa (atype := .int) (ty := .int) (N' := 6) (a0 := (6, .inl (fun _ => 0))) hx hb (hts (.arrayClass .int) (by decide +kernel)) rfl hK hP hD hS hA (na_int 6) (by decide +kernel) (by decide +kernel) (by decide +kernel) (Nat.le_of_ble_eq_true rfl) (Nat.le_of_ble_eq_true rfl) dX12_init_342 (fun q79 cq79 H hK hP hD hS => ?_)
  have hP : va_P D vwCl [(h0, .inr (12, fs78)), (q1, .inl (cq1, 3000, .inl (fun _ => 0))), (q3, .inl (cq3, 710, .inl (fun _ => 0))), (q5, .inl (cq5, 710, .inl (fun _ => 0))), (q7, .inl (cq7, 710, .inl (fun _ => 0))), (q9, .inl (cq9, 710, .inl (fun _ => 0))), (q79, .inl (cq79, 6, .inl (fun _ => 0)))] H := hP
  have hD : va_D A [(h0, .inr (12, fs78)), (q1, .inl (cq1, 3000, .inl (fun _ => 0))), (q3, .inl (cq3, 710, .inl (fun _ => 0))), (q5, .inl (cq5, 710, .inl (fun _ => 0))), (q7, .inl (cq7, 710, .inl (fun _ => 0))), (q9, .inl (cq9, 710, .inl (fun _ => 0))), (q79, .inl (cq79, 6, .inl (fun _ => 0)))] := hD
  have hK : va_K D vwCl [(cq1, .byte), (cq3, .int), (cq5, .int), (cq7, .int), (cq9, .int), (cq79, .int)] s := hK
  refine W.widen (k := 39) (n := 51274) (Nat.le_of_ble_eq_true rfl) (Nat.le_of_ble_eq_true rfl) ?_
  refine va_put (D := D) (ci := 12) (v := .ref q79) (ty := .array .int) (C := RX12) (T := TX12) (N := 139) hx hb hts i_v_c_Model_init_X12 tyX12 tyX12_ok nmX12 hown hK hP hD hS 0 rfl rfl 63 (by decide) (hts (.fieldLink RX12 133 "ScheduleHouseModel" "begins" "[I") (by decide +kernel)) (fun _ h9 => h9) rfl (by decide +kernel) rfl rfl (kp_lt kfs78 hlen (by decide)) dX12_init_344 (fun H locs hP hD hS => ?_)
  obtain ⟨fs80, hfs80⟩ : ∃ z, z = fs78.set 63 (.ref q79) := ⟨_, rfl⟩
  have kfs80 := kp_s 63 (.ref q79) kfs78
  have gfs80_12 : fs80[12]? = some (.int (-1)) := by rw [hfs80]; exact se_ne gfs78_12 (by decide)
  have gfs80_11 : fs80[11]? = some (.int (-1)) := by rw [hfs80]; exact se_ne gfs78_11 (by decide)
  have gfs80_7 : fs80[7]? = some (.ref q9) := by rw [hfs80]; exact se_ne gfs78_7 (by decide)
  have gfs80_6 : fs80[6]? = some (.ref q7) := by rw [hfs80]; exact se_ne gfs78_6 (by decide)
  have gfs80_5 : fs80[5]? = some (.ref q5) := by rw [hfs80]; exact se_ne gfs78_5 (by decide)
  have gfs80_4 : fs80[4]? = some (.ref q3) := by rw [hfs80]; exact se_ne gfs78_4 (by decide)
  have gfs80_1 : fs80[1]? = some (.ref q1) := by rw [hfs80]; exact se_ne gfs78_1 (by decide)
  rw [← hfs80] at hP hD kfs80
  have hP : va_P D vwCl [(h0, .inr (12, fs80)), (q1, .inl (cq1, 3000, .inl (fun _ => 0))), (q3, .inl (cq3, 710, .inl (fun _ => 0))), (q5, .inl (cq5, 710, .inl (fun _ => 0))), (q7, .inl (cq7, 710, .inl (fun _ => 0))), (q9, .inl (cq9, 710, .inl (fun _ => 0))), (q79, .inl (cq79, 6, .inl (fun _ => 0)))] H := hP
  have hD : va_D A [(h0, .inr (12, fs80)), (q1, .inl (cq1, 3000, .inl (fun _ => 0))), (q3, .inl (cq3, 710, .inl (fun _ => 0))), (q5, .inl (cq5, 710, .inl (fun _ => 0))), (q7, .inl (cq7, 710, .inl (fun _ => 0))), (q9, .inl (cq9, 710, .inl (fun _ => 0))), (q79, .inl (cq79, 6, .inl (fun _ => 0)))] := hD
  have hP : va_P D vwCl [(h0, .inr (12, fs80)), (q1, .inl (cq1, 3000, .inl (fun _ => 0))), (q3, .inl (cq3, 710, .inl (fun _ => 0))), (q5, .inl (cq5, 710, .inl (fun _ => 0))), (q7, .inl (cq7, 710, .inl (fun _ => 0))), (q9, .inl (cq9, 710, .inl (fun _ => 0)))] H := hP.sub [0, 1, 2, 3, 4, 5] rfl
  have hD : va_D A [(h0, .inr (12, fs80)), (q1, .inl (cq1, 3000, .inl (fun _ => 0))), (q3, .inl (cq3, 710, .inl (fun _ => 0))), (q5, .inl (cq5, 710, .inl (fun _ => 0))), (q7, .inl (cq7, 710, .inl (fun _ => 0))), (q9, .inl (cq9, 710, .inl (fun _ => 0)))] := hD.sub [0, 1, 2, 3, 4, 5] (by decide) rfl
  have hK : va_K D vwCl [(cq1, .byte), (cq3, .int), (cq5, .int), (cq7, .int), (cq9, .int)] s := hK.sub [0, 1, 2, 3, 4] rfl
  refine lv_aload_n hx hb dX12_init_347 rfl (lv_at hl 0 rfl) ?_
  refine lv_iconst (v := 4) hx hb dX12_init_348 (by decide +kernel) ?_
  refine va_newa (atype := .int) (ty := .int) (N' := 4) (a0 := (4, .inl (fun _ => 0))) hx hb (hts (.arrayClass .int) (by decide +kernel)) rfl hK hP hD hS hA (na_int 4) (by decide +kernel) (by decide +kernel) (by decide +kernel) (Nat.le_of_ble_eq_true rfl) (Nat.le_of_ble_eq_true rfl) dX12_init_349 (fun q81 cq81 H hK hP hD hS => ?_)
  have hP : va_P D vwCl [(h0, .inr (12, fs80)), (q1, .inl (cq1, 3000, .inl (fun _ => 0))), (q3, .inl (cq3, 710, .inl (fun _ => 0))), (q5, .inl (cq5, 710, .inl (fun _ => 0))), (q7, .inl (cq7, 710, .inl (fun _ => 0))), (q9, .inl (cq9, 710, .inl (fun _ => 0))), (q81, .inl (cq81, 4, .inl (fun _ => 0)))] H := hP
  have hD : va_D A [(h0, .inr (12, fs80)), (q1, .inl (cq1, 3000, .inl (fun _ => 0))), (q3, .inl (cq3, 710, .inl (fun _ => 0))), (q5, .inl (cq5, 710, .inl (fun _ => 0))), (q7, .inl (cq7, 710, .inl (fun _ => 0))), (q9, .inl (cq9, 710, .inl (fun _ => 0))), (q81, .inl (cq81, 4, .inl (fun _ => 0)))] := hD
  have hK : va_K D vwCl [(cq1, .byte), (cq3, .int), (cq5, .int), (cq7, .int), (cq9, .int), (cq81, .int)] s := hK
  refine W.widen (k := 40) (n := 51278) (Nat.le_of_ble_eq_true rfl) (Nat.le_of_ble_eq_true rfl) ?_
  refine va_put (D := D) (ci := 12) (v := .ref q81) (ty := .array .int) (C := RX12) (T := TX12) (N := 139) hx hb hts i_v_c_Model_init_X12 tyX12 tyX12_ok nmX12 hown hK hP hD hS 0 rfl rfl 64 (by decide) (hts (.fieldLink RX12 136 "ScheduleHouseModel" "alwaysWork" "[I") (by decide +kernel)) (fun _ h9 => h9) rfl (by decide +kernel) rfl rfl (kp_lt kfs80 hlen (by decide)) dX12_init_351 (fun H locs hP hD hS => ?_)
  obtain ⟨fs82, hfs82⟩ : ∃ z, z = fs80.set 64 (.ref q81) := ⟨_, rfl⟩
  have kfs82 := kp_s 64 (.ref q81) kfs80
  have gfs82_12 : fs82[12]? = some (.int (-1)) := by rw [hfs82]; exact se_ne gfs80_12 (by decide)
  have gfs82_11 : fs82[11]? = some (.int (-1)) := by rw [hfs82]; exact se_ne gfs80_11 (by decide)
  have gfs82_7 : fs82[7]? = some (.ref q9) := by rw [hfs82]; exact se_ne gfs80_7 (by decide)
  have gfs82_6 : fs82[6]? = some (.ref q7) := by rw [hfs82]; exact se_ne gfs80_6 (by decide)
  have gfs82_5 : fs82[5]? = some (.ref q5) := by rw [hfs82]; exact se_ne gfs80_5 (by decide)
  have gfs82_4 : fs82[4]? = some (.ref q3) := by rw [hfs82]; exact se_ne gfs80_4 (by decide)
  have gfs82_1 : fs82[1]? = some (.ref q1) := by rw [hfs82]; exact se_ne gfs80_1 (by decide)
  rw [← hfs82] at hP hD kfs82
  have hP : va_P D vwCl [(h0, .inr (12, fs82)), (q1, .inl (cq1, 3000, .inl (fun _ => 0))), (q3, .inl (cq3, 710, .inl (fun _ => 0))), (q5, .inl (cq5, 710, .inl (fun _ => 0))), (q7, .inl (cq7, 710, .inl (fun _ => 0))), (q9, .inl (cq9, 710, .inl (fun _ => 0))), (q81, .inl (cq81, 4, .inl (fun _ => 0)))] H := hP
  have hD : va_D A [(h0, .inr (12, fs82)), (q1, .inl (cq1, 3000, .inl (fun _ => 0))), (q3, .inl (cq3, 710, .inl (fun _ => 0))), (q5, .inl (cq5, 710, .inl (fun _ => 0))), (q7, .inl (cq7, 710, .inl (fun _ => 0))), (q9, .inl (cq9, 710, .inl (fun _ => 0))), (q81, .inl (cq81, 4, .inl (fun _ => 0)))] := hD
  have hP : va_P D vwCl [(h0, .inr (12, fs82)), (q1, .inl (cq1, 3000, .inl (fun _ => 0))), (q3, .inl (cq3, 710, .inl (fun _ => 0))), (q5, .inl (cq5, 710, .inl (fun _ => 0))), (q7, .inl (cq7, 710, .inl (fun _ => 0))), (q9, .inl (cq9, 710, .inl (fun _ => 0)))] H := hP.sub [0, 1, 2, 3, 4, 5] rfl
  have hD : va_D A [(h0, .inr (12, fs82)), (q1, .inl (cq1, 3000, .inl (fun _ => 0))), (q3, .inl (cq3, 710, .inl (fun _ => 0))), (q5, .inl (cq5, 710, .inl (fun _ => 0))), (q7, .inl (cq7, 710, .inl (fun _ => 0))), (q9, .inl (cq9, 710, .inl (fun _ => 0)))] := hD.sub [0, 1, 2, 3, 4, 5] (by decide) rfl
  have hK : va_K D vwCl [(cq1, .byte), (cq3, .int), (cq5, .int), (cq7, .int), (cq9, .int)] s := hK.sub [0, 1, 2, 3, 4] rfl
  refine lv_aload_n hx hb dX12_init_354 rfl (lv_at hl 0 rfl) ?_
  refine lv_iconst (v := 4) hx hb dX12_init_355 (by decide +kernel) ?_
  refine va_newa (atype := .int) (ty := .int) (N' := 4) (a0 := (4, .inl (fun _ => 0))) hx hb (hts (.arrayClass .int) (by decide +kernel)) rfl hK hP hD hS hA (na_int 4) (by decide +kernel) (by decide +kernel) (by decide +kernel) (Nat.le_of_ble_eq_true rfl) (Nat.le_of_ble_eq_true rfl) dX12_init_356 (fun q83 cq83 H hK hP hD hS => ?_)
  have hP : va_P D vwCl [(h0, .inr (12, fs82)), (q1, .inl (cq1, 3000, .inl (fun _ => 0))), (q3, .inl (cq3, 710, .inl (fun _ => 0))), (q5, .inl (cq5, 710, .inl (fun _ => 0))), (q7, .inl (cq7, 710, .inl (fun _ => 0))), (q9, .inl (cq9, 710, .inl (fun _ => 0))), (q83, .inl (cq83, 4, .inl (fun _ => 0)))] H := hP
  have hD : va_D A [(h0, .inr (12, fs82)), (q1, .inl (cq1, 3000, .inl (fun _ => 0))), (q3, .inl (cq3, 710, .inl (fun _ => 0))), (q5, .inl (cq5, 710, .inl (fun _ => 0))), (q7, .inl (cq7, 710, .inl (fun _ => 0))), (q9, .inl (cq9, 710, .inl (fun _ => 0))), (q83, .inl (cq83, 4, .inl (fun _ => 0)))] := hD
  have hK : va_K D vwCl [(cq1, .byte), (cq3, .int), (cq5, .int), (cq7, .int), (cq9, .int), (cq83, .int)] s := hK
  refine W.widen (k := 41) (n := 51282) (Nat.le_of_ble_eq_true rfl) (Nat.le_of_ble_eq_true rfl) ?_
  refine va_put (D := D) (ci := 12) (v := .ref q83) (ty := .array .int) (C := RX12) (T := TX12) (N := 139) hx hb hts i_v_c_Model_init_X12 tyX12 tyX12_ok nmX12 hown hK hP hD hS 0 rfl rfl 65 (by decide) (hts (.fieldLink RX12 139 "ScheduleHouseModel" "finalWork" "[I") (by decide +kernel)) (fun _ h9 => h9) rfl (by decide +kernel) rfl rfl (kp_lt kfs82 hlen (by decide)) dX12_init_358 (fun H locs hP hD hS => ?_)
  obtain ⟨fs84, hfs84⟩ : ∃ z, z = fs82.set 65 (.ref q83) := ⟨_, rfl⟩
  have kfs84 := kp_s 65 (.ref q83) kfs82
  have gfs84_12 : fs84[12]? = some (.int (-1)) := by rw [hfs84]; exact se_ne gfs82_12 (by decide)
  have gfs84_11 : fs84[11]? = some (.int (-1)) := by rw [hfs84]; exact se_ne gfs82_11 (by decide)
  have gfs84_7 : fs84[7]? = some (.ref q9) := by rw [hfs84]; exact se_ne gfs82_7 (by decide)
  have gfs84_6 : fs84[6]? = some (.ref q7) := by rw [hfs84]; exact se_ne gfs82_6 (by decide)
  have gfs84_5 : fs84[5]? = some (.ref q5) := by rw [hfs84]; exact se_ne gfs82_5 (by decide)
  have gfs84_4 : fs84[4]? = some (.ref q3) := by rw [hfs84]; exact se_ne gfs82_4 (by decide)
  have gfs84_1 : fs84[1]? = some (.ref q1) := by rw [hfs84]; exact se_ne gfs82_1 (by decide)
  rw [← hfs84] at hP hD kfs84
  have hP : va_P D vwCl [(h0, .inr (12, fs84)), (q1, .inl (cq1, 3000, .inl (fun _ => 0))), (q3, .inl (cq3, 710, .inl (fun _ => 0))), (q5, .inl (cq5, 710, .inl (fun _ => 0))), (q7, .inl (cq7, 710, .inl (fun _ => 0))), (q9, .inl (cq9, 710, .inl (fun _ => 0))), (q83, .inl (cq83, 4, .inl (fun _ => 0)))] H := hP
  have hD : va_D A [(h0, .inr (12, fs84)), (q1, .inl (cq1, 3000, .inl (fun _ => 0))), (q3, .inl (cq3, 710, .inl (fun _ => 0))), (q5, .inl (cq5, 710, .inl (fun _ => 0))), (q7, .inl (cq7, 710, .inl (fun _ => 0))), (q9, .inl (cq9, 710, .inl (fun _ => 0))), (q83, .inl (cq83, 4, .inl (fun _ => 0)))] := hD
  have hP : va_P D vwCl [(h0, .inr (12, fs84)), (q1, .inl (cq1, 3000, .inl (fun _ => 0))), (q3, .inl (cq3, 710, .inl (fun _ => 0))), (q5, .inl (cq5, 710, .inl (fun _ => 0))), (q7, .inl (cq7, 710, .inl (fun _ => 0))), (q9, .inl (cq9, 710, .inl (fun _ => 0)))] H := hP.sub [0, 1, 2, 3, 4, 5] rfl
  have hD : va_D A [(h0, .inr (12, fs84)), (q1, .inl (cq1, 3000, .inl (fun _ => 0))), (q3, .inl (cq3, 710, .inl (fun _ => 0))), (q5, .inl (cq5, 710, .inl (fun _ => 0))), (q7, .inl (cq7, 710, .inl (fun _ => 0))), (q9, .inl (cq9, 710, .inl (fun _ => 0)))] := hD.sub [0, 1, 2, 3, 4, 5] (by decide) rfl
  have hK : va_K D vwCl [(cq1, .byte), (cq3, .int), (cq5, .int), (cq7, .int), (cq9, .int)] s := hK.sub [0, 1, 2, 3, 4] rfl
  refine lv_aload_n hx hb dX12_init_361 rfl (lv_at hl 0 rfl) ?_
  refine lv_bipush (v := 24) hx hb dX12_init_362 (by decide +kernel) ?_
  refine va_newa (atype := .int) (ty := .int) (N' := 24) (a0 := (24, .inl (fun _ => 0))) hx hb (hts (.arrayClass .int) (by decide +kernel)) rfl hK hP hD hS hA (na_int 24) (by decide +kernel) (by decide +kernel) (by decide +kernel) (Nat.le_of_ble_eq_true rfl) (Nat.le_of_ble_eq_true rfl) dX12_init_364 (fun q85 cq85 H hK hP hD hS => ?_)
  have hP : va_P D vwCl [(h0, .inr (12, fs84)), (q1, .inl (cq1, 3000, .inl (fun _ => 0))), (q3, .inl (cq3, 710, .inl (fun _ => 0))), (q5, .inl (cq5, 710, .inl (fun _ => 0))), (q7, .inl (cq7, 710, .inl (fun _ => 0))), (q9, .inl (cq9, 710, .inl (fun _ => 0))), (q85, .inl (cq85, 24, .inl (fun _ => 0)))] H := hP
  have hD : va_D A [(h0, .inr (12, fs84)), (q1, .inl (cq1, 3000, .inl (fun _ => 0))), (q3, .inl (cq3, 710, .inl (fun _ => 0))), (q5, .inl (cq5, 710, .inl (fun _ => 0))), (q7, .inl (cq7, 710, .inl (fun _ => 0))), (q9, .inl (cq9, 710, .inl (fun _ => 0))), (q85, .inl (cq85, 24, .inl (fun _ => 0)))] := hD
  have hK : va_K D vwCl [(cq1, .byte), (cq3, .int), (cq5, .int), (cq7, .int), (cq9, .int), (cq85, .int)] s := hK
  refine W.widen (k := 42) (n := 51306) (Nat.le_of_ble_eq_true rfl) (Nat.le_of_ble_eq_true rfl) ?_
  refine va_put (D := D) (ci := 12) (v := .ref q85) (ty := .array .int) (C := RX12) (T := TX12) (N := 139) hx hb hts i_v_c_Model_init_X12 tyX12 tyX12_ok nmX12 hown hK hP hD hS 0 rfl rfl 69 (by decide) (hts (.fieldLink RX12 142 "ScheduleHouseModel" "cell" "[I") (by decide +kernel)) (fun _ h9 => h9) rfl (by decide +kernel) rfl rfl (kp_lt kfs84 hlen (by decide)) dX12_init_366 (fun H locs hP hD hS => ?_)
  obtain ⟨fs86, hfs86⟩ : ∃ z, z = fs84.set 69 (.ref q85) := ⟨_, rfl⟩
  have kfs86 := kp_s 69 (.ref q85) kfs84
  have gfs86_12 : fs86[12]? = some (.int (-1)) := by rw [hfs86]; exact se_ne gfs84_12 (by decide)
  have gfs86_11 : fs86[11]? = some (.int (-1)) := by rw [hfs86]; exact se_ne gfs84_11 (by decide)
  have gfs86_7 : fs86[7]? = some (.ref q9) := by rw [hfs86]; exact se_ne gfs84_7 (by decide)
  have gfs86_6 : fs86[6]? = some (.ref q7) := by rw [hfs86]; exact se_ne gfs84_6 (by decide)
  have gfs86_5 : fs86[5]? = some (.ref q5) := by rw [hfs86]; exact se_ne gfs84_5 (by decide)
  have gfs86_4 : fs86[4]? = some (.ref q3) := by rw [hfs86]; exact se_ne gfs84_4 (by decide)
  have gfs86_1 : fs86[1]? = some (.ref q1) := by rw [hfs86]; exact se_ne gfs84_1 (by decide)
  rw [← hfs86] at hP hD kfs86
  have hP : va_P D vwCl [(h0, .inr (12, fs86)), (q1, .inl (cq1, 3000, .inl (fun _ => 0))), (q3, .inl (cq3, 710, .inl (fun _ => 0))), (q5, .inl (cq5, 710, .inl (fun _ => 0))), (q7, .inl (cq7, 710, .inl (fun _ => 0))), (q9, .inl (cq9, 710, .inl (fun _ => 0))), (q85, .inl (cq85, 24, .inl (fun _ => 0)))] H := hP
  have hD : va_D A [(h0, .inr (12, fs86)), (q1, .inl (cq1, 3000, .inl (fun _ => 0))), (q3, .inl (cq3, 710, .inl (fun _ => 0))), (q5, .inl (cq5, 710, .inl (fun _ => 0))), (q7, .inl (cq7, 710, .inl (fun _ => 0))), (q9, .inl (cq9, 710, .inl (fun _ => 0))), (q85, .inl (cq85, 24, .inl (fun _ => 0)))] := hD
  have hP : va_P D vwCl [(h0, .inr (12, fs86)), (q1, .inl (cq1, 3000, .inl (fun _ => 0))), (q3, .inl (cq3, 710, .inl (fun _ => 0))), (q5, .inl (cq5, 710, .inl (fun _ => 0))), (q7, .inl (cq7, 710, .inl (fun _ => 0))), (q9, .inl (cq9, 710, .inl (fun _ => 0)))] H := hP.sub [0, 1, 2, 3, 4, 5] rfl
  have hD : va_D A [(h0, .inr (12, fs86)), (q1, .inl (cq1, 3000, .inl (fun _ => 0))), (q3, .inl (cq3, 710, .inl (fun _ => 0))), (q5, .inl (cq5, 710, .inl (fun _ => 0))), (q7, .inl (cq7, 710, .inl (fun _ => 0))), (q9, .inl (cq9, 710, .inl (fun _ => 0)))] := hD.sub [0, 1, 2, 3, 4, 5] (by decide) rfl
  have hK : va_K D vwCl [(cq1, .byte), (cq3, .int), (cq5, .int), (cq7, .int), (cq9, .int)] s := hK.sub [0, 1, 2, 3, 4] rfl
  refine lv_aload_n hx hb dX12_init_369 rfl (lv_at hl 0 rfl) ?_
  refine lv_bipush (v := 6) hx hb dX12_init_370 (by decide +kernel) ?_
  refine va_newa (atype := .int) (ty := .int) (N' := 6) (a0 := (6, .inl (fun _ => 0))) hx hb (hts (.arrayClass .int) (by decide +kernel)) rfl hK hP hD hS hA (na_int 6) (by decide +kernel) (by decide +kernel) (by decide +kernel) (Nat.le_of_ble_eq_true rfl) (Nat.le_of_ble_eq_true rfl) dX12_init_372 (fun q87 cq87 H hK hP hD hS => ?_)
  have hP : va_P D vwCl [(h0, .inr (12, fs86)), (q1, .inl (cq1, 3000, .inl (fun _ => 0))), (q3, .inl (cq3, 710, .inl (fun _ => 0))), (q5, .inl (cq5, 710, .inl (fun _ => 0))), (q7, .inl (cq7, 710, .inl (fun _ => 0))), (q9, .inl (cq9, 710, .inl (fun _ => 0))), (q87, .inl (cq87, 6, .inl (fun _ => 0)))] H := hP
  have hD : va_D A [(h0, .inr (12, fs86)), (q1, .inl (cq1, 3000, .inl (fun _ => 0))), (q3, .inl (cq3, 710, .inl (fun _ => 0))), (q5, .inl (cq5, 710, .inl (fun _ => 0))), (q7, .inl (cq7, 710, .inl (fun _ => 0))), (q9, .inl (cq9, 710, .inl (fun _ => 0))), (q87, .inl (cq87, 6, .inl (fun _ => 0)))] := hD
  have hK : va_K D vwCl [(cq1, .byte), (cq3, .int), (cq5, .int), (cq7, .int), (cq9, .int), (cq87, .int)] s := hK
  refine W.widen (k := 43) (n := 51312) (Nat.le_of_ble_eq_true rfl) (Nat.le_of_ble_eq_true rfl) ?_
  refine va_put (D := D) (ci := 12) (v := .ref q87) (ty := .array .int) (C := RX12) (T := TX12) (N := 139) hx hb hts i_v_c_Model_init_X12 tyX12 tyX12_ok nmX12 hown hK hP hD hS 0 rfl rfl 70 (by decide) (hts (.fieldLink RX12 145 "ScheduleHouseModel" "holder" "[I") (by decide +kernel)) (fun _ h9 => h9) rfl (by decide +kernel) rfl rfl (kp_lt kfs86 hlen (by decide)) dX12_init_374 (fun H locs hP hD hS => ?_)
  obtain ⟨fs88, hfs88⟩ : ∃ z, z = fs86.set 70 (.ref q87) := ⟨_, rfl⟩
  have kfs88 := kp_s 70 (.ref q87) kfs86
  have gfs88_12 : fs88[12]? = some (.int (-1)) := by rw [hfs88]; exact se_ne gfs86_12 (by decide)
  have gfs88_11 : fs88[11]? = some (.int (-1)) := by rw [hfs88]; exact se_ne gfs86_11 (by decide)
  have gfs88_7 : fs88[7]? = some (.ref q9) := by rw [hfs88]; exact se_ne gfs86_7 (by decide)
  have gfs88_6 : fs88[6]? = some (.ref q7) := by rw [hfs88]; exact se_ne gfs86_6 (by decide)
  have gfs88_5 : fs88[5]? = some (.ref q5) := by rw [hfs88]; exact se_ne gfs86_5 (by decide)
  have gfs88_4 : fs88[4]? = some (.ref q3) := by rw [hfs88]; exact se_ne gfs86_4 (by decide)
  have gfs88_1 : fs88[1]? = some (.ref q1) := by rw [hfs88]; exact se_ne gfs86_1 (by decide)
  rw [← hfs88] at hP hD kfs88
  have hP : va_P D vwCl [(h0, .inr (12, fs88)), (q1, .inl (cq1, 3000, .inl (fun _ => 0))), (q3, .inl (cq3, 710, .inl (fun _ => 0))), (q5, .inl (cq5, 710, .inl (fun _ => 0))), (q7, .inl (cq7, 710, .inl (fun _ => 0))), (q9, .inl (cq9, 710, .inl (fun _ => 0))), (q87, .inl (cq87, 6, .inl (fun _ => 0)))] H := hP
  have hD : va_D A [(h0, .inr (12, fs88)), (q1, .inl (cq1, 3000, .inl (fun _ => 0))), (q3, .inl (cq3, 710, .inl (fun _ => 0))), (q5, .inl (cq5, 710, .inl (fun _ => 0))), (q7, .inl (cq7, 710, .inl (fun _ => 0))), (q9, .inl (cq9, 710, .inl (fun _ => 0))), (q87, .inl (cq87, 6, .inl (fun _ => 0)))] := hD
  have hP : va_P D vwCl [(h0, .inr (12, fs88)), (q1, .inl (cq1, 3000, .inl (fun _ => 0))), (q3, .inl (cq3, 710, .inl (fun _ => 0))), (q5, .inl (cq5, 710, .inl (fun _ => 0))), (q7, .inl (cq7, 710, .inl (fun _ => 0))), (q9, .inl (cq9, 710, .inl (fun _ => 0)))] H := hP.sub [0, 1, 2, 3, 4, 5] rfl
  have hD : va_D A [(h0, .inr (12, fs88)), (q1, .inl (cq1, 3000, .inl (fun _ => 0))), (q3, .inl (cq3, 710, .inl (fun _ => 0))), (q5, .inl (cq5, 710, .inl (fun _ => 0))), (q7, .inl (cq7, 710, .inl (fun _ => 0))), (q9, .inl (cq9, 710, .inl (fun _ => 0)))] := hD.sub [0, 1, 2, 3, 4, 5] (by decide) rfl
  have hK : va_K D vwCl [(cq1, .byte), (cq3, .int), (cq5, .int), (cq7, .int), (cq9, .int)] s := hK.sub [0, 1, 2, 3, 4] rfl
  refine lv_aload_n hx hb dX12_init_377 rfl (lv_at hl 0 rfl) ?_
  refine lv_bipush (v := 6) hx hb dX12_init_378 (by decide +kernel) ?_
  refine va_newa (atype := .int) (ty := .int) (N' := 6) (a0 := (6, .inl (fun _ => 0))) hx hb (hts (.arrayClass .int) (by decide +kernel)) rfl hK hP hD hS hA (na_int 6) (by decide +kernel) (by decide +kernel) (by decide +kernel) (Nat.le_of_ble_eq_true rfl) (Nat.le_of_ble_eq_true rfl) dX12_init_380 (fun q89 cq89 H hK hP hD hS => ?_)
  have hP : va_P D vwCl [(h0, .inr (12, fs88)), (q1, .inl (cq1, 3000, .inl (fun _ => 0))), (q3, .inl (cq3, 710, .inl (fun _ => 0))), (q5, .inl (cq5, 710, .inl (fun _ => 0))), (q7, .inl (cq7, 710, .inl (fun _ => 0))), (q9, .inl (cq9, 710, .inl (fun _ => 0))), (q89, .inl (cq89, 6, .inl (fun _ => 0)))] H := hP
  have hD : va_D A [(h0, .inr (12, fs88)), (q1, .inl (cq1, 3000, .inl (fun _ => 0))), (q3, .inl (cq3, 710, .inl (fun _ => 0))), (q5, .inl (cq5, 710, .inl (fun _ => 0))), (q7, .inl (cq7, 710, .inl (fun _ => 0))), (q9, .inl (cq9, 710, .inl (fun _ => 0))), (q89, .inl (cq89, 6, .inl (fun _ => 0)))] := hD
  have hK : va_K D vwCl [(cq1, .byte), (cq3, .int), (cq5, .int), (cq7, .int), (cq9, .int), (cq89, .int)] s := hK
  refine W.widen (k := 44) (n := 51318) (Nat.le_of_ble_eq_true rfl) (Nat.le_of_ble_eq_true rfl) ?_
  refine va_put (D := D) (ci := 12) (v := .ref q89) (ty := .array .int) (C := RX12) (T := TX12) (N := 139) hx hb hts i_v_c_Model_init_X12 tyX12 tyX12_ok nmX12 hown hK hP hD hS 0 rfl rfl 71 (by decide) (hts (.fieldLink RX12 148 "ScheduleHouseModel" "held" "[I") (by decide +kernel)) (fun _ h9 => h9) rfl (by decide +kernel) rfl rfl (kp_lt kfs88 hlen (by decide)) dX12_init_382 (fun H locs hP hD hS => ?_)
  obtain ⟨fs90, hfs90⟩ : ∃ z, z = fs88.set 71 (.ref q89) := ⟨_, rfl⟩
  have kfs90 := kp_s 71 (.ref q89) kfs88
  have gfs90_12 : fs90[12]? = some (.int (-1)) := by rw [hfs90]; exact se_ne gfs88_12 (by decide)
  have gfs90_11 : fs90[11]? = some (.int (-1)) := by rw [hfs90]; exact se_ne gfs88_11 (by decide)
  have gfs90_7 : fs90[7]? = some (.ref q9) := by rw [hfs90]; exact se_ne gfs88_7 (by decide)
  have gfs90_6 : fs90[6]? = some (.ref q7) := by rw [hfs90]; exact se_ne gfs88_6 (by decide)
  have gfs90_5 : fs90[5]? = some (.ref q5) := by rw [hfs90]; exact se_ne gfs88_5 (by decide)
  have gfs90_4 : fs90[4]? = some (.ref q3) := by rw [hfs90]; exact se_ne gfs88_4 (by decide)
  have gfs90_1 : fs90[1]? = some (.ref q1) := by rw [hfs90]; exact se_ne gfs88_1 (by decide)
  rw [← hfs90] at hP hD kfs90
  have hP : va_P D vwCl [(h0, .inr (12, fs90)), (q1, .inl (cq1, 3000, .inl (fun _ => 0))), (q3, .inl (cq3, 710, .inl (fun _ => 0))), (q5, .inl (cq5, 710, .inl (fun _ => 0))), (q7, .inl (cq7, 710, .inl (fun _ => 0))), (q9, .inl (cq9, 710, .inl (fun _ => 0))), (q89, .inl (cq89, 6, .inl (fun _ => 0)))] H := hP
  have hD : va_D A [(h0, .inr (12, fs90)), (q1, .inl (cq1, 3000, .inl (fun _ => 0))), (q3, .inl (cq3, 710, .inl (fun _ => 0))), (q5, .inl (cq5, 710, .inl (fun _ => 0))), (q7, .inl (cq7, 710, .inl (fun _ => 0))), (q9, .inl (cq9, 710, .inl (fun _ => 0))), (q89, .inl (cq89, 6, .inl (fun _ => 0)))] := hD
  have hP : va_P D vwCl [(h0, .inr (12, fs90)), (q1, .inl (cq1, 3000, .inl (fun _ => 0))), (q3, .inl (cq3, 710, .inl (fun _ => 0))), (q5, .inl (cq5, 710, .inl (fun _ => 0))), (q7, .inl (cq7, 710, .inl (fun _ => 0))), (q9, .inl (cq9, 710, .inl (fun _ => 0)))] H := hP.sub [0, 1, 2, 3, 4, 5] rfl
  have hD : va_D A [(h0, .inr (12, fs90)), (q1, .inl (cq1, 3000, .inl (fun _ => 0))), (q3, .inl (cq3, 710, .inl (fun _ => 0))), (q5, .inl (cq5, 710, .inl (fun _ => 0))), (q7, .inl (cq7, 710, .inl (fun _ => 0))), (q9, .inl (cq9, 710, .inl (fun _ => 0)))] := hD.sub [0, 1, 2, 3, 4, 5] (by decide) rfl
  have hK : va_K D vwCl [(cq1, .byte), (cq3, .int), (cq5, .int), (cq7, .int), (cq9, .int)] s := hK.sub [0, 1, 2, 3, 4] rfl
  refine lv_aload_n hx hb dX12_init_385 rfl (lv_at hl 0 rfl) ?_
  refine lv_bipush (v := 6) hx hb dX12_init_386 (by decide +kernel) ?_
  refine va_newa (atype := .int) (ty := .int) (N' := 6) (a0 := (6, .inl (fun _ => 0))) hx hb (hts (.arrayClass .int) (by decide +kernel)) rfl hK hP hD hS hA (na_int 6) (by decide +kernel) (by decide +kernel) (by decide +kernel) (Nat.le_of_ble_eq_true rfl) (Nat.le_of_ble_eq_true rfl) dX12_init_388 (fun q91 cq91 H hK hP hD hS => ?_)
  have hP : va_P D vwCl [(h0, .inr (12, fs90)), (q1, .inl (cq1, 3000, .inl (fun _ => 0))), (q3, .inl (cq3, 710, .inl (fun _ => 0))), (q5, .inl (cq5, 710, .inl (fun _ => 0))), (q7, .inl (cq7, 710, .inl (fun _ => 0))), (q9, .inl (cq9, 710, .inl (fun _ => 0))), (q91, .inl (cq91, 6, .inl (fun _ => 0)))] H := hP
  have hD : va_D A [(h0, .inr (12, fs90)), (q1, .inl (cq1, 3000, .inl (fun _ => 0))), (q3, .inl (cq3, 710, .inl (fun _ => 0))), (q5, .inl (cq5, 710, .inl (fun _ => 0))), (q7, .inl (cq7, 710, .inl (fun _ => 0))), (q9, .inl (cq9, 710, .inl (fun _ => 0))), (q91, .inl (cq91, 6, .inl (fun _ => 0)))] := hD
  have hK : va_K D vwCl [(cq1, .byte), (cq3, .int), (cq5, .int), (cq7, .int), (cq9, .int), (cq91, .int)] s := hK
  refine W.widen (k := 45) (n := 51324) (Nat.le_of_ble_eq_true rfl) (Nat.le_of_ble_eq_true rfl) ?_
  refine va_put (D := D) (ci := 12) (v := .ref q91) (ty := .array .int) (C := RX12) (T := TX12) (N := 139) hx hb hts i_v_c_Model_init_X12 tyX12 tyX12_ok nmX12 hown hK hP hD hS 0 rfl rfl 72 (by decide) (hts (.fieldLink RX12 151 "ScheduleHouseModel" "state" "[I") (by decide +kernel)) (fun _ h9 => h9) rfl (by decide +kernel) rfl rfl (kp_lt kfs90 hlen (by decide)) dX12_init_390 (fun H locs hP hD hS => ?_)
  obtain ⟨fs92, hfs92⟩ : ∃ z, z = fs90.set 72 (.ref q91) := ⟨_, rfl⟩
  have kfs92 := kp_s 72 (.ref q91) kfs90
  have gfs92_12 : fs92[12]? = some (.int (-1)) := by rw [hfs92]; exact se_ne gfs90_12 (by decide)
  have gfs92_11 : fs92[11]? = some (.int (-1)) := by rw [hfs92]; exact se_ne gfs90_11 (by decide)
  have gfs92_7 : fs92[7]? = some (.ref q9) := by rw [hfs92]; exact se_ne gfs90_7 (by decide)
  have gfs92_6 : fs92[6]? = some (.ref q7) := by rw [hfs92]; exact se_ne gfs90_6 (by decide)
  have gfs92_5 : fs92[5]? = some (.ref q5) := by rw [hfs92]; exact se_ne gfs90_5 (by decide)
  have gfs92_4 : fs92[4]? = some (.ref q3) := by rw [hfs92]; exact se_ne gfs90_4 (by decide)
  have gfs92_1 : fs92[1]? = some (.ref q1) := by rw [hfs92]; exact se_ne gfs90_1 (by decide)
  rw [← hfs92] at hP hD kfs92
  have hP : va_P D vwCl [(h0, .inr (12, fs92)), (q1, .inl (cq1, 3000, .inl (fun _ => 0))), (q3, .inl (cq3, 710, .inl (fun _ => 0))), (q5, .inl (cq5, 710, .inl (fun _ => 0))), (q7, .inl (cq7, 710, .inl (fun _ => 0))), (q9, .inl (cq9, 710, .inl (fun _ => 0))), (q91, .inl (cq91, 6, .inl (fun _ => 0)))] H := hP
  have hD : va_D A [(h0, .inr (12, fs92)), (q1, .inl (cq1, 3000, .inl (fun _ => 0))), (q3, .inl (cq3, 710, .inl (fun _ => 0))), (q5, .inl (cq5, 710, .inl (fun _ => 0))), (q7, .inl (cq7, 710, .inl (fun _ => 0))), (q9, .inl (cq9, 710, .inl (fun _ => 0))), (q91, .inl (cq91, 6, .inl (fun _ => 0)))] := hD
  have hP : va_P D vwCl [(h0, .inr (12, fs92)), (q1, .inl (cq1, 3000, .inl (fun _ => 0))), (q3, .inl (cq3, 710, .inl (fun _ => 0))), (q5, .inl (cq5, 710, .inl (fun _ => 0))), (q7, .inl (cq7, 710, .inl (fun _ => 0))), (q9, .inl (cq9, 710, .inl (fun _ => 0)))] H := hP.sub [0, 1, 2, 3, 4, 5] rfl
  have hD : va_D A [(h0, .inr (12, fs92)), (q1, .inl (cq1, 3000, .inl (fun _ => 0))), (q3, .inl (cq3, 710, .inl (fun _ => 0))), (q5, .inl (cq5, 710, .inl (fun _ => 0))), (q7, .inl (cq7, 710, .inl (fun _ => 0))), (q9, .inl (cq9, 710, .inl (fun _ => 0)))] := hD.sub [0, 1, 2, 3, 4, 5] (by decide) rfl
  have hK : va_K D vwCl [(cq1, .byte), (cq3, .int), (cq5, .int), (cq7, .int), (cq9, .int)] s := hK.sub [0, 1, 2, 3, 4] rfl
  refine lv_aload_n hx hb dX12_init_393 rfl (lv_at hl 0 rfl) ?_
  refine lv_bipush (v := 6) hx hb dX12_init_394 (by decide +kernel) ?_
  refine va_newa (atype := .int) (ty := .int) (N' := 6) (a0 := (6, .inl (fun _ => 0))) hx hb (hts (.arrayClass .int) (by decide +kernel)) rfl hK hP hD hS hA (na_int 6) (by decide +kernel) (by decide +kernel) (by decide +kernel) (Nat.le_of_ble_eq_true rfl) (Nat.le_of_ble_eq_true rfl) dX12_init_396 (fun q93 cq93 H hK hP hD hS => ?_)
  have hP : va_P D vwCl [(h0, .inr (12, fs92)), (q1, .inl (cq1, 3000, .inl (fun _ => 0))), (q3, .inl (cq3, 710, .inl (fun _ => 0))), (q5, .inl (cq5, 710, .inl (fun _ => 0))), (q7, .inl (cq7, 710, .inl (fun _ => 0))), (q9, .inl (cq9, 710, .inl (fun _ => 0))), (q93, .inl (cq93, 6, .inl (fun _ => 0)))] H := hP
  have hD : va_D A [(h0, .inr (12, fs92)), (q1, .inl (cq1, 3000, .inl (fun _ => 0))), (q3, .inl (cq3, 710, .inl (fun _ => 0))), (q5, .inl (cq5, 710, .inl (fun _ => 0))), (q7, .inl (cq7, 710, .inl (fun _ => 0))), (q9, .inl (cq9, 710, .inl (fun _ => 0))), (q93, .inl (cq93, 6, .inl (fun _ => 0)))] := hD
  have hK : va_K D vwCl [(cq1, .byte), (cq3, .int), (cq5, .int), (cq7, .int), (cq9, .int), (cq93, .int)] s := hK
  refine W.widen (k := 46) (n := 51330) (Nat.le_of_ble_eq_true rfl) (Nat.le_of_ble_eq_true rfl) ?_
  refine va_put (D := D) (ci := 12) (v := .ref q93) (ty := .array .int) (C := RX12) (T := TX12) (N := 139) hx hb hts i_v_c_Model_init_X12 tyX12 tyX12_ok nmX12 hown hK hP hD hS 0 rfl rfl 73 (by decide) (hts (.fieldLink RX12 154 "ScheduleHouseModel" "at" "[I") (by decide +kernel)) (fun _ h9 => h9) rfl (by decide +kernel) rfl rfl (kp_lt kfs92 hlen (by decide)) dX12_init_398 (fun H locs hP hD hS => ?_)
  obtain ⟨fs94, hfs94⟩ : ∃ z, z = fs92.set 73 (.ref q93) := ⟨_, rfl⟩
  have kfs94 := kp_s 73 (.ref q93) kfs92
  have gfs94_12 : fs94[12]? = some (.int (-1)) := by rw [hfs94]; exact se_ne gfs92_12 (by decide)
  have gfs94_11 : fs94[11]? = some (.int (-1)) := by rw [hfs94]; exact se_ne gfs92_11 (by decide)
  have gfs94_7 : fs94[7]? = some (.ref q9) := by rw [hfs94]; exact se_ne gfs92_7 (by decide)
  have gfs94_6 : fs94[6]? = some (.ref q7) := by rw [hfs94]; exact se_ne gfs92_6 (by decide)
  have gfs94_5 : fs94[5]? = some (.ref q5) := by rw [hfs94]; exact se_ne gfs92_5 (by decide)
  have gfs94_4 : fs94[4]? = some (.ref q3) := by rw [hfs94]; exact se_ne gfs92_4 (by decide)
  have gfs94_1 : fs94[1]? = some (.ref q1) := by rw [hfs94]; exact se_ne gfs92_1 (by decide)
  rw [← hfs94] at hP hD kfs94
  have hP : va_P D vwCl [(h0, .inr (12, fs94)), (q1, .inl (cq1, 3000, .inl (fun _ => 0))), (q3, .inl (cq3, 710, .inl (fun _ => 0))), (q5, .inl (cq5, 710, .inl (fun _ => 0))), (q7, .inl (cq7, 710, .inl (fun _ => 0))), (q9, .inl (cq9, 710, .inl (fun _ => 0))), (q93, .inl (cq93, 6, .inl (fun _ => 0)))] H := hP
  have hD : va_D A [(h0, .inr (12, fs94)), (q1, .inl (cq1, 3000, .inl (fun _ => 0))), (q3, .inl (cq3, 710, .inl (fun _ => 0))), (q5, .inl (cq5, 710, .inl (fun _ => 0))), (q7, .inl (cq7, 710, .inl (fun _ => 0))), (q9, .inl (cq9, 710, .inl (fun _ => 0))), (q93, .inl (cq93, 6, .inl (fun _ => 0)))] := hD
  have hP : va_P D vwCl [(h0, .inr (12, fs94)), (q1, .inl (cq1, 3000, .inl (fun _ => 0))), (q3, .inl (cq3, 710, .inl (fun _ => 0))), (q5, .inl (cq5, 710, .inl (fun _ => 0))), (q7, .inl (cq7, 710, .inl (fun _ => 0))), (q9, .inl (cq9, 710, .inl (fun _ => 0)))] H := hP.sub [0, 1, 2, 3, 4, 5] rfl
  have hD : va_D A [(h0, .inr (12, fs94)), (q1, .inl (cq1, 3000, .inl (fun _ => 0))), (q3, .inl (cq3, 710, .inl (fun _ => 0))), (q5, .inl (cq5, 710, .inl (fun _ => 0))), (q7, .inl (cq7, 710, .inl (fun _ => 0))), (q9, .inl (cq9, 710, .inl (fun _ => 0)))] := hD.sub [0, 1, 2, 3, 4, 5] (by decide) rfl
  have hK : va_K D vwCl [(cq1, .byte), (cq3, .int), (cq5, .int), (cq7, .int), (cq9, .int)] s := hK.sub [0, 1, 2, 3, 4] rfl
  refine lv_aload_n hx hb dX12_init_401 rfl (lv_at hl 0 rfl) ?_
  refine lv_bipush (v := 6) hx hb dX12_init_402 (by decide +kernel) ?_
  refine va_newa (atype := .int) (ty := .int) (N' := 6) (a0 := (6, .inl (fun _ => 0))) hx hb (hts (.arrayClass .int) (by decide +kernel)) rfl hK hP hD hS hA (na_int 6) (by decide +kernel) (by decide +kernel) (by decide +kernel) (Nat.le_of_ble_eq_true rfl) (Nat.le_of_ble_eq_true rfl) dX12_init_404 (fun q95 cq95 H hK hP hD hS => ?_)
  have hP : va_P D vwCl [(h0, .inr (12, fs94)), (q1, .inl (cq1, 3000, .inl (fun _ => 0))), (q3, .inl (cq3, 710, .inl (fun _ => 0))), (q5, .inl (cq5, 710, .inl (fun _ => 0))), (q7, .inl (cq7, 710, .inl (fun _ => 0))), (q9, .inl (cq9, 710, .inl (fun _ => 0))), (q95, .inl (cq95, 6, .inl (fun _ => 0)))] H := hP
  have hD : va_D A [(h0, .inr (12, fs94)), (q1, .inl (cq1, 3000, .inl (fun _ => 0))), (q3, .inl (cq3, 710, .inl (fun _ => 0))), (q5, .inl (cq5, 710, .inl (fun _ => 0))), (q7, .inl (cq7, 710, .inl (fun _ => 0))), (q9, .inl (cq9, 710, .inl (fun _ => 0))), (q95, .inl (cq95, 6, .inl (fun _ => 0)))] := hD
  have hK : va_K D vwCl [(cq1, .byte), (cq3, .int), (cq5, .int), (cq7, .int), (cq9, .int), (cq95, .int)] s := hK
  refine W.widen (k := 47) (n := 51336) (Nat.le_of_ble_eq_true rfl) (Nat.le_of_ble_eq_true rfl) ?_
  refine va_put (D := D) (ci := 12) (v := .ref q95) (ty := .array .int) (C := RX12) (T := TX12) (N := 139) hx hb hts i_v_c_Model_init_X12 tyX12 tyX12_ok nmX12 hown hK hP hD hS 0 rfl rfl 74 (by decide) (hts (.fieldLink RX12 157 "ScheduleHouseModel" "number" "[I") (by decide +kernel)) (fun _ h9 => h9) rfl (by decide +kernel) rfl rfl (kp_lt kfs94 hlen (by decide)) dX12_init_406 (fun H locs hP hD hS => ?_)
  obtain ⟨fs96, hfs96⟩ : ∃ z, z = fs94.set 74 (.ref q95) := ⟨_, rfl⟩
  have kfs96 := kp_s 74 (.ref q95) kfs94
  have gfs96_12 : fs96[12]? = some (.int (-1)) := by rw [hfs96]; exact se_ne gfs94_12 (by decide)
  have gfs96_11 : fs96[11]? = some (.int (-1)) := by rw [hfs96]; exact se_ne gfs94_11 (by decide)
  have gfs96_7 : fs96[7]? = some (.ref q9) := by rw [hfs96]; exact se_ne gfs94_7 (by decide)
  have gfs96_6 : fs96[6]? = some (.ref q7) := by rw [hfs96]; exact se_ne gfs94_6 (by decide)
  have gfs96_5 : fs96[5]? = some (.ref q5) := by rw [hfs96]; exact se_ne gfs94_5 (by decide)
  have gfs96_4 : fs96[4]? = some (.ref q3) := by rw [hfs96]; exact se_ne gfs94_4 (by decide)
  have gfs96_1 : fs96[1]? = some (.ref q1) := by rw [hfs96]; exact se_ne gfs94_1 (by decide)
  rw [← hfs96] at hP hD kfs96
  have hP : va_P D vwCl [(h0, .inr (12, fs96)), (q1, .inl (cq1, 3000, .inl (fun _ => 0))), (q3, .inl (cq3, 710, .inl (fun _ => 0))), (q5, .inl (cq5, 710, .inl (fun _ => 0))), (q7, .inl (cq7, 710, .inl (fun _ => 0))), (q9, .inl (cq9, 710, .inl (fun _ => 0))), (q95, .inl (cq95, 6, .inl (fun _ => 0)))] H := hP
  have hD : va_D A [(h0, .inr (12, fs96)), (q1, .inl (cq1, 3000, .inl (fun _ => 0))), (q3, .inl (cq3, 710, .inl (fun _ => 0))), (q5, .inl (cq5, 710, .inl (fun _ => 0))), (q7, .inl (cq7, 710, .inl (fun _ => 0))), (q9, .inl (cq9, 710, .inl (fun _ => 0))), (q95, .inl (cq95, 6, .inl (fun _ => 0)))] := hD
  have hP : va_P D vwCl [(h0, .inr (12, fs96)), (q1, .inl (cq1, 3000, .inl (fun _ => 0))), (q3, .inl (cq3, 710, .inl (fun _ => 0))), (q5, .inl (cq5, 710, .inl (fun _ => 0))), (q7, .inl (cq7, 710, .inl (fun _ => 0))), (q9, .inl (cq9, 710, .inl (fun _ => 0)))] H := hP.sub [0, 1, 2, 3, 4, 5] rfl
  have hD : va_D A [(h0, .inr (12, fs96)), (q1, .inl (cq1, 3000, .inl (fun _ => 0))), (q3, .inl (cq3, 710, .inl (fun _ => 0))), (q5, .inl (cq5, 710, .inl (fun _ => 0))), (q7, .inl (cq7, 710, .inl (fun _ => 0))), (q9, .inl (cq9, 710, .inl (fun _ => 0)))] := hD.sub [0, 1, 2, 3, 4, 5] (by decide) rfl
  have hK : va_K D vwCl [(cq1, .byte), (cq3, .int), (cq5, .int), (cq7, .int), (cq9, .int)] s := hK.sub [0, 1, 2, 3, 4] rfl
  refine lv_aload_n hx hb dX12_init_409 rfl (lv_at hl 0 rfl) ?_
  refine lv_bipush (v := 48) hx hb dX12_init_410 (by decide +kernel) ?_
  refine va_newa (atype := .int) (ty := .int) (N' := 48) (a0 := (48, .inl (fun _ => 0))) hx hb (hts (.arrayClass .int) (by decide +kernel)) rfl hK hP hD hS hA (na_int 48) (by decide +kernel) (by decide +kernel) (by decide +kernel) (Nat.le_of_ble_eq_true rfl) (Nat.le_of_ble_eq_true rfl) dX12_init_412 (fun q97 cq97 H hK hP hD hS => ?_)
  have hP : va_P D vwCl [(h0, .inr (12, fs96)), (q1, .inl (cq1, 3000, .inl (fun _ => 0))), (q3, .inl (cq3, 710, .inl (fun _ => 0))), (q5, .inl (cq5, 710, .inl (fun _ => 0))), (q7, .inl (cq7, 710, .inl (fun _ => 0))), (q9, .inl (cq9, 710, .inl (fun _ => 0))), (q97, .inl (cq97, 48, .inl (fun _ => 0)))] H := hP
  have hD : va_D A [(h0, .inr (12, fs96)), (q1, .inl (cq1, 3000, .inl (fun _ => 0))), (q3, .inl (cq3, 710, .inl (fun _ => 0))), (q5, .inl (cq5, 710, .inl (fun _ => 0))), (q7, .inl (cq7, 710, .inl (fun _ => 0))), (q9, .inl (cq9, 710, .inl (fun _ => 0))), (q97, .inl (cq97, 48, .inl (fun _ => 0)))] := hD
  have hK : va_K D vwCl [(cq1, .byte), (cq3, .int), (cq5, .int), (cq7, .int), (cq9, .int), (cq97, .int)] s := hK
  refine W.widen (k := 48) (n := 51384) (Nat.le_of_ble_eq_true rfl) (Nat.le_of_ble_eq_true rfl) ?_
  refine va_put (D := D) (ci := 12) (v := .ref q97) (ty := .array .int) (C := RX12) (T := TX12) (N := 139) hx hb hts i_v_c_Model_init_X12 tyX12 tyX12_ok nmX12 hown hK hP hD hS 0 rfl rfl 75 (by decide) (hts (.fieldLink RX12 160 "ScheduleHouseModel" "local" "[I") (by decide +kernel)) (fun _ h9 => h9) rfl (by decide +kernel) rfl rfl (kp_lt kfs96 hlen (by decide)) dX12_init_414 (fun H locs hP hD hS => ?_)
  obtain ⟨fs98, hfs98⟩ : ∃ z, z = fs96.set 75 (.ref q97) := ⟨_, rfl⟩
  have kfs98 := kp_s 75 (.ref q97) kfs96
  have gfs98_12 : fs98[12]? = some (.int (-1)) := by rw [hfs98]; exact se_ne gfs96_12 (by decide)
  have gfs98_11 : fs98[11]? = some (.int (-1)) := by rw [hfs98]; exact se_ne gfs96_11 (by decide)
  have gfs98_7 : fs98[7]? = some (.ref q9) := by rw [hfs98]; exact se_ne gfs96_7 (by decide)
  have gfs98_6 : fs98[6]? = some (.ref q7) := by rw [hfs98]; exact se_ne gfs96_6 (by decide)
  have gfs98_5 : fs98[5]? = some (.ref q5) := by rw [hfs98]; exact se_ne gfs96_5 (by decide)
  have gfs98_4 : fs98[4]? = some (.ref q3) := by rw [hfs98]; exact se_ne gfs96_4 (by decide)
  have gfs98_1 : fs98[1]? = some (.ref q1) := by rw [hfs98]; exact se_ne gfs96_1 (by decide)
  rw [← hfs98] at hP hD kfs98
  have hP : va_P D vwCl [(h0, .inr (12, fs98)), (q1, .inl (cq1, 3000, .inl (fun _ => 0))), (q3, .inl (cq3, 710, .inl (fun _ => 0))), (q5, .inl (cq5, 710, .inl (fun _ => 0))), (q7, .inl (cq7, 710, .inl (fun _ => 0))), (q9, .inl (cq9, 710, .inl (fun _ => 0))), (q97, .inl (cq97, 48, .inl (fun _ => 0)))] H := hP
  have hD : va_D A [(h0, .inr (12, fs98)), (q1, .inl (cq1, 3000, .inl (fun _ => 0))), (q3, .inl (cq3, 710, .inl (fun _ => 0))), (q5, .inl (cq5, 710, .inl (fun _ => 0))), (q7, .inl (cq7, 710, .inl (fun _ => 0))), (q9, .inl (cq9, 710, .inl (fun _ => 0))), (q97, .inl (cq97, 48, .inl (fun _ => 0)))] := hD
  have hP : va_P D vwCl [(h0, .inr (12, fs98)), (q1, .inl (cq1, 3000, .inl (fun _ => 0))), (q3, .inl (cq3, 710, .inl (fun _ => 0))), (q5, .inl (cq5, 710, .inl (fun _ => 0))), (q7, .inl (cq7, 710, .inl (fun _ => 0))), (q9, .inl (cq9, 710, .inl (fun _ => 0)))] H := hP.sub [0, 1, 2, 3, 4, 5] rfl
  have hD : va_D A [(h0, .inr (12, fs98)), (q1, .inl (cq1, 3000, .inl (fun _ => 0))), (q3, .inl (cq3, 710, .inl (fun _ => 0))), (q5, .inl (cq5, 710, .inl (fun _ => 0))), (q7, .inl (cq7, 710, .inl (fun _ => 0))), (q9, .inl (cq9, 710, .inl (fun _ => 0)))] := hD.sub [0, 1, 2, 3, 4, 5] (by decide) rfl
  have hK : va_K D vwCl [(cq1, .byte), (cq3, .int), (cq5, .int), (cq7, .int), (cq9, .int)] s := hK.sub [0, 1, 2, 3, 4] rfl
  refine lv_aload_n hx hb dX12_init_417 rfl (lv_at hl 0 rfl) ?_
  refine lv_bipush (v := 6) hx hb dX12_init_418 (by decide +kernel) ?_
  refine va_newa (atype := .int) (ty := .int) (N' := 6) (a0 := (6, .inl (fun _ => 0))) hx hb (hts (.arrayClass .int) (by decide +kernel)) rfl hK hP hD hS hA (na_int 6) (by decide +kernel) (by decide +kernel) (by decide +kernel) (Nat.le_of_ble_eq_true rfl) (Nat.le_of_ble_eq_true rfl) dX12_init_420 (fun q99 cq99 H hK hP hD hS => ?_)
  have hP : va_P D vwCl [(h0, .inr (12, fs98)), (q1, .inl (cq1, 3000, .inl (fun _ => 0))), (q3, .inl (cq3, 710, .inl (fun _ => 0))), (q5, .inl (cq5, 710, .inl (fun _ => 0))), (q7, .inl (cq7, 710, .inl (fun _ => 0))), (q9, .inl (cq9, 710, .inl (fun _ => 0))), (q99, .inl (cq99, 6, .inl (fun _ => 0)))] H := hP
  have hD : va_D A [(h0, .inr (12, fs98)), (q1, .inl (cq1, 3000, .inl (fun _ => 0))), (q3, .inl (cq3, 710, .inl (fun _ => 0))), (q5, .inl (cq5, 710, .inl (fun _ => 0))), (q7, .inl (cq7, 710, .inl (fun _ => 0))), (q9, .inl (cq9, 710, .inl (fun _ => 0))), (q99, .inl (cq99, 6, .inl (fun _ => 0)))] := hD
  have hK : va_K D vwCl [(cq1, .byte), (cq3, .int), (cq5, .int), (cq7, .int), (cq9, .int), (cq99, .int)] s := hK
  refine W.widen (k := 49) (n := 51390) (Nat.le_of_ble_eq_true rfl) (Nat.le_of_ble_eq_true rfl) ?_
  refine va_put (D := D) (ci := 12) (v := .ref q99) (ty := .array .int) (C := RX12) (T := TX12) (N := 139) hx hb hts i_v_c_Model_init_X12 tyX12 tyX12_ok nmX12 hown hK hP hD hS 0 rfl rfl 76 (by decide) (hts (.fieldLink RX12 163 "ScheduleHouseModel" "waits" "[I") (by decide +kernel)) (fun _ h9 => h9) rfl (by decide +kernel) rfl rfl (kp_lt kfs98 hlen (by decide)) dX12_init_422 (fun H locs hP hD hS => ?_)
  obtain ⟨fs100, hfs100⟩ : ∃ z, z = fs98.set 76 (.ref q99) := ⟨_, rfl⟩
  have kfs100 := kp_s 76 (.ref q99) kfs98
  have gfs100_12 : fs100[12]? = some (.int (-1)) := by rw [hfs100]; exact se_ne gfs98_12 (by decide)
  have gfs100_11 : fs100[11]? = some (.int (-1)) := by rw [hfs100]; exact se_ne gfs98_11 (by decide)
  have gfs100_7 : fs100[7]? = some (.ref q9) := by rw [hfs100]; exact se_ne gfs98_7 (by decide)
  have gfs100_6 : fs100[6]? = some (.ref q7) := by rw [hfs100]; exact se_ne gfs98_6 (by decide)
  have gfs100_5 : fs100[5]? = some (.ref q5) := by rw [hfs100]; exact se_ne gfs98_5 (by decide)
  have gfs100_4 : fs100[4]? = some (.ref q3) := by rw [hfs100]; exact se_ne gfs98_4 (by decide)
  have gfs100_1 : fs100[1]? = some (.ref q1) := by rw [hfs100]; exact se_ne gfs98_1 (by decide)
  rw [← hfs100] at hP hD kfs100
  have hP : va_P D vwCl [(h0, .inr (12, fs100)), (q1, .inl (cq1, 3000, .inl (fun _ => 0))), (q3, .inl (cq3, 710, .inl (fun _ => 0))), (q5, .inl (cq5, 710, .inl (fun _ => 0))), (q7, .inl (cq7, 710, .inl (fun _ => 0))), (q9, .inl (cq9, 710, .inl (fun _ => 0))), (q99, .inl (cq99, 6, .inl (fun _ => 0)))] H := hP
  have hD : va_D A [(h0, .inr (12, fs100)), (q1, .inl (cq1, 3000, .inl (fun _ => 0))), (q3, .inl (cq3, 710, .inl (fun _ => 0))), (q5, .inl (cq5, 710, .inl (fun _ => 0))), (q7, .inl (cq7, 710, .inl (fun _ => 0))), (q9, .inl (cq9, 710, .inl (fun _ => 0))), (q99, .inl (cq99, 6, .inl (fun _ => 0)))] := hD
  have hP : va_P D vwCl [(h0, .inr (12, fs100)), (q1, .inl (cq1, 3000, .inl (fun _ => 0))), (q3, .inl (cq3, 710, .inl (fun _ => 0))), (q5, .inl (cq5, 710, .inl (fun _ => 0))), (q7, .inl (cq7, 710, .inl (fun _ => 0))), (q9, .inl (cq9, 710, .inl (fun _ => 0)))] H := hP.sub [0, 1, 2, 3, 4, 5] rfl
  have hD : va_D A [(h0, .inr (12, fs100)), (q1, .inl (cq1, 3000, .inl (fun _ => 0))), (q3, .inl (cq3, 710, .inl (fun _ => 0))), (q5, .inl (cq5, 710, .inl (fun _ => 0))), (q7, .inl (cq7, 710, .inl (fun _ => 0))), (q9, .inl (cq9, 710, .inl (fun _ => 0)))] := hD.sub [0, 1, 2, 3, 4, 5] (by decide) rfl
  have hK : va_K D vwCl [(cq1, .byte), (cq3, .int), (cq5, .int), (cq7, .int), (cq9, .int)] s := hK.sub [0, 1, 2, 3, 4] rfl
  refine lv_aload_n hx hb dX12_init_425 rfl (lv_at hl 0 rfl) ?_
  refine lv_bipush (v := 6) hx hb dX12_init_426 (by decide +kernel) ?_
  refine va_newa (atype := .int) (ty := .int) (N' := 6) (a0 := (6, .inl (fun _ => 0))) hx hb (hts (.arrayClass .int) (by decide +kernel)) rfl hK hP hD hS hA (na_int 6) (by decide +kernel) (by decide +kernel) (by decide +kernel) (Nat.le_of_ble_eq_true rfl) (Nat.le_of_ble_eq_true rfl) dX12_init_428 (fun q101 cq101 H hK hP hD hS => ?_)
  have hP : va_P D vwCl [(h0, .inr (12, fs100)), (q1, .inl (cq1, 3000, .inl (fun _ => 0))), (q3, .inl (cq3, 710, .inl (fun _ => 0))), (q5, .inl (cq5, 710, .inl (fun _ => 0))), (q7, .inl (cq7, 710, .inl (fun _ => 0))), (q9, .inl (cq9, 710, .inl (fun _ => 0))), (q101, .inl (cq101, 6, .inl (fun _ => 0)))] H := hP
  have hD : va_D A [(h0, .inr (12, fs100)), (q1, .inl (cq1, 3000, .inl (fun _ => 0))), (q3, .inl (cq3, 710, .inl (fun _ => 0))), (q5, .inl (cq5, 710, .inl (fun _ => 0))), (q7, .inl (cq7, 710, .inl (fun _ => 0))), (q9, .inl (cq9, 710, .inl (fun _ => 0))), (q101, .inl (cq101, 6, .inl (fun _ => 0)))] := hD
  have hK : va_K D vwCl [(cq1, .byte), (cq3, .int), (cq5, .int), (cq7, .int), (cq9, .int), (cq101, .int)] s := hK
  refine W.widen (k := 50) (n := 51396) (Nat.le_of_ble_eq_true rfl) (Nat.le_of_ble_eq_true rfl) ?_
  refine va_put (D := D) (ci := 12) (v := .ref q101) (ty := .array .int) (C := RX12) (T := TX12) (N := 139) hx hb hts i_v_c_Model_init_X12 tyX12 tyX12_ok nmX12 hown hK hP hD hS 0 rfl rfl 77 (by decide) (hts (.fieldLink RX12 166 "ScheduleHouseModel" "waitHeld" "[I") (by decide +kernel)) (fun _ h9 => h9) rfl (by decide +kernel) rfl rfl (kp_lt kfs100 hlen (by decide)) dX12_init_430 (fun H locs hP hD hS => ?_)
  obtain ⟨fs102, hfs102⟩ : ∃ z, z = fs100.set 77 (.ref q101) := ⟨_, rfl⟩
  have kfs102 := kp_s 77 (.ref q101) kfs100
  have gfs102_12 : fs102[12]? = some (.int (-1)) := by rw [hfs102]; exact se_ne gfs100_12 (by decide)
  have gfs102_11 : fs102[11]? = some (.int (-1)) := by rw [hfs102]; exact se_ne gfs100_11 (by decide)
  have gfs102_7 : fs102[7]? = some (.ref q9) := by rw [hfs102]; exact se_ne gfs100_7 (by decide)
  have gfs102_6 : fs102[6]? = some (.ref q7) := by rw [hfs102]; exact se_ne gfs100_6 (by decide)
  have gfs102_5 : fs102[5]? = some (.ref q5) := by rw [hfs102]; exact se_ne gfs100_5 (by decide)
  have gfs102_4 : fs102[4]? = some (.ref q3) := by rw [hfs102]; exact se_ne gfs100_4 (by decide)
  have gfs102_1 : fs102[1]? = some (.ref q1) := by rw [hfs102]; exact se_ne gfs100_1 (by decide)
  rw [← hfs102] at hP hD kfs102
  have hP : va_P D vwCl [(h0, .inr (12, fs102)), (q1, .inl (cq1, 3000, .inl (fun _ => 0))), (q3, .inl (cq3, 710, .inl (fun _ => 0))), (q5, .inl (cq5, 710, .inl (fun _ => 0))), (q7, .inl (cq7, 710, .inl (fun _ => 0))), (q9, .inl (cq9, 710, .inl (fun _ => 0))), (q101, .inl (cq101, 6, .inl (fun _ => 0)))] H := hP
  have hD : va_D A [(h0, .inr (12, fs102)), (q1, .inl (cq1, 3000, .inl (fun _ => 0))), (q3, .inl (cq3, 710, .inl (fun _ => 0))), (q5, .inl (cq5, 710, .inl (fun _ => 0))), (q7, .inl (cq7, 710, .inl (fun _ => 0))), (q9, .inl (cq9, 710, .inl (fun _ => 0))), (q101, .inl (cq101, 6, .inl (fun _ => 0)))] := hD
  have hP : va_P D vwCl [(h0, .inr (12, fs102)), (q1, .inl (cq1, 3000, .inl (fun _ => 0))), (q3, .inl (cq3, 710, .inl (fun _ => 0))), (q5, .inl (cq5, 710, .inl (fun _ => 0))), (q7, .inl (cq7, 710, .inl (fun _ => 0))), (q9, .inl (cq9, 710, .inl (fun _ => 0)))] H := hP.sub [0, 1, 2, 3, 4, 5] rfl
  have hD : va_D A [(h0, .inr (12, fs102)), (q1, .inl (cq1, 3000, .inl (fun _ => 0))), (q3, .inl (cq3, 710, .inl (fun _ => 0))), (q5, .inl (cq5, 710, .inl (fun _ => 0))), (q7, .inl (cq7, 710, .inl (fun _ => 0))), (q9, .inl (cq9, 710, .inl (fun _ => 0)))] := hD.sub [0, 1, 2, 3, 4, 5] (by decide) rfl
  have hK : va_K D vwCl [(cq1, .byte), (cq3, .int), (cq5, .int), (cq7, .int), (cq9, .int)] s := hK.sub [0, 1, 2, 3, 4] rfl
  refine lv_aload_n hx hb dX12_init_433 rfl (lv_at hl 0 rfl) ?_
  refine lv_bipush (v := 6) hx hb dX12_init_434 (by decide +kernel) ?_
  refine va_newa (atype := .int) (ty := .int) (N' := 6) (a0 := (6, .inl (fun _ => 0))) hx hb (hts (.arrayClass .int) (by decide +kernel)) rfl hK hP hD hS hA (na_int 6) (by decide +kernel) (by decide +kernel) (by decide +kernel) (Nat.le_of_ble_eq_true rfl) (Nat.le_of_ble_eq_true rfl) dX12_init_436 (fun q103 cq103 H hK hP hD hS => ?_)
  have hP : va_P D vwCl [(h0, .inr (12, fs102)), (q1, .inl (cq1, 3000, .inl (fun _ => 0))), (q3, .inl (cq3, 710, .inl (fun _ => 0))), (q5, .inl (cq5, 710, .inl (fun _ => 0))), (q7, .inl (cq7, 710, .inl (fun _ => 0))), (q9, .inl (cq9, 710, .inl (fun _ => 0))), (q103, .inl (cq103, 6, .inl (fun _ => 0)))] H := hP
  have hD : va_D A [(h0, .inr (12, fs102)), (q1, .inl (cq1, 3000, .inl (fun _ => 0))), (q3, .inl (cq3, 710, .inl (fun _ => 0))), (q5, .inl (cq5, 710, .inl (fun _ => 0))), (q7, .inl (cq7, 710, .inl (fun _ => 0))), (q9, .inl (cq9, 710, .inl (fun _ => 0))), (q103, .inl (cq103, 6, .inl (fun _ => 0)))] := hD
  have hK : va_K D vwCl [(cq1, .byte), (cq3, .int), (cq5, .int), (cq7, .int), (cq9, .int), (cq103, .int)] s := hK
  refine W.widen (k := 51) (n := 51402) (Nat.le_of_ble_eq_true rfl) (Nat.le_of_ble_eq_true rfl) ?_
  refine va_put (D := D) (ci := 12) (v := .ref q103) (ty := .array .int) (C := RX12) (T := TX12) (N := 139) hx hb hts i_v_c_Model_init_X12 tyX12 tyX12_ok nmX12 hown hK hP hD hS 0 rfl rfl 78 (by decide) (hts (.fieldLink RX12 169 "ScheduleHouseModel" "calling" "[I") (by decide +kernel)) (fun _ h9 => h9) rfl (by decide +kernel) rfl rfl (kp_lt kfs102 hlen (by decide)) dX12_init_438 (fun H locs hP hD hS => ?_)
  obtain ⟨fs104, hfs104⟩ : ∃ z, z = fs102.set 78 (.ref q103) := ⟨_, rfl⟩
  have kfs104 := kp_s 78 (.ref q103) kfs102
  have gfs104_12 : fs104[12]? = some (.int (-1)) := by rw [hfs104]; exact se_ne gfs102_12 (by decide)
  have gfs104_11 : fs104[11]? = some (.int (-1)) := by rw [hfs104]; exact se_ne gfs102_11 (by decide)
  have gfs104_7 : fs104[7]? = some (.ref q9) := by rw [hfs104]; exact se_ne gfs102_7 (by decide)
  have gfs104_6 : fs104[6]? = some (.ref q7) := by rw [hfs104]; exact se_ne gfs102_6 (by decide)
  have gfs104_5 : fs104[5]? = some (.ref q5) := by rw [hfs104]; exact se_ne gfs102_5 (by decide)
  have gfs104_4 : fs104[4]? = some (.ref q3) := by rw [hfs104]; exact se_ne gfs102_4 (by decide)
  have gfs104_1 : fs104[1]? = some (.ref q1) := by rw [hfs104]; exact se_ne gfs102_1 (by decide)
  rw [← hfs104] at hP hD kfs104
  have hP : va_P D vwCl [(h0, .inr (12, fs104)), (q1, .inl (cq1, 3000, .inl (fun _ => 0))), (q3, .inl (cq3, 710, .inl (fun _ => 0))), (q5, .inl (cq5, 710, .inl (fun _ => 0))), (q7, .inl (cq7, 710, .inl (fun _ => 0))), (q9, .inl (cq9, 710, .inl (fun _ => 0))), (q103, .inl (cq103, 6, .inl (fun _ => 0)))] H := hP
  have hD : va_D A [(h0, .inr (12, fs104)), (q1, .inl (cq1, 3000, .inl (fun _ => 0))), (q3, .inl (cq3, 710, .inl (fun _ => 0))), (q5, .inl (cq5, 710, .inl (fun _ => 0))), (q7, .inl (cq7, 710, .inl (fun _ => 0))), (q9, .inl (cq9, 710, .inl (fun _ => 0))), (q103, .inl (cq103, 6, .inl (fun _ => 0)))] := hD
  have hP : va_P D vwCl [(h0, .inr (12, fs104)), (q1, .inl (cq1, 3000, .inl (fun _ => 0))), (q3, .inl (cq3, 710, .inl (fun _ => 0))), (q5, .inl (cq5, 710, .inl (fun _ => 0))), (q7, .inl (cq7, 710, .inl (fun _ => 0))), (q9, .inl (cq9, 710, .inl (fun _ => 0)))] H := hP.sub [0, 1, 2, 3, 4, 5] rfl
  have hD : va_D A [(h0, .inr (12, fs104)), (q1, .inl (cq1, 3000, .inl (fun _ => 0))), (q3, .inl (cq3, 710, .inl (fun _ => 0))), (q5, .inl (cq5, 710, .inl (fun _ => 0))), (q7, .inl (cq7, 710, .inl (fun _ => 0))), (q9, .inl (cq9, 710, .inl (fun _ => 0)))] := hD.sub [0, 1, 2, 3, 4, 5] (by decide) rfl
  have hK : va_K D vwCl [(cq1, .byte), (cq3, .int), (cq5, .int), (cq7, .int), (cq9, .int)] s := hK.sub [0, 1, 2, 3, 4] rfl
  refine lv_aload_n hx hb dX12_init_441 rfl (lv_at hl 0 rfl) ?_
  refine lv_bipush (v := 6) hx hb dX12_init_442 (by decide +kernel) ?_
  refine va_newa (atype := .int) (ty := .int) (N' := 6) (a0 := (6, .inl (fun _ => 0))) hx hb (hts (.arrayClass .int) (by decide +kernel)) rfl hK hP hD hS hA (na_int 6) (by decide +kernel) (by decide +kernel) (by decide +kernel) (Nat.le_of_ble_eq_true rfl) (Nat.le_of_ble_eq_true rfl) dX12_init_444 (fun q105 cq105 H hK hP hD hS => ?_)
  have hP : va_P D vwCl [(h0, .inr (12, fs104)), (q1, .inl (cq1, 3000, .inl (fun _ => 0))), (q3, .inl (cq3, 710, .inl (fun _ => 0))), (q5, .inl (cq5, 710, .inl (fun _ => 0))), (q7, .inl (cq7, 710, .inl (fun _ => 0))), (q9, .inl (cq9, 710, .inl (fun _ => 0))), (q105, .inl (cq105, 6, .inl (fun _ => 0)))] H := hP
  have hD : va_D A [(h0, .inr (12, fs104)), (q1, .inl (cq1, 3000, .inl (fun _ => 0))), (q3, .inl (cq3, 710, .inl (fun _ => 0))), (q5, .inl (cq5, 710, .inl (fun _ => 0))), (q7, .inl (cq7, 710, .inl (fun _ => 0))), (q9, .inl (cq9, 710, .inl (fun _ => 0))), (q105, .inl (cq105, 6, .inl (fun _ => 0)))] := hD
  have hK : va_K D vwCl [(cq1, .byte), (cq3, .int), (cq5, .int), (cq7, .int), (cq9, .int), (cq105, .int)] s := hK
  refine W.widen (k := 52) (n := 51408) (Nat.le_of_ble_eq_true rfl) (Nat.le_of_ble_eq_true rfl) ?_
  refine va_put (D := D) (ci := 12) (v := .ref q105) (ty := .array .int) (C := RX12) (T := TX12) (N := 139) hx hb hts i_v_c_Model_init_X12 tyX12 tyX12_ok nmX12 hown hK hP hD hS 0 rfl rfl 79 (by decide) (hts (.fieldLink RX12 172 "ScheduleHouseModel" "lateMany" "[I") (by decide +kernel)) (fun _ h9 => h9) rfl (by decide +kernel) rfl rfl (kp_lt kfs104 hlen (by decide)) dX12_init_446 (fun H locs hP hD hS => ?_)
  obtain ⟨fs106, hfs106⟩ : ∃ z, z = fs104.set 79 (.ref q105) := ⟨_, rfl⟩
  have kfs106 := kp_s 79 (.ref q105) kfs104
  have gfs106_12 : fs106[12]? = some (.int (-1)) := by rw [hfs106]; exact se_ne gfs104_12 (by decide)
  have gfs106_11 : fs106[11]? = some (.int (-1)) := by rw [hfs106]; exact se_ne gfs104_11 (by decide)
  have gfs106_7 : fs106[7]? = some (.ref q9) := by rw [hfs106]; exact se_ne gfs104_7 (by decide)
  have gfs106_6 : fs106[6]? = some (.ref q7) := by rw [hfs106]; exact se_ne gfs104_6 (by decide)
  have gfs106_5 : fs106[5]? = some (.ref q5) := by rw [hfs106]; exact se_ne gfs104_5 (by decide)
  have gfs106_4 : fs106[4]? = some (.ref q3) := by rw [hfs106]; exact se_ne gfs104_4 (by decide)
  have gfs106_1 : fs106[1]? = some (.ref q1) := by rw [hfs106]; exact se_ne gfs104_1 (by decide)
  rw [← hfs106] at hP hD kfs106
  have hP : va_P D vwCl [(h0, .inr (12, fs106)), (q1, .inl (cq1, 3000, .inl (fun _ => 0))), (q3, .inl (cq3, 710, .inl (fun _ => 0))), (q5, .inl (cq5, 710, .inl (fun _ => 0))), (q7, .inl (cq7, 710, .inl (fun _ => 0))), (q9, .inl (cq9, 710, .inl (fun _ => 0))), (q105, .inl (cq105, 6, .inl (fun _ => 0)))] H := hP
  have hD : va_D A [(h0, .inr (12, fs106)), (q1, .inl (cq1, 3000, .inl (fun _ => 0))), (q3, .inl (cq3, 710, .inl (fun _ => 0))), (q5, .inl (cq5, 710, .inl (fun _ => 0))), (q7, .inl (cq7, 710, .inl (fun _ => 0))), (q9, .inl (cq9, 710, .inl (fun _ => 0))), (q105, .inl (cq105, 6, .inl (fun _ => 0)))] := hD
  have hP : va_P D vwCl [(h0, .inr (12, fs106)), (q1, .inl (cq1, 3000, .inl (fun _ => 0))), (q3, .inl (cq3, 710, .inl (fun _ => 0))), (q5, .inl (cq5, 710, .inl (fun _ => 0))), (q7, .inl (cq7, 710, .inl (fun _ => 0))), (q9, .inl (cq9, 710, .inl (fun _ => 0)))] H := hP.sub [0, 1, 2, 3, 4, 5] rfl
  have hD : va_D A [(h0, .inr (12, fs106)), (q1, .inl (cq1, 3000, .inl (fun _ => 0))), (q3, .inl (cq3, 710, .inl (fun _ => 0))), (q5, .inl (cq5, 710, .inl (fun _ => 0))), (q7, .inl (cq7, 710, .inl (fun _ => 0))), (q9, .inl (cq9, 710, .inl (fun _ => 0)))] := hD.sub [0, 1, 2, 3, 4, 5] (by decide) rfl
  have hK : va_K D vwCl [(cq1, .byte), (cq3, .int), (cq5, .int), (cq7, .int), (cq9, .int)] s := hK.sub [0, 1, 2, 3, 4] rfl
  refine lv_aload_n hx hb dX12_init_449 rfl (lv_at hl 0 rfl) ?_
  refine lv_bipush (v := 60) hx hb dX12_init_450 (by decide +kernel) ?_
  refine va_newa (atype := .int) (ty := .int) (N' := 60) (a0 := (60, .inl (fun _ => 0))) hx hb (hts (.arrayClass .int) (by decide +kernel)) rfl hK hP hD hS hA (na_int 60) (by decide +kernel) (by decide +kernel) (by decide +kernel) (Nat.le_of_ble_eq_true rfl) (Nat.le_of_ble_eq_true rfl) dX12_init_452 (fun q107 cq107 H hK hP hD hS => ?_)
  have hP : va_P D vwCl [(h0, .inr (12, fs106)), (q1, .inl (cq1, 3000, .inl (fun _ => 0))), (q3, .inl (cq3, 710, .inl (fun _ => 0))), (q5, .inl (cq5, 710, .inl (fun _ => 0))), (q7, .inl (cq7, 710, .inl (fun _ => 0))), (q9, .inl (cq9, 710, .inl (fun _ => 0))), (q107, .inl (cq107, 60, .inl (fun _ => 0)))] H := hP
  have hD : va_D A [(h0, .inr (12, fs106)), (q1, .inl (cq1, 3000, .inl (fun _ => 0))), (q3, .inl (cq3, 710, .inl (fun _ => 0))), (q5, .inl (cq5, 710, .inl (fun _ => 0))), (q7, .inl (cq7, 710, .inl (fun _ => 0))), (q9, .inl (cq9, 710, .inl (fun _ => 0))), (q107, .inl (cq107, 60, .inl (fun _ => 0)))] := hD
  have hK : va_K D vwCl [(cq1, .byte), (cq3, .int), (cq5, .int), (cq7, .int), (cq9, .int), (cq107, .int)] s := hK
  refine W.widen (k := 53) (n := 51468) (Nat.le_of_ble_eq_true rfl) (Nat.le_of_ble_eq_true rfl) ?_
  refine va_put (D := D) (ci := 12) (v := .ref q107) (ty := .array .int) (C := RX12) (T := TX12) (N := 139) hx hb hts i_v_c_Model_init_X12 tyX12 tyX12_ok nmX12 hown hK hP hD hS 0 rfl rfl 80 (by decide) (hts (.fieldLink RX12 175 "ScheduleHouseModel" "lateCell" "[I") (by decide +kernel)) (fun _ h9 => h9) rfl (by decide +kernel) rfl rfl (kp_lt kfs106 hlen (by decide)) dX12_init_454 (fun H locs hP hD hS => ?_)
  obtain ⟨fs108, hfs108⟩ : ∃ z, z = fs106.set 80 (.ref q107) := ⟨_, rfl⟩
  have kfs108 := kp_s 80 (.ref q107) kfs106
  have gfs108_12 : fs108[12]? = some (.int (-1)) := by rw [hfs108]; exact se_ne gfs106_12 (by decide)
  have gfs108_11 : fs108[11]? = some (.int (-1)) := by rw [hfs108]; exact se_ne gfs106_11 (by decide)
  have gfs108_7 : fs108[7]? = some (.ref q9) := by rw [hfs108]; exact se_ne gfs106_7 (by decide)
  have gfs108_6 : fs108[6]? = some (.ref q7) := by rw [hfs108]; exact se_ne gfs106_6 (by decide)
  have gfs108_5 : fs108[5]? = some (.ref q5) := by rw [hfs108]; exact se_ne gfs106_5 (by decide)
  have gfs108_4 : fs108[4]? = some (.ref q3) := by rw [hfs108]; exact se_ne gfs106_4 (by decide)
  have gfs108_1 : fs108[1]? = some (.ref q1) := by rw [hfs108]; exact se_ne gfs106_1 (by decide)
  rw [← hfs108] at hP hD kfs108
  have hP : va_P D vwCl [(h0, .inr (12, fs108)), (q1, .inl (cq1, 3000, .inl (fun _ => 0))), (q3, .inl (cq3, 710, .inl (fun _ => 0))), (q5, .inl (cq5, 710, .inl (fun _ => 0))), (q7, .inl (cq7, 710, .inl (fun _ => 0))), (q9, .inl (cq9, 710, .inl (fun _ => 0))), (q107, .inl (cq107, 60, .inl (fun _ => 0)))] H := hP
  have hD : va_D A [(h0, .inr (12, fs108)), (q1, .inl (cq1, 3000, .inl (fun _ => 0))), (q3, .inl (cq3, 710, .inl (fun _ => 0))), (q5, .inl (cq5, 710, .inl (fun _ => 0))), (q7, .inl (cq7, 710, .inl (fun _ => 0))), (q9, .inl (cq9, 710, .inl (fun _ => 0))), (q107, .inl (cq107, 60, .inl (fun _ => 0)))] := hD
  have hP : va_P D vwCl [(h0, .inr (12, fs108)), (q1, .inl (cq1, 3000, .inl (fun _ => 0))), (q3, .inl (cq3, 710, .inl (fun _ => 0))), (q5, .inl (cq5, 710, .inl (fun _ => 0))), (q7, .inl (cq7, 710, .inl (fun _ => 0))), (q9, .inl (cq9, 710, .inl (fun _ => 0)))] H := hP.sub [0, 1, 2, 3, 4, 5] rfl
  have hD : va_D A [(h0, .inr (12, fs108)), (q1, .inl (cq1, 3000, .inl (fun _ => 0))), (q3, .inl (cq3, 710, .inl (fun _ => 0))), (q5, .inl (cq5, 710, .inl (fun _ => 0))), (q7, .inl (cq7, 710, .inl (fun _ => 0))), (q9, .inl (cq9, 710, .inl (fun _ => 0)))] := hD.sub [0, 1, 2, 3, 4, 5] (by decide) rfl
  have hK : va_K D vwCl [(cq1, .byte), (cq3, .int), (cq5, .int), (cq7, .int), (cq9, .int)] s := hK.sub [0, 1, 2, 3, 4] rfl
  refine lv_aload_n hx hb dX12_init_457 rfl (lv_at hl 0 rfl) ?_
  refine lv_bipush (v := 60) hx hb dX12_init_458 (by decide +kernel) ?_
  refine va_newa (atype := .int) (ty := .int) (N' := 60) (a0 := (60, .inl (fun _ => 0))) hx hb (hts (.arrayClass .int) (by decide +kernel)) rfl hK hP hD hS hA (na_int 60) (by decide +kernel) (by decide +kernel) (by decide +kernel) (Nat.le_of_ble_eq_true rfl) (Nat.le_of_ble_eq_true rfl) dX12_init_460 (fun q109 cq109 H hK hP hD hS => ?_)
  have hP : va_P D vwCl [(h0, .inr (12, fs108)), (q1, .inl (cq1, 3000, .inl (fun _ => 0))), (q3, .inl (cq3, 710, .inl (fun _ => 0))), (q5, .inl (cq5, 710, .inl (fun _ => 0))), (q7, .inl (cq7, 710, .inl (fun _ => 0))), (q9, .inl (cq9, 710, .inl (fun _ => 0))), (q109, .inl (cq109, 60, .inl (fun _ => 0)))] H := hP
  have hD : va_D A [(h0, .inr (12, fs108)), (q1, .inl (cq1, 3000, .inl (fun _ => 0))), (q3, .inl (cq3, 710, .inl (fun _ => 0))), (q5, .inl (cq5, 710, .inl (fun _ => 0))), (q7, .inl (cq7, 710, .inl (fun _ => 0))), (q9, .inl (cq9, 710, .inl (fun _ => 0))), (q109, .inl (cq109, 60, .inl (fun _ => 0)))] := hD
  have hK : va_K D vwCl [(cq1, .byte), (cq3, .int), (cq5, .int), (cq7, .int), (cq9, .int), (cq109, .int)] s := hK
  refine W.widen (k := 54) (n := 51528) (Nat.le_of_ble_eq_true rfl) (Nat.le_of_ble_eq_true rfl) ?_
  refine va_put (D := D) (ci := 12) (v := .ref q109) (ty := .array .int) (C := RX12) (T := TX12) (N := 139) hx hb hts i_v_c_Model_init_X12 tyX12 tyX12_ok nmX12 hown hK hP hD hS 0 rfl rfl 81 (by decide) (hts (.fieldLink RX12 178 "ScheduleHouseModel" "lateValue" "[I") (by decide +kernel)) (fun _ h9 => h9) rfl (by decide +kernel) rfl rfl (kp_lt kfs108 hlen (by decide)) dX12_init_462 (fun H locs hP hD hS => ?_)
  obtain ⟨fs110, hfs110⟩ : ∃ z, z = fs108.set 81 (.ref q109) := ⟨_, rfl⟩
  have kfs110 := kp_s 81 (.ref q109) kfs108
  have gfs110_12 : fs110[12]? = some (.int (-1)) := by rw [hfs110]; exact se_ne gfs108_12 (by decide)
  have gfs110_11 : fs110[11]? = some (.int (-1)) := by rw [hfs110]; exact se_ne gfs108_11 (by decide)
  have gfs110_7 : fs110[7]? = some (.ref q9) := by rw [hfs110]; exact se_ne gfs108_7 (by decide)
  have gfs110_6 : fs110[6]? = some (.ref q7) := by rw [hfs110]; exact se_ne gfs108_6 (by decide)
  have gfs110_5 : fs110[5]? = some (.ref q5) := by rw [hfs110]; exact se_ne gfs108_5 (by decide)
  have gfs110_4 : fs110[4]? = some (.ref q3) := by rw [hfs110]; exact se_ne gfs108_4 (by decide)
  have gfs110_1 : fs110[1]? = some (.ref q1) := by rw [hfs110]; exact se_ne gfs108_1 (by decide)
  rw [← hfs110] at hP hD kfs110
  have hP : va_P D vwCl [(h0, .inr (12, fs110)), (q1, .inl (cq1, 3000, .inl (fun _ => 0))), (q3, .inl (cq3, 710, .inl (fun _ => 0))), (q5, .inl (cq5, 710, .inl (fun _ => 0))), (q7, .inl (cq7, 710, .inl (fun _ => 0))), (q9, .inl (cq9, 710, .inl (fun _ => 0))), (q109, .inl (cq109, 60, .inl (fun _ => 0)))] H := hP
  have hD : va_D A [(h0, .inr (12, fs110)), (q1, .inl (cq1, 3000, .inl (fun _ => 0))), (q3, .inl (cq3, 710, .inl (fun _ => 0))), (q5, .inl (cq5, 710, .inl (fun _ => 0))), (q7, .inl (cq7, 710, .inl (fun _ => 0))), (q9, .inl (cq9, 710, .inl (fun _ => 0))), (q109, .inl (cq109, 60, .inl (fun _ => 0)))] := hD
  have hP : va_P D vwCl [(h0, .inr (12, fs110)), (q1, .inl (cq1, 3000, .inl (fun _ => 0))), (q3, .inl (cq3, 710, .inl (fun _ => 0))), (q5, .inl (cq5, 710, .inl (fun _ => 0))), (q7, .inl (cq7, 710, .inl (fun _ => 0))), (q9, .inl (cq9, 710, .inl (fun _ => 0)))] H := hP.sub [0, 1, 2, 3, 4, 5] rfl
  have hD : va_D A [(h0, .inr (12, fs110)), (q1, .inl (cq1, 3000, .inl (fun _ => 0))), (q3, .inl (cq3, 710, .inl (fun _ => 0))), (q5, .inl (cq5, 710, .inl (fun _ => 0))), (q7, .inl (cq7, 710, .inl (fun _ => 0))), (q9, .inl (cq9, 710, .inl (fun _ => 0)))] := hD.sub [0, 1, 2, 3, 4, 5] (by decide) rfl
  have hK : va_K D vwCl [(cq1, .byte), (cq3, .int), (cq5, .int), (cq7, .int), (cq9, .int)] s := hK.sub [0, 1, 2, 3, 4] rfl
  refine lv_aload_n hx hb dX12_init_465 rfl (lv_at hl 0 rfl) ?_
  refine lv_bipush (v := 60) hx hb dX12_init_466 (by decide +kernel) ?_
  refine va_newa (atype := .int) (ty := .int) (N' := 60) (a0 := (60, .inl (fun _ => 0))) hx hb (hts (.arrayClass .int) (by decide +kernel)) rfl hK hP hD hS hA (na_int 60) (by decide +kernel) (by decide +kernel) (by decide +kernel) (Nat.le_of_ble_eq_true rfl) (Nat.le_of_ble_eq_true rfl) dX12_init_468 (fun q111 cq111 H hK hP hD hS => ?_)
  have hP : va_P D vwCl [(h0, .inr (12, fs110)), (q1, .inl (cq1, 3000, .inl (fun _ => 0))), (q3, .inl (cq3, 710, .inl (fun _ => 0))), (q5, .inl (cq5, 710, .inl (fun _ => 0))), (q7, .inl (cq7, 710, .inl (fun _ => 0))), (q9, .inl (cq9, 710, .inl (fun _ => 0))), (q111, .inl (cq111, 60, .inl (fun _ => 0)))] H := hP
  have hD : va_D A [(h0, .inr (12, fs110)), (q1, .inl (cq1, 3000, .inl (fun _ => 0))), (q3, .inl (cq3, 710, .inl (fun _ => 0))), (q5, .inl (cq5, 710, .inl (fun _ => 0))), (q7, .inl (cq7, 710, .inl (fun _ => 0))), (q9, .inl (cq9, 710, .inl (fun _ => 0))), (q111, .inl (cq111, 60, .inl (fun _ => 0)))] := hD
  have hK : va_K D vwCl [(cq1, .byte), (cq3, .int), (cq5, .int), (cq7, .int), (cq9, .int), (cq111, .int)] s := hK
  refine W.widen (k := 55) (n := 51588) (Nat.le_of_ble_eq_true rfl) (Nat.le_of_ble_eq_true rfl) ?_
  refine va_put (D := D) (ci := 12) (v := .ref q111) (ty := .array .int) (C := RX12) (T := TX12) (N := 139) hx hb hts i_v_c_Model_init_X12 tyX12 tyX12_ok nmX12 hown hK hP hD hS 0 rfl rfl 83 (by decide) (hts (.fieldLink RX12 181 "ScheduleHouseModel" "pile" "[I") (by decide +kernel)) (fun _ h9 => h9) rfl (by decide +kernel) rfl rfl (kp_lt kfs110 hlen (by decide)) dX12_init_470 (fun H locs hP hD hS => ?_)
  obtain ⟨fs112, hfs112⟩ : ∃ z, z = fs110.set 83 (.ref q111) := ⟨_, rfl⟩
  have kfs112 := kp_s 83 (.ref q111) kfs110
  have gfs112_12 : fs112[12]? = some (.int (-1)) := by rw [hfs112]; exact se_ne gfs110_12 (by decide)
  have gfs112_11 : fs112[11]? = some (.int (-1)) := by rw [hfs112]; exact se_ne gfs110_11 (by decide)
  have gfs112_7 : fs112[7]? = some (.ref q9) := by rw [hfs112]; exact se_ne gfs110_7 (by decide)
  have gfs112_6 : fs112[6]? = some (.ref q7) := by rw [hfs112]; exact se_ne gfs110_6 (by decide)
  have gfs112_5 : fs112[5]? = some (.ref q5) := by rw [hfs112]; exact se_ne gfs110_5 (by decide)
  have gfs112_4 : fs112[4]? = some (.ref q3) := by rw [hfs112]; exact se_ne gfs110_4 (by decide)
  have gfs112_1 : fs112[1]? = some (.ref q1) := by rw [hfs112]; exact se_ne gfs110_1 (by decide)
  rw [← hfs112] at hP hD kfs112
  have hP : va_P D vwCl [(h0, .inr (12, fs112)), (q1, .inl (cq1, 3000, .inl (fun _ => 0))), (q3, .inl (cq3, 710, .inl (fun _ => 0))), (q5, .inl (cq5, 710, .inl (fun _ => 0))), (q7, .inl (cq7, 710, .inl (fun _ => 0))), (q9, .inl (cq9, 710, .inl (fun _ => 0))), (q111, .inl (cq111, 60, .inl (fun _ => 0)))] H := hP
  have hD : va_D A [(h0, .inr (12, fs112)), (q1, .inl (cq1, 3000, .inl (fun _ => 0))), (q3, .inl (cq3, 710, .inl (fun _ => 0))), (q5, .inl (cq5, 710, .inl (fun _ => 0))), (q7, .inl (cq7, 710, .inl (fun _ => 0))), (q9, .inl (cq9, 710, .inl (fun _ => 0))), (q111, .inl (cq111, 60, .inl (fun _ => 0)))] := hD
  have hP : va_P D vwCl [(h0, .inr (12, fs112)), (q1, .inl (cq1, 3000, .inl (fun _ => 0))), (q3, .inl (cq3, 710, .inl (fun _ => 0))), (q5, .inl (cq5, 710, .inl (fun _ => 0))), (q7, .inl (cq7, 710, .inl (fun _ => 0))), (q9, .inl (cq9, 710, .inl (fun _ => 0)))] H := hP.sub [0, 1, 2, 3, 4, 5] rfl
  have hD : va_D A [(h0, .inr (12, fs112)), (q1, .inl (cq1, 3000, .inl (fun _ => 0))), (q3, .inl (cq3, 710, .inl (fun _ => 0))), (q5, .inl (cq5, 710, .inl (fun _ => 0))), (q7, .inl (cq7, 710, .inl (fun _ => 0))), (q9, .inl (cq9, 710, .inl (fun _ => 0)))] := hD.sub [0, 1, 2, 3, 4, 5] (by decide) rfl
  have hK : va_K D vwCl [(cq1, .byte), (cq3, .int), (cq5, .int), (cq7, .int), (cq9, .int)] s := hK.sub [0, 1, 2, 3, 4] rfl
  refine lv_aload_n hx hb dX12_init_473 rfl (lv_at hl 0 rfl) ?_
  refine lv_sipush (v := 200) hx hb dX12_init_474 (by decide +kernel) ?_
  refine va_newa (atype := .int) (ty := .int) (N' := 200) (a0 := (200, .inl (fun _ => 0))) hx hb (hts (.arrayClass .int) (by decide +kernel)) rfl hK hP hD hS hA (na_int 200) (by decide +kernel) (by decide +kernel) (by decide +kernel) (Nat.le_of_ble_eq_true rfl) (Nat.le_of_ble_eq_true rfl) dX12_init_477 (fun q113 cq113 H hK hP hD hS => ?_)
  have hP : va_P D vwCl [(h0, .inr (12, fs112)), (q1, .inl (cq1, 3000, .inl (fun _ => 0))), (q3, .inl (cq3, 710, .inl (fun _ => 0))), (q5, .inl (cq5, 710, .inl (fun _ => 0))), (q7, .inl (cq7, 710, .inl (fun _ => 0))), (q9, .inl (cq9, 710, .inl (fun _ => 0))), (q113, .inl (cq113, 200, .inl (fun _ => 0)))] H := hP
  have hD : va_D A [(h0, .inr (12, fs112)), (q1, .inl (cq1, 3000, .inl (fun _ => 0))), (q3, .inl (cq3, 710, .inl (fun _ => 0))), (q5, .inl (cq5, 710, .inl (fun _ => 0))), (q7, .inl (cq7, 710, .inl (fun _ => 0))), (q9, .inl (cq9, 710, .inl (fun _ => 0))), (q113, .inl (cq113, 200, .inl (fun _ => 0)))] := hD
  have hK : va_K D vwCl [(cq1, .byte), (cq3, .int), (cq5, .int), (cq7, .int), (cq9, .int), (cq113, .int)] s := hK
  refine W.widen (k := 56) (n := 51788) (Nat.le_of_ble_eq_true rfl) (Nat.le_of_ble_eq_true rfl) ?_
  refine va_put (D := D) (ci := 12) (v := .ref q113) (ty := .array .int) (C := RX12) (T := TX12) (N := 139) hx hb hts i_v_c_Model_init_X12 tyX12 tyX12_ok nmX12 hown hK hP hD hS 0 rfl rfl 85 (by decide) (hts (.fieldLink RX12 184 "ScheduleHouseModel" "choiceThread" "[I") (by decide +kernel)) (fun _ h9 => h9) rfl (by decide +kernel) rfl rfl (kp_lt kfs112 hlen (by decide)) dX12_init_479 (fun H locs hP hD hS => ?_)
  obtain ⟨fs114, hfs114⟩ : ∃ z, z = fs112.set 85 (.ref q113) := ⟨_, rfl⟩
  have kfs114 := kp_s 85 (.ref q113) kfs112
  have gfs114_12 : fs114[12]? = some (.int (-1)) := by rw [hfs114]; exact se_ne gfs112_12 (by decide)
  have gfs114_11 : fs114[11]? = some (.int (-1)) := by rw [hfs114]; exact se_ne gfs112_11 (by decide)
  have gfs114_7 : fs114[7]? = some (.ref q9) := by rw [hfs114]; exact se_ne gfs112_7 (by decide)
  have gfs114_6 : fs114[6]? = some (.ref q7) := by rw [hfs114]; exact se_ne gfs112_6 (by decide)
  have gfs114_5 : fs114[5]? = some (.ref q5) := by rw [hfs114]; exact se_ne gfs112_5 (by decide)
  have gfs114_4 : fs114[4]? = some (.ref q3) := by rw [hfs114]; exact se_ne gfs112_4 (by decide)
  have gfs114_1 : fs114[1]? = some (.ref q1) := by rw [hfs114]; exact se_ne gfs112_1 (by decide)
  rw [← hfs114] at hP hD kfs114
  have hP : va_P D vwCl [(h0, .inr (12, fs114)), (q1, .inl (cq1, 3000, .inl (fun _ => 0))), (q3, .inl (cq3, 710, .inl (fun _ => 0))), (q5, .inl (cq5, 710, .inl (fun _ => 0))), (q7, .inl (cq7, 710, .inl (fun _ => 0))), (q9, .inl (cq9, 710, .inl (fun _ => 0))), (q113, .inl (cq113, 200, .inl (fun _ => 0)))] H := hP
  have hD : va_D A [(h0, .inr (12, fs114)), (q1, .inl (cq1, 3000, .inl (fun _ => 0))), (q3, .inl (cq3, 710, .inl (fun _ => 0))), (q5, .inl (cq5, 710, .inl (fun _ => 0))), (q7, .inl (cq7, 710, .inl (fun _ => 0))), (q9, .inl (cq9, 710, .inl (fun _ => 0))), (q113, .inl (cq113, 200, .inl (fun _ => 0)))] := hD
  have hP : va_P D vwCl [(h0, .inr (12, fs114)), (q1, .inl (cq1, 3000, .inl (fun _ => 0))), (q3, .inl (cq3, 710, .inl (fun _ => 0))), (q5, .inl (cq5, 710, .inl (fun _ => 0))), (q7, .inl (cq7, 710, .inl (fun _ => 0))), (q9, .inl (cq9, 710, .inl (fun _ => 0)))] H := hP.sub [0, 1, 2, 3, 4, 5] rfl
  have hD : va_D A [(h0, .inr (12, fs114)), (q1, .inl (cq1, 3000, .inl (fun _ => 0))), (q3, .inl (cq3, 710, .inl (fun _ => 0))), (q5, .inl (cq5, 710, .inl (fun _ => 0))), (q7, .inl (cq7, 710, .inl (fun _ => 0))), (q9, .inl (cq9, 710, .inl (fun _ => 0)))] := hD.sub [0, 1, 2, 3, 4, 5] (by decide) rfl
  have hK : va_K D vwCl [(cq1, .byte), (cq3, .int), (cq5, .int), (cq7, .int), (cq9, .int)] s := hK.sub [0, 1, 2, 3, 4] rfl
  refine lv_aload_n hx hb dX12_init_482 rfl (lv_at hl 0 rfl) ?_
  refine lv_sipush (v := 200) hx hb dX12_init_483 (by decide +kernel) ?_
  refine va_newa (atype := .int) (ty := .int) (N' := 200) (a0 := (200, .inl (fun _ => 0))) hx hb (hts (.arrayClass .int) (by decide +kernel)) rfl hK hP hD hS hA (na_int 200) (by decide +kernel) (by decide +kernel) (by decide +kernel) (Nat.le_of_ble_eq_true rfl) (Nat.le_of_ble_eq_true rfl) dX12_init_486 (fun q115 cq115 H hK hP hD hS => ?_)
  have hP : va_P D vwCl [(h0, .inr (12, fs114)), (q1, .inl (cq1, 3000, .inl (fun _ => 0))), (q3, .inl (cq3, 710, .inl (fun _ => 0))), (q5, .inl (cq5, 710, .inl (fun _ => 0))), (q7, .inl (cq7, 710, .inl (fun _ => 0))), (q9, .inl (cq9, 710, .inl (fun _ => 0))), (q115, .inl (cq115, 200, .inl (fun _ => 0)))] H := hP
  have hD : va_D A [(h0, .inr (12, fs114)), (q1, .inl (cq1, 3000, .inl (fun _ => 0))), (q3, .inl (cq3, 710, .inl (fun _ => 0))), (q5, .inl (cq5, 710, .inl (fun _ => 0))), (q7, .inl (cq7, 710, .inl (fun _ => 0))), (q9, .inl (cq9, 710, .inl (fun _ => 0))), (q115, .inl (cq115, 200, .inl (fun _ => 0)))] := hD
  have hK : va_K D vwCl [(cq1, .byte), (cq3, .int), (cq5, .int), (cq7, .int), (cq9, .int), (cq115, .int)] s := hK
  refine W.widen (k := 57) (n := 51988) (Nat.le_of_ble_eq_true rfl) (Nat.le_of_ble_eq_true rfl) ?_
  refine va_put (D := D) (ci := 12) (v := .ref q115) (ty := .array .int) (C := RX12) (T := TX12) (N := 139) hx hb hts i_v_c_Model_init_X12 tyX12 tyX12_ok nmX12 hown hK hP hD hS 0 rfl rfl 86 (by decide) (hts (.fieldLink RX12 187 "ScheduleHouseModel" "choiceLate" "[I") (by decide +kernel)) (fun _ h9 => h9) rfl (by decide +kernel) rfl rfl (kp_lt kfs114 hlen (by decide)) dX12_init_488 (fun H locs hP hD hS => ?_)
  obtain ⟨fs116, hfs116⟩ : ∃ z, z = fs114.set 86 (.ref q115) := ⟨_, rfl⟩
  have kfs116 := kp_s 86 (.ref q115) kfs114
  have gfs116_12 : fs116[12]? = some (.int (-1)) := by rw [hfs116]; exact se_ne gfs114_12 (by decide)
  have gfs116_11 : fs116[11]? = some (.int (-1)) := by rw [hfs116]; exact se_ne gfs114_11 (by decide)
  have gfs116_7 : fs116[7]? = some (.ref q9) := by rw [hfs116]; exact se_ne gfs114_7 (by decide)
  have gfs116_6 : fs116[6]? = some (.ref q7) := by rw [hfs116]; exact se_ne gfs114_6 (by decide)
  have gfs116_5 : fs116[5]? = some (.ref q5) := by rw [hfs116]; exact se_ne gfs114_5 (by decide)
  have gfs116_4 : fs116[4]? = some (.ref q3) := by rw [hfs116]; exact se_ne gfs114_4 (by decide)
  have gfs116_1 : fs116[1]? = some (.ref q1) := by rw [hfs116]; exact se_ne gfs114_1 (by decide)
  rw [← hfs116] at hP hD kfs116
  have hP : va_P D vwCl [(h0, .inr (12, fs116)), (q1, .inl (cq1, 3000, .inl (fun _ => 0))), (q3, .inl (cq3, 710, .inl (fun _ => 0))), (q5, .inl (cq5, 710, .inl (fun _ => 0))), (q7, .inl (cq7, 710, .inl (fun _ => 0))), (q9, .inl (cq9, 710, .inl (fun _ => 0))), (q115, .inl (cq115, 200, .inl (fun _ => 0)))] H := hP
  have hD : va_D A [(h0, .inr (12, fs116)), (q1, .inl (cq1, 3000, .inl (fun _ => 0))), (q3, .inl (cq3, 710, .inl (fun _ => 0))), (q5, .inl (cq5, 710, .inl (fun _ => 0))), (q7, .inl (cq7, 710, .inl (fun _ => 0))), (q9, .inl (cq9, 710, .inl (fun _ => 0))), (q115, .inl (cq115, 200, .inl (fun _ => 0)))] := hD
  have hP : va_P D vwCl [(h0, .inr (12, fs116)), (q1, .inl (cq1, 3000, .inl (fun _ => 0))), (q3, .inl (cq3, 710, .inl (fun _ => 0))), (q5, .inl (cq5, 710, .inl (fun _ => 0))), (q7, .inl (cq7, 710, .inl (fun _ => 0))), (q9, .inl (cq9, 710, .inl (fun _ => 0)))] H := hP.sub [0, 1, 2, 3, 4, 5] rfl
  have hD : va_D A [(h0, .inr (12, fs116)), (q1, .inl (cq1, 3000, .inl (fun _ => 0))), (q3, .inl (cq3, 710, .inl (fun _ => 0))), (q5, .inl (cq5, 710, .inl (fun _ => 0))), (q7, .inl (cq7, 710, .inl (fun _ => 0))), (q9, .inl (cq9, 710, .inl (fun _ => 0)))] := hD.sub [0, 1, 2, 3, 4, 5] (by decide) rfl
  have hK : va_K D vwCl [(cq1, .byte), (cq3, .int), (cq5, .int), (cq7, .int), (cq9, .int)] s := hK.sub [0, 1, 2, 3, 4] rfl
  refine lv_aload_n hx hb dX12_init_491 rfl (lv_at hl 0 rfl) ?_
  refine lv_sipush (v := 200) hx hb dX12_init_492 (by decide +kernel) ?_
  refine va_newa (atype := .int) (ty := .int) (N' := 200) (a0 := (200, .inl (fun _ => 0))) hx hb (hts (.arrayClass .int) (by decide +kernel)) rfl hK hP hD hS hA (na_int 200) (by decide +kernel) (by decide +kernel) (by decide +kernel) (Nat.le_of_ble_eq_true rfl) (Nat.le_of_ble_eq_true rfl) dX12_init_495 (fun q117 cq117 H hK hP hD hS => ?_)
  have hP : va_P D vwCl [(h0, .inr (12, fs116)), (q1, .inl (cq1, 3000, .inl (fun _ => 0))), (q3, .inl (cq3, 710, .inl (fun _ => 0))), (q5, .inl (cq5, 710, .inl (fun _ => 0))), (q7, .inl (cq7, 710, .inl (fun _ => 0))), (q9, .inl (cq9, 710, .inl (fun _ => 0))), (q117, .inl (cq117, 200, .inl (fun _ => 0)))] H := hP
  have hD : va_D A [(h0, .inr (12, fs116)), (q1, .inl (cq1, 3000, .inl (fun _ => 0))), (q3, .inl (cq3, 710, .inl (fun _ => 0))), (q5, .inl (cq5, 710, .inl (fun _ => 0))), (q7, .inl (cq7, 710, .inl (fun _ => 0))), (q9, .inl (cq9, 710, .inl (fun _ => 0))), (q117, .inl (cq117, 200, .inl (fun _ => 0)))] := hD
  have hK : va_K D vwCl [(cq1, .byte), (cq3, .int), (cq5, .int), (cq7, .int), (cq9, .int), (cq117, .int)] s := hK
  refine W.widen (k := 58) (n := 52188) (Nat.le_of_ble_eq_true rfl) (Nat.le_of_ble_eq_true rfl) ?_
  refine va_put (D := D) (ci := 12) (v := .ref q117) (ty := .array .int) (C := RX12) (T := TX12) (N := 139) hx hb hts i_v_c_Model_init_X12 tyX12 tyX12_ok nmX12 hown hK hP hD hS 0 rfl rfl 87 (by decide) (hts (.fieldLink RX12 190 "ScheduleHouseModel" "choiceWakes" "[I") (by decide +kernel)) (fun _ h9 => h9) rfl (by decide +kernel) rfl rfl (kp_lt kfs116 hlen (by decide)) dX12_init_497 (fun H locs hP hD hS => ?_)
  obtain ⟨fs118, hfs118⟩ : ∃ z, z = fs116.set 87 (.ref q117) := ⟨_, rfl⟩
  have kfs118 := kp_s 87 (.ref q117) kfs116
  have gfs118_12 : fs118[12]? = some (.int (-1)) := by rw [hfs118]; exact se_ne gfs116_12 (by decide)
  have gfs118_11 : fs118[11]? = some (.int (-1)) := by rw [hfs118]; exact se_ne gfs116_11 (by decide)
  have gfs118_7 : fs118[7]? = some (.ref q9) := by rw [hfs118]; exact se_ne gfs116_7 (by decide)
  have gfs118_6 : fs118[6]? = some (.ref q7) := by rw [hfs118]; exact se_ne gfs116_6 (by decide)
  have gfs118_5 : fs118[5]? = some (.ref q5) := by rw [hfs118]; exact se_ne gfs116_5 (by decide)
  have gfs118_4 : fs118[4]? = some (.ref q3) := by rw [hfs118]; exact se_ne gfs116_4 (by decide)
  have gfs118_1 : fs118[1]? = some (.ref q1) := by rw [hfs118]; exact se_ne gfs116_1 (by decide)
  rw [← hfs118] at hP hD kfs118
  have hP : va_P D vwCl [(h0, .inr (12, fs118)), (q1, .inl (cq1, 3000, .inl (fun _ => 0))), (q3, .inl (cq3, 710, .inl (fun _ => 0))), (q5, .inl (cq5, 710, .inl (fun _ => 0))), (q7, .inl (cq7, 710, .inl (fun _ => 0))), (q9, .inl (cq9, 710, .inl (fun _ => 0))), (q117, .inl (cq117, 200, .inl (fun _ => 0)))] H := hP
  have hD : va_D A [(h0, .inr (12, fs118)), (q1, .inl (cq1, 3000, .inl (fun _ => 0))), (q3, .inl (cq3, 710, .inl (fun _ => 0))), (q5, .inl (cq5, 710, .inl (fun _ => 0))), (q7, .inl (cq7, 710, .inl (fun _ => 0))), (q9, .inl (cq9, 710, .inl (fun _ => 0))), (q117, .inl (cq117, 200, .inl (fun _ => 0)))] := hD
  have hP : va_P D vwCl [(h0, .inr (12, fs118)), (q1, .inl (cq1, 3000, .inl (fun _ => 0))), (q3, .inl (cq3, 710, .inl (fun _ => 0))), (q5, .inl (cq5, 710, .inl (fun _ => 0))), (q7, .inl (cq7, 710, .inl (fun _ => 0))), (q9, .inl (cq9, 710, .inl (fun _ => 0)))] H := hP.sub [0, 1, 2, 3, 4, 5] rfl
  have hD : va_D A [(h0, .inr (12, fs118)), (q1, .inl (cq1, 3000, .inl (fun _ => 0))), (q3, .inl (cq3, 710, .inl (fun _ => 0))), (q5, .inl (cq5, 710, .inl (fun _ => 0))), (q7, .inl (cq7, 710, .inl (fun _ => 0))), (q9, .inl (cq9, 710, .inl (fun _ => 0)))] := hD.sub [0, 1, 2, 3, 4, 5] (by decide) rfl
  have hK : va_K D vwCl [(cq1, .byte), (cq3, .int), (cq5, .int), (cq7, .int), (cq9, .int)] s := hK.sub [0, 1, 2, 3, 4] rfl
  refine lv_aload_n hx hb dX12_init_500 rfl (lv_at hl 0 rfl) ?_
  refine lv_sipush (v := 400) hx hb dX12_init_501 (by decide +kernel) ?_
  refine va_newa (atype := .int) (ty := .int) (N' := 400) (a0 := (400, .inl (fun _ => 0))) hx hb (hts (.arrayClass .int) (by decide +kernel)) rfl hK hP hD hS hA (na_int 400) (by decide +kernel) (by decide +kernel) (by decide +kernel) (Nat.le_of_ble_eq_true rfl) (Nat.le_of_ble_eq_true rfl) dX12_init_504 (fun q119 cq119 H hK hP hD hS => ?_)
  have hP : va_P D vwCl [(h0, .inr (12, fs118)), (q1, .inl (cq1, 3000, .inl (fun _ => 0))), (q3, .inl (cq3, 710, .inl (fun _ => 0))), (q5, .inl (cq5, 710, .inl (fun _ => 0))), (q7, .inl (cq7, 710, .inl (fun _ => 0))), (q9, .inl (cq9, 710, .inl (fun _ => 0))), (q119, .inl (cq119, 400, .inl (fun _ => 0)))] H := hP
  have hD : va_D A [(h0, .inr (12, fs118)), (q1, .inl (cq1, 3000, .inl (fun _ => 0))), (q3, .inl (cq3, 710, .inl (fun _ => 0))), (q5, .inl (cq5, 710, .inl (fun _ => 0))), (q7, .inl (cq7, 710, .inl (fun _ => 0))), (q9, .inl (cq9, 710, .inl (fun _ => 0))), (q119, .inl (cq119, 400, .inl (fun _ => 0)))] := hD
  have hK : va_K D vwCl [(cq1, .byte), (cq3, .int), (cq5, .int), (cq7, .int), (cq9, .int), (cq119, .int)] s := hK
  refine W.widen (k := 59) (n := 52588) (Nat.le_of_ble_eq_true rfl) (Nat.le_of_ble_eq_true rfl) ?_
  refine va_put (D := D) (ci := 12) (v := .ref q119) (ty := .array .int) (C := RX12) (T := TX12) (N := 139) hx hb hts i_v_c_Model_init_X12 tyX12 tyX12_ok nmX12 hown hK hP hD hS 0 rfl rfl 95 (by decide) (hts (.fieldLink RX12 193 "ScheduleHouseModel" "doneChoice" "[I") (by decide +kernel)) (fun _ h9 => h9) rfl (by decide +kernel) rfl rfl (kp_lt kfs118 hlen (by decide)) dX12_init_506 (fun H locs hP hD hS => ?_)
  obtain ⟨fs120, hfs120⟩ : ∃ z, z = fs118.set 95 (.ref q119) := ⟨_, rfl⟩
  have kfs120 := kp_s 95 (.ref q119) kfs118
  have gfs120_12 : fs120[12]? = some (.int (-1)) := by rw [hfs120]; exact se_ne gfs118_12 (by decide)
  have gfs120_11 : fs120[11]? = some (.int (-1)) := by rw [hfs120]; exact se_ne gfs118_11 (by decide)
  have gfs120_7 : fs120[7]? = some (.ref q9) := by rw [hfs120]; exact se_ne gfs118_7 (by decide)
  have gfs120_6 : fs120[6]? = some (.ref q7) := by rw [hfs120]; exact se_ne gfs118_6 (by decide)
  have gfs120_5 : fs120[5]? = some (.ref q5) := by rw [hfs120]; exact se_ne gfs118_5 (by decide)
  have gfs120_4 : fs120[4]? = some (.ref q3) := by rw [hfs120]; exact se_ne gfs118_4 (by decide)
  have gfs120_1 : fs120[1]? = some (.ref q1) := by rw [hfs120]; exact se_ne gfs118_1 (by decide)
  rw [← hfs120] at hP hD kfs120
  have hP : va_P D vwCl [(h0, .inr (12, fs120)), (q1, .inl (cq1, 3000, .inl (fun _ => 0))), (q3, .inl (cq3, 710, .inl (fun _ => 0))), (q5, .inl (cq5, 710, .inl (fun _ => 0))), (q7, .inl (cq7, 710, .inl (fun _ => 0))), (q9, .inl (cq9, 710, .inl (fun _ => 0))), (q119, .inl (cq119, 400, .inl (fun _ => 0)))] H := hP
  have hD : va_D A [(h0, .inr (12, fs120)), (q1, .inl (cq1, 3000, .inl (fun _ => 0))), (q3, .inl (cq3, 710, .inl (fun _ => 0))), (q5, .inl (cq5, 710, .inl (fun _ => 0))), (q7, .inl (cq7, 710, .inl (fun _ => 0))), (q9, .inl (cq9, 710, .inl (fun _ => 0))), (q119, .inl (cq119, 400, .inl (fun _ => 0)))] := hD
  have hP : va_P D vwCl [(h0, .inr (12, fs120)), (q1, .inl (cq1, 3000, .inl (fun _ => 0))), (q3, .inl (cq3, 710, .inl (fun _ => 0))), (q5, .inl (cq5, 710, .inl (fun _ => 0))), (q7, .inl (cq7, 710, .inl (fun _ => 0))), (q9, .inl (cq9, 710, .inl (fun _ => 0)))] H := hP.sub [0, 1, 2, 3, 4, 5] rfl
  have hD : va_D A [(h0, .inr (12, fs120)), (q1, .inl (cq1, 3000, .inl (fun _ => 0))), (q3, .inl (cq3, 710, .inl (fun _ => 0))), (q5, .inl (cq5, 710, .inl (fun _ => 0))), (q7, .inl (cq7, 710, .inl (fun _ => 0))), (q9, .inl (cq9, 710, .inl (fun _ => 0)))] := hD.sub [0, 1, 2, 3, 4, 5] (by decide) rfl
  have hK : va_K D vwCl [(cq1, .byte), (cq3, .int), (cq5, .int), (cq7, .int), (cq9, .int)] s := hK.sub [0, 1, 2, 3, 4] rfl
  refine lv_aload_n hx hb dX12_init_509 rfl (lv_at hl 0 rfl) ?_
  refine lv_sipush (v := 400) hx hb dX12_init_510 (by decide +kernel) ?_
  refine va_newa (atype := .int) (ty := .int) (N' := 400) (a0 := (400, .inl (fun _ => 0))) hx hb (hts (.arrayClass .int) (by decide +kernel)) rfl hK hP hD hS hA (na_int 400) (by decide +kernel) (by decide +kernel) (by decide +kernel) (Nat.le_of_ble_eq_true rfl) (Nat.le_of_ble_eq_true rfl) dX12_init_513 (fun q121 cq121 H hK hP hD hS => ?_)
  have hP : va_P D vwCl [(h0, .inr (12, fs120)), (q1, .inl (cq1, 3000, .inl (fun _ => 0))), (q3, .inl (cq3, 710, .inl (fun _ => 0))), (q5, .inl (cq5, 710, .inl (fun _ => 0))), (q7, .inl (cq7, 710, .inl (fun _ => 0))), (q9, .inl (cq9, 710, .inl (fun _ => 0))), (q121, .inl (cq121, 400, .inl (fun _ => 0)))] H := hP
  have hD : va_D A [(h0, .inr (12, fs120)), (q1, .inl (cq1, 3000, .inl (fun _ => 0))), (q3, .inl (cq3, 710, .inl (fun _ => 0))), (q5, .inl (cq5, 710, .inl (fun _ => 0))), (q7, .inl (cq7, 710, .inl (fun _ => 0))), (q9, .inl (cq9, 710, .inl (fun _ => 0))), (q121, .inl (cq121, 400, .inl (fun _ => 0)))] := hD
  have hK : va_K D vwCl [(cq1, .byte), (cq3, .int), (cq5, .int), (cq7, .int), (cq9, .int), (cq121, .int)] s := hK
  refine W.widen (k := 60) (n := 52988) (Nat.le_of_ble_eq_true rfl) (Nat.le_of_ble_eq_true rfl) ?_
  refine va_put (D := D) (ci := 12) (v := .ref q121) (ty := .array .int) (C := RX12) (T := TX12) (N := 139) hx hb hts i_v_c_Model_init_X12 tyX12 tyX12_ok nmX12 hown hK hP hD hS 0 rfl rfl 97 (by decide) (hts (.fieldLink RX12 196 "ScheduleHouseModel" "actThread" "[I") (by decide +kernel)) (fun _ h9 => h9) rfl (by decide +kernel) rfl rfl (kp_lt kfs120 hlen (by decide)) dX12_init_515 (fun H locs hP hD hS => ?_)
  obtain ⟨fs122, hfs122⟩ : ∃ z, z = fs120.set 97 (.ref q121) := ⟨_, rfl⟩
  have kfs122 := kp_s 97 (.ref q121) kfs120
  have gfs122_12 : fs122[12]? = some (.int (-1)) := by rw [hfs122]; exact se_ne gfs120_12 (by decide)
  have gfs122_11 : fs122[11]? = some (.int (-1)) := by rw [hfs122]; exact se_ne gfs120_11 (by decide)
  have gfs122_7 : fs122[7]? = some (.ref q9) := by rw [hfs122]; exact se_ne gfs120_7 (by decide)
  have gfs122_6 : fs122[6]? = some (.ref q7) := by rw [hfs122]; exact se_ne gfs120_6 (by decide)
  have gfs122_5 : fs122[5]? = some (.ref q5) := by rw [hfs122]; exact se_ne gfs120_5 (by decide)
  have gfs122_4 : fs122[4]? = some (.ref q3) := by rw [hfs122]; exact se_ne gfs120_4 (by decide)
  have gfs122_1 : fs122[1]? = some (.ref q1) := by rw [hfs122]; exact se_ne gfs120_1 (by decide)
  rw [← hfs122] at hP hD kfs122
  have hP : va_P D vwCl [(h0, .inr (12, fs122)), (q1, .inl (cq1, 3000, .inl (fun _ => 0))), (q3, .inl (cq3, 710, .inl (fun _ => 0))), (q5, .inl (cq5, 710, .inl (fun _ => 0))), (q7, .inl (cq7, 710, .inl (fun _ => 0))), (q9, .inl (cq9, 710, .inl (fun _ => 0))), (q121, .inl (cq121, 400, .inl (fun _ => 0)))] H := hP
  have hD : va_D A [(h0, .inr (12, fs122)), (q1, .inl (cq1, 3000, .inl (fun _ => 0))), (q3, .inl (cq3, 710, .inl (fun _ => 0))), (q5, .inl (cq5, 710, .inl (fun _ => 0))), (q7, .inl (cq7, 710, .inl (fun _ => 0))), (q9, .inl (cq9, 710, .inl (fun _ => 0))), (q121, .inl (cq121, 400, .inl (fun _ => 0)))] := hD
  have hP : va_P D vwCl [(h0, .inr (12, fs122)), (q1, .inl (cq1, 3000, .inl (fun _ => 0))), (q3, .inl (cq3, 710, .inl (fun _ => 0))), (q5, .inl (cq5, 710, .inl (fun _ => 0))), (q7, .inl (cq7, 710, .inl (fun _ => 0))), (q9, .inl (cq9, 710, .inl (fun _ => 0)))] H := hP.sub [0, 1, 2, 3, 4, 5] rfl
  have hD : va_D A [(h0, .inr (12, fs122)), (q1, .inl (cq1, 3000, .inl (fun _ => 0))), (q3, .inl (cq3, 710, .inl (fun _ => 0))), (q5, .inl (cq5, 710, .inl (fun _ => 0))), (q7, .inl (cq7, 710, .inl (fun _ => 0))), (q9, .inl (cq9, 710, .inl (fun _ => 0)))] := hD.sub [0, 1, 2, 3, 4, 5] (by decide) rfl
  have hK : va_K D vwCl [(cq1, .byte), (cq3, .int), (cq5, .int), (cq7, .int), (cq9, .int)] s := hK.sub [0, 1, 2, 3, 4] rfl
  refine lv_aload_n hx hb dX12_init_518 rfl (lv_at hl 0 rfl) ?_
  refine lv_sipush (v := 400) hx hb dX12_init_519 (by decide +kernel) ?_
  refine va_newa (atype := .int) (ty := .int) (N' := 400) (a0 := (400, .inl (fun _ => 0))) hx hb (hts (.arrayClass .int) (by decide +kernel)) rfl hK hP hD hS hA (na_int 400) (by decide +kernel) (by decide +kernel) (by decide +kernel) (Nat.le_of_ble_eq_true rfl) (Nat.le_of_ble_eq_true rfl) dX12_init_522 (fun q123 cq123 H hK hP hD hS => ?_)
  have hP : va_P D vwCl [(h0, .inr (12, fs122)), (q1, .inl (cq1, 3000, .inl (fun _ => 0))), (q3, .inl (cq3, 710, .inl (fun _ => 0))), (q5, .inl (cq5, 710, .inl (fun _ => 0))), (q7, .inl (cq7, 710, .inl (fun _ => 0))), (q9, .inl (cq9, 710, .inl (fun _ => 0))), (q123, .inl (cq123, 400, .inl (fun _ => 0)))] H := hP
  have hD : va_D A [(h0, .inr (12, fs122)), (q1, .inl (cq1, 3000, .inl (fun _ => 0))), (q3, .inl (cq3, 710, .inl (fun _ => 0))), (q5, .inl (cq5, 710, .inl (fun _ => 0))), (q7, .inl (cq7, 710, .inl (fun _ => 0))), (q9, .inl (cq9, 710, .inl (fun _ => 0))), (q123, .inl (cq123, 400, .inl (fun _ => 0)))] := hD
  have hK : va_K D vwCl [(cq1, .byte), (cq3, .int), (cq5, .int), (cq7, .int), (cq9, .int), (cq123, .int)] s := hK
  refine W.widen (k := 61) (n := 53388) (Nat.le_of_ble_eq_true rfl) (Nat.le_of_ble_eq_true rfl) ?_
  refine va_put (D := D) (ci := 12) (v := .ref q123) (ty := .array .int) (C := RX12) (T := TX12) (N := 139) hx hb hts i_v_c_Model_init_X12 tyX12 tyX12_ok nmX12 hown hK hP hD hS 0 rfl rfl 98 (by decide) (hts (.fieldLink RX12 199 "ScheduleHouseModel" "actSort" "[I") (by decide +kernel)) (fun _ h9 => h9) rfl (by decide +kernel) rfl rfl (kp_lt kfs122 hlen (by decide)) dX12_init_524 (fun H locs hP hD hS => ?_)
  obtain ⟨fs124, hfs124⟩ : ∃ z, z = fs122.set 98 (.ref q123) := ⟨_, rfl⟩
  have kfs124 := kp_s 98 (.ref q123) kfs122
  have gfs124_12 : fs124[12]? = some (.int (-1)) := by rw [hfs124]; exact se_ne gfs122_12 (by decide)
  have gfs124_11 : fs124[11]? = some (.int (-1)) := by rw [hfs124]; exact se_ne gfs122_11 (by decide)
  have gfs124_7 : fs124[7]? = some (.ref q9) := by rw [hfs124]; exact se_ne gfs122_7 (by decide)
  have gfs124_6 : fs124[6]? = some (.ref q7) := by rw [hfs124]; exact se_ne gfs122_6 (by decide)
  have gfs124_5 : fs124[5]? = some (.ref q5) := by rw [hfs124]; exact se_ne gfs122_5 (by decide)
  have gfs124_4 : fs124[4]? = some (.ref q3) := by rw [hfs124]; exact se_ne gfs122_4 (by decide)
  have gfs124_1 : fs124[1]? = some (.ref q1) := by rw [hfs124]; exact se_ne gfs122_1 (by decide)
  rw [← hfs124] at hP hD kfs124
  have hP : va_P D vwCl [(h0, .inr (12, fs124)), (q1, .inl (cq1, 3000, .inl (fun _ => 0))), (q3, .inl (cq3, 710, .inl (fun _ => 0))), (q5, .inl (cq5, 710, .inl (fun _ => 0))), (q7, .inl (cq7, 710, .inl (fun _ => 0))), (q9, .inl (cq9, 710, .inl (fun _ => 0))), (q123, .inl (cq123, 400, .inl (fun _ => 0)))] H := hP
  have hD : va_D A [(h0, .inr (12, fs124)), (q1, .inl (cq1, 3000, .inl (fun _ => 0))), (q3, .inl (cq3, 710, .inl (fun _ => 0))), (q5, .inl (cq5, 710, .inl (fun _ => 0))), (q7, .inl (cq7, 710, .inl (fun _ => 0))), (q9, .inl (cq9, 710, .inl (fun _ => 0))), (q123, .inl (cq123, 400, .inl (fun _ => 0)))] := hD
  have hP : va_P D vwCl [(h0, .inr (12, fs124)), (q1, .inl (cq1, 3000, .inl (fun _ => 0))), (q3, .inl (cq3, 710, .inl (fun _ => 0))), (q5, .inl (cq5, 710, .inl (fun _ => 0))), (q7, .inl (cq7, 710, .inl (fun _ => 0))), (q9, .inl (cq9, 710, .inl (fun _ => 0)))] H := hP.sub [0, 1, 2, 3, 4, 5] rfl
  have hD : va_D A [(h0, .inr (12, fs124)), (q1, .inl (cq1, 3000, .inl (fun _ => 0))), (q3, .inl (cq3, 710, .inl (fun _ => 0))), (q5, .inl (cq5, 710, .inl (fun _ => 0))), (q7, .inl (cq7, 710, .inl (fun _ => 0))), (q9, .inl (cq9, 710, .inl (fun _ => 0)))] := hD.sub [0, 1, 2, 3, 4, 5] (by decide) rfl
  have hK : va_K D vwCl [(cq1, .byte), (cq3, .int), (cq5, .int), (cq7, .int), (cq9, .int)] s := hK.sub [0, 1, 2, 3, 4] rfl
  refine lv_aload_n hx hb dX12_init_527 rfl (lv_at hl 0 rfl) ?_
  refine lv_sipush (v := 400) hx hb dX12_init_528 (by decide +kernel) ?_
  refine va_newa (atype := .int) (ty := .int) (N' := 400) (a0 := (400, .inl (fun _ => 0))) hx hb (hts (.arrayClass .int) (by decide +kernel)) rfl hK hP hD hS hA (na_int 400) (by decide +kernel) (by decide +kernel) (by decide +kernel) (Nat.le_of_ble_eq_true rfl) (Nat.le_of_ble_eq_true rfl) dX12_init_531 (fun q125 cq125 H hK hP hD hS => ?_)
  have hP : va_P D vwCl [(h0, .inr (12, fs124)), (q1, .inl (cq1, 3000, .inl (fun _ => 0))), (q3, .inl (cq3, 710, .inl (fun _ => 0))), (q5, .inl (cq5, 710, .inl (fun _ => 0))), (q7, .inl (cq7, 710, .inl (fun _ => 0))), (q9, .inl (cq9, 710, .inl (fun _ => 0))), (q125, .inl (cq125, 400, .inl (fun _ => 0)))] H := hP
  have hD : va_D A [(h0, .inr (12, fs124)), (q1, .inl (cq1, 3000, .inl (fun _ => 0))), (q3, .inl (cq3, 710, .inl (fun _ => 0))), (q5, .inl (cq5, 710, .inl (fun _ => 0))), (q7, .inl (cq7, 710, .inl (fun _ => 0))), (q9, .inl (cq9, 710, .inl (fun _ => 0))), (q125, .inl (cq125, 400, .inl (fun _ => 0)))] := hD
  have hK : va_K D vwCl [(cq1, .byte), (cq3, .int), (cq5, .int), (cq7, .int), (cq9, .int), (cq125, .int)] s := hK
  refine W.widen (k := 62) (n := 53788) (Nat.le_of_ble_eq_true rfl) (Nat.le_of_ble_eq_true rfl) ?_
  refine va_put (D := D) (ci := 12) (v := .ref q125) (ty := .array .int) (C := RX12) (T := TX12) (N := 139) hx hb hts i_v_c_Model_init_X12 tyX12 tyX12_ok nmX12 hown hK hP hD hS 0 rfl rfl 99 (by decide) (hts (.fieldLink RX12 202 "ScheduleHouseModel" "actOf" "[I") (by decide +kernel)) (fun _ h9 => h9) rfl (by decide +kernel) rfl rfl (kp_lt kfs124 hlen (by decide)) dX12_init_533 (fun H locs hP hD hS => ?_)
  obtain ⟨fs126, hfs126⟩ : ∃ z, z = fs124.set 99 (.ref q125) := ⟨_, rfl⟩
  have kfs126 := kp_s 99 (.ref q125) kfs124
  have gfs126_12 : fs126[12]? = some (.int (-1)) := by rw [hfs126]; exact se_ne gfs124_12 (by decide)
  have gfs126_11 : fs126[11]? = some (.int (-1)) := by rw [hfs126]; exact se_ne gfs124_11 (by decide)
  have gfs126_7 : fs126[7]? = some (.ref q9) := by rw [hfs126]; exact se_ne gfs124_7 (by decide)
  have gfs126_6 : fs126[6]? = some (.ref q7) := by rw [hfs126]; exact se_ne gfs124_6 (by decide)
  have gfs126_5 : fs126[5]? = some (.ref q5) := by rw [hfs126]; exact se_ne gfs124_5 (by decide)
  have gfs126_4 : fs126[4]? = some (.ref q3) := by rw [hfs126]; exact se_ne gfs124_4 (by decide)
  have gfs126_1 : fs126[1]? = some (.ref q1) := by rw [hfs126]; exact se_ne gfs124_1 (by decide)
  rw [← hfs126] at hP hD kfs126
  have hP : va_P D vwCl [(h0, .inr (12, fs126)), (q1, .inl (cq1, 3000, .inl (fun _ => 0))), (q3, .inl (cq3, 710, .inl (fun _ => 0))), (q5, .inl (cq5, 710, .inl (fun _ => 0))), (q7, .inl (cq7, 710, .inl (fun _ => 0))), (q9, .inl (cq9, 710, .inl (fun _ => 0))), (q125, .inl (cq125, 400, .inl (fun _ => 0)))] H := hP
  have hD : va_D A [(h0, .inr (12, fs126)), (q1, .inl (cq1, 3000, .inl (fun _ => 0))), (q3, .inl (cq3, 710, .inl (fun _ => 0))), (q5, .inl (cq5, 710, .inl (fun _ => 0))), (q7, .inl (cq7, 710, .inl (fun _ => 0))), (q9, .inl (cq9, 710, .inl (fun _ => 0))), (q125, .inl (cq125, 400, .inl (fun _ => 0)))] := hD
  have hP : va_P D vwCl [(h0, .inr (12, fs126)), (q1, .inl (cq1, 3000, .inl (fun _ => 0))), (q3, .inl (cq3, 710, .inl (fun _ => 0))), (q5, .inl (cq5, 710, .inl (fun _ => 0))), (q7, .inl (cq7, 710, .inl (fun _ => 0))), (q9, .inl (cq9, 710, .inl (fun _ => 0)))] H := hP.sub [0, 1, 2, 3, 4, 5] rfl
  have hD : va_D A [(h0, .inr (12, fs126)), (q1, .inl (cq1, 3000, .inl (fun _ => 0))), (q3, .inl (cq3, 710, .inl (fun _ => 0))), (q5, .inl (cq5, 710, .inl (fun _ => 0))), (q7, .inl (cq7, 710, .inl (fun _ => 0))), (q9, .inl (cq9, 710, .inl (fun _ => 0)))] := hD.sub [0, 1, 2, 3, 4, 5] (by decide) rfl
  have hK : va_K D vwCl [(cq1, .byte), (cq3, .int), (cq5, .int), (cq7, .int), (cq9, .int)] s := hK.sub [0, 1, 2, 3, 4] rfl
  refine lv_aload_n hx hb dX12_init_536 rfl (lv_at hl 0 rfl) ?_
  refine lv_sipush (v := 400) hx hb dX12_init_537 (by decide +kernel) ?_
  refine va_newa (atype := .int) (ty := .int) (N' := 400) (a0 := (400, .inl (fun _ => 0))) hx hb (hts (.arrayClass .int) (by decide +kernel)) rfl hK hP hD hS hA (na_int 400) (by decide +kernel) (by decide +kernel) (by decide +kernel) (Nat.le_of_ble_eq_true rfl) (Nat.le_of_ble_eq_true rfl) dX12_init_540 (fun q127 cq127 H hK hP hD hS => ?_)
  have hP : va_P D vwCl [(h0, .inr (12, fs126)), (q1, .inl (cq1, 3000, .inl (fun _ => 0))), (q3, .inl (cq3, 710, .inl (fun _ => 0))), (q5, .inl (cq5, 710, .inl (fun _ => 0))), (q7, .inl (cq7, 710, .inl (fun _ => 0))), (q9, .inl (cq9, 710, .inl (fun _ => 0))), (q127, .inl (cq127, 400, .inl (fun _ => 0)))] H := hP
  have hD : va_D A [(h0, .inr (12, fs126)), (q1, .inl (cq1, 3000, .inl (fun _ => 0))), (q3, .inl (cq3, 710, .inl (fun _ => 0))), (q5, .inl (cq5, 710, .inl (fun _ => 0))), (q7, .inl (cq7, 710, .inl (fun _ => 0))), (q9, .inl (cq9, 710, .inl (fun _ => 0))), (q127, .inl (cq127, 400, .inl (fun _ => 0)))] := hD
  have hK : va_K D vwCl [(cq1, .byte), (cq3, .int), (cq5, .int), (cq7, .int), (cq9, .int), (cq127, .int)] s := hK
  refine W.widen (k := 63) (n := 54188) (Nat.le_of_ble_eq_true rfl) (Nat.le_of_ble_eq_true rfl) ?_
  refine va_put (D := D) (ci := 12) (v := .ref q127) (ty := .array .int) (C := RX12) (T := TX12) (N := 139) hx hb hts i_v_c_Model_init_X12 tyX12 tyX12_ok nmX12 hown hK hP hD hS 0 rfl rfl 100 (by decide) (hts (.fieldLink RX12 205 "ScheduleHouseModel" "actRead" "[I") (by decide +kernel)) (fun _ h9 => h9) rfl (by decide +kernel) rfl rfl (kp_lt kfs126 hlen (by decide)) dX12_init_542 (fun H locs hP hD hS => ?_)
  obtain ⟨fs128, hfs128⟩ : ∃ z, z = fs126.set 100 (.ref q127) := ⟨_, rfl⟩
  have kfs128 := kp_s 100 (.ref q127) kfs126
  have gfs128_12 : fs128[12]? = some (.int (-1)) := by rw [hfs128]; exact se_ne gfs126_12 (by decide)
  have gfs128_11 : fs128[11]? = some (.int (-1)) := by rw [hfs128]; exact se_ne gfs126_11 (by decide)
  have gfs128_7 : fs128[7]? = some (.ref q9) := by rw [hfs128]; exact se_ne gfs126_7 (by decide)
  have gfs128_6 : fs128[6]? = some (.ref q7) := by rw [hfs128]; exact se_ne gfs126_6 (by decide)
  have gfs128_5 : fs128[5]? = some (.ref q5) := by rw [hfs128]; exact se_ne gfs126_5 (by decide)
  have gfs128_4 : fs128[4]? = some (.ref q3) := by rw [hfs128]; exact se_ne gfs126_4 (by decide)
  have gfs128_1 : fs128[1]? = some (.ref q1) := by rw [hfs128]; exact se_ne gfs126_1 (by decide)
  rw [← hfs128] at hP hD kfs128
  have hP : va_P D vwCl [(h0, .inr (12, fs128)), (q1, .inl (cq1, 3000, .inl (fun _ => 0))), (q3, .inl (cq3, 710, .inl (fun _ => 0))), (q5, .inl (cq5, 710, .inl (fun _ => 0))), (q7, .inl (cq7, 710, .inl (fun _ => 0))), (q9, .inl (cq9, 710, .inl (fun _ => 0))), (q127, .inl (cq127, 400, .inl (fun _ => 0)))] H := hP
  have hD : va_D A [(h0, .inr (12, fs128)), (q1, .inl (cq1, 3000, .inl (fun _ => 0))), (q3, .inl (cq3, 710, .inl (fun _ => 0))), (q5, .inl (cq5, 710, .inl (fun _ => 0))), (q7, .inl (cq7, 710, .inl (fun _ => 0))), (q9, .inl (cq9, 710, .inl (fun _ => 0))), (q127, .inl (cq127, 400, .inl (fun _ => 0)))] := hD
  have hP : va_P D vwCl [(h0, .inr (12, fs128)), (q1, .inl (cq1, 3000, .inl (fun _ => 0))), (q3, .inl (cq3, 710, .inl (fun _ => 0))), (q5, .inl (cq5, 710, .inl (fun _ => 0))), (q7, .inl (cq7, 710, .inl (fun _ => 0))), (q9, .inl (cq9, 710, .inl (fun _ => 0)))] H := hP.sub [0, 1, 2, 3, 4, 5] rfl
  have hD : va_D A [(h0, .inr (12, fs128)), (q1, .inl (cq1, 3000, .inl (fun _ => 0))), (q3, .inl (cq3, 710, .inl (fun _ => 0))), (q5, .inl (cq5, 710, .inl (fun _ => 0))), (q7, .inl (cq7, 710, .inl (fun _ => 0))), (q9, .inl (cq9, 710, .inl (fun _ => 0)))] := hD.sub [0, 1, 2, 3, 4, 5] (by decide) rfl
  have hK : va_K D vwCl [(cq1, .byte), (cq3, .int), (cq5, .int), (cq7, .int), (cq9, .int)] s := hK.sub [0, 1, 2, 3, 4] rfl
  refine lv_aload_n hx hb dX12_init_545 rfl (lv_at hl 0 rfl) ?_
  refine lv_sipush (v := 400) hx hb dX12_init_546 (by decide +kernel) ?_
  refine va_newa (atype := .int) (ty := .int) (N' := 400) (a0 := (400, .inl (fun _ => 0))) hx hb (hts (.arrayClass .int) (by decide +kernel)) rfl hK hP hD hS hA (na_int 400) (by decide +kernel) (by decide +kernel) (by decide +kernel) (Nat.le_of_ble_eq_true rfl) (Nat.le_of_ble_eq_true rfl) dX12_init_549 (fun q129 cq129 H hK hP hD hS => ?_)
  have hP : va_P D vwCl [(h0, .inr (12, fs128)), (q1, .inl (cq1, 3000, .inl (fun _ => 0))), (q3, .inl (cq3, 710, .inl (fun _ => 0))), (q5, .inl (cq5, 710, .inl (fun _ => 0))), (q7, .inl (cq7, 710, .inl (fun _ => 0))), (q9, .inl (cq9, 710, .inl (fun _ => 0))), (q129, .inl (cq129, 400, .inl (fun _ => 0)))] H := hP
  have hD : va_D A [(h0, .inr (12, fs128)), (q1, .inl (cq1, 3000, .inl (fun _ => 0))), (q3, .inl (cq3, 710, .inl (fun _ => 0))), (q5, .inl (cq5, 710, .inl (fun _ => 0))), (q7, .inl (cq7, 710, .inl (fun _ => 0))), (q9, .inl (cq9, 710, .inl (fun _ => 0))), (q129, .inl (cq129, 400, .inl (fun _ => 0)))] := hD
  have hK : va_K D vwCl [(cq1, .byte), (cq3, .int), (cq5, .int), (cq7, .int), (cq9, .int), (cq129, .int)] s := hK
  refine W.widen (k := 64) (n := 54588) (Nat.le_of_ble_eq_true rfl) (Nat.le_of_ble_eq_true rfl) ?_
  refine va_put (D := D) (ci := 12) (v := .ref q129) (ty := .array .int) (C := RX12) (T := TX12) (N := 139) hx hb hts i_v_c_Model_init_X12 tyX12 tyX12_ok nmX12 hown hK hP hD hS 0 rfl rfl 101 (by decide) (hts (.fieldLink RX12 208 "ScheduleHouseModel" "actWrote" "[I") (by decide +kernel)) (fun _ h9 => h9) rfl (by decide +kernel) rfl rfl (kp_lt kfs128 hlen (by decide)) dX12_init_551 (fun H locs hP hD hS => ?_)
  obtain ⟨fs130, hfs130⟩ : ∃ z, z = fs128.set 101 (.ref q129) := ⟨_, rfl⟩
  have kfs130 := kp_s 101 (.ref q129) kfs128
  have gfs130_12 : fs130[12]? = some (.int (-1)) := by rw [hfs130]; exact se_ne gfs128_12 (by decide)
  have gfs130_11 : fs130[11]? = some (.int (-1)) := by rw [hfs130]; exact se_ne gfs128_11 (by decide)
  have gfs130_7 : fs130[7]? = some (.ref q9) := by rw [hfs130]; exact se_ne gfs128_7 (by decide)
  have gfs130_6 : fs130[6]? = some (.ref q7) := by rw [hfs130]; exact se_ne gfs128_6 (by decide)
  have gfs130_5 : fs130[5]? = some (.ref q5) := by rw [hfs130]; exact se_ne gfs128_5 (by decide)
  have gfs130_4 : fs130[4]? = some (.ref q3) := by rw [hfs130]; exact se_ne gfs128_4 (by decide)
  have gfs130_1 : fs130[1]? = some (.ref q1) := by rw [hfs130]; exact se_ne gfs128_1 (by decide)
  rw [← hfs130] at hP hD kfs130
  have hP : va_P D vwCl [(h0, .inr (12, fs130)), (q1, .inl (cq1, 3000, .inl (fun _ => 0))), (q3, .inl (cq3, 710, .inl (fun _ => 0))), (q5, .inl (cq5, 710, .inl (fun _ => 0))), (q7, .inl (cq7, 710, .inl (fun _ => 0))), (q9, .inl (cq9, 710, .inl (fun _ => 0))), (q129, .inl (cq129, 400, .inl (fun _ => 0)))] H := hP
  have hD : va_D A [(h0, .inr (12, fs130)), (q1, .inl (cq1, 3000, .inl (fun _ => 0))), (q3, .inl (cq3, 710, .inl (fun _ => 0))), (q5, .inl (cq5, 710, .inl (fun _ => 0))), (q7, .inl (cq7, 710, .inl (fun _ => 0))), (q9, .inl (cq9, 710, .inl (fun _ => 0))), (q129, .inl (cq129, 400, .inl (fun _ => 0)))] := hD
  have hP : va_P D vwCl [(h0, .inr (12, fs130)), (q1, .inl (cq1, 3000, .inl (fun _ => 0))), (q3, .inl (cq3, 710, .inl (fun _ => 0))), (q5, .inl (cq5, 710, .inl (fun _ => 0))), (q7, .inl (cq7, 710, .inl (fun _ => 0))), (q9, .inl (cq9, 710, .inl (fun _ => 0)))] H := hP.sub [0, 1, 2, 3, 4, 5] rfl
  have hD : va_D A [(h0, .inr (12, fs130)), (q1, .inl (cq1, 3000, .inl (fun _ => 0))), (q3, .inl (cq3, 710, .inl (fun _ => 0))), (q5, .inl (cq5, 710, .inl (fun _ => 0))), (q7, .inl (cq7, 710, .inl (fun _ => 0))), (q9, .inl (cq9, 710, .inl (fun _ => 0)))] := hD.sub [0, 1, 2, 3, 4, 5] (by decide) rfl
  have hK : va_K D vwCl [(cq1, .byte), (cq3, .int), (cq5, .int), (cq7, .int), (cq9, .int)] s := hK.sub [0, 1, 2, 3, 4] rfl
  refine lv_aload_n hx hb dX12_init_554 rfl (lv_at hl 0 rfl) ?_
  refine lv_sipush (v := 400) hx hb dX12_init_555 (by decide +kernel) ?_
  refine va_newa (atype := .boolean) (ty := .boolean) (N' := 400) (a0 := (400, .inl (fun _ => 0))) hx hb (hts (.arrayClass .boolean) (by decide +kernel)) rfl hK hP hD hS hA (na_boolean 400) (by decide +kernel) (by decide +kernel) (by decide +kernel) (Nat.le_of_ble_eq_true rfl) (Nat.le_of_ble_eq_true rfl) dX12_init_558 (fun q131 cq131 H hK hP hD hS => ?_)
  have hP : va_P D vwCl [(h0, .inr (12, fs130)), (q1, .inl (cq1, 3000, .inl (fun _ => 0))), (q3, .inl (cq3, 710, .inl (fun _ => 0))), (q5, .inl (cq5, 710, .inl (fun _ => 0))), (q7, .inl (cq7, 710, .inl (fun _ => 0))), (q9, .inl (cq9, 710, .inl (fun _ => 0))), (q131, .inl (cq131, 400, .inl (fun _ => 0)))] H := hP
  have hD : va_D A [(h0, .inr (12, fs130)), (q1, .inl (cq1, 3000, .inl (fun _ => 0))), (q3, .inl (cq3, 710, .inl (fun _ => 0))), (q5, .inl (cq5, 710, .inl (fun _ => 0))), (q7, .inl (cq7, 710, .inl (fun _ => 0))), (q9, .inl (cq9, 710, .inl (fun _ => 0))), (q131, .inl (cq131, 400, .inl (fun _ => 0)))] := hD
  have hK : va_K D vwCl [(cq1, .byte), (cq3, .int), (cq5, .int), (cq7, .int), (cq9, .int), (cq131, .boolean)] s := hK
  refine W.widen (k := 65) (n := 54988) (Nat.le_of_ble_eq_true rfl) (Nat.le_of_ble_eq_true rfl) ?_
  refine va_put (D := D) (ci := 12) (v := .ref q131) (ty := .array .boolean) (C := RX12) (T := TX12) (N := 139) hx hb hts i_v_c_Model_init_X12 tyX12 tyX12_ok nmX12 hown hK hP hD hS 0 rfl rfl 102 (by decide) (hts (.fieldLink RX12 211 "ScheduleHouseModel" "actFailed" "[Z") (by decide +kernel)) (fun _ h9 => h9) rfl (by decide +kernel) rfl rfl (kp_lt kfs130 hlen (by decide)) dX12_init_560 (fun H locs hP hD hS => ?_)
  obtain ⟨fs132, hfs132⟩ : ∃ z, z = fs130.set 102 (.ref q131) := ⟨_, rfl⟩
  have kfs132 := kp_s 102 (.ref q131) kfs130
  have gfs132_12 : fs132[12]? = some (.int (-1)) := by rw [hfs132]; exact se_ne gfs130_12 (by decide)
  have gfs132_11 : fs132[11]? = some (.int (-1)) := by rw [hfs132]; exact se_ne gfs130_11 (by decide)
  have gfs132_7 : fs132[7]? = some (.ref q9) := by rw [hfs132]; exact se_ne gfs130_7 (by decide)
  have gfs132_6 : fs132[6]? = some (.ref q7) := by rw [hfs132]; exact se_ne gfs130_6 (by decide)
  have gfs132_5 : fs132[5]? = some (.ref q5) := by rw [hfs132]; exact se_ne gfs130_5 (by decide)
  have gfs132_4 : fs132[4]? = some (.ref q3) := by rw [hfs132]; exact se_ne gfs130_4 (by decide)
  have gfs132_1 : fs132[1]? = some (.ref q1) := by rw [hfs132]; exact se_ne gfs130_1 (by decide)
  rw [← hfs132] at hP hD kfs132
  have hP : va_P D vwCl [(h0, .inr (12, fs132)), (q1, .inl (cq1, 3000, .inl (fun _ => 0))), (q3, .inl (cq3, 710, .inl (fun _ => 0))), (q5, .inl (cq5, 710, .inl (fun _ => 0))), (q7, .inl (cq7, 710, .inl (fun _ => 0))), (q9, .inl (cq9, 710, .inl (fun _ => 0))), (q131, .inl (cq131, 400, .inl (fun _ => 0)))] H := hP
  have hD : va_D A [(h0, .inr (12, fs132)), (q1, .inl (cq1, 3000, .inl (fun _ => 0))), (q3, .inl (cq3, 710, .inl (fun _ => 0))), (q5, .inl (cq5, 710, .inl (fun _ => 0))), (q7, .inl (cq7, 710, .inl (fun _ => 0))), (q9, .inl (cq9, 710, .inl (fun _ => 0))), (q131, .inl (cq131, 400, .inl (fun _ => 0)))] := hD
  have hP : va_P D vwCl [(h0, .inr (12, fs132)), (q1, .inl (cq1, 3000, .inl (fun _ => 0))), (q3, .inl (cq3, 710, .inl (fun _ => 0))), (q5, .inl (cq5, 710, .inl (fun _ => 0))), (q7, .inl (cq7, 710, .inl (fun _ => 0))), (q9, .inl (cq9, 710, .inl (fun _ => 0)))] H := hP.sub [0, 1, 2, 3, 4, 5] rfl
  have hD : va_D A [(h0, .inr (12, fs132)), (q1, .inl (cq1, 3000, .inl (fun _ => 0))), (q3, .inl (cq3, 710, .inl (fun _ => 0))), (q5, .inl (cq5, 710, .inl (fun _ => 0))), (q7, .inl (cq7, 710, .inl (fun _ => 0))), (q9, .inl (cq9, 710, .inl (fun _ => 0)))] := hD.sub [0, 1, 2, 3, 4, 5] (by decide) rfl
  have hK : va_K D vwCl [(cq1, .byte), (cq3, .int), (cq5, .int), (cq7, .int), (cq9, .int)] s := hK.sub [0, 1, 2, 3, 4] rfl
  refine lv_aload_n hx hb dX12_init_563 rfl (lv_at hl 0 rfl) ?_
  refine lv_sipush (v := 400) hx hb dX12_init_564 (by decide +kernel) ?_
  refine va_newa (atype := .int) (ty := .int) (N' := 400) (a0 := (400, .inl (fun _ => 0))) hx hb (hts (.arrayClass .int) (by decide +kernel)) rfl hK hP hD hS hA (na_int 400) (by decide +kernel) (by decide +kernel) (by decide +kernel) (Nat.le_of_ble_eq_true rfl) (Nat.le_of_ble_eq_true rfl) dX12_init_567 (fun q133 cq133 H hK hP hD hS => ?_)
  have hP : va_P D vwCl [(h0, .inr (12, fs132)), (q1, .inl (cq1, 3000, .inl (fun _ => 0))), (q3, .inl (cq3, 710, .inl (fun _ => 0))), (q5, .inl (cq5, 710, .inl (fun _ => 0))), (q7, .inl (cq7, 710, .inl (fun _ => 0))), (q9, .inl (cq9, 710, .inl (fun _ => 0))), (q133, .inl (cq133, 400, .inl (fun _ => 0)))] H := hP
  have hD : va_D A [(h0, .inr (12, fs132)), (q1, .inl (cq1, 3000, .inl (fun _ => 0))), (q3, .inl (cq3, 710, .inl (fun _ => 0))), (q5, .inl (cq5, 710, .inl (fun _ => 0))), (q7, .inl (cq7, 710, .inl (fun _ => 0))), (q9, .inl (cq9, 710, .inl (fun _ => 0))), (q133, .inl (cq133, 400, .inl (fun _ => 0)))] := hD
  have hK : va_K D vwCl [(cq1, .byte), (cq3, .int), (cq5, .int), (cq7, .int), (cq9, .int), (cq133, .int)] s := hK
  refine W.widen (k := 66) (n := 55388) (Nat.le_of_ble_eq_true rfl) (Nat.le_of_ble_eq_true rfl) ?_
  refine va_put (D := D) (ci := 12) (v := .ref q133) (ty := .array .int) (C := RX12) (T := TX12) (N := 139) hx hb hts i_v_c_Model_init_X12 tyX12 tyX12_ok nmX12 hown hK hP hD hS 0 rfl rfl 103 (by decide) (hts (.fieldLink RX12 214 "ScheduleHouseModel" "actWakes" "[I") (by decide +kernel)) (fun _ h9 => h9) rfl (by decide +kernel) rfl rfl (kp_lt kfs132 hlen (by decide)) dX12_init_569 (fun H locs hP hD hS => ?_)
  obtain ⟨fs134, hfs134⟩ : ∃ z, z = fs132.set 103 (.ref q133) := ⟨_, rfl⟩
  have kfs134 := kp_s 103 (.ref q133) kfs132
  have gfs134_12 : fs134[12]? = some (.int (-1)) := by rw [hfs134]; exact se_ne gfs132_12 (by decide)
  have gfs134_11 : fs134[11]? = some (.int (-1)) := by rw [hfs134]; exact se_ne gfs132_11 (by decide)
  have gfs134_7 : fs134[7]? = some (.ref q9) := by rw [hfs134]; exact se_ne gfs132_7 (by decide)
  have gfs134_6 : fs134[6]? = some (.ref q7) := by rw [hfs134]; exact se_ne gfs132_6 (by decide)
  have gfs134_5 : fs134[5]? = some (.ref q5) := by rw [hfs134]; exact se_ne gfs132_5 (by decide)
  have gfs134_4 : fs134[4]? = some (.ref q3) := by rw [hfs134]; exact se_ne gfs132_4 (by decide)
  have gfs134_1 : fs134[1]? = some (.ref q1) := by rw [hfs134]; exact se_ne gfs132_1 (by decide)
  rw [← hfs134] at hP hD kfs134
  have hP : va_P D vwCl [(h0, .inr (12, fs134)), (q1, .inl (cq1, 3000, .inl (fun _ => 0))), (q3, .inl (cq3, 710, .inl (fun _ => 0))), (q5, .inl (cq5, 710, .inl (fun _ => 0))), (q7, .inl (cq7, 710, .inl (fun _ => 0))), (q9, .inl (cq9, 710, .inl (fun _ => 0))), (q133, .inl (cq133, 400, .inl (fun _ => 0)))] H := hP
  have hD : va_D A [(h0, .inr (12, fs134)), (q1, .inl (cq1, 3000, .inl (fun _ => 0))), (q3, .inl (cq3, 710, .inl (fun _ => 0))), (q5, .inl (cq5, 710, .inl (fun _ => 0))), (q7, .inl (cq7, 710, .inl (fun _ => 0))), (q9, .inl (cq9, 710, .inl (fun _ => 0))), (q133, .inl (cq133, 400, .inl (fun _ => 0)))] := hD
  have hP : va_P D vwCl [(h0, .inr (12, fs134)), (q1, .inl (cq1, 3000, .inl (fun _ => 0))), (q3, .inl (cq3, 710, .inl (fun _ => 0))), (q5, .inl (cq5, 710, .inl (fun _ => 0))), (q7, .inl (cq7, 710, .inl (fun _ => 0))), (q9, .inl (cq9, 710, .inl (fun _ => 0)))] H := hP.sub [0, 1, 2, 3, 4, 5] rfl
  have hD : va_D A [(h0, .inr (12, fs134)), (q1, .inl (cq1, 3000, .inl (fun _ => 0))), (q3, .inl (cq3, 710, .inl (fun _ => 0))), (q5, .inl (cq5, 710, .inl (fun _ => 0))), (q7, .inl (cq7, 710, .inl (fun _ => 0))), (q9, .inl (cq9, 710, .inl (fun _ => 0)))] := hD.sub [0, 1, 2, 3, 4, 5] (by decide) rfl
  have hK : va_K D vwCl [(cq1, .byte), (cq3, .int), (cq5, .int), (cq7, .int), (cq9, .int)] s := hK.sub [0, 1, 2, 3, 4] rfl
  refine lv_aload_n hx hb dX12_init_572 rfl (lv_at hl 0 rfl) ?_
  refine lv_sipush (v := 2800) hx hb dX12_init_573 (by decide +kernel) ?_
  refine va_newa (atype := .long) (ty := .long) (N' := 2800) (a0 := (2800, .inr (.inl (fun _ => 0)))) hx hb (hts (.arrayClass .long) (by decide +kernel)) rfl hK hP hD hS hA (na_long 2800) (by decide +kernel) (by decide +kernel) (by decide +kernel) (Nat.le_of_ble_eq_true rfl) (Nat.le_of_ble_eq_true rfl) dX12_init_576 (fun q135 cq135 H hK hP hD hS => ?_)
  have hP : va_P D vwCl [(h0, .inr (12, fs134)), (q1, .inl (cq1, 3000, .inl (fun _ => 0))), (q3, .inl (cq3, 710, .inl (fun _ => 0))), (q5, .inl (cq5, 710, .inl (fun _ => 0))), (q7, .inl (cq7, 710, .inl (fun _ => 0))), (q9, .inl (cq9, 710, .inl (fun _ => 0))), (q135, .inl (cq135, 2800, .inr (.inl (fun _ => 0))))] H := hP
  have hD : va_D A [(h0, .inr (12, fs134)), (q1, .inl (cq1, 3000, .inl (fun _ => 0))), (q3, .inl (cq3, 710, .inl (fun _ => 0))), (q5, .inl (cq5, 710, .inl (fun _ => 0))), (q7, .inl (cq7, 710, .inl (fun _ => 0))), (q9, .inl (cq9, 710, .inl (fun _ => 0))), (q135, .inl (cq135, 2800, .inr (.inl (fun _ => 0))))] := hD
  have hK : va_K D vwCl [(cq1, .byte), (cq3, .int), (cq5, .int), (cq7, .int), (cq9, .int), (cq135, .long)] s := hK
  refine W.widen (k := 67) (n := 58188) (Nat.le_of_ble_eq_true rfl) (Nat.le_of_ble_eq_true rfl) ?_
  refine va_put (D := D) (ci := 12) (v := .ref q135) (ty := .array .long) (C := RX12) (T := TX12) (N := 139) hx hb hts i_v_c_Model_init_X12 tyX12 tyX12_ok nmX12 hown hK hP hD hS 0 rfl rfl 104 (by decide) (hts (.fieldLink RX12 217 "ScheduleHouseModel" "sooner" "[J") (by decide +kernel)) (fun _ h9 => h9) rfl (by decide +kernel) rfl rfl (kp_lt kfs134 hlen (by decide)) dX12_init_578 (fun H locs hP hD hS => ?_)
  obtain ⟨fs136, hfs136⟩ : ∃ z, z = fs134.set 104 (.ref q135) := ⟨_, rfl⟩
  have kfs136 := kp_s 104 (.ref q135) kfs134
  have gfs136_12 : fs136[12]? = some (.int (-1)) := by rw [hfs136]; exact se_ne gfs134_12 (by decide)
  have gfs136_11 : fs136[11]? = some (.int (-1)) := by rw [hfs136]; exact se_ne gfs134_11 (by decide)
  have gfs136_7 : fs136[7]? = some (.ref q9) := by rw [hfs136]; exact se_ne gfs134_7 (by decide)
  have gfs136_6 : fs136[6]? = some (.ref q7) := by rw [hfs136]; exact se_ne gfs134_6 (by decide)
  have gfs136_5 : fs136[5]? = some (.ref q5) := by rw [hfs136]; exact se_ne gfs134_5 (by decide)
  have gfs136_4 : fs136[4]? = some (.ref q3) := by rw [hfs136]; exact se_ne gfs134_4 (by decide)
  have gfs136_1 : fs136[1]? = some (.ref q1) := by rw [hfs136]; exact se_ne gfs134_1 (by decide)
  rw [← hfs136] at hP hD kfs136
  have hP : va_P D vwCl [(h0, .inr (12, fs136)), (q1, .inl (cq1, 3000, .inl (fun _ => 0))), (q3, .inl (cq3, 710, .inl (fun _ => 0))), (q5, .inl (cq5, 710, .inl (fun _ => 0))), (q7, .inl (cq7, 710, .inl (fun _ => 0))), (q9, .inl (cq9, 710, .inl (fun _ => 0))), (q135, .inl (cq135, 2800, .inr (.inl (fun _ => 0))))] H := hP
  have hD : va_D A [(h0, .inr (12, fs136)), (q1, .inl (cq1, 3000, .inl (fun _ => 0))), (q3, .inl (cq3, 710, .inl (fun _ => 0))), (q5, .inl (cq5, 710, .inl (fun _ => 0))), (q7, .inl (cq7, 710, .inl (fun _ => 0))), (q9, .inl (cq9, 710, .inl (fun _ => 0))), (q135, .inl (cq135, 2800, .inr (.inl (fun _ => 0))))] := hD
  have hP : va_P D vwCl [(h0, .inr (12, fs136)), (q1, .inl (cq1, 3000, .inl (fun _ => 0))), (q3, .inl (cq3, 710, .inl (fun _ => 0))), (q5, .inl (cq5, 710, .inl (fun _ => 0))), (q7, .inl (cq7, 710, .inl (fun _ => 0))), (q9, .inl (cq9, 710, .inl (fun _ => 0)))] H := hP.sub [0, 1, 2, 3, 4, 5] rfl
  have hD : va_D A [(h0, .inr (12, fs136)), (q1, .inl (cq1, 3000, .inl (fun _ => 0))), (q3, .inl (cq3, 710, .inl (fun _ => 0))), (q5, .inl (cq5, 710, .inl (fun _ => 0))), (q7, .inl (cq7, 710, .inl (fun _ => 0))), (q9, .inl (cq9, 710, .inl (fun _ => 0)))] := hD.sub [0, 1, 2, 3, 4, 5] (by decide) rfl
  have hK : va_K D vwCl [(cq1, .byte), (cq3, .int), (cq5, .int), (cq7, .int), (cq9, .int)] s := hK.sub [0, 1, 2, 3, 4] rfl
  refine lv_aload_n hx hb dX12_init_581 rfl (lv_at hl 0 rfl) ?_
  refine lv_bipush (v := 6) hx hb dX12_init_582 (by decide +kernel) ?_
  refine va_newa (atype := .int) (ty := .int) (N' := 6) (a0 := (6, .inl (fun _ => 0))) hx hb (hts (.arrayClass .int) (by decide +kernel)) rfl hK hP hD hS hA (na_int 6) (by decide +kernel) (by decide +kernel) (by decide +kernel) (Nat.le_of_ble_eq_true rfl) (Nat.le_of_ble_eq_true rfl) dX12_init_584 (fun q137 cq137 H hK hP hD hS => ?_)
  have hP : va_P D vwCl [(h0, .inr (12, fs136)), (q1, .inl (cq1, 3000, .inl (fun _ => 0))), (q3, .inl (cq3, 710, .inl (fun _ => 0))), (q5, .inl (cq5, 710, .inl (fun _ => 0))), (q7, .inl (cq7, 710, .inl (fun _ => 0))), (q9, .inl (cq9, 710, .inl (fun _ => 0))), (q137, .inl (cq137, 6, .inl (fun _ => 0)))] H := hP
  have hD : va_D A [(h0, .inr (12, fs136)), (q1, .inl (cq1, 3000, .inl (fun _ => 0))), (q3, .inl (cq3, 710, .inl (fun _ => 0))), (q5, .inl (cq5, 710, .inl (fun _ => 0))), (q7, .inl (cq7, 710, .inl (fun _ => 0))), (q9, .inl (cq9, 710, .inl (fun _ => 0))), (q137, .inl (cq137, 6, .inl (fun _ => 0)))] := hD
  have hK : va_K D vwCl [(cq1, .byte), (cq3, .int), (cq5, .int), (cq7, .int), (cq9, .int), (cq137, .int)] s := hK
  refine W.widen (k := 68) (n := 58194) (Nat.le_of_ble_eq_true rfl) (Nat.le_of_ble_eq_true rfl) ?_
  refine va_put (D := D) (ci := 12) (v := .ref q137) (ty := .array .int) (C := RX12) (T := TX12) (N := 139) hx hb hts i_v_c_Model_init_X12 tyX12 tyX12_ok nmX12 hown hK hP hD hS 0 rfl rfl 105 (by decide) (hts (.fieldLink RX12 221 "ScheduleHouseModel" "startedBy" "[I") (by decide +kernel)) (fun _ h9 => h9) rfl (by decide +kernel) rfl rfl (kp_lt kfs136 hlen (by decide)) dX12_init_586 (fun H locs hP hD hS => ?_)
  obtain ⟨fs138, hfs138⟩ : ∃ z, z = fs136.set 105 (.ref q137) := ⟨_, rfl⟩
  have kfs138 := kp_s 105 (.ref q137) kfs136
  have gfs138_12 : fs138[12]? = some (.int (-1)) := by rw [hfs138]; exact se_ne gfs136_12 (by decide)
  have gfs138_11 : fs138[11]? = some (.int (-1)) := by rw [hfs138]; exact se_ne gfs136_11 (by decide)
  have gfs138_7 : fs138[7]? = some (.ref q9) := by rw [hfs138]; exact se_ne gfs136_7 (by decide)
  have gfs138_6 : fs138[6]? = some (.ref q7) := by rw [hfs138]; exact se_ne gfs136_6 (by decide)
  have gfs138_5 : fs138[5]? = some (.ref q5) := by rw [hfs138]; exact se_ne gfs136_5 (by decide)
  have gfs138_4 : fs138[4]? = some (.ref q3) := by rw [hfs138]; exact se_ne gfs136_4 (by decide)
  have gfs138_1 : fs138[1]? = some (.ref q1) := by rw [hfs138]; exact se_ne gfs136_1 (by decide)
  rw [← hfs138] at hP hD kfs138
  have hP : va_P D vwCl [(h0, .inr (12, fs138)), (q1, .inl (cq1, 3000, .inl (fun _ => 0))), (q3, .inl (cq3, 710, .inl (fun _ => 0))), (q5, .inl (cq5, 710, .inl (fun _ => 0))), (q7, .inl (cq7, 710, .inl (fun _ => 0))), (q9, .inl (cq9, 710, .inl (fun _ => 0))), (q137, .inl (cq137, 6, .inl (fun _ => 0)))] H := hP
  have hD : va_D A [(h0, .inr (12, fs138)), (q1, .inl (cq1, 3000, .inl (fun _ => 0))), (q3, .inl (cq3, 710, .inl (fun _ => 0))), (q5, .inl (cq5, 710, .inl (fun _ => 0))), (q7, .inl (cq7, 710, .inl (fun _ => 0))), (q9, .inl (cq9, 710, .inl (fun _ => 0))), (q137, .inl (cq137, 6, .inl (fun _ => 0)))] := hD
  have hP : va_P D vwCl [(h0, .inr (12, fs138)), (q1, .inl (cq1, 3000, .inl (fun _ => 0))), (q3, .inl (cq3, 710, .inl (fun _ => 0))), (q5, .inl (cq5, 710, .inl (fun _ => 0))), (q7, .inl (cq7, 710, .inl (fun _ => 0))), (q9, .inl (cq9, 710, .inl (fun _ => 0)))] H := hP.sub [0, 1, 2, 3, 4, 5] rfl
  have hD : va_D A [(h0, .inr (12, fs138)), (q1, .inl (cq1, 3000, .inl (fun _ => 0))), (q3, .inl (cq3, 710, .inl (fun _ => 0))), (q5, .inl (cq5, 710, .inl (fun _ => 0))), (q7, .inl (cq7, 710, .inl (fun _ => 0))), (q9, .inl (cq9, 710, .inl (fun _ => 0)))] := hD.sub [0, 1, 2, 3, 4, 5] (by decide) rfl
  have hK : va_K D vwCl [(cq1, .byte), (cq3, .int), (cq5, .int), (cq7, .int), (cq9, .int)] s := hK.sub [0, 1, 2, 3, 4] rfl
  refine lv_aload_n hx hb dX12_init_589 rfl (lv_at hl 0 rfl) ?_
  refine lv_bipush (v := 6) hx hb dX12_init_590 (by decide +kernel) ?_
  refine va_newa (atype := .int) (ty := .int) (N' := 6) (a0 := (6, .inl (fun _ => 0))) hx hb (hts (.arrayClass .int) (by decide +kernel)) rfl hK hP hD hS hA (na_int 6) (by decide +kernel) (by decide +kernel) (by decide +kernel) (Nat.le_of_ble_eq_true rfl) (Nat.le_of_ble_eq_true rfl) dX12_init_592 (fun q139 cq139 H hK hP hD hS => ?_)
  have hP : va_P D vwCl [(h0, .inr (12, fs138)), (q1, .inl (cq1, 3000, .inl (fun _ => 0))), (q3, .inl (cq3, 710, .inl (fun _ => 0))), (q5, .inl (cq5, 710, .inl (fun _ => 0))), (q7, .inl (cq7, 710, .inl (fun _ => 0))), (q9, .inl (cq9, 710, .inl (fun _ => 0))), (q139, .inl (cq139, 6, .inl (fun _ => 0)))] H := hP
  have hD : va_D A [(h0, .inr (12, fs138)), (q1, .inl (cq1, 3000, .inl (fun _ => 0))), (q3, .inl (cq3, 710, .inl (fun _ => 0))), (q5, .inl (cq5, 710, .inl (fun _ => 0))), (q7, .inl (cq7, 710, .inl (fun _ => 0))), (q9, .inl (cq9, 710, .inl (fun _ => 0))), (q139, .inl (cq139, 6, .inl (fun _ => 0)))] := hD
  have hK : va_K D vwCl [(cq1, .byte), (cq3, .int), (cq5, .int), (cq7, .int), (cq9, .int), (cq139, .int)] s := hK
  refine W.widen (k := 69) (n := 58200) (Nat.le_of_ble_eq_true rfl) (Nat.le_of_ble_eq_true rfl) ?_
  refine va_put (D := D) (ci := 12) (v := .ref q139) (ty := .array .int) (C := RX12) (T := TX12) (N := 139) hx hb hts i_v_c_Model_init_X12 tyX12 tyX12_ok nmX12 hown hK hP hD hS 0 rfl rfl 106 (by decide) (hts (.fieldLink RX12 224 "ScheduleHouseModel" "wokenBy" "[I") (by decide +kernel)) (fun _ h9 => h9) rfl (by decide +kernel) rfl rfl (kp_lt kfs138 hlen (by decide)) dX12_init_594 (fun H locs hP hD hS => ?_)
  obtain ⟨fs140, hfs140⟩ : ∃ z, z = fs138.set 106 (.ref q139) := ⟨_, rfl⟩
  have kfs140 := kp_s 106 (.ref q139) kfs138
  have gfs140_12 : fs140[12]? = some (.int (-1)) := by rw [hfs140]; exact se_ne gfs138_12 (by decide)
  have gfs140_11 : fs140[11]? = some (.int (-1)) := by rw [hfs140]; exact se_ne gfs138_11 (by decide)
  have gfs140_7 : fs140[7]? = some (.ref q9) := by rw [hfs140]; exact se_ne gfs138_7 (by decide)
  have gfs140_6 : fs140[6]? = some (.ref q7) := by rw [hfs140]; exact se_ne gfs138_6 (by decide)
  have gfs140_5 : fs140[5]? = some (.ref q5) := by rw [hfs140]; exact se_ne gfs138_5 (by decide)
  have gfs140_4 : fs140[4]? = some (.ref q3) := by rw [hfs140]; exact se_ne gfs138_4 (by decide)
  have gfs140_1 : fs140[1]? = some (.ref q1) := by rw [hfs140]; exact se_ne gfs138_1 (by decide)
  rw [← hfs140] at hP hD kfs140
  have hP : va_P D vwCl [(h0, .inr (12, fs140)), (q1, .inl (cq1, 3000, .inl (fun _ => 0))), (q3, .inl (cq3, 710, .inl (fun _ => 0))), (q5, .inl (cq5, 710, .inl (fun _ => 0))), (q7, .inl (cq7, 710, .inl (fun _ => 0))), (q9, .inl (cq9, 710, .inl (fun _ => 0))), (q139, .inl (cq139, 6, .inl (fun _ => 0)))] H := hP
  have hD : va_D A [(h0, .inr (12, fs140)), (q1, .inl (cq1, 3000, .inl (fun _ => 0))), (q3, .inl (cq3, 710, .inl (fun _ => 0))), (q5, .inl (cq5, 710, .inl (fun _ => 0))), (q7, .inl (cq7, 710, .inl (fun _ => 0))), (q9, .inl (cq9, 710, .inl (fun _ => 0))), (q139, .inl (cq139, 6, .inl (fun _ => 0)))] := hD
  have hP : va_P D vwCl [(h0, .inr (12, fs140)), (q1, .inl (cq1, 3000, .inl (fun _ => 0))), (q3, .inl (cq3, 710, .inl (fun _ => 0))), (q5, .inl (cq5, 710, .inl (fun _ => 0))), (q7, .inl (cq7, 710, .inl (fun _ => 0))), (q9, .inl (cq9, 710, .inl (fun _ => 0)))] H := hP.sub [0, 1, 2, 3, 4, 5] rfl
  have hD : va_D A [(h0, .inr (12, fs140)), (q1, .inl (cq1, 3000, .inl (fun _ => 0))), (q3, .inl (cq3, 710, .inl (fun _ => 0))), (q5, .inl (cq5, 710, .inl (fun _ => 0))), (q7, .inl (cq7, 710, .inl (fun _ => 0))), (q9, .inl (cq9, 710, .inl (fun _ => 0)))] := hD.sub [0, 1, 2, 3, 4, 5] (by decide) rfl
  have hK : va_K D vwCl [(cq1, .byte), (cq3, .int), (cq5, .int), (cq7, .int), (cq9, .int)] s := hK.sub [0, 1, 2, 3, 4] rfl
  refine lv_aload_n hx hb dX12_init_597 rfl (lv_at hl 0 rfl) ?_
  refine lv_bipush (v := 14) hx hb dX12_init_598 (by decide +kernel) ?_
  refine va_newa (atype := .int) (ty := .int) (N' := 14) (a0 := (14, .inl (fun _ => 0))) hx hb (hts (.arrayClass .int) (by decide +kernel)) rfl hK hP hD hS hA (na_int 14) (by decide +kernel) (by decide +kernel) (by decide +kernel) (Nat.le_of_ble_eq_true rfl) (Nat.le_of_ble_eq_true rfl) dX12_init_600 (fun q141 cq141 H hK hP hD hS => ?_)
  have hP : va_P D vwCl [(h0, .inr (12, fs140)), (q1, .inl (cq1, 3000, .inl (fun _ => 0))), (q3, .inl (cq3, 710, .inl (fun _ => 0))), (q5, .inl (cq5, 710, .inl (fun _ => 0))), (q7, .inl (cq7, 710, .inl (fun _ => 0))), (q9, .inl (cq9, 710, .inl (fun _ => 0))), (q141, .inl (cq141, 14, .inl (fun _ => 0)))] H := hP
  have hD : va_D A [(h0, .inr (12, fs140)), (q1, .inl (cq1, 3000, .inl (fun _ => 0))), (q3, .inl (cq3, 710, .inl (fun _ => 0))), (q5, .inl (cq5, 710, .inl (fun _ => 0))), (q7, .inl (cq7, 710, .inl (fun _ => 0))), (q9, .inl (cq9, 710, .inl (fun _ => 0))), (q141, .inl (cq141, 14, .inl (fun _ => 0)))] := hD
  have hK : va_K D vwCl [(cq1, .byte), (cq3, .int), (cq5, .int), (cq7, .int), (cq9, .int), (cq141, .int)] s := hK
  refine W.widen (k := 70) (n := 58214) (Nat.le_of_ble_eq_true rfl) (Nat.le_of_ble_eq_true rfl) ?_
  refine va_put (D := D) (ci := 12) (v := .ref q141) (ty := .array .int) (C := RX12) (T := TX12) (N := 139) hx hb hts i_v_c_Model_init_X12 tyX12 tyX12_ok nmX12 hown hK hP hD hS 0 rfl rfl 108 (by decide) (hts (.fieldLink RX12 227 "ScheduleHouseModel" "callKind" "[I") (by decide +kernel)) (fun _ h9 => h9) rfl (by decide +kernel) rfl rfl (kp_lt kfs140 hlen (by decide)) dX12_init_602 (fun H locs hP hD hS => ?_)
  obtain ⟨fs142, hfs142⟩ : ∃ z, z = fs140.set 108 (.ref q141) := ⟨_, rfl⟩
  have kfs142 := kp_s 108 (.ref q141) kfs140
  have gfs142_12 : fs142[12]? = some (.int (-1)) := by rw [hfs142]; exact se_ne gfs140_12 (by decide)
  have gfs142_11 : fs142[11]? = some (.int (-1)) := by rw [hfs142]; exact se_ne gfs140_11 (by decide)
  have gfs142_7 : fs142[7]? = some (.ref q9) := by rw [hfs142]; exact se_ne gfs140_7 (by decide)
  have gfs142_6 : fs142[6]? = some (.ref q7) := by rw [hfs142]; exact se_ne gfs140_6 (by decide)
  have gfs142_5 : fs142[5]? = some (.ref q5) := by rw [hfs142]; exact se_ne gfs140_5 (by decide)
  have gfs142_4 : fs142[4]? = some (.ref q3) := by rw [hfs142]; exact se_ne gfs140_4 (by decide)
  have gfs142_1 : fs142[1]? = some (.ref q1) := by rw [hfs142]; exact se_ne gfs140_1 (by decide)
  rw [← hfs142] at hP hD kfs142
  have hP : va_P D vwCl [(h0, .inr (12, fs142)), (q1, .inl (cq1, 3000, .inl (fun _ => 0))), (q3, .inl (cq3, 710, .inl (fun _ => 0))), (q5, .inl (cq5, 710, .inl (fun _ => 0))), (q7, .inl (cq7, 710, .inl (fun _ => 0))), (q9, .inl (cq9, 710, .inl (fun _ => 0))), (q141, .inl (cq141, 14, .inl (fun _ => 0)))] H := hP
  have hD : va_D A [(h0, .inr (12, fs142)), (q1, .inl (cq1, 3000, .inl (fun _ => 0))), (q3, .inl (cq3, 710, .inl (fun _ => 0))), (q5, .inl (cq5, 710, .inl (fun _ => 0))), (q7, .inl (cq7, 710, .inl (fun _ => 0))), (q9, .inl (cq9, 710, .inl (fun _ => 0))), (q141, .inl (cq141, 14, .inl (fun _ => 0)))] := hD
  have hP : va_P D vwCl [(h0, .inr (12, fs142)), (q1, .inl (cq1, 3000, .inl (fun _ => 0))), (q3, .inl (cq3, 710, .inl (fun _ => 0))), (q5, .inl (cq5, 710, .inl (fun _ => 0))), (q7, .inl (cq7, 710, .inl (fun _ => 0))), (q9, .inl (cq9, 710, .inl (fun _ => 0)))] H := hP.sub [0, 1, 2, 3, 4, 5] rfl
  have hD : va_D A [(h0, .inr (12, fs142)), (q1, .inl (cq1, 3000, .inl (fun _ => 0))), (q3, .inl (cq3, 710, .inl (fun _ => 0))), (q5, .inl (cq5, 710, .inl (fun _ => 0))), (q7, .inl (cq7, 710, .inl (fun _ => 0))), (q9, .inl (cq9, 710, .inl (fun _ => 0)))] := hD.sub [0, 1, 2, 3, 4, 5] (by decide) rfl
  have hK : va_K D vwCl [(cq1, .byte), (cq3, .int), (cq5, .int), (cq7, .int), (cq9, .int)] s := hK.sub [0, 1, 2, 3, 4] rfl
  refine lv_aload_n hx hb dX12_init_605 rfl (lv_at hl 0 rfl) ?_
  refine lv_bipush (v := 14) hx hb dX12_init_606 (by decide +kernel) ?_
  refine va_newa (atype := .int) (ty := .int) (N' := 14) (a0 := (14, .inl (fun _ => 0))) hx hb (hts (.arrayClass .int) (by decide +kernel)) rfl hK hP hD hS hA (na_int 14) (by decide +kernel) (by decide +kernel) (by decide +kernel) (Nat.le_of_ble_eq_true rfl) (Nat.le_of_ble_eq_true rfl) dX12_init_608 (fun q143 cq143 H hK hP hD hS => ?_)
  have hP : va_P D vwCl [(h0, .inr (12, fs142)), (q1, .inl (cq1, 3000, .inl (fun _ => 0))), (q3, .inl (cq3, 710, .inl (fun _ => 0))), (q5, .inl (cq5, 710, .inl (fun _ => 0))), (q7, .inl (cq7, 710, .inl (fun _ => 0))), (q9, .inl (cq9, 710, .inl (fun _ => 0))), (q143, .inl (cq143, 14, .inl (fun _ => 0)))] H := hP
  have hD : va_D A [(h0, .inr (12, fs142)), (q1, .inl (cq1, 3000, .inl (fun _ => 0))), (q3, .inl (cq3, 710, .inl (fun _ => 0))), (q5, .inl (cq5, 710, .inl (fun _ => 0))), (q7, .inl (cq7, 710, .inl (fun _ => 0))), (q9, .inl (cq9, 710, .inl (fun _ => 0))), (q143, .inl (cq143, 14, .inl (fun _ => 0)))] := hD
  have hK : va_K D vwCl [(cq1, .byte), (cq3, .int), (cq5, .int), (cq7, .int), (cq9, .int), (cq143, .int)] s := hK
  refine W.widen (k := 71) (n := 58228) (Nat.le_of_ble_eq_true rfl) (Nat.le_of_ble_eq_true rfl) ?_
  refine va_put (D := D) (ci := 12) (v := .ref q143) (ty := .array .int) (C := RX12) (T := TX12) (N := 139) hx hb hts i_v_c_Model_init_X12 tyX12 tyX12_ok nmX12 hown hK hP hD hS 0 rfl rfl 109 (by decide) (hts (.fieldLink RX12 230 "ScheduleHouseModel" "callValue" "[I") (by decide +kernel)) (fun _ h9 => h9) rfl (by decide +kernel) rfl rfl (kp_lt kfs142 hlen (by decide)) dX12_init_610 (fun H locs hP hD hS => ?_)
  obtain ⟨fs144, hfs144⟩ : ∃ z, z = fs142.set 109 (.ref q143) := ⟨_, rfl⟩
  have kfs144 := kp_s 109 (.ref q143) kfs142
  have gfs144_12 : fs144[12]? = some (.int (-1)) := by rw [hfs144]; exact se_ne gfs142_12 (by decide)
  have gfs144_11 : fs144[11]? = some (.int (-1)) := by rw [hfs144]; exact se_ne gfs142_11 (by decide)
  have gfs144_7 : fs144[7]? = some (.ref q9) := by rw [hfs144]; exact se_ne gfs142_7 (by decide)
  have gfs144_6 : fs144[6]? = some (.ref q7) := by rw [hfs144]; exact se_ne gfs142_6 (by decide)
  have gfs144_5 : fs144[5]? = some (.ref q5) := by rw [hfs144]; exact se_ne gfs142_5 (by decide)
  have gfs144_4 : fs144[4]? = some (.ref q3) := by rw [hfs144]; exact se_ne gfs142_4 (by decide)
  have gfs144_1 : fs144[1]? = some (.ref q1) := by rw [hfs144]; exact se_ne gfs142_1 (by decide)
  rw [← hfs144] at hP hD kfs144
  have hP : va_P D vwCl [(h0, .inr (12, fs144)), (q1, .inl (cq1, 3000, .inl (fun _ => 0))), (q3, .inl (cq3, 710, .inl (fun _ => 0))), (q5, .inl (cq5, 710, .inl (fun _ => 0))), (q7, .inl (cq7, 710, .inl (fun _ => 0))), (q9, .inl (cq9, 710, .inl (fun _ => 0))), (q143, .inl (cq143, 14, .inl (fun _ => 0)))] H := hP
  have hD : va_D A [(h0, .inr (12, fs144)), (q1, .inl (cq1, 3000, .inl (fun _ => 0))), (q3, .inl (cq3, 710, .inl (fun _ => 0))), (q5, .inl (cq5, 710, .inl (fun _ => 0))), (q7, .inl (cq7, 710, .inl (fun _ => 0))), (q9, .inl (cq9, 710, .inl (fun _ => 0))), (q143, .inl (cq143, 14, .inl (fun _ => 0)))] := hD
  have hP : va_P D vwCl [(h0, .inr (12, fs144)), (q1, .inl (cq1, 3000, .inl (fun _ => 0))), (q3, .inl (cq3, 710, .inl (fun _ => 0))), (q5, .inl (cq5, 710, .inl (fun _ => 0))), (q7, .inl (cq7, 710, .inl (fun _ => 0))), (q9, .inl (cq9, 710, .inl (fun _ => 0)))] H := hP.sub [0, 1, 2, 3, 4, 5] rfl
  have hD : va_D A [(h0, .inr (12, fs144)), (q1, .inl (cq1, 3000, .inl (fun _ => 0))), (q3, .inl (cq3, 710, .inl (fun _ => 0))), (q5, .inl (cq5, 710, .inl (fun _ => 0))), (q7, .inl (cq7, 710, .inl (fun _ => 0))), (q9, .inl (cq9, 710, .inl (fun _ => 0)))] := hD.sub [0, 1, 2, 3, 4, 5] (by decide) rfl
  have hK : va_K D vwCl [(cq1, .byte), (cq3, .int), (cq5, .int), (cq7, .int), (cq9, .int)] s := hK.sub [0, 1, 2, 3, 4] rfl
  refine lv_aload_n hx hb dX12_init_613 rfl (lv_at hl 0 rfl) ?_
  refine lv_bipush (v := 14) hx hb dX12_init_614 (by decide +kernel) ?_
  refine va_newa (atype := .int) (ty := .int) (N' := 14) (a0 := (14, .inl (fun _ => 0))) hx hb (hts (.arrayClass .int) (by decide +kernel)) rfl hK hP hD hS hA (na_int 14) (by decide +kernel) (by decide +kernel) (by decide +kernel) (Nat.le_of_ble_eq_true rfl) (Nat.le_of_ble_eq_true rfl) dX12_init_616 (fun q145 cq145 H hK hP hD hS => ?_)
  have hP : va_P D vwCl [(h0, .inr (12, fs144)), (q1, .inl (cq1, 3000, .inl (fun _ => 0))), (q3, .inl (cq3, 710, .inl (fun _ => 0))), (q5, .inl (cq5, 710, .inl (fun _ => 0))), (q7, .inl (cq7, 710, .inl (fun _ => 0))), (q9, .inl (cq9, 710, .inl (fun _ => 0))), (q145, .inl (cq145, 14, .inl (fun _ => 0)))] H := hP
  have hD : va_D A [(h0, .inr (12, fs144)), (q1, .inl (cq1, 3000, .inl (fun _ => 0))), (q3, .inl (cq3, 710, .inl (fun _ => 0))), (q5, .inl (cq5, 710, .inl (fun _ => 0))), (q7, .inl (cq7, 710, .inl (fun _ => 0))), (q9, .inl (cq9, 710, .inl (fun _ => 0))), (q145, .inl (cq145, 14, .inl (fun _ => 0)))] := hD
  have hK : va_K D vwCl [(cq1, .byte), (cq3, .int), (cq5, .int), (cq7, .int), (cq9, .int), (cq145, .int)] s := hK
  refine W.widen (k := 72) (n := 58242) (Nat.le_of_ble_eq_true rfl) (Nat.le_of_ble_eq_true rfl) ?_
  refine va_put (D := D) (ci := 12) (v := .ref q145) (ty := .array .int) (C := RX12) (T := TX12) (N := 139) hx hb hts i_v_c_Model_init_X12 tyX12 tyX12_ok nmX12 hown hK hP hD hS 0 rfl rfl 110 (by decide) (hts (.fieldLink RX12 233 "ScheduleHouseModel" "callAnswer" "[I") (by decide +kernel)) (fun _ h9 => h9) rfl (by decide +kernel) rfl rfl (kp_lt kfs144 hlen (by decide)) dX12_init_618 (fun H locs hP hD hS => ?_)
  obtain ⟨fs146, hfs146⟩ : ∃ z, z = fs144.set 110 (.ref q145) := ⟨_, rfl⟩
  have kfs146 := kp_s 110 (.ref q145) kfs144
  have gfs146_12 : fs146[12]? = some (.int (-1)) := by rw [hfs146]; exact se_ne gfs144_12 (by decide)
  have gfs146_11 : fs146[11]? = some (.int (-1)) := by rw [hfs146]; exact se_ne gfs144_11 (by decide)
  have gfs146_7 : fs146[7]? = some (.ref q9) := by rw [hfs146]; exact se_ne gfs144_7 (by decide)
  have gfs146_6 : fs146[6]? = some (.ref q7) := by rw [hfs146]; exact se_ne gfs144_6 (by decide)
  have gfs146_5 : fs146[5]? = some (.ref q5) := by rw [hfs146]; exact se_ne gfs144_5 (by decide)
  have gfs146_4 : fs146[4]? = some (.ref q3) := by rw [hfs146]; exact se_ne gfs144_4 (by decide)
  have gfs146_1 : fs146[1]? = some (.ref q1) := by rw [hfs146]; exact se_ne gfs144_1 (by decide)
  rw [← hfs146] at hP hD kfs146
  have hP : va_P D vwCl [(h0, .inr (12, fs146)), (q1, .inl (cq1, 3000, .inl (fun _ => 0))), (q3, .inl (cq3, 710, .inl (fun _ => 0))), (q5, .inl (cq5, 710, .inl (fun _ => 0))), (q7, .inl (cq7, 710, .inl (fun _ => 0))), (q9, .inl (cq9, 710, .inl (fun _ => 0))), (q145, .inl (cq145, 14, .inl (fun _ => 0)))] H := hP
  have hD : va_D A [(h0, .inr (12, fs146)), (q1, .inl (cq1, 3000, .inl (fun _ => 0))), (q3, .inl (cq3, 710, .inl (fun _ => 0))), (q5, .inl (cq5, 710, .inl (fun _ => 0))), (q7, .inl (cq7, 710, .inl (fun _ => 0))), (q9, .inl (cq9, 710, .inl (fun _ => 0))), (q145, .inl (cq145, 14, .inl (fun _ => 0)))] := hD
  have hP : va_P D vwCl [(h0, .inr (12, fs146)), (q1, .inl (cq1, 3000, .inl (fun _ => 0))), (q3, .inl (cq3, 710, .inl (fun _ => 0))), (q5, .inl (cq5, 710, .inl (fun _ => 0))), (q7, .inl (cq7, 710, .inl (fun _ => 0))), (q9, .inl (cq9, 710, .inl (fun _ => 0)))] H := hP.sub [0, 1, 2, 3, 4, 5] rfl
  have hD : va_D A [(h0, .inr (12, fs146)), (q1, .inl (cq1, 3000, .inl (fun _ => 0))), (q3, .inl (cq3, 710, .inl (fun _ => 0))), (q5, .inl (cq5, 710, .inl (fun _ => 0))), (q7, .inl (cq7, 710, .inl (fun _ => 0))), (q9, .inl (cq9, 710, .inl (fun _ => 0)))] := hD.sub [0, 1, 2, 3, 4, 5] (by decide) rfl
  have hK : va_K D vwCl [(cq1, .byte), (cq3, .int), (cq5, .int), (cq7, .int), (cq9, .int)] s := hK.sub [0, 1, 2, 3, 4] rfl
  refine lv_aload_n hx hb dX12_init_621 rfl (lv_at hl 0 rfl) ?_
  refine lv_bipush (v := 14) hx hb dX12_init_622 (by decide +kernel) ?_
  refine va_newa (atype := .int) (ty := .int) (N' := 14) (a0 := (14, .inl (fun _ => 0))) hx hb (hts (.arrayClass .int) (by decide +kernel)) rfl hK hP hD hS hA (na_int 14) (by decide +kernel) (by decide +kernel) (by decide +kernel) (Nat.le_of_ble_eq_true rfl) (Nat.le_of_ble_eq_true rfl) dX12_init_624 (fun q147 cq147 H hK hP hD hS => ?_)
  have hP : va_P D vwCl [(h0, .inr (12, fs146)), (q1, .inl (cq1, 3000, .inl (fun _ => 0))), (q3, .inl (cq3, 710, .inl (fun _ => 0))), (q5, .inl (cq5, 710, .inl (fun _ => 0))), (q7, .inl (cq7, 710, .inl (fun _ => 0))), (q9, .inl (cq9, 710, .inl (fun _ => 0))), (q147, .inl (cq147, 14, .inl (fun _ => 0)))] H := hP
  have hD : va_D A [(h0, .inr (12, fs146)), (q1, .inl (cq1, 3000, .inl (fun _ => 0))), (q3, .inl (cq3, 710, .inl (fun _ => 0))), (q5, .inl (cq5, 710, .inl (fun _ => 0))), (q7, .inl (cq7, 710, .inl (fun _ => 0))), (q9, .inl (cq9, 710, .inl (fun _ => 0))), (q147, .inl (cq147, 14, .inl (fun _ => 0)))] := hD
  have hK : va_K D vwCl [(cq1, .byte), (cq3, .int), (cq5, .int), (cq7, .int), (cq9, .int), (cq147, .int)] s := hK
  refine W.widen (k := 73) (n := 58256) (Nat.le_of_ble_eq_true rfl) (Nat.le_of_ble_eq_true rfl) ?_
  refine va_put (D := D) (ci := 12) (v := .ref q147) (ty := .array .int) (C := RX12) (T := TX12) (N := 139) hx hb hts i_v_c_Model_init_X12 tyX12 tyX12_ok nmX12 hown hK hP hD hS 0 rfl rfl 111 (by decide) (hts (.fieldLink RX12 236 "ScheduleHouseModel" "callFrom" "[I") (by decide +kernel)) (fun _ h9 => h9) rfl (by decide +kernel) rfl rfl (kp_lt kfs146 hlen (by decide)) dX12_init_626 (fun H locs hP hD hS => ?_)
  obtain ⟨fs148, hfs148⟩ : ∃ z, z = fs146.set 111 (.ref q147) := ⟨_, rfl⟩
  have kfs148 := kp_s 111 (.ref q147) kfs146
  have gfs148_12 : fs148[12]? = some (.int (-1)) := by rw [hfs148]; exact se_ne gfs146_12 (by decide)
  have gfs148_11 : fs148[11]? = some (.int (-1)) := by rw [hfs148]; exact se_ne gfs146_11 (by decide)
  have gfs148_7 : fs148[7]? = some (.ref q9) := by rw [hfs148]; exact se_ne gfs146_7 (by decide)
  have gfs148_6 : fs148[6]? = some (.ref q7) := by rw [hfs148]; exact se_ne gfs146_6 (by decide)
  have gfs148_5 : fs148[5]? = some (.ref q5) := by rw [hfs148]; exact se_ne gfs146_5 (by decide)
  have gfs148_4 : fs148[4]? = some (.ref q3) := by rw [hfs148]; exact se_ne gfs146_4 (by decide)
  have gfs148_1 : fs148[1]? = some (.ref q1) := by rw [hfs148]; exact se_ne gfs146_1 (by decide)
  rw [← hfs148] at hP hD kfs148
  have hP : va_P D vwCl [(h0, .inr (12, fs148)), (q1, .inl (cq1, 3000, .inl (fun _ => 0))), (q3, .inl (cq3, 710, .inl (fun _ => 0))), (q5, .inl (cq5, 710, .inl (fun _ => 0))), (q7, .inl (cq7, 710, .inl (fun _ => 0))), (q9, .inl (cq9, 710, .inl (fun _ => 0))), (q147, .inl (cq147, 14, .inl (fun _ => 0)))] H := hP
  have hD : va_D A [(h0, .inr (12, fs148)), (q1, .inl (cq1, 3000, .inl (fun _ => 0))), (q3, .inl (cq3, 710, .inl (fun _ => 0))), (q5, .inl (cq5, 710, .inl (fun _ => 0))), (q7, .inl (cq7, 710, .inl (fun _ => 0))), (q9, .inl (cq9, 710, .inl (fun _ => 0))), (q147, .inl (cq147, 14, .inl (fun _ => 0)))] := hD
  have hP : va_P D vwCl [(h0, .inr (12, fs148)), (q1, .inl (cq1, 3000, .inl (fun _ => 0))), (q3, .inl (cq3, 710, .inl (fun _ => 0))), (q5, .inl (cq5, 710, .inl (fun _ => 0))), (q7, .inl (cq7, 710, .inl (fun _ => 0))), (q9, .inl (cq9, 710, .inl (fun _ => 0)))] H := hP.sub [0, 1, 2, 3, 4, 5] rfl
  have hD : va_D A [(h0, .inr (12, fs148)), (q1, .inl (cq1, 3000, .inl (fun _ => 0))), (q3, .inl (cq3, 710, .inl (fun _ => 0))), (q5, .inl (cq5, 710, .inl (fun _ => 0))), (q7, .inl (cq7, 710, .inl (fun _ => 0))), (q9, .inl (cq9, 710, .inl (fun _ => 0)))] := hD.sub [0, 1, 2, 3, 4, 5] (by decide) rfl
  have hK : va_K D vwCl [(cq1, .byte), (cq3, .int), (cq5, .int), (cq7, .int), (cq9, .int)] s := hK.sub [0, 1, 2, 3, 4] rfl
  refine lv_aload_n hx hb dX12_init_629 rfl (lv_at hl 0 rfl) ?_
  refine lv_bipush (v := 14) hx hb dX12_init_630 (by decide +kernel) ?_
  refine va_newa (atype := .int) (ty := .int) (N' := 14) (a0 := (14, .inl (fun _ => 0))) hx hb (hts (.arrayClass .int) (by decide +kernel)) rfl hK hP hD hS hA (na_int 14) (by decide +kernel) (by decide +kernel) (by decide +kernel) (Nat.le_of_ble_eq_true rfl) (Nat.le_of_ble_eq_true rfl) dX12_init_632 (fun q149 cq149 H hK hP hD hS => ?_)
  have hP : va_P D vwCl [(h0, .inr (12, fs148)), (q1, .inl (cq1, 3000, .inl (fun _ => 0))), (q3, .inl (cq3, 710, .inl (fun _ => 0))), (q5, .inl (cq5, 710, .inl (fun _ => 0))), (q7, .inl (cq7, 710, .inl (fun _ => 0))), (q9, .inl (cq9, 710, .inl (fun _ => 0))), (q149, .inl (cq149, 14, .inl (fun _ => 0)))] H := hP
  have hD : va_D A [(h0, .inr (12, fs148)), (q1, .inl (cq1, 3000, .inl (fun _ => 0))), (q3, .inl (cq3, 710, .inl (fun _ => 0))), (q5, .inl (cq5, 710, .inl (fun _ => 0))), (q7, .inl (cq7, 710, .inl (fun _ => 0))), (q9, .inl (cq9, 710, .inl (fun _ => 0))), (q149, .inl (cq149, 14, .inl (fun _ => 0)))] := hD
  have hK : va_K D vwCl [(cq1, .byte), (cq3, .int), (cq5, .int), (cq7, .int), (cq9, .int), (cq149, .int)] s := hK
  refine W.widen (k := 74) (n := 58270) (Nat.le_of_ble_eq_true rfl) (Nat.le_of_ble_eq_true rfl) ?_
  refine va_put (D := D) (ci := 12) (v := .ref q149) (ty := .array .int) (C := RX12) (T := TX12) (N := 139) hx hb hts i_v_c_Model_init_X12 tyX12 tyX12_ok nmX12 hown hK hP hD hS 0 rfl rfl 112 (by decide) (hts (.fieldLink RX12 239 "ScheduleHouseModel" "callTo" "[I") (by decide +kernel)) (fun _ h9 => h9) rfl (by decide +kernel) rfl rfl (kp_lt kfs148 hlen (by decide)) dX12_init_634 (fun H locs hP hD hS => ?_)
  obtain ⟨fs150, hfs150⟩ : ∃ z, z = fs148.set 112 (.ref q149) := ⟨_, rfl⟩
  have kfs150 := kp_s 112 (.ref q149) kfs148
  have gfs150_12 : fs150[12]? = some (.int (-1)) := by rw [hfs150]; exact se_ne gfs148_12 (by decide)
  have gfs150_11 : fs150[11]? = some (.int (-1)) := by rw [hfs150]; exact se_ne gfs148_11 (by decide)
  have gfs150_7 : fs150[7]? = some (.ref q9) := by rw [hfs150]; exact se_ne gfs148_7 (by decide)
  have gfs150_6 : fs150[6]? = some (.ref q7) := by rw [hfs150]; exact se_ne gfs148_6 (by decide)
  have gfs150_5 : fs150[5]? = some (.ref q5) := by rw [hfs150]; exact se_ne gfs148_5 (by decide)
  have gfs150_4 : fs150[4]? = some (.ref q3) := by rw [hfs150]; exact se_ne gfs148_4 (by decide)
  have gfs150_1 : fs150[1]? = some (.ref q1) := by rw [hfs150]; exact se_ne gfs148_1 (by decide)
  rw [← hfs150] at hP hD kfs150
  have hP : va_P D vwCl [(h0, .inr (12, fs150)), (q1, .inl (cq1, 3000, .inl (fun _ => 0))), (q3, .inl (cq3, 710, .inl (fun _ => 0))), (q5, .inl (cq5, 710, .inl (fun _ => 0))), (q7, .inl (cq7, 710, .inl (fun _ => 0))), (q9, .inl (cq9, 710, .inl (fun _ => 0))), (q149, .inl (cq149, 14, .inl (fun _ => 0)))] H := hP
  have hD : va_D A [(h0, .inr (12, fs150)), (q1, .inl (cq1, 3000, .inl (fun _ => 0))), (q3, .inl (cq3, 710, .inl (fun _ => 0))), (q5, .inl (cq5, 710, .inl (fun _ => 0))), (q7, .inl (cq7, 710, .inl (fun _ => 0))), (q9, .inl (cq9, 710, .inl (fun _ => 0))), (q149, .inl (cq149, 14, .inl (fun _ => 0)))] := hD
  have hP : va_P D vwCl [(h0, .inr (12, fs150)), (q1, .inl (cq1, 3000, .inl (fun _ => 0))), (q3, .inl (cq3, 710, .inl (fun _ => 0))), (q5, .inl (cq5, 710, .inl (fun _ => 0))), (q7, .inl (cq7, 710, .inl (fun _ => 0))), (q9, .inl (cq9, 710, .inl (fun _ => 0)))] H := hP.sub [0, 1, 2, 3, 4, 5] rfl
  have hD : va_D A [(h0, .inr (12, fs150)), (q1, .inl (cq1, 3000, .inl (fun _ => 0))), (q3, .inl (cq3, 710, .inl (fun _ => 0))), (q5, .inl (cq5, 710, .inl (fun _ => 0))), (q7, .inl (cq7, 710, .inl (fun _ => 0))), (q9, .inl (cq9, 710, .inl (fun _ => 0)))] := hD.sub [0, 1, 2, 3, 4, 5] (by decide) rfl
  have hK : va_K D vwCl [(cq1, .byte), (cq3, .int), (cq5, .int), (cq7, .int), (cq9, .int)] s := hK.sub [0, 1, 2, 3, 4] rfl
  refine lv_aload_n hx hb dX12_init_637 rfl (lv_at hl 0 rfl) ?_
  refine lv_bipush (v := 14) hx hb dX12_init_638 (by decide +kernel) ?_
  refine va_newa (atype := .int) (ty := .int) (N' := 14) (a0 := (14, .inl (fun _ => 0))) hx hb (hts (.arrayClass .int) (by decide +kernel)) rfl hK hP hD hS hA (na_int 14) (by decide +kernel) (by decide +kernel) (by decide +kernel) (Nat.le_of_ble_eq_true rfl) (Nat.le_of_ble_eq_true rfl) dX12_init_640 (fun q151 cq151 H hK hP hD hS => ?_)
  have hP : va_P D vwCl [(h0, .inr (12, fs150)), (q1, .inl (cq1, 3000, .inl (fun _ => 0))), (q3, .inl (cq3, 710, .inl (fun _ => 0))), (q5, .inl (cq5, 710, .inl (fun _ => 0))), (q7, .inl (cq7, 710, .inl (fun _ => 0))), (q9, .inl (cq9, 710, .inl (fun _ => 0))), (q151, .inl (cq151, 14, .inl (fun _ => 0)))] H := hP
  have hD : va_D A [(h0, .inr (12, fs150)), (q1, .inl (cq1, 3000, .inl (fun _ => 0))), (q3, .inl (cq3, 710, .inl (fun _ => 0))), (q5, .inl (cq5, 710, .inl (fun _ => 0))), (q7, .inl (cq7, 710, .inl (fun _ => 0))), (q9, .inl (cq9, 710, .inl (fun _ => 0))), (q151, .inl (cq151, 14, .inl (fun _ => 0)))] := hD
  have hK : va_K D vwCl [(cq1, .byte), (cq3, .int), (cq5, .int), (cq7, .int), (cq9, .int), (cq151, .int)] s := hK
  refine W.widen (k := 75) (n := 58284) (Nat.le_of_ble_eq_true rfl) (Nat.le_of_ble_eq_true rfl) ?_
  refine va_put (D := D) (ci := 12) (v := .ref q151) (ty := .array .int) (C := RX12) (T := TX12) (N := 139) hx hb hts i_v_c_Model_init_X12 tyX12 tyX12_ok nmX12 hown hK hP hD hS 0 rfl rfl 113 (by decide) (hts (.fieldLink RX12 242 "ScheduleHouseModel" "row" "[I") (by decide +kernel)) (fun _ h9 => h9) rfl (by decide +kernel) rfl rfl (kp_lt kfs150 hlen (by decide)) dX12_init_642 (fun H locs hP hD hS => ?_)
  obtain ⟨fs152, hfs152⟩ : ∃ z, z = fs150.set 113 (.ref q151) := ⟨_, rfl⟩
  have kfs152 := kp_s 113 (.ref q151) kfs150
  have gfs152_12 : fs152[12]? = some (.int (-1)) := by rw [hfs152]; exact se_ne gfs150_12 (by decide)
  have gfs152_11 : fs152[11]? = some (.int (-1)) := by rw [hfs152]; exact se_ne gfs150_11 (by decide)
  have gfs152_7 : fs152[7]? = some (.ref q9) := by rw [hfs152]; exact se_ne gfs150_7 (by decide)
  have gfs152_6 : fs152[6]? = some (.ref q7) := by rw [hfs152]; exact se_ne gfs150_6 (by decide)
  have gfs152_5 : fs152[5]? = some (.ref q5) := by rw [hfs152]; exact se_ne gfs150_5 (by decide)
  have gfs152_4 : fs152[4]? = some (.ref q3) := by rw [hfs152]; exact se_ne gfs150_4 (by decide)
  have gfs152_1 : fs152[1]? = some (.ref q1) := by rw [hfs152]; exact se_ne gfs150_1 (by decide)
  rw [← hfs152] at hP hD kfs152
  have hP : va_P D vwCl [(h0, .inr (12, fs152)), (q1, .inl (cq1, 3000, .inl (fun _ => 0))), (q3, .inl (cq3, 710, .inl (fun _ => 0))), (q5, .inl (cq5, 710, .inl (fun _ => 0))), (q7, .inl (cq7, 710, .inl (fun _ => 0))), (q9, .inl (cq9, 710, .inl (fun _ => 0))), (q151, .inl (cq151, 14, .inl (fun _ => 0)))] H := hP
  have hD : va_D A [(h0, .inr (12, fs152)), (q1, .inl (cq1, 3000, .inl (fun _ => 0))), (q3, .inl (cq3, 710, .inl (fun _ => 0))), (q5, .inl (cq5, 710, .inl (fun _ => 0))), (q7, .inl (cq7, 710, .inl (fun _ => 0))), (q9, .inl (cq9, 710, .inl (fun _ => 0))), (q151, .inl (cq151, 14, .inl (fun _ => 0)))] := hD
  have hP : va_P D vwCl [(h0, .inr (12, fs152)), (q1, .inl (cq1, 3000, .inl (fun _ => 0))), (q3, .inl (cq3, 710, .inl (fun _ => 0))), (q5, .inl (cq5, 710, .inl (fun _ => 0))), (q7, .inl (cq7, 710, .inl (fun _ => 0))), (q9, .inl (cq9, 710, .inl (fun _ => 0)))] H := hP.sub [0, 1, 2, 3, 4, 5] rfl
  have hD : va_D A [(h0, .inr (12, fs152)), (q1, .inl (cq1, 3000, .inl (fun _ => 0))), (q3, .inl (cq3, 710, .inl (fun _ => 0))), (q5, .inl (cq5, 710, .inl (fun _ => 0))), (q7, .inl (cq7, 710, .inl (fun _ => 0))), (q9, .inl (cq9, 710, .inl (fun _ => 0)))] := hD.sub [0, 1, 2, 3, 4, 5] (by decide) rfl
  have hK : va_K D vwCl [(cq1, .byte), (cq3, .int), (cq5, .int), (cq7, .int), (cq9, .int)] s := hK.sub [0, 1, 2, 3, 4] rfl
  refine lv_aload_n hx hb dX12_init_645 rfl (lv_at hl 0 rfl) ?_
  refine lv_bipush (v := 14) hx hb dX12_init_646 (by decide +kernel) ?_
  refine va_newa (atype := .int) (ty := .int) (N' := 14) (a0 := (14, .inl (fun _ => 0))) hx hb (hts (.arrayClass .int) (by decide +kernel)) rfl hK hP hD hS hA (na_int 14) (by decide +kernel) (by decide +kernel) (by decide +kernel) (Nat.le_of_ble_eq_true rfl) (Nat.le_of_ble_eq_true rfl) dX12_init_648 (fun q153 cq153 H hK hP hD hS => ?_)
  have hP : va_P D vwCl [(h0, .inr (12, fs152)), (q1, .inl (cq1, 3000, .inl (fun _ => 0))), (q3, .inl (cq3, 710, .inl (fun _ => 0))), (q5, .inl (cq5, 710, .inl (fun _ => 0))), (q7, .inl (cq7, 710, .inl (fun _ => 0))), (q9, .inl (cq9, 710, .inl (fun _ => 0))), (q153, .inl (cq153, 14, .inl (fun _ => 0)))] H := hP
  have hD : va_D A [(h0, .inr (12, fs152)), (q1, .inl (cq1, 3000, .inl (fun _ => 0))), (q3, .inl (cq3, 710, .inl (fun _ => 0))), (q5, .inl (cq5, 710, .inl (fun _ => 0))), (q7, .inl (cq7, 710, .inl (fun _ => 0))), (q9, .inl (cq9, 710, .inl (fun _ => 0))), (q153, .inl (cq153, 14, .inl (fun _ => 0)))] := hD
  have hK : va_K D vwCl [(cq1, .byte), (cq3, .int), (cq5, .int), (cq7, .int), (cq9, .int), (cq153, .int)] s := hK
  refine W.widen (k := 76) (n := 58298) (Nat.le_of_ble_eq_true rfl) (Nat.le_of_ble_eq_true rfl) ?_
  refine va_put (D := D) (ci := 12) (v := .ref q153) (ty := .array .int) (C := RX12) (T := TX12) (N := 139) hx hb hts i_v_c_Model_init_X12 tyX12 tyX12_ok nmX12 hown hK hP hD hS 0 rfl rfl 114 (by decide) (hts (.fieldLink RX12 245 "ScheduleHouseModel" "tried" "[I") (by decide +kernel)) (fun _ h9 => h9) rfl (by decide +kernel) rfl rfl (kp_lt kfs152 hlen (by decide)) dX12_init_650 (fun H locs hP hD hS => ?_)
  obtain ⟨fs154, hfs154⟩ : ∃ z, z = fs152.set 114 (.ref q153) := ⟨_, rfl⟩
  have kfs154 := kp_s 114 (.ref q153) kfs152
  have gfs154_12 : fs154[12]? = some (.int (-1)) := by rw [hfs154]; exact se_ne gfs152_12 (by decide)
  have gfs154_11 : fs154[11]? = some (.int (-1)) := by rw [hfs154]; exact se_ne gfs152_11 (by decide)
  have gfs154_7 : fs154[7]? = some (.ref q9) := by rw [hfs154]; exact se_ne gfs152_7 (by decide)
  have gfs154_6 : fs154[6]? = some (.ref q7) := by rw [hfs154]; exact se_ne gfs152_6 (by decide)
  have gfs154_5 : fs154[5]? = some (.ref q5) := by rw [hfs154]; exact se_ne gfs152_5 (by decide)
  have gfs154_4 : fs154[4]? = some (.ref q3) := by rw [hfs154]; exact se_ne gfs152_4 (by decide)
  have gfs154_1 : fs154[1]? = some (.ref q1) := by rw [hfs154]; exact se_ne gfs152_1 (by decide)
  rw [← hfs154] at hP hD kfs154
  have hP : va_P D vwCl [(h0, .inr (12, fs154)), (q1, .inl (cq1, 3000, .inl (fun _ => 0))), (q3, .inl (cq3, 710, .inl (fun _ => 0))), (q5, .inl (cq5, 710, .inl (fun _ => 0))), (q7, .inl (cq7, 710, .inl (fun _ => 0))), (q9, .inl (cq9, 710, .inl (fun _ => 0))), (q153, .inl (cq153, 14, .inl (fun _ => 0)))] H := hP
  have hD : va_D A [(h0, .inr (12, fs154)), (q1, .inl (cq1, 3000, .inl (fun _ => 0))), (q3, .inl (cq3, 710, .inl (fun _ => 0))), (q5, .inl (cq5, 710, .inl (fun _ => 0))), (q7, .inl (cq7, 710, .inl (fun _ => 0))), (q9, .inl (cq9, 710, .inl (fun _ => 0))), (q153, .inl (cq153, 14, .inl (fun _ => 0)))] := hD
  have hP : va_P D vwCl [(h0, .inr (12, fs154)), (q1, .inl (cq1, 3000, .inl (fun _ => 0))), (q3, .inl (cq3, 710, .inl (fun _ => 0))), (q5, .inl (cq5, 710, .inl (fun _ => 0))), (q7, .inl (cq7, 710, .inl (fun _ => 0))), (q9, .inl (cq9, 710, .inl (fun _ => 0)))] H := hP.sub [0, 1, 2, 3, 4, 5] rfl
  have hD : va_D A [(h0, .inr (12, fs154)), (q1, .inl (cq1, 3000, .inl (fun _ => 0))), (q3, .inl (cq3, 710, .inl (fun _ => 0))), (q5, .inl (cq5, 710, .inl (fun _ => 0))), (q7, .inl (cq7, 710, .inl (fun _ => 0))), (q9, .inl (cq9, 710, .inl (fun _ => 0)))] := hD.sub [0, 1, 2, 3, 4, 5] (by decide) rfl
  have hK : va_K D vwCl [(cq1, .byte), (cq3, .int), (cq5, .int), (cq7, .int), (cq9, .int)] s := hK.sub [0, 1, 2, 3, 4] rfl
  refine lv_aload_n hx hb dX12_init_653 rfl (lv_at hl 0 rfl) ?_
  refine lv_bipush (v := 14) hx hb dX12_init_654 (by decide +kernel) ?_
  refine va_newa (atype := .int) (ty := .int) (N' := 14) (a0 := (14, .inl (fun _ => 0))) hx hb (hts (.arrayClass .int) (by decide +kernel)) rfl hK hP hD hS hA (na_int 14) (by decide +kernel) (by decide +kernel) (by decide +kernel) (Nat.le_of_ble_eq_true rfl) (Nat.le_of_ble_eq_true rfl) dX12_init_656 (fun q155 cq155 H hK hP hD hS => ?_)
  have hP : va_P D vwCl [(h0, .inr (12, fs154)), (q1, .inl (cq1, 3000, .inl (fun _ => 0))), (q3, .inl (cq3, 710, .inl (fun _ => 0))), (q5, .inl (cq5, 710, .inl (fun _ => 0))), (q7, .inl (cq7, 710, .inl (fun _ => 0))), (q9, .inl (cq9, 710, .inl (fun _ => 0))), (q155, .inl (cq155, 14, .inl (fun _ => 0)))] H := hP
  have hD : va_D A [(h0, .inr (12, fs154)), (q1, .inl (cq1, 3000, .inl (fun _ => 0))), (q3, .inl (cq3, 710, .inl (fun _ => 0))), (q5, .inl (cq5, 710, .inl (fun _ => 0))), (q7, .inl (cq7, 710, .inl (fun _ => 0))), (q9, .inl (cq9, 710, .inl (fun _ => 0))), (q155, .inl (cq155, 14, .inl (fun _ => 0)))] := hD
  have hK : va_K D vwCl [(cq1, .byte), (cq3, .int), (cq5, .int), (cq7, .int), (cq9, .int), (cq155, .int)] s := hK
  refine W.widen (k := 77) (n := 58312) (Nat.le_of_ble_eq_true rfl) (Nat.le_of_ble_eq_true rfl) ?_
  refine va_put (D := D) (ci := 12) (v := .ref q155) (ty := .array .int) (C := RX12) (T := TX12) (N := 139) hx hb hts i_v_c_Model_init_X12 tyX12 tyX12_ok nmX12 hown hK hP hD hS 0 rfl rfl 115 (by decide) (hts (.fieldLink RX12 248 "ScheduleHouseModel" "content" "[I") (by decide +kernel)) (fun _ h9 => h9) rfl (by decide +kernel) rfl rfl (kp_lt kfs154 hlen (by decide)) dX12_init_658 (fun H locs hP hD hS => ?_)
  obtain ⟨fs156, hfs156⟩ : ∃ z, z = fs154.set 115 (.ref q155) := ⟨_, rfl⟩
  have kfs156 := kp_s 115 (.ref q155) kfs154
  have gfs156_12 : fs156[12]? = some (.int (-1)) := by rw [hfs156]; exact se_ne gfs154_12 (by decide)
  have gfs156_11 : fs156[11]? = some (.int (-1)) := by rw [hfs156]; exact se_ne gfs154_11 (by decide)
  have gfs156_7 : fs156[7]? = some (.ref q9) := by rw [hfs156]; exact se_ne gfs154_7 (by decide)
  have gfs156_6 : fs156[6]? = some (.ref q7) := by rw [hfs156]; exact se_ne gfs154_6 (by decide)
  have gfs156_5 : fs156[5]? = some (.ref q5) := by rw [hfs156]; exact se_ne gfs154_5 (by decide)
  have gfs156_4 : fs156[4]? = some (.ref q3) := by rw [hfs156]; exact se_ne gfs154_4 (by decide)
  have gfs156_1 : fs156[1]? = some (.ref q1) := by rw [hfs156]; exact se_ne gfs154_1 (by decide)
  rw [← hfs156] at hP hD kfs156
  have hP : va_P D vwCl [(h0, .inr (12, fs156)), (q1, .inl (cq1, 3000, .inl (fun _ => 0))), (q3, .inl (cq3, 710, .inl (fun _ => 0))), (q5, .inl (cq5, 710, .inl (fun _ => 0))), (q7, .inl (cq7, 710, .inl (fun _ => 0))), (q9, .inl (cq9, 710, .inl (fun _ => 0))), (q155, .inl (cq155, 14, .inl (fun _ => 0)))] H := hP
  have hD : va_D A [(h0, .inr (12, fs156)), (q1, .inl (cq1, 3000, .inl (fun _ => 0))), (q3, .inl (cq3, 710, .inl (fun _ => 0))), (q5, .inl (cq5, 710, .inl (fun _ => 0))), (q7, .inl (cq7, 710, .inl (fun _ => 0))), (q9, .inl (cq9, 710, .inl (fun _ => 0))), (q155, .inl (cq155, 14, .inl (fun _ => 0)))] := hD
  have hP : va_P D vwCl [(h0, .inr (12, fs156)), (q1, .inl (cq1, 3000, .inl (fun _ => 0))), (q3, .inl (cq3, 710, .inl (fun _ => 0))), (q5, .inl (cq5, 710, .inl (fun _ => 0))), (q7, .inl (cq7, 710, .inl (fun _ => 0))), (q9, .inl (cq9, 710, .inl (fun _ => 0)))] H := hP.sub [0, 1, 2, 3, 4, 5] rfl
  have hD : va_D A [(h0, .inr (12, fs156)), (q1, .inl (cq1, 3000, .inl (fun _ => 0))), (q3, .inl (cq3, 710, .inl (fun _ => 0))), (q5, .inl (cq5, 710, .inl (fun _ => 0))), (q7, .inl (cq7, 710, .inl (fun _ => 0))), (q9, .inl (cq9, 710, .inl (fun _ => 0)))] := hD.sub [0, 1, 2, 3, 4, 5] (by decide) rfl
  have hK : va_K D vwCl [(cq1, .byte), (cq3, .int), (cq5, .int), (cq7, .int), (cq9, .int)] s := hK.sub [0, 1, 2, 3, 4] rfl
  refine lv_aload_n hx hb dX12_init_661 rfl (lv_at hl 0 rfl) ?_
  refine lv_bipush (v := 6) hx hb dX12_init_662 (by decide +kernel) ?_
  refine va_newa (atype := .int) (ty := .int) (N' := 6) (a0 := (6, .inl (fun _ => 0))) hx hb (hts (.arrayClass .int) (by decide +kernel)) rfl hK hP hD hS hA (na_int 6) (by decide +kernel) (by decide +kernel) (by decide +kernel) (Nat.le_of_ble_eq_true rfl) (Nat.le_of_ble_eq_true rfl) dX12_init_664 (fun q157 cq157 H hK hP hD hS => ?_)
  have hP : va_P D vwCl [(h0, .inr (12, fs156)), (q1, .inl (cq1, 3000, .inl (fun _ => 0))), (q3, .inl (cq3, 710, .inl (fun _ => 0))), (q5, .inl (cq5, 710, .inl (fun _ => 0))), (q7, .inl (cq7, 710, .inl (fun _ => 0))), (q9, .inl (cq9, 710, .inl (fun _ => 0))), (q157, .inl (cq157, 6, .inl (fun _ => 0)))] H := hP
  have hD : va_D A [(h0, .inr (12, fs156)), (q1, .inl (cq1, 3000, .inl (fun _ => 0))), (q3, .inl (cq3, 710, .inl (fun _ => 0))), (q5, .inl (cq5, 710, .inl (fun _ => 0))), (q7, .inl (cq7, 710, .inl (fun _ => 0))), (q9, .inl (cq9, 710, .inl (fun _ => 0))), (q157, .inl (cq157, 6, .inl (fun _ => 0)))] := hD
  have hK : va_K D vwCl [(cq1, .byte), (cq3, .int), (cq5, .int), (cq7, .int), (cq9, .int), (cq157, .int)] s := hK
  refine W.widen (k := 78) (n := 58318) (Nat.le_of_ble_eq_true rfl) (Nat.le_of_ble_eq_true rfl) ?_
  refine va_put (D := D) (ci := 12) (v := .ref q157) (ty := .array .int) (C := RX12) (T := TX12) (N := 139) hx hb hts i_v_c_Model_init_X12 tyX12 tyX12_ok nmX12 hown hK hP hD hS 0 rfl rfl 117 (by decide) (hts (.fieldLink RX12 251 "ScheduleHouseModel" "openCall" "[I") (by decide +kernel)) (fun _ h9 => h9) rfl (by decide +kernel) rfl rfl (kp_lt kfs156 hlen (by decide)) dX12_init_666 (fun H locs hP hD hS => ?_)
  obtain ⟨fs158, hfs158⟩ : ∃ z, z = fs156.set 117 (.ref q157) := ⟨_, rfl⟩
  have kfs158 := kp_s 117 (.ref q157) kfs156
  have gfs158_12 : fs158[12]? = some (.int (-1)) := by rw [hfs158]; exact se_ne gfs156_12 (by decide)
  have gfs158_11 : fs158[11]? = some (.int (-1)) := by rw [hfs158]; exact se_ne gfs156_11 (by decide)
  have gfs158_7 : fs158[7]? = some (.ref q9) := by rw [hfs158]; exact se_ne gfs156_7 (by decide)
  have gfs158_6 : fs158[6]? = some (.ref q7) := by rw [hfs158]; exact se_ne gfs156_6 (by decide)
  have gfs158_5 : fs158[5]? = some (.ref q5) := by rw [hfs158]; exact se_ne gfs156_5 (by decide)
  have gfs158_4 : fs158[4]? = some (.ref q3) := by rw [hfs158]; exact se_ne gfs156_4 (by decide)
  have gfs158_1 : fs158[1]? = some (.ref q1) := by rw [hfs158]; exact se_ne gfs156_1 (by decide)
  rw [← hfs158] at hP hD kfs158
  have hP : va_P D vwCl [(h0, .inr (12, fs158)), (q1, .inl (cq1, 3000, .inl (fun _ => 0))), (q3, .inl (cq3, 710, .inl (fun _ => 0))), (q5, .inl (cq5, 710, .inl (fun _ => 0))), (q7, .inl (cq7, 710, .inl (fun _ => 0))), (q9, .inl (cq9, 710, .inl (fun _ => 0))), (q157, .inl (cq157, 6, .inl (fun _ => 0)))] H := hP
  have hD : va_D A [(h0, .inr (12, fs158)), (q1, .inl (cq1, 3000, .inl (fun _ => 0))), (q3, .inl (cq3, 710, .inl (fun _ => 0))), (q5, .inl (cq5, 710, .inl (fun _ => 0))), (q7, .inl (cq7, 710, .inl (fun _ => 0))), (q9, .inl (cq9, 710, .inl (fun _ => 0))), (q157, .inl (cq157, 6, .inl (fun _ => 0)))] := hD
  have hP : va_P D vwCl [(h0, .inr (12, fs158)), (q1, .inl (cq1, 3000, .inl (fun _ => 0))), (q3, .inl (cq3, 710, .inl (fun _ => 0))), (q5, .inl (cq5, 710, .inl (fun _ => 0))), (q7, .inl (cq7, 710, .inl (fun _ => 0))), (q9, .inl (cq9, 710, .inl (fun _ => 0)))] H := hP.sub [0, 1, 2, 3, 4, 5] rfl
  have hD : va_D A [(h0, .inr (12, fs158)), (q1, .inl (cq1, 3000, .inl (fun _ => 0))), (q3, .inl (cq3, 710, .inl (fun _ => 0))), (q5, .inl (cq5, 710, .inl (fun _ => 0))), (q7, .inl (cq7, 710, .inl (fun _ => 0))), (q9, .inl (cq9, 710, .inl (fun _ => 0)))] := hD.sub [0, 1, 2, 3, 4, 5] (by decide) rfl
  have hK : va_K D vwCl [(cq1, .byte), (cq3, .int), (cq5, .int), (cq7, .int), (cq9, .int)] s := hK.sub [0, 1, 2, 3, 4] rfl
  refine lv_aload_n hx hb dX12_init_669 rfl (lv_at hl 0 rfl) ?_
  refine lv_iconst (v := 2) hx hb dX12_init_670 (by decide +kernel) ?_
  refine va_newa (atype := .boolean) (ty := .boolean) (N' := 2) (a0 := (2, .inl (fun _ => 0))) hx hb (hts (.arrayClass .boolean) (by decide +kernel)) rfl hK hP hD hS hA (na_boolean 2) (by decide +kernel) (by decide +kernel) (by decide +kernel) (Nat.le_of_ble_eq_true rfl) (Nat.le_of_ble_eq_true rfl) dX12_init_671 (fun q159 cq159 H hK hP hD hS => ?_)
  have hP : va_P D vwCl [(h0, .inr (12, fs158)), (q1, .inl (cq1, 3000, .inl (fun _ => 0))), (q3, .inl (cq3, 710, .inl (fun _ => 0))), (q5, .inl (cq5, 710, .inl (fun _ => 0))), (q7, .inl (cq7, 710, .inl (fun _ => 0))), (q9, .inl (cq9, 710, .inl (fun _ => 0))), (q159, .inl (cq159, 2, .inl (fun _ => 0)))] H := hP
  have hD : va_D A [(h0, .inr (12, fs158)), (q1, .inl (cq1, 3000, .inl (fun _ => 0))), (q3, .inl (cq3, 710, .inl (fun _ => 0))), (q5, .inl (cq5, 710, .inl (fun _ => 0))), (q7, .inl (cq7, 710, .inl (fun _ => 0))), (q9, .inl (cq9, 710, .inl (fun _ => 0))), (q159, .inl (cq159, 2, .inl (fun _ => 0)))] := hD
  have hK : va_K D vwCl [(cq1, .byte), (cq3, .int), (cq5, .int), (cq7, .int), (cq9, .int), (cq159, .boolean)] s := hK
  refine W.widen (k := 79) (n := 58320) (Nat.le_of_ble_eq_true rfl) (Nat.le_of_ble_eq_true rfl) ?_
  refine va_put (D := D) (ci := 12) (v := .ref q159) (ty := .array .boolean) (C := RX12) (T := TX12) (N := 139) hx hb hts i_v_c_Model_init_X12 tyX12 tyX12_ok nmX12 hown hK hP hD hS 0 rfl rfl 118 (by decide) (hts (.fieldLink RX12 254 "ScheduleHouseModel" "wasTried" "[Z") (by decide +kernel)) (fun _ h9 => h9) rfl (by decide +kernel) rfl rfl (kp_lt kfs158 hlen (by decide)) dX12_init_673 (fun H locs hP hD hS => ?_)
  obtain ⟨fs160, hfs160⟩ : ∃ z, z = fs158.set 118 (.ref q159) := ⟨_, rfl⟩
  have kfs160 := kp_s 118 (.ref q159) kfs158
  have gfs160_118 : fs160[118]? = some (.ref q159) := by rw [hfs160]; exact se_eq (kp_lt kfs158 hlen (by decide))
  have gfs160_12 : fs160[12]? = some (.int (-1)) := by rw [hfs160]; exact se_ne gfs158_12 (by decide)
  have gfs160_11 : fs160[11]? = some (.int (-1)) := by rw [hfs160]; exact se_ne gfs158_11 (by decide)
  have gfs160_7 : fs160[7]? = some (.ref q9) := by rw [hfs160]; exact se_ne gfs158_7 (by decide)
  have gfs160_6 : fs160[6]? = some (.ref q7) := by rw [hfs160]; exact se_ne gfs158_6 (by decide)
  have gfs160_5 : fs160[5]? = some (.ref q5) := by rw [hfs160]; exact se_ne gfs158_5 (by decide)
  have gfs160_4 : fs160[4]? = some (.ref q3) := by rw [hfs160]; exact se_ne gfs158_4 (by decide)
  have gfs160_1 : fs160[1]? = some (.ref q1) := by rw [hfs160]; exact se_ne gfs158_1 (by decide)
  rw [← hfs160] at hP hD kfs160
  have hP : va_P D vwCl [(h0, .inr (12, fs160)), (q1, .inl (cq1, 3000, .inl (fun _ => 0))), (q3, .inl (cq3, 710, .inl (fun _ => 0))), (q5, .inl (cq5, 710, .inl (fun _ => 0))), (q7, .inl (cq7, 710, .inl (fun _ => 0))), (q9, .inl (cq9, 710, .inl (fun _ => 0))), (q159, .inl (cq159, 2, .inl (fun _ => 0)))] H := hP
  have hD : va_D A [(h0, .inr (12, fs160)), (q1, .inl (cq1, 3000, .inl (fun _ => 0))), (q3, .inl (cq3, 710, .inl (fun _ => 0))), (q5, .inl (cq5, 710, .inl (fun _ => 0))), (q7, .inl (cq7, 710, .inl (fun _ => 0))), (q9, .inl (cq9, 710, .inl (fun _ => 0))), (q159, .inl (cq159, 2, .inl (fun _ => 0)))] := hD
  refine lv_aload_n hx hb dX12_init_676 rfl (lv_at hl 0 rfl) ?_
  refine lv_iconst (v := 2) hx hb dX12_init_677 (by decide +kernel) ?_
  refine va_newa (atype := .int) (ty := .int) (N' := 2) (a0 := (2, .inl (fun _ => 0))) hx hb (hts (.arrayClass .int) (by decide +kernel)) rfl hK hP hD hS hA (na_int 2) (by decide +kernel) (by decide +kernel) (by decide +kernel) (Nat.le_of_ble_eq_true rfl) (Nat.le_of_ble_eq_true rfl) dX12_init_678 (fun q161 cq161 H hK hP hD hS => ?_)
  have hP : va_P D vwCl [(h0, .inr (12, fs160)), (q1, .inl (cq1, 3000, .inl (fun _ => 0))), (q3, .inl (cq3, 710, .inl (fun _ => 0))), (q5, .inl (cq5, 710, .inl (fun _ => 0))), (q7, .inl (cq7, 710, .inl (fun _ => 0))), (q9, .inl (cq9, 710, .inl (fun _ => 0))), (q159, .inl (cq159, 2, .inl (fun _ => 0))), (q161, .inl (cq161, 2, .inl (fun _ => 0)))] H := hP
  have hD : va_D A [(h0, .inr (12, fs160)), (q1, .inl (cq1, 3000, .inl (fun _ => 0))), (q3, .inl (cq3, 710, .inl (fun _ => 0))), (q5, .inl (cq5, 710, .inl (fun _ => 0))), (q7, .inl (cq7, 710, .inl (fun _ => 0))), (q9, .inl (cq9, 710, .inl (fun _ => 0))), (q159, .inl (cq159, 2, .inl (fun _ => 0))), (q161, .inl (cq161, 2, .inl (fun _ => 0)))] := hD
  have hK : va_K D vwCl [(cq1, .byte), (cq3, .int), (cq5, .int), (cq7, .int), (cq9, .int), (cq159, .boolean), (cq161, .int)] s := hK
  refine W.widen (k := 80) (n := 58322) (Nat.le_of_ble_eq_true rfl) (Nat.le_of_ble_eq_true rfl) ?_
  refine va_put (D := D) (ci := 12) (v := .ref q161) (ty := .array .int) (C := RX12) (T := TX12) (N := 139) hx hb hts i_v_c_Model_init_X12 tyX12 tyX12_ok nmX12 hown hK hP hD hS 0 rfl rfl 119 (by decide) (hts (.fieldLink RX12 257 "ScheduleHouseModel" "many" "[I") (by decide +kernel)) (fun _ h9 => h9) rfl (by decide +kernel) rfl rfl (kp_lt kfs160 hlen (by decide)) dX12_init_680 (fun H locs hP hD hS => ?_)
  obtain ⟨fs162, hfs162⟩ : ∃ z, z = fs160.set 119 (.ref q161) := ⟨_, rfl⟩
  have kfs162 := kp_s 119 (.ref q161) kfs160
  have gfs162_118 : fs162[118]? = some (.ref q159) := by rw [hfs162]; exact se_ne gfs160_118 (by decide)
  have gfs162_12 : fs162[12]? = some (.int (-1)) := by rw [hfs162]; exact se_ne gfs160_12 (by decide)
  have gfs162_11 : fs162[11]? = some (.int (-1)) := by rw [hfs162]; exact se_ne gfs160_11 (by decide)
  have gfs162_7 : fs162[7]? = some (.ref q9) := by rw [hfs162]; exact se_ne gfs160_7 (by decide)
  have gfs162_6 : fs162[6]? = some (.ref q7) := by rw [hfs162]; exact se_ne gfs160_6 (by decide)
  have gfs162_5 : fs162[5]? = some (.ref q5) := by rw [hfs162]; exact se_ne gfs160_5 (by decide)
  have gfs162_4 : fs162[4]? = some (.ref q3) := by rw [hfs162]; exact se_ne gfs160_4 (by decide)
  have gfs162_1 : fs162[1]? = some (.ref q1) := by rw [hfs162]; exact se_ne gfs160_1 (by decide)
  rw [← hfs162] at hP hD kfs162
  have hP : va_P D vwCl [(h0, .inr (12, fs162)), (q1, .inl (cq1, 3000, .inl (fun _ => 0))), (q3, .inl (cq3, 710, .inl (fun _ => 0))), (q5, .inl (cq5, 710, .inl (fun _ => 0))), (q7, .inl (cq7, 710, .inl (fun _ => 0))), (q9, .inl (cq9, 710, .inl (fun _ => 0))), (q159, .inl (cq159, 2, .inl (fun _ => 0))), (q161, .inl (cq161, 2, .inl (fun _ => 0)))] H := hP
  have hD : va_D A [(h0, .inr (12, fs162)), (q1, .inl (cq1, 3000, .inl (fun _ => 0))), (q3, .inl (cq3, 710, .inl (fun _ => 0))), (q5, .inl (cq5, 710, .inl (fun _ => 0))), (q7, .inl (cq7, 710, .inl (fun _ => 0))), (q9, .inl (cq9, 710, .inl (fun _ => 0))), (q159, .inl (cq159, 2, .inl (fun _ => 0))), (q161, .inl (cq161, 2, .inl (fun _ => 0)))] := hD
  have hP : va_P D vwCl [(h0, .inr (12, fs162)), (q1, .inl (cq1, 3000, .inl (fun _ => 0))), (q3, .inl (cq3, 710, .inl (fun _ => 0))), (q5, .inl (cq5, 710, .inl (fun _ => 0))), (q7, .inl (cq7, 710, .inl (fun _ => 0))), (q9, .inl (cq9, 710, .inl (fun _ => 0))), (q159, .inl (cq159, 2, .inl (fun _ => 0)))] H := hP.sub [0, 1, 2, 3, 4, 5, 6] rfl
  have hD : va_D A [(h0, .inr (12, fs162)), (q1, .inl (cq1, 3000, .inl (fun _ => 0))), (q3, .inl (cq3, 710, .inl (fun _ => 0))), (q5, .inl (cq5, 710, .inl (fun _ => 0))), (q7, .inl (cq7, 710, .inl (fun _ => 0))), (q9, .inl (cq9, 710, .inl (fun _ => 0))), (q159, .inl (cq159, 2, .inl (fun _ => 0)))] := hD.sub [0, 1, 2, 3, 4, 5, 6] (by decide) rfl
  have hK : va_K D vwCl [(cq1, .byte), (cq3, .int), (cq5, .int), (cq7, .int), (cq9, .int), (cq159, .boolean)] s := hK.sub [0, 1, 2, 3, 4, 5] rfl
  refine lv_aload_n hx hb dX12_init_683 rfl (lv_at hl 0 rfl) ?_
  refine lv_iconst (v := 2) hx hb dX12_init_684 (by decide +kernel) ?_
  refine va_newa (atype := .boolean) (ty := .boolean) (N' := 2) (a0 := (2, .inl (fun _ => 0))) hx hb (hts (.arrayClass .boolean) (by decide +kernel)) rfl hK hP hD hS hA (na_boolean 2) (by decide +kernel) (by decide +kernel) (by decide +kernel) (Nat.le_of_ble_eq_true rfl) (Nat.le_of_ble_eq_true rfl) dX12_init_685 (fun q163 cq163 H hK hP hD hS => ?_)
  have hP : va_P D vwCl [(h0, .inr (12, fs162)), (q1, .inl (cq1, 3000, .inl (fun _ => 0))), (q3, .inl (cq3, 710, .inl (fun _ => 0))), (q5, .inl (cq5, 710, .inl (fun _ => 0))), (q7, .inl (cq7, 710, .inl (fun _ => 0))), (q9, .inl (cq9, 710, .inl (fun _ => 0))), (q159, .inl (cq159, 2, .inl (fun _ => 0))), (q163, .inl (cq163, 2, .inl (fun _ => 0)))] H := hP
  have hD : va_D A [(h0, .inr (12, fs162)), (q1, .inl (cq1, 3000, .inl (fun _ => 0))), (q3, .inl (cq3, 710, .inl (fun _ => 0))), (q5, .inl (cq5, 710, .inl (fun _ => 0))), (q7, .inl (cq7, 710, .inl (fun _ => 0))), (q9, .inl (cq9, 710, .inl (fun _ => 0))), (q159, .inl (cq159, 2, .inl (fun _ => 0))), (q163, .inl (cq163, 2, .inl (fun _ => 0)))] := hD
  have hK : va_K D vwCl [(cq1, .byte), (cq3, .int), (cq5, .int), (cq7, .int), (cq9, .int), (cq159, .boolean), (cq163, .boolean)] s := hK
  refine W.widen (k := 81) (n := 58324) (Nat.le_of_ble_eq_true rfl) (Nat.le_of_ble_eq_true rfl) ?_
  refine va_put (D := D) (ci := 12) (v := .ref q163) (ty := .array .boolean) (C := RX12) (T := TX12) (N := 139) hx hb hts i_v_c_Model_init_X12 tyX12 tyX12_ok nmX12 hown hK hP hD hS 0 rfl rfl 120 (by decide) (hts (.fieldLink RX12 260 "ScheduleHouseModel" "isPartly" "[Z") (by decide +kernel)) (fun _ h9 => h9) rfl (by decide +kernel) rfl rfl (kp_lt kfs162 hlen (by decide)) dX12_init_687 (fun H locs hP hD hS => ?_)
  obtain ⟨fs164, hfs164⟩ : ∃ z, z = fs162.set 120 (.ref q163) := ⟨_, rfl⟩
  have kfs164 := kp_s 120 (.ref q163) kfs162
  have gfs164_118 : fs164[118]? = some (.ref q159) := by rw [hfs164]; exact se_ne gfs162_118 (by decide)
  have gfs164_12 : fs164[12]? = some (.int (-1)) := by rw [hfs164]; exact se_ne gfs162_12 (by decide)
  have gfs164_11 : fs164[11]? = some (.int (-1)) := by rw [hfs164]; exact se_ne gfs162_11 (by decide)
  have gfs164_7 : fs164[7]? = some (.ref q9) := by rw [hfs164]; exact se_ne gfs162_7 (by decide)
  have gfs164_6 : fs164[6]? = some (.ref q7) := by rw [hfs164]; exact se_ne gfs162_6 (by decide)
  have gfs164_5 : fs164[5]? = some (.ref q5) := by rw [hfs164]; exact se_ne gfs162_5 (by decide)
  have gfs164_4 : fs164[4]? = some (.ref q3) := by rw [hfs164]; exact se_ne gfs162_4 (by decide)
  have gfs164_1 : fs164[1]? = some (.ref q1) := by rw [hfs164]; exact se_ne gfs162_1 (by decide)
  rw [← hfs164] at hP hD kfs164
  have hP : va_P D vwCl [(h0, .inr (12, fs164)), (q1, .inl (cq1, 3000, .inl (fun _ => 0))), (q3, .inl (cq3, 710, .inl (fun _ => 0))), (q5, .inl (cq5, 710, .inl (fun _ => 0))), (q7, .inl (cq7, 710, .inl (fun _ => 0))), (q9, .inl (cq9, 710, .inl (fun _ => 0))), (q159, .inl (cq159, 2, .inl (fun _ => 0))), (q163, .inl (cq163, 2, .inl (fun _ => 0)))] H := hP
  have hD : va_D A [(h0, .inr (12, fs164)), (q1, .inl (cq1, 3000, .inl (fun _ => 0))), (q3, .inl (cq3, 710, .inl (fun _ => 0))), (q5, .inl (cq5, 710, .inl (fun _ => 0))), (q7, .inl (cq7, 710, .inl (fun _ => 0))), (q9, .inl (cq9, 710, .inl (fun _ => 0))), (q159, .inl (cq159, 2, .inl (fun _ => 0))), (q163, .inl (cq163, 2, .inl (fun _ => 0)))] := hD
  have hP : va_P D vwCl [(h0, .inr (12, fs164)), (q1, .inl (cq1, 3000, .inl (fun _ => 0))), (q3, .inl (cq3, 710, .inl (fun _ => 0))), (q5, .inl (cq5, 710, .inl (fun _ => 0))), (q7, .inl (cq7, 710, .inl (fun _ => 0))), (q9, .inl (cq9, 710, .inl (fun _ => 0))), (q159, .inl (cq159, 2, .inl (fun _ => 0)))] H := hP.sub [0, 1, 2, 3, 4, 5, 6] rfl
  have hD : va_D A [(h0, .inr (12, fs164)), (q1, .inl (cq1, 3000, .inl (fun _ => 0))), (q3, .inl (cq3, 710, .inl (fun _ => 0))), (q5, .inl (cq5, 710, .inl (fun _ => 0))), (q7, .inl (cq7, 710, .inl (fun _ => 0))), (q9, .inl (cq9, 710, .inl (fun _ => 0))), (q159, .inl (cq159, 2, .inl (fun _ => 0)))] := hD.sub [0, 1, 2, 3, 4, 5, 6] (by decide) rfl
  have hK : va_K D vwCl [(cq1, .byte), (cq3, .int), (cq5, .int), (cq7, .int), (cq9, .int), (cq159, .boolean)] s := hK.sub [0, 1, 2, 3, 4, 5] rfl
  refine lv_aload_n hx hb dX12_init_690 rfl (lv_at hl 0 rfl) ?_
  refine lv_iconst (v := 2) hx hb dX12_init_691 (by decide +kernel) ?_
  refine va_newa (atype := .int) (ty := .int) (N' := 2) (a0 := (2, .inl (fun _ => 0))) hx hb (hts (.arrayClass .int) (by decide +kernel)) rfl hK hP hD hS hA (na_int 2) (by decide +kernel) (by decide +kernel) (by decide +kernel) (Nat.le_of_ble_eq_true rfl) (Nat.le_of_ble_eq_true rfl) dX12_init_692 (fun q165 cq165 H hK hP hD hS => ?_)
  have hP : va_P D vwCl [(h0, .inr (12, fs164)), (q1, .inl (cq1, 3000, .inl (fun _ => 0))), (q3, .inl (cq3, 710, .inl (fun _ => 0))), (q5, .inl (cq5, 710, .inl (fun _ => 0))), (q7, .inl (cq7, 710, .inl (fun _ => 0))), (q9, .inl (cq9, 710, .inl (fun _ => 0))), (q159, .inl (cq159, 2, .inl (fun _ => 0))), (q165, .inl (cq165, 2, .inl (fun _ => 0)))] H := hP
  have hD : va_D A [(h0, .inr (12, fs164)), (q1, .inl (cq1, 3000, .inl (fun _ => 0))), (q3, .inl (cq3, 710, .inl (fun _ => 0))), (q5, .inl (cq5, 710, .inl (fun _ => 0))), (q7, .inl (cq7, 710, .inl (fun _ => 0))), (q9, .inl (cq9, 710, .inl (fun _ => 0))), (q159, .inl (cq159, 2, .inl (fun _ => 0))), (q165, .inl (cq165, 2, .inl (fun _ => 0)))] := hD
  have hK : va_K D vwCl [(cq1, .byte), (cq3, .int), (cq5, .int), (cq7, .int), (cq9, .int), (cq159, .boolean), (cq165, .int)] s := hK
  refine W.widen (k := 82) (n := 58326) (Nat.le_of_ble_eq_true rfl) (Nat.le_of_ble_eq_true rfl) ?_
  refine va_put (D := D) (ci := 12) (v := .ref q165) (ty := .array .int) (C := RX12) (T := TX12) (N := 139) hx hb hts i_v_c_Model_init_X12 tyX12 tyX12_ok nmX12 hown hK hP hD hS 0 rfl rfl 121 (by decide) (hts (.fieldLink RX12 263 "ScheduleHouseModel" "ends" "[I") (by decide +kernel)) (fun _ h9 => h9) rfl (by decide +kernel) rfl rfl (kp_lt kfs164 hlen (by decide)) dX12_init_694 (fun H locs hP hD hS => ?_)
  obtain ⟨fs166, hfs166⟩ : ∃ z, z = fs164.set 121 (.ref q165) := ⟨_, rfl⟩
  have kfs166 := kp_s 121 (.ref q165) kfs164
  have gfs166_118 : fs166[118]? = some (.ref q159) := by rw [hfs166]; exact se_ne gfs164_118 (by decide)
  have gfs166_12 : fs166[12]? = some (.int (-1)) := by rw [hfs166]; exact se_ne gfs164_12 (by decide)
  have gfs166_11 : fs166[11]? = some (.int (-1)) := by rw [hfs166]; exact se_ne gfs164_11 (by decide)
  have gfs166_7 : fs166[7]? = some (.ref q9) := by rw [hfs166]; exact se_ne gfs164_7 (by decide)
  have gfs166_6 : fs166[6]? = some (.ref q7) := by rw [hfs166]; exact se_ne gfs164_6 (by decide)
  have gfs166_5 : fs166[5]? = some (.ref q5) := by rw [hfs166]; exact se_ne gfs164_5 (by decide)
  have gfs166_4 : fs166[4]? = some (.ref q3) := by rw [hfs166]; exact se_ne gfs164_4 (by decide)
  have gfs166_1 : fs166[1]? = some (.ref q1) := by rw [hfs166]; exact se_ne gfs164_1 (by decide)
  rw [← hfs166] at hP hD kfs166
  have hP : va_P D vwCl [(h0, .inr (12, fs166)), (q1, .inl (cq1, 3000, .inl (fun _ => 0))), (q3, .inl (cq3, 710, .inl (fun _ => 0))), (q5, .inl (cq5, 710, .inl (fun _ => 0))), (q7, .inl (cq7, 710, .inl (fun _ => 0))), (q9, .inl (cq9, 710, .inl (fun _ => 0))), (q159, .inl (cq159, 2, .inl (fun _ => 0))), (q165, .inl (cq165, 2, .inl (fun _ => 0)))] H := hP
  have hD : va_D A [(h0, .inr (12, fs166)), (q1, .inl (cq1, 3000, .inl (fun _ => 0))), (q3, .inl (cq3, 710, .inl (fun _ => 0))), (q5, .inl (cq5, 710, .inl (fun _ => 0))), (q7, .inl (cq7, 710, .inl (fun _ => 0))), (q9, .inl (cq9, 710, .inl (fun _ => 0))), (q159, .inl (cq159, 2, .inl (fun _ => 0))), (q165, .inl (cq165, 2, .inl (fun _ => 0)))] := hD
  have hP : va_P D vwCl [(h0, .inr (12, fs166)), (q1, .inl (cq1, 3000, .inl (fun _ => 0))), (q3, .inl (cq3, 710, .inl (fun _ => 0))), (q5, .inl (cq5, 710, .inl (fun _ => 0))), (q7, .inl (cq7, 710, .inl (fun _ => 0))), (q9, .inl (cq9, 710, .inl (fun _ => 0))), (q159, .inl (cq159, 2, .inl (fun _ => 0)))] H := hP.sub [0, 1, 2, 3, 4, 5, 6] rfl
  have hD : va_D A [(h0, .inr (12, fs166)), (q1, .inl (cq1, 3000, .inl (fun _ => 0))), (q3, .inl (cq3, 710, .inl (fun _ => 0))), (q5, .inl (cq5, 710, .inl (fun _ => 0))), (q7, .inl (cq7, 710, .inl (fun _ => 0))), (q9, .inl (cq9, 710, .inl (fun _ => 0))), (q159, .inl (cq159, 2, .inl (fun _ => 0)))] := hD.sub [0, 1, 2, 3, 4, 5, 6] (by decide) rfl
  have hK : va_K D vwCl [(cq1, .byte), (cq3, .int), (cq5, .int), (cq7, .int), (cq9, .int), (cq159, .boolean)] s := hK.sub [0, 1, 2, 3, 4, 5] rfl
  refine lv_aload_n hx hb dX12_init_697 rfl (lv_at hl 0 rfl) ?_
  refine lv_iconst (v := 2) hx hb dX12_init_698 (by decide +kernel) ?_
  refine va_newa (atype := .int) (ty := .int) (N' := 2) (a0 := (2, .inl (fun _ => 0))) hx hb (hts (.arrayClass .int) (by decide +kernel)) rfl hK hP hD hS hA (na_int 2) (by decide +kernel) (by decide +kernel) (by decide +kernel) (Nat.le_of_ble_eq_true rfl) (Nat.le_of_ble_eq_true rfl) dX12_init_699 (fun q167 cq167 H hK hP hD hS => ?_)
  have hP : va_P D vwCl [(h0, .inr (12, fs166)), (q1, .inl (cq1, 3000, .inl (fun _ => 0))), (q3, .inl (cq3, 710, .inl (fun _ => 0))), (q5, .inl (cq5, 710, .inl (fun _ => 0))), (q7, .inl (cq7, 710, .inl (fun _ => 0))), (q9, .inl (cq9, 710, .inl (fun _ => 0))), (q159, .inl (cq159, 2, .inl (fun _ => 0))), (q167, .inl (cq167, 2, .inl (fun _ => 0)))] H := hP
  have hD : va_D A [(h0, .inr (12, fs166)), (q1, .inl (cq1, 3000, .inl (fun _ => 0))), (q3, .inl (cq3, 710, .inl (fun _ => 0))), (q5, .inl (cq5, 710, .inl (fun _ => 0))), (q7, .inl (cq7, 710, .inl (fun _ => 0))), (q9, .inl (cq9, 710, .inl (fun _ => 0))), (q159, .inl (cq159, 2, .inl (fun _ => 0))), (q167, .inl (cq167, 2, .inl (fun _ => 0)))] := hD
  have hK : va_K D vwCl [(cq1, .byte), (cq3, .int), (cq5, .int), (cq7, .int), (cq9, .int), (cq159, .boolean), (cq167, .int)] s := hK
  refine W.widen (k := 83) (n := 58328) (Nat.le_of_ble_eq_true rfl) (Nat.le_of_ble_eq_true rfl) ?_
  refine va_put (D := D) (ci := 12) (v := .ref q167) (ty := .array .int) (C := RX12) (T := TX12) (N := 139) hx hb hts i_v_c_Model_init_X12 tyX12 tyX12_ok nmX12 hown hK hP hD hS 0 rfl rfl 122 (by decide) (hts (.fieldLink RX12 266 "ScheduleHouseModel" "outcomes" "[I") (by decide +kernel)) (fun _ h9 => h9) rfl (by decide +kernel) rfl rfl (kp_lt kfs166 hlen (by decide)) dX12_init_701 (fun H locs hP hD hS => ?_)
  obtain ⟨fs168, hfs168⟩ : ∃ z, z = fs166.set 122 (.ref q167) := ⟨_, rfl⟩
  have kfs168 := kp_s 122 (.ref q167) kfs166
  have gfs168_118 : fs168[118]? = some (.ref q159) := by rw [hfs168]; exact se_ne gfs166_118 (by decide)
  have gfs168_12 : fs168[12]? = some (.int (-1)) := by rw [hfs168]; exact se_ne gfs166_12 (by decide)
  have gfs168_11 : fs168[11]? = some (.int (-1)) := by rw [hfs168]; exact se_ne gfs166_11 (by decide)
  have gfs168_7 : fs168[7]? = some (.ref q9) := by rw [hfs168]; exact se_ne gfs166_7 (by decide)
  have gfs168_6 : fs168[6]? = some (.ref q7) := by rw [hfs168]; exact se_ne gfs166_6 (by decide)
  have gfs168_5 : fs168[5]? = some (.ref q5) := by rw [hfs168]; exact se_ne gfs166_5 (by decide)
  have gfs168_4 : fs168[4]? = some (.ref q3) := by rw [hfs168]; exact se_ne gfs166_4 (by decide)
  have gfs168_1 : fs168[1]? = some (.ref q1) := by rw [hfs168]; exact se_ne gfs166_1 (by decide)
  rw [← hfs168] at hP hD kfs168
  have hP : va_P D vwCl [(h0, .inr (12, fs168)), (q1, .inl (cq1, 3000, .inl (fun _ => 0))), (q3, .inl (cq3, 710, .inl (fun _ => 0))), (q5, .inl (cq5, 710, .inl (fun _ => 0))), (q7, .inl (cq7, 710, .inl (fun _ => 0))), (q9, .inl (cq9, 710, .inl (fun _ => 0))), (q159, .inl (cq159, 2, .inl (fun _ => 0))), (q167, .inl (cq167, 2, .inl (fun _ => 0)))] H := hP
  have hD : va_D A [(h0, .inr (12, fs168)), (q1, .inl (cq1, 3000, .inl (fun _ => 0))), (q3, .inl (cq3, 710, .inl (fun _ => 0))), (q5, .inl (cq5, 710, .inl (fun _ => 0))), (q7, .inl (cq7, 710, .inl (fun _ => 0))), (q9, .inl (cq9, 710, .inl (fun _ => 0))), (q159, .inl (cq159, 2, .inl (fun _ => 0))), (q167, .inl (cq167, 2, .inl (fun _ => 0)))] := hD
  have hP : va_P D vwCl [(h0, .inr (12, fs168)), (q1, .inl (cq1, 3000, .inl (fun _ => 0))), (q3, .inl (cq3, 710, .inl (fun _ => 0))), (q5, .inl (cq5, 710, .inl (fun _ => 0))), (q7, .inl (cq7, 710, .inl (fun _ => 0))), (q9, .inl (cq9, 710, .inl (fun _ => 0))), (q159, .inl (cq159, 2, .inl (fun _ => 0)))] H := hP.sub [0, 1, 2, 3, 4, 5, 6] rfl
  have hD : va_D A [(h0, .inr (12, fs168)), (q1, .inl (cq1, 3000, .inl (fun _ => 0))), (q3, .inl (cq3, 710, .inl (fun _ => 0))), (q5, .inl (cq5, 710, .inl (fun _ => 0))), (q7, .inl (cq7, 710, .inl (fun _ => 0))), (q9, .inl (cq9, 710, .inl (fun _ => 0))), (q159, .inl (cq159, 2, .inl (fun _ => 0)))] := hD.sub [0, 1, 2, 3, 4, 5, 6] (by decide) rfl
  have hK : va_K D vwCl [(cq1, .byte), (cq3, .int), (cq5, .int), (cq7, .int), (cq9, .int), (cq159, .boolean)] s := hK.sub [0, 1, 2, 3, 4, 5] rfl
  refine lv_aload_n hx hb dX12_init_704 rfl (lv_at hl 0 rfl) ?_
  refine lv_iconst (v := 2) hx hb dX12_init_705 (by decide +kernel) ?_
  refine va_newa (atype := .int) (ty := .int) (N' := 2) (a0 := (2, .inl (fun _ => 0))) hx hb (hts (.arrayClass .int) (by decide +kernel)) rfl hK hP hD hS hA (na_int 2) (by decide +kernel) (by decide +kernel) (by decide +kernel) (Nat.le_of_ble_eq_true rfl) (Nat.le_of_ble_eq_true rfl) dX12_init_706 (fun q169 cq169 H hK hP hD hS => ?_)
  have hP : va_P D vwCl [(h0, .inr (12, fs168)), (q1, .inl (cq1, 3000, .inl (fun _ => 0))), (q3, .inl (cq3, 710, .inl (fun _ => 0))), (q5, .inl (cq5, 710, .inl (fun _ => 0))), (q7, .inl (cq7, 710, .inl (fun _ => 0))), (q9, .inl (cq9, 710, .inl (fun _ => 0))), (q159, .inl (cq159, 2, .inl (fun _ => 0))), (q169, .inl (cq169, 2, .inl (fun _ => 0)))] H := hP
  have hD : va_D A [(h0, .inr (12, fs168)), (q1, .inl (cq1, 3000, .inl (fun _ => 0))), (q3, .inl (cq3, 710, .inl (fun _ => 0))), (q5, .inl (cq5, 710, .inl (fun _ => 0))), (q7, .inl (cq7, 710, .inl (fun _ => 0))), (q9, .inl (cq9, 710, .inl (fun _ => 0))), (q159, .inl (cq159, 2, .inl (fun _ => 0))), (q169, .inl (cq169, 2, .inl (fun _ => 0)))] := hD
  have hK : va_K D vwCl [(cq1, .byte), (cq3, .int), (cq5, .int), (cq7, .int), (cq9, .int), (cq159, .boolean), (cq169, .int)] s := hK
  refine W.widen (k := 84) (n := 58330) (Nat.le_of_ble_eq_true rfl) (Nat.le_of_ble_eq_true rfl) ?_
  refine va_put (D := D) (ci := 12) (v := .ref q169) (ty := .array .int) (C := RX12) (T := TX12) (N := 139) hx hb hts i_v_c_Model_init_X12 tyX12 tyX12_ok nmX12 hown hK hP hD hS 0 rfl rfl 123 (by decide) (hts (.fieldLink RX12 269 "ScheduleHouseModel" "quiet" "[I") (by decide +kernel)) (fun _ h9 => h9) rfl (by decide +kernel) rfl rfl (kp_lt kfs168 hlen (by decide)) dX12_init_708 (fun H locs hP hD hS => ?_)
  obtain ⟨fs170, hfs170⟩ : ∃ z, z = fs168.set 123 (.ref q169) := ⟨_, rfl⟩
  have kfs170 := kp_s 123 (.ref q169) kfs168
  have gfs170_118 : fs170[118]? = some (.ref q159) := by rw [hfs170]; exact se_ne gfs168_118 (by decide)
  have gfs170_12 : fs170[12]? = some (.int (-1)) := by rw [hfs170]; exact se_ne gfs168_12 (by decide)
  have gfs170_11 : fs170[11]? = some (.int (-1)) := by rw [hfs170]; exact se_ne gfs168_11 (by decide)
  have gfs170_7 : fs170[7]? = some (.ref q9) := by rw [hfs170]; exact se_ne gfs168_7 (by decide)
  have gfs170_6 : fs170[6]? = some (.ref q7) := by rw [hfs170]; exact se_ne gfs168_6 (by decide)
  have gfs170_5 : fs170[5]? = some (.ref q5) := by rw [hfs170]; exact se_ne gfs168_5 (by decide)
  have gfs170_4 : fs170[4]? = some (.ref q3) := by rw [hfs170]; exact se_ne gfs168_4 (by decide)
  have gfs170_1 : fs170[1]? = some (.ref q1) := by rw [hfs170]; exact se_ne gfs168_1 (by decide)
  rw [← hfs170] at hP hD kfs170
  have hP : va_P D vwCl [(h0, .inr (12, fs170)), (q1, .inl (cq1, 3000, .inl (fun _ => 0))), (q3, .inl (cq3, 710, .inl (fun _ => 0))), (q5, .inl (cq5, 710, .inl (fun _ => 0))), (q7, .inl (cq7, 710, .inl (fun _ => 0))), (q9, .inl (cq9, 710, .inl (fun _ => 0))), (q159, .inl (cq159, 2, .inl (fun _ => 0))), (q169, .inl (cq169, 2, .inl (fun _ => 0)))] H := hP
  have hD : va_D A [(h0, .inr (12, fs170)), (q1, .inl (cq1, 3000, .inl (fun _ => 0))), (q3, .inl (cq3, 710, .inl (fun _ => 0))), (q5, .inl (cq5, 710, .inl (fun _ => 0))), (q7, .inl (cq7, 710, .inl (fun _ => 0))), (q9, .inl (cq9, 710, .inl (fun _ => 0))), (q159, .inl (cq159, 2, .inl (fun _ => 0))), (q169, .inl (cq169, 2, .inl (fun _ => 0)))] := hD
  have hP : va_P D vwCl [(h0, .inr (12, fs170)), (q1, .inl (cq1, 3000, .inl (fun _ => 0))), (q3, .inl (cq3, 710, .inl (fun _ => 0))), (q5, .inl (cq5, 710, .inl (fun _ => 0))), (q7, .inl (cq7, 710, .inl (fun _ => 0))), (q9, .inl (cq9, 710, .inl (fun _ => 0))), (q159, .inl (cq159, 2, .inl (fun _ => 0)))] H := hP.sub [0, 1, 2, 3, 4, 5, 6] rfl
  have hD : va_D A [(h0, .inr (12, fs170)), (q1, .inl (cq1, 3000, .inl (fun _ => 0))), (q3, .inl (cq3, 710, .inl (fun _ => 0))), (q5, .inl (cq5, 710, .inl (fun _ => 0))), (q7, .inl (cq7, 710, .inl (fun _ => 0))), (q9, .inl (cq9, 710, .inl (fun _ => 0))), (q159, .inl (cq159, 2, .inl (fun _ => 0)))] := hD.sub [0, 1, 2, 3, 4, 5, 6] (by decide) rfl
  have hK : va_K D vwCl [(cq1, .byte), (cq3, .int), (cq5, .int), (cq7, .int), (cq9, .int), (cq159, .boolean)] s := hK.sub [0, 1, 2, 3, 4, 5] rfl
  refine lv_aload_n hx hb dX12_init_711 rfl (lv_at hl 0 rfl) ?_
  refine lv_iconst (v := 2) hx hb dX12_init_712 (by decide +kernel) ?_
  refine va_newa (atype := .int) (ty := .int) (N' := 2) (a0 := (2, .inl (fun _ => 0))) hx hb (hts (.arrayClass .int) (by decide +kernel)) rfl hK hP hD hS hA (na_int 2) (by decide +kernel) (by decide +kernel) (by decide +kernel) (Nat.le_of_ble_eq_true rfl) (Nat.le_of_ble_eq_true rfl) dX12_init_713 (fun q171 cq171 H hK hP hD hS => ?_)
  have hP : va_P D vwCl [(h0, .inr (12, fs170)), (q1, .inl (cq1, 3000, .inl (fun _ => 0))), (q3, .inl (cq3, 710, .inl (fun _ => 0))), (q5, .inl (cq5, 710, .inl (fun _ => 0))), (q7, .inl (cq7, 710, .inl (fun _ => 0))), (q9, .inl (cq9, 710, .inl (fun _ => 0))), (q159, .inl (cq159, 2, .inl (fun _ => 0))), (q171, .inl (cq171, 2, .inl (fun _ => 0)))] H := hP
  have hD : va_D A [(h0, .inr (12, fs170)), (q1, .inl (cq1, 3000, .inl (fun _ => 0))), (q3, .inl (cq3, 710, .inl (fun _ => 0))), (q5, .inl (cq5, 710, .inl (fun _ => 0))), (q7, .inl (cq7, 710, .inl (fun _ => 0))), (q9, .inl (cq9, 710, .inl (fun _ => 0))), (q159, .inl (cq159, 2, .inl (fun _ => 0))), (q171, .inl (cq171, 2, .inl (fun _ => 0)))] := hD
  have hK : va_K D vwCl [(cq1, .byte), (cq3, .int), (cq5, .int), (cq7, .int), (cq9, .int), (cq159, .boolean), (cq171, .int)] s := hK
  refine W.widen (k := 85) (n := 58332) (Nat.le_of_ble_eq_true rfl) (Nat.le_of_ble_eq_true rfl) ?_
  refine va_put (D := D) (ci := 12) (v := .ref q171) (ty := .array .int) (C := RX12) (T := TX12) (N := 139) hx hb hts i_v_c_Model_init_X12 tyX12 tyX12_ok nmX12 hown hK hP hD hS 0 rfl rfl 124 (by decide) (hts (.fieldLink RX12 272 "ScheduleHouseModel" "sums" "[I") (by decide +kernel)) (fun _ h9 => h9) rfl (by decide +kernel) rfl rfl (kp_lt kfs170 hlen (by decide)) dX12_init_715 (fun H locs hP hD hS => ?_)
  obtain ⟨fs172, hfs172⟩ : ∃ z, z = fs170.set 124 (.ref q171) := ⟨_, rfl⟩
  have kfs172 := kp_s 124 (.ref q171) kfs170
  have gfs172_118 : fs172[118]? = some (.ref q159) := by rw [hfs172]; exact se_ne gfs170_118 (by decide)
  have gfs172_12 : fs172[12]? = some (.int (-1)) := by rw [hfs172]; exact se_ne gfs170_12 (by decide)
  have gfs172_11 : fs172[11]? = some (.int (-1)) := by rw [hfs172]; exact se_ne gfs170_11 (by decide)
  have gfs172_7 : fs172[7]? = some (.ref q9) := by rw [hfs172]; exact se_ne gfs170_7 (by decide)
  have gfs172_6 : fs172[6]? = some (.ref q7) := by rw [hfs172]; exact se_ne gfs170_6 (by decide)
  have gfs172_5 : fs172[5]? = some (.ref q5) := by rw [hfs172]; exact se_ne gfs170_5 (by decide)
  have gfs172_4 : fs172[4]? = some (.ref q3) := by rw [hfs172]; exact se_ne gfs170_4 (by decide)
  have gfs172_1 : fs172[1]? = some (.ref q1) := by rw [hfs172]; exact se_ne gfs170_1 (by decide)
  rw [← hfs172] at hP hD kfs172
  have hP : va_P D vwCl [(h0, .inr (12, fs172)), (q1, .inl (cq1, 3000, .inl (fun _ => 0))), (q3, .inl (cq3, 710, .inl (fun _ => 0))), (q5, .inl (cq5, 710, .inl (fun _ => 0))), (q7, .inl (cq7, 710, .inl (fun _ => 0))), (q9, .inl (cq9, 710, .inl (fun _ => 0))), (q159, .inl (cq159, 2, .inl (fun _ => 0))), (q171, .inl (cq171, 2, .inl (fun _ => 0)))] H := hP
  have hD : va_D A [(h0, .inr (12, fs172)), (q1, .inl (cq1, 3000, .inl (fun _ => 0))), (q3, .inl (cq3, 710, .inl (fun _ => 0))), (q5, .inl (cq5, 710, .inl (fun _ => 0))), (q7, .inl (cq7, 710, .inl (fun _ => 0))), (q9, .inl (cq9, 710, .inl (fun _ => 0))), (q159, .inl (cq159, 2, .inl (fun _ => 0))), (q171, .inl (cq171, 2, .inl (fun _ => 0)))] := hD
  have hP : va_P D vwCl [(h0, .inr (12, fs172)), (q1, .inl (cq1, 3000, .inl (fun _ => 0))), (q3, .inl (cq3, 710, .inl (fun _ => 0))), (q5, .inl (cq5, 710, .inl (fun _ => 0))), (q7, .inl (cq7, 710, .inl (fun _ => 0))), (q9, .inl (cq9, 710, .inl (fun _ => 0))), (q159, .inl (cq159, 2, .inl (fun _ => 0)))] H := hP.sub [0, 1, 2, 3, 4, 5, 6] rfl
  have hD : va_D A [(h0, .inr (12, fs172)), (q1, .inl (cq1, 3000, .inl (fun _ => 0))), (q3, .inl (cq3, 710, .inl (fun _ => 0))), (q5, .inl (cq5, 710, .inl (fun _ => 0))), (q7, .inl (cq7, 710, .inl (fun _ => 0))), (q9, .inl (cq9, 710, .inl (fun _ => 0))), (q159, .inl (cq159, 2, .inl (fun _ => 0)))] := hD.sub [0, 1, 2, 3, 4, 5, 6] (by decide) rfl
  have hK : va_K D vwCl [(cq1, .byte), (cq3, .int), (cq5, .int), (cq7, .int), (cq9, .int), (cq159, .boolean)] s := hK.sub [0, 1, 2, 3, 4, 5] rfl
  refine lv_aload_n hx hb dX12_init_718 rfl (lv_at hl 0 rfl) ?_
  refine lv_bipush (v := 22) hx hb dX12_init_719 (by decide +kernel) ?_
  refine va_newa (atype := .int) (ty := .int) (N' := 22) (a0 := (22, .inl (fun _ => 0))) hx hb (hts (.arrayClass .int) (by decide +kernel)) rfl hK hP hD hS hA (na_int 22) (by decide +kernel) (by decide +kernel) (by decide +kernel) (Nat.le_of_ble_eq_true rfl) (Nat.le_of_ble_eq_true rfl) dX12_init_721 (fun q173 cq173 H hK hP hD hS => ?_)
  have hP : va_P D vwCl [(h0, .inr (12, fs172)), (q1, .inl (cq1, 3000, .inl (fun _ => 0))), (q3, .inl (cq3, 710, .inl (fun _ => 0))), (q5, .inl (cq5, 710, .inl (fun _ => 0))), (q7, .inl (cq7, 710, .inl (fun _ => 0))), (q9, .inl (cq9, 710, .inl (fun _ => 0))), (q159, .inl (cq159, 2, .inl (fun _ => 0))), (q173, .inl (cq173, 22, .inl (fun _ => 0)))] H := hP
  have hD : va_D A [(h0, .inr (12, fs172)), (q1, .inl (cq1, 3000, .inl (fun _ => 0))), (q3, .inl (cq3, 710, .inl (fun _ => 0))), (q5, .inl (cq5, 710, .inl (fun _ => 0))), (q7, .inl (cq7, 710, .inl (fun _ => 0))), (q9, .inl (cq9, 710, .inl (fun _ => 0))), (q159, .inl (cq159, 2, .inl (fun _ => 0))), (q173, .inl (cq173, 22, .inl (fun _ => 0)))] := hD
  have hK : va_K D vwCl [(cq1, .byte), (cq3, .int), (cq5, .int), (cq7, .int), (cq9, .int), (cq159, .boolean), (cq173, .int)] s := hK
  refine W.widen (k := 86) (n := 58354) (Nat.le_of_ble_eq_true rfl) (Nat.le_of_ble_eq_true rfl) ?_
  refine va_put (D := D) (ci := 12) (v := .ref q173) (ty := .array .int) (C := RX12) (T := TX12) (N := 139) hx hb hts i_v_c_Model_init_X12 tyX12 tyX12_ok nmX12 hown hK hP hD hS 0 rfl rfl 125 (by decide) (hts (.fieldLink RX12 275 "ScheduleHouseModel" "findings" "[I") (by decide +kernel)) (fun _ h9 => h9) rfl (by decide +kernel) rfl rfl (kp_lt kfs172 hlen (by decide)) dX12_init_723 (fun H locs hP hD hS => ?_)
  obtain ⟨fs174, hfs174⟩ : ∃ z, z = fs172.set 125 (.ref q173) := ⟨_, rfl⟩
  have kfs174 := kp_s 125 (.ref q173) kfs172
  have gfs174_118 : fs174[118]? = some (.ref q159) := by rw [hfs174]; exact se_ne gfs172_118 (by decide)
  have gfs174_12 : fs174[12]? = some (.int (-1)) := by rw [hfs174]; exact se_ne gfs172_12 (by decide)
  have gfs174_11 : fs174[11]? = some (.int (-1)) := by rw [hfs174]; exact se_ne gfs172_11 (by decide)
  have gfs174_7 : fs174[7]? = some (.ref q9) := by rw [hfs174]; exact se_ne gfs172_7 (by decide)
  have gfs174_6 : fs174[6]? = some (.ref q7) := by rw [hfs174]; exact se_ne gfs172_6 (by decide)
  have gfs174_5 : fs174[5]? = some (.ref q5) := by rw [hfs174]; exact se_ne gfs172_5 (by decide)
  have gfs174_4 : fs174[4]? = some (.ref q3) := by rw [hfs174]; exact se_ne gfs172_4 (by decide)
  have gfs174_1 : fs174[1]? = some (.ref q1) := by rw [hfs174]; exact se_ne gfs172_1 (by decide)
  rw [← hfs174] at hP hD kfs174
  have hP : va_P D vwCl [(h0, .inr (12, fs174)), (q1, .inl (cq1, 3000, .inl (fun _ => 0))), (q3, .inl (cq3, 710, .inl (fun _ => 0))), (q5, .inl (cq5, 710, .inl (fun _ => 0))), (q7, .inl (cq7, 710, .inl (fun _ => 0))), (q9, .inl (cq9, 710, .inl (fun _ => 0))), (q159, .inl (cq159, 2, .inl (fun _ => 0))), (q173, .inl (cq173, 22, .inl (fun _ => 0)))] H := hP
  have hD : va_D A [(h0, .inr (12, fs174)), (q1, .inl (cq1, 3000, .inl (fun _ => 0))), (q3, .inl (cq3, 710, .inl (fun _ => 0))), (q5, .inl (cq5, 710, .inl (fun _ => 0))), (q7, .inl (cq7, 710, .inl (fun _ => 0))), (q9, .inl (cq9, 710, .inl (fun _ => 0))), (q159, .inl (cq159, 2, .inl (fun _ => 0))), (q173, .inl (cq173, 22, .inl (fun _ => 0)))] := hD
  have hP : va_P D vwCl [(h0, .inr (12, fs174)), (q1, .inl (cq1, 3000, .inl (fun _ => 0))), (q3, .inl (cq3, 710, .inl (fun _ => 0))), (q5, .inl (cq5, 710, .inl (fun _ => 0))), (q7, .inl (cq7, 710, .inl (fun _ => 0))), (q9, .inl (cq9, 710, .inl (fun _ => 0))), (q159, .inl (cq159, 2, .inl (fun _ => 0)))] H := hP.sub [0, 1, 2, 3, 4, 5, 6] rfl
  have hD : va_D A [(h0, .inr (12, fs174)), (q1, .inl (cq1, 3000, .inl (fun _ => 0))), (q3, .inl (cq3, 710, .inl (fun _ => 0))), (q5, .inl (cq5, 710, .inl (fun _ => 0))), (q7, .inl (cq7, 710, .inl (fun _ => 0))), (q9, .inl (cq9, 710, .inl (fun _ => 0))), (q159, .inl (cq159, 2, .inl (fun _ => 0)))] := hD.sub [0, 1, 2, 3, 4, 5, 6] (by decide) rfl
  have hK : va_K D vwCl [(cq1, .byte), (cq3, .int), (cq5, .int), (cq7, .int), (cq9, .int), (cq159, .boolean)] s := hK.sub [0, 1, 2, 3, 4, 5] rfl
  refine lv_aload_n hx hb dX12_init_726 rfl (lv_at hl 0 rfl) ?_
  refine lv_bipush (v := 48) hx hb dX12_init_727 (by decide +kernel) ?_
  refine va_newa (atype := .int) (ty := .int) (N' := 48) (a0 := (48, .inl (fun _ => 0))) hx hb (hts (.arrayClass .int) (by decide +kernel)) rfl hK hP hD hS hA (na_int 48) (by decide +kernel) (by decide +kernel) (by decide +kernel) (Nat.le_of_ble_eq_true rfl) (Nat.le_of_ble_eq_true rfl) dX12_init_729 (fun q175 cq175 H hK hP hD hS => ?_)
  have hP : va_P D vwCl [(h0, .inr (12, fs174)), (q1, .inl (cq1, 3000, .inl (fun _ => 0))), (q3, .inl (cq3, 710, .inl (fun _ => 0))), (q5, .inl (cq5, 710, .inl (fun _ => 0))), (q7, .inl (cq7, 710, .inl (fun _ => 0))), (q9, .inl (cq9, 710, .inl (fun _ => 0))), (q159, .inl (cq159, 2, .inl (fun _ => 0))), (q175, .inl (cq175, 48, .inl (fun _ => 0)))] H := hP
  have hD : va_D A [(h0, .inr (12, fs174)), (q1, .inl (cq1, 3000, .inl (fun _ => 0))), (q3, .inl (cq3, 710, .inl (fun _ => 0))), (q5, .inl (cq5, 710, .inl (fun _ => 0))), (q7, .inl (cq7, 710, .inl (fun _ => 0))), (q9, .inl (cq9, 710, .inl (fun _ => 0))), (q159, .inl (cq159, 2, .inl (fun _ => 0))), (q175, .inl (cq175, 48, .inl (fun _ => 0)))] := hD
  have hK : va_K D vwCl [(cq1, .byte), (cq3, .int), (cq5, .int), (cq7, .int), (cq9, .int), (cq159, .boolean), (cq175, .int)] s := hK
  refine W.widen (k := 87) (n := 58402) (Nat.le_of_ble_eq_true rfl) (Nat.le_of_ble_eq_true rfl) ?_
  refine va_put (D := D) (ci := 12) (v := .ref q175) (ty := .array .int) (C := RX12) (T := TX12) (N := 139) hx hb hts i_v_c_Model_init_X12 tyX12 tyX12_ok nmX12 hown hK hP hD hS 0 rfl rfl 126 (by decide) (hts (.fieldLink RX12 278 "ScheduleHouseModel" "commons" "[I") (by decide +kernel)) (fun _ h9 => h9) rfl (by decide +kernel) rfl rfl (kp_lt kfs174 hlen (by decide)) dX12_init_731 (fun H locs hP hD hS => ?_)
  obtain ⟨fs176, hfs176⟩ : ∃ z, z = fs174.set 126 (.ref q175) := ⟨_, rfl⟩
  have kfs176 := kp_s 126 (.ref q175) kfs174
  have gfs176_118 : fs176[118]? = some (.ref q159) := by rw [hfs176]; exact se_ne gfs174_118 (by decide)
  have gfs176_12 : fs176[12]? = some (.int (-1)) := by rw [hfs176]; exact se_ne gfs174_12 (by decide)
  have gfs176_11 : fs176[11]? = some (.int (-1)) := by rw [hfs176]; exact se_ne gfs174_11 (by decide)
  have gfs176_7 : fs176[7]? = some (.ref q9) := by rw [hfs176]; exact se_ne gfs174_7 (by decide)
  have gfs176_6 : fs176[6]? = some (.ref q7) := by rw [hfs176]; exact se_ne gfs174_6 (by decide)
  have gfs176_5 : fs176[5]? = some (.ref q5) := by rw [hfs176]; exact se_ne gfs174_5 (by decide)
  have gfs176_4 : fs176[4]? = some (.ref q3) := by rw [hfs176]; exact se_ne gfs174_4 (by decide)
  have gfs176_1 : fs176[1]? = some (.ref q1) := by rw [hfs176]; exact se_ne gfs174_1 (by decide)
  rw [← hfs176] at hP hD kfs176
  have hP : va_P D vwCl [(h0, .inr (12, fs176)), (q1, .inl (cq1, 3000, .inl (fun _ => 0))), (q3, .inl (cq3, 710, .inl (fun _ => 0))), (q5, .inl (cq5, 710, .inl (fun _ => 0))), (q7, .inl (cq7, 710, .inl (fun _ => 0))), (q9, .inl (cq9, 710, .inl (fun _ => 0))), (q159, .inl (cq159, 2, .inl (fun _ => 0))), (q175, .inl (cq175, 48, .inl (fun _ => 0)))] H := hP
  have hD : va_D A [(h0, .inr (12, fs176)), (q1, .inl (cq1, 3000, .inl (fun _ => 0))), (q3, .inl (cq3, 710, .inl (fun _ => 0))), (q5, .inl (cq5, 710, .inl (fun _ => 0))), (q7, .inl (cq7, 710, .inl (fun _ => 0))), (q9, .inl (cq9, 710, .inl (fun _ => 0))), (q159, .inl (cq159, 2, .inl (fun _ => 0))), (q175, .inl (cq175, 48, .inl (fun _ => 0)))] := hD
  have hP : va_P D vwCl [(h0, .inr (12, fs176)), (q1, .inl (cq1, 3000, .inl (fun _ => 0))), (q3, .inl (cq3, 710, .inl (fun _ => 0))), (q5, .inl (cq5, 710, .inl (fun _ => 0))), (q7, .inl (cq7, 710, .inl (fun _ => 0))), (q9, .inl (cq9, 710, .inl (fun _ => 0))), (q159, .inl (cq159, 2, .inl (fun _ => 0)))] H := hP.sub [0, 1, 2, 3, 4, 5, 6] rfl
  have hD : va_D A [(h0, .inr (12, fs176)), (q1, .inl (cq1, 3000, .inl (fun _ => 0))), (q3, .inl (cq3, 710, .inl (fun _ => 0))), (q5, .inl (cq5, 710, .inl (fun _ => 0))), (q7, .inl (cq7, 710, .inl (fun _ => 0))), (q9, .inl (cq9, 710, .inl (fun _ => 0))), (q159, .inl (cq159, 2, .inl (fun _ => 0)))] := hD.sub [0, 1, 2, 3, 4, 5, 6] (by decide) rfl
  have hK : va_K D vwCl [(cq1, .byte), (cq3, .int), (cq5, .int), (cq7, .int), (cq9, .int), (cq159, .boolean)] s := hK.sub [0, 1, 2, 3, 4, 5] rfl
  refine lv_aload_n hx hb dX12_init_734 rfl (lv_at hl 0 rfl) ?_
  refine lv_bipush (v := 72) hx hb dX12_init_735 (by decide +kernel) ?_
  refine va_newa (atype := .boolean) (ty := .boolean) (N' := 72) (a0 := (72, .inl (fun _ => 0))) hx hb (hts (.arrayClass .boolean) (by decide +kernel)) rfl hK hP hD hS hA (na_boolean 72) (by decide +kernel) (by decide +kernel) (by decide +kernel) (Nat.le_of_ble_eq_true rfl) (Nat.le_of_ble_eq_true rfl) dX12_init_737 (fun q177 cq177 H hK hP hD hS => ?_)
  have hP : va_P D vwCl [(h0, .inr (12, fs176)), (q1, .inl (cq1, 3000, .inl (fun _ => 0))), (q3, .inl (cq3, 710, .inl (fun _ => 0))), (q5, .inl (cq5, 710, .inl (fun _ => 0))), (q7, .inl (cq7, 710, .inl (fun _ => 0))), (q9, .inl (cq9, 710, .inl (fun _ => 0))), (q159, .inl (cq159, 2, .inl (fun _ => 0))), (q177, .inl (cq177, 72, .inl (fun _ => 0)))] H := hP
  have hD : va_D A [(h0, .inr (12, fs176)), (q1, .inl (cq1, 3000, .inl (fun _ => 0))), (q3, .inl (cq3, 710, .inl (fun _ => 0))), (q5, .inl (cq5, 710, .inl (fun _ => 0))), (q7, .inl (cq7, 710, .inl (fun _ => 0))), (q9, .inl (cq9, 710, .inl (fun _ => 0))), (q159, .inl (cq159, 2, .inl (fun _ => 0))), (q177, .inl (cq177, 72, .inl (fun _ => 0)))] := hD
  have hK : va_K D vwCl [(cq1, .byte), (cq3, .int), (cq5, .int), (cq7, .int), (cq9, .int), (cq159, .boolean), (cq177, .boolean)] s := hK
  refine W.widen (k := 88) (n := 58474) (Nat.le_of_ble_eq_true rfl) (Nat.le_of_ble_eq_true rfl) ?_
  refine va_put (D := D) (ci := 12) (v := .ref q177) (ty := .array .boolean) (C := RX12) (T := TX12) (N := 139) hx hb hts i_v_c_Model_init_X12 tyX12 tyX12_ok nmX12 hown hK hP hD hS 0 rfl rfl 127 (by decide) (hts (.fieldLink RX12 281 "ScheduleHouseModel" "comes" "[Z") (by decide +kernel)) (fun _ h9 => h9) rfl (by decide +kernel) rfl rfl (kp_lt kfs176 hlen (by decide)) dX12_init_739 (fun H locs hP hD hS => ?_)
  obtain ⟨fs178, hfs178⟩ : ∃ z, z = fs176.set 127 (.ref q177) := ⟨_, rfl⟩
  have kfs178 := kp_s 127 (.ref q177) kfs176
  have gfs178_118 : fs178[118]? = some (.ref q159) := by rw [hfs178]; exact se_ne gfs176_118 (by decide)
  have gfs178_12 : fs178[12]? = some (.int (-1)) := by rw [hfs178]; exact se_ne gfs176_12 (by decide)
  have gfs178_11 : fs178[11]? = some (.int (-1)) := by rw [hfs178]; exact se_ne gfs176_11 (by decide)
  have gfs178_7 : fs178[7]? = some (.ref q9) := by rw [hfs178]; exact se_ne gfs176_7 (by decide)
  have gfs178_6 : fs178[6]? = some (.ref q7) := by rw [hfs178]; exact se_ne gfs176_6 (by decide)
  have gfs178_5 : fs178[5]? = some (.ref q5) := by rw [hfs178]; exact se_ne gfs176_5 (by decide)
  have gfs178_4 : fs178[4]? = some (.ref q3) := by rw [hfs178]; exact se_ne gfs176_4 (by decide)
  have gfs178_1 : fs178[1]? = some (.ref q1) := by rw [hfs178]; exact se_ne gfs176_1 (by decide)
  rw [← hfs178] at hP hD kfs178
  have hP : va_P D vwCl [(h0, .inr (12, fs178)), (q1, .inl (cq1, 3000, .inl (fun _ => 0))), (q3, .inl (cq3, 710, .inl (fun _ => 0))), (q5, .inl (cq5, 710, .inl (fun _ => 0))), (q7, .inl (cq7, 710, .inl (fun _ => 0))), (q9, .inl (cq9, 710, .inl (fun _ => 0))), (q159, .inl (cq159, 2, .inl (fun _ => 0))), (q177, .inl (cq177, 72, .inl (fun _ => 0)))] H := hP
  have hD : va_D A [(h0, .inr (12, fs178)), (q1, .inl (cq1, 3000, .inl (fun _ => 0))), (q3, .inl (cq3, 710, .inl (fun _ => 0))), (q5, .inl (cq5, 710, .inl (fun _ => 0))), (q7, .inl (cq7, 710, .inl (fun _ => 0))), (q9, .inl (cq9, 710, .inl (fun _ => 0))), (q159, .inl (cq159, 2, .inl (fun _ => 0))), (q177, .inl (cq177, 72, .inl (fun _ => 0)))] := hD
  have hP : va_P D vwCl [(h0, .inr (12, fs178)), (q1, .inl (cq1, 3000, .inl (fun _ => 0))), (q3, .inl (cq3, 710, .inl (fun _ => 0))), (q5, .inl (cq5, 710, .inl (fun _ => 0))), (q7, .inl (cq7, 710, .inl (fun _ => 0))), (q9, .inl (cq9, 710, .inl (fun _ => 0))), (q159, .inl (cq159, 2, .inl (fun _ => 0)))] H := hP.sub [0, 1, 2, 3, 4, 5, 6] rfl
  have hD : va_D A [(h0, .inr (12, fs178)), (q1, .inl (cq1, 3000, .inl (fun _ => 0))), (q3, .inl (cq3, 710, .inl (fun _ => 0))), (q5, .inl (cq5, 710, .inl (fun _ => 0))), (q7, .inl (cq7, 710, .inl (fun _ => 0))), (q9, .inl (cq9, 710, .inl (fun _ => 0))), (q159, .inl (cq159, 2, .inl (fun _ => 0)))] := hD.sub [0, 1, 2, 3, 4, 5, 6] (by decide) rfl
  have hK : va_K D vwCl [(cq1, .byte), (cq3, .int), (cq5, .int), (cq7, .int), (cq9, .int), (cq159, .boolean)] s := hK.sub [0, 1, 2, 3, 4, 5] rfl
  refine lv_aload_n hx hb dX12_init_742 rfl (lv_at hl 0 rfl) ?_
  refine lv_ldcw (v := 144000) hx hb hown (hts (.constant RX12 284 (144000)) (by decide +kernel)) dX12_init_743 ?_
  refine va_newa (atype := .int) (ty := .int) (N' := 144000) (a0 := (144000, .inl (fun _ => 0))) hx hb (hts (.arrayClass .int) (by decide +kernel)) rfl hK hP hD hS hA (na_int 144000) (by decide +kernel) (by decide +kernel) (by decide +kernel) (Nat.le_of_ble_eq_true rfl) (Nat.le_of_ble_eq_true rfl) dX12_init_746 (fun q179 cq179 H hK hP hD hS => ?_)
  have hP : va_P D vwCl [(h0, .inr (12, fs178)), (q1, .inl (cq1, 3000, .inl (fun _ => 0))), (q3, .inl (cq3, 710, .inl (fun _ => 0))), (q5, .inl (cq5, 710, .inl (fun _ => 0))), (q7, .inl (cq7, 710, .inl (fun _ => 0))), (q9, .inl (cq9, 710, .inl (fun _ => 0))), (q159, .inl (cq159, 2, .inl (fun _ => 0))), (q179, .inl (cq179, 144000, .inl (fun _ => 0)))] H := hP
  have hD : va_D A [(h0, .inr (12, fs178)), (q1, .inl (cq1, 3000, .inl (fun _ => 0))), (q3, .inl (cq3, 710, .inl (fun _ => 0))), (q5, .inl (cq5, 710, .inl (fun _ => 0))), (q7, .inl (cq7, 710, .inl (fun _ => 0))), (q9, .inl (cq9, 710, .inl (fun _ => 0))), (q159, .inl (cq159, 2, .inl (fun _ => 0))), (q179, .inl (cq179, 144000, .inl (fun _ => 0)))] := hD
  have hK : va_K D vwCl [(cq1, .byte), (cq3, .int), (cq5, .int), (cq7, .int), (cq9, .int), (cq159, .boolean), (cq179, .int)] s := hK
  refine W.widen (k := 89) (n := 202474) (Nat.le_of_ble_eq_true rfl) (Nat.le_of_ble_eq_true rfl) ?_
  refine va_put (D := D) (ci := 12) (v := .ref q179) (ty := .array .int) (C := RX12) (T := TX12) (N := 139) hx hb hts i_v_c_Model_init_X12 tyX12 tyX12_ok nmX12 hown hK hP hD hS 0 rfl rfl 128 (by decide) (hts (.fieldLink RX12 285 "ScheduleHouseModel" "outcome" "[I") (by decide +kernel)) (fun _ h9 => h9) rfl (by decide +kernel) rfl rfl (kp_lt kfs178 hlen (by decide)) dX12_init_748 (fun H locs hP hD hS => ?_)
  obtain ⟨fs180, hfs180⟩ : ∃ z, z = fs178.set 128 (.ref q179) := ⟨_, rfl⟩
  have kfs180 := kp_s 128 (.ref q179) kfs178
  have gfs180_118 : fs180[118]? = some (.ref q159) := by rw [hfs180]; exact se_ne gfs178_118 (by decide)
  have gfs180_12 : fs180[12]? = some (.int (-1)) := by rw [hfs180]; exact se_ne gfs178_12 (by decide)
  have gfs180_11 : fs180[11]? = some (.int (-1)) := by rw [hfs180]; exact se_ne gfs178_11 (by decide)
  have gfs180_7 : fs180[7]? = some (.ref q9) := by rw [hfs180]; exact se_ne gfs178_7 (by decide)
  have gfs180_6 : fs180[6]? = some (.ref q7) := by rw [hfs180]; exact se_ne gfs178_6 (by decide)
  have gfs180_5 : fs180[5]? = some (.ref q5) := by rw [hfs180]; exact se_ne gfs178_5 (by decide)
  have gfs180_4 : fs180[4]? = some (.ref q3) := by rw [hfs180]; exact se_ne gfs178_4 (by decide)
  have gfs180_1 : fs180[1]? = some (.ref q1) := by rw [hfs180]; exact se_ne gfs178_1 (by decide)
  rw [← hfs180] at hP hD kfs180
  have hP : va_P D vwCl [(h0, .inr (12, fs180)), (q1, .inl (cq1, 3000, .inl (fun _ => 0))), (q3, .inl (cq3, 710, .inl (fun _ => 0))), (q5, .inl (cq5, 710, .inl (fun _ => 0))), (q7, .inl (cq7, 710, .inl (fun _ => 0))), (q9, .inl (cq9, 710, .inl (fun _ => 0))), (q159, .inl (cq159, 2, .inl (fun _ => 0))), (q179, .inl (cq179, 144000, .inl (fun _ => 0)))] H := hP
  have hD : va_D A [(h0, .inr (12, fs180)), (q1, .inl (cq1, 3000, .inl (fun _ => 0))), (q3, .inl (cq3, 710, .inl (fun _ => 0))), (q5, .inl (cq5, 710, .inl (fun _ => 0))), (q7, .inl (cq7, 710, .inl (fun _ => 0))), (q9, .inl (cq9, 710, .inl (fun _ => 0))), (q159, .inl (cq159, 2, .inl (fun _ => 0))), (q179, .inl (cq179, 144000, .inl (fun _ => 0)))] := hD
  have hP : va_P D vwCl [(h0, .inr (12, fs180)), (q1, .inl (cq1, 3000, .inl (fun _ => 0))), (q3, .inl (cq3, 710, .inl (fun _ => 0))), (q5, .inl (cq5, 710, .inl (fun _ => 0))), (q7, .inl (cq7, 710, .inl (fun _ => 0))), (q9, .inl (cq9, 710, .inl (fun _ => 0))), (q159, .inl (cq159, 2, .inl (fun _ => 0)))] H := hP.sub [0, 1, 2, 3, 4, 5, 6] rfl
  have hD : va_D A [(h0, .inr (12, fs180)), (q1, .inl (cq1, 3000, .inl (fun _ => 0))), (q3, .inl (cq3, 710, .inl (fun _ => 0))), (q5, .inl (cq5, 710, .inl (fun _ => 0))), (q7, .inl (cq7, 710, .inl (fun _ => 0))), (q9, .inl (cq9, 710, .inl (fun _ => 0))), (q159, .inl (cq159, 2, .inl (fun _ => 0)))] := hD.sub [0, 1, 2, 3, 4, 5, 6] (by decide) rfl
  have hK : va_K D vwCl [(cq1, .byte), (cq3, .int), (cq5, .int), (cq7, .int), (cq9, .int), (cq159, .boolean)] s := hK.sub [0, 1, 2, 3, 4, 5] rfl
  refine lv_aload_n hx hb dX12_init_751 rfl (lv_at hl 0 rfl) ?_
  refine lv_sipush (v := 6000) hx hb dX12_init_752 (by decide +kernel) ?_
  refine va_newa (atype := .int) (ty := .int) (N' := 6000) (a0 := (6000, .inl (fun _ => 0))) hx hb (hts (.arrayClass .int) (by decide +kernel)) rfl hK hP hD hS hA (na_int 6000) (by decide +kernel) (by decide +kernel) (by decide +kernel) (Nat.le_of_ble_eq_true rfl) (Nat.le_of_ble_eq_true rfl) dX12_init_755 (fun q181 cq181 H hK hP hD hS => ?_)
  have hP : va_P D vwCl [(h0, .inr (12, fs180)), (q1, .inl (cq1, 3000, .inl (fun _ => 0))), (q3, .inl (cq3, 710, .inl (fun _ => 0))), (q5, .inl (cq5, 710, .inl (fun _ => 0))), (q7, .inl (cq7, 710, .inl (fun _ => 0))), (q9, .inl (cq9, 710, .inl (fun _ => 0))), (q159, .inl (cq159, 2, .inl (fun _ => 0))), (q181, .inl (cq181, 6000, .inl (fun _ => 0)))] H := hP
  have hD : va_D A [(h0, .inr (12, fs180)), (q1, .inl (cq1, 3000, .inl (fun _ => 0))), (q3, .inl (cq3, 710, .inl (fun _ => 0))), (q5, .inl (cq5, 710, .inl (fun _ => 0))), (q7, .inl (cq7, 710, .inl (fun _ => 0))), (q9, .inl (cq9, 710, .inl (fun _ => 0))), (q159, .inl (cq159, 2, .inl (fun _ => 0))), (q181, .inl (cq181, 6000, .inl (fun _ => 0)))] := hD
  have hK : va_K D vwCl [(cq1, .byte), (cq3, .int), (cq5, .int), (cq7, .int), (cq9, .int), (cq159, .boolean), (cq181, .int)] s := hK
  refine W.widen (k := 90) (n := 208474) (Nat.le_of_ble_eq_true rfl) (Nat.le_of_ble_eq_true rfl) ?_
  refine va_put (D := D) (ci := 12) (v := .ref q181) (ty := .array .int) (C := RX12) (T := TX12) (N := 139) hx hb hts i_v_c_Model_init_X12 tyX12 tyX12_ok nmX12 hown hK hP hD hS 0 rfl rfl 129 (by decide) (hts (.fieldLink RX12 288 "ScheduleHouseModel" "parent" "[I") (by decide +kernel)) (fun _ h9 => h9) rfl (by decide +kernel) rfl rfl (kp_lt kfs180 hlen (by decide)) dX12_init_757 (fun H locs hP hD hS => ?_)
  obtain ⟨fs182, hfs182⟩ : ∃ z, z = fs180.set 129 (.ref q181) := ⟨_, rfl⟩
  have kfs182 := kp_s 129 (.ref q181) kfs180
  have gfs182_118 : fs182[118]? = some (.ref q159) := by rw [hfs182]; exact se_ne gfs180_118 (by decide)
  have gfs182_12 : fs182[12]? = some (.int (-1)) := by rw [hfs182]; exact se_ne gfs180_12 (by decide)
  have gfs182_11 : fs182[11]? = some (.int (-1)) := by rw [hfs182]; exact se_ne gfs180_11 (by decide)
  have gfs182_7 : fs182[7]? = some (.ref q9) := by rw [hfs182]; exact se_ne gfs180_7 (by decide)
  have gfs182_6 : fs182[6]? = some (.ref q7) := by rw [hfs182]; exact se_ne gfs180_6 (by decide)
  have gfs182_5 : fs182[5]? = some (.ref q5) := by rw [hfs182]; exact se_ne gfs180_5 (by decide)
  have gfs182_4 : fs182[4]? = some (.ref q3) := by rw [hfs182]; exact se_ne gfs180_4 (by decide)
  have gfs182_1 : fs182[1]? = some (.ref q1) := by rw [hfs182]; exact se_ne gfs180_1 (by decide)
  rw [← hfs182] at hP hD kfs182
  have hP : va_P D vwCl [(h0, .inr (12, fs182)), (q1, .inl (cq1, 3000, .inl (fun _ => 0))), (q3, .inl (cq3, 710, .inl (fun _ => 0))), (q5, .inl (cq5, 710, .inl (fun _ => 0))), (q7, .inl (cq7, 710, .inl (fun _ => 0))), (q9, .inl (cq9, 710, .inl (fun _ => 0))), (q159, .inl (cq159, 2, .inl (fun _ => 0))), (q181, .inl (cq181, 6000, .inl (fun _ => 0)))] H := hP
  have hD : va_D A [(h0, .inr (12, fs182)), (q1, .inl (cq1, 3000, .inl (fun _ => 0))), (q3, .inl (cq3, 710, .inl (fun _ => 0))), (q5, .inl (cq5, 710, .inl (fun _ => 0))), (q7, .inl (cq7, 710, .inl (fun _ => 0))), (q9, .inl (cq9, 710, .inl (fun _ => 0))), (q159, .inl (cq159, 2, .inl (fun _ => 0))), (q181, .inl (cq181, 6000, .inl (fun _ => 0)))] := hD
  have hP : va_P D vwCl [(h0, .inr (12, fs182)), (q1, .inl (cq1, 3000, .inl (fun _ => 0))), (q3, .inl (cq3, 710, .inl (fun _ => 0))), (q5, .inl (cq5, 710, .inl (fun _ => 0))), (q7, .inl (cq7, 710, .inl (fun _ => 0))), (q9, .inl (cq9, 710, .inl (fun _ => 0))), (q159, .inl (cq159, 2, .inl (fun _ => 0)))] H := hP.sub [0, 1, 2, 3, 4, 5, 6] rfl
  have hD : va_D A [(h0, .inr (12, fs182)), (q1, .inl (cq1, 3000, .inl (fun _ => 0))), (q3, .inl (cq3, 710, .inl (fun _ => 0))), (q5, .inl (cq5, 710, .inl (fun _ => 0))), (q7, .inl (cq7, 710, .inl (fun _ => 0))), (q9, .inl (cq9, 710, .inl (fun _ => 0))), (q159, .inl (cq159, 2, .inl (fun _ => 0)))] := hD.sub [0, 1, 2, 3, 4, 5, 6] (by decide) rfl
  have hK : va_K D vwCl [(cq1, .byte), (cq3, .int), (cq5, .int), (cq7, .int), (cq9, .int), (cq159, .boolean)] s := hK.sub [0, 1, 2, 3, 4, 5] rfl
  refine lv_aload_n hx hb dX12_init_760 rfl (lv_at hl 0 rfl) ?_
  refine lv_sipush (v := 6000) hx hb dX12_init_761 (by decide +kernel) ?_
  refine va_newa (atype := .int) (ty := .int) (N' := 6000) (a0 := (6000, .inl (fun _ => 0))) hx hb (hts (.arrayClass .int) (by decide +kernel)) rfl hK hP hD hS hA (na_int 6000) (by decide +kernel) (by decide +kernel) (by decide +kernel) (Nat.le_of_ble_eq_true rfl) (Nat.le_of_ble_eq_true rfl) dX12_init_764 (fun q183 cq183 H hK hP hD hS => ?_)
  have hP : va_P D vwCl [(h0, .inr (12, fs182)), (q1, .inl (cq1, 3000, .inl (fun _ => 0))), (q3, .inl (cq3, 710, .inl (fun _ => 0))), (q5, .inl (cq5, 710, .inl (fun _ => 0))), (q7, .inl (cq7, 710, .inl (fun _ => 0))), (q9, .inl (cq9, 710, .inl (fun _ => 0))), (q159, .inl (cq159, 2, .inl (fun _ => 0))), (q183, .inl (cq183, 6000, .inl (fun _ => 0)))] H := hP
  have hD : va_D A [(h0, .inr (12, fs182)), (q1, .inl (cq1, 3000, .inl (fun _ => 0))), (q3, .inl (cq3, 710, .inl (fun _ => 0))), (q5, .inl (cq5, 710, .inl (fun _ => 0))), (q7, .inl (cq7, 710, .inl (fun _ => 0))), (q9, .inl (cq9, 710, .inl (fun _ => 0))), (q159, .inl (cq159, 2, .inl (fun _ => 0))), (q183, .inl (cq183, 6000, .inl (fun _ => 0)))] := hD
  have hK : va_K D vwCl [(cq1, .byte), (cq3, .int), (cq5, .int), (cq7, .int), (cq9, .int), (cq159, .boolean), (cq183, .int)] s := hK
  refine W.widen (k := 91) (n := 214474) (Nat.le_of_ble_eq_true rfl) (Nat.le_of_ble_eq_true rfl) ?_
  refine va_put (D := D) (ci := 12) (v := .ref q183) (ty := .array .int) (C := RX12) (T := TX12) (N := 139) hx hb hts i_v_c_Model_init_X12 tyX12 tyX12_ok nmX12 hown hK hP hD hS 0 rfl rfl 130 (by decide) (hts (.fieldLink RX12 291 "ScheduleHouseModel" "byChoice" "[I") (by decide +kernel)) (fun _ h9 => h9) rfl (by decide +kernel) rfl rfl (kp_lt kfs182 hlen (by decide)) dX12_init_766 (fun H locs hP hD hS => ?_)
  obtain ⟨fs184, hfs184⟩ : ∃ z, z = fs182.set 130 (.ref q183) := ⟨_, rfl⟩
  have kfs184 := kp_s 130 (.ref q183) kfs182
  have gfs184_118 : fs184[118]? = some (.ref q159) := by rw [hfs184]; exact se_ne gfs182_118 (by decide)
  have gfs184_12 : fs184[12]? = some (.int (-1)) := by rw [hfs184]; exact se_ne gfs182_12 (by decide)
  have gfs184_11 : fs184[11]? = some (.int (-1)) := by rw [hfs184]; exact se_ne gfs182_11 (by decide)
  have gfs184_7 : fs184[7]? = some (.ref q9) := by rw [hfs184]; exact se_ne gfs182_7 (by decide)
  have gfs184_6 : fs184[6]? = some (.ref q7) := by rw [hfs184]; exact se_ne gfs182_6 (by decide)
  have gfs184_5 : fs184[5]? = some (.ref q5) := by rw [hfs184]; exact se_ne gfs182_5 (by decide)
  have gfs184_4 : fs184[4]? = some (.ref q3) := by rw [hfs184]; exact se_ne gfs182_4 (by decide)
  have gfs184_1 : fs184[1]? = some (.ref q1) := by rw [hfs184]; exact se_ne gfs182_1 (by decide)
  rw [← hfs184] at hP hD kfs184
  have hP : va_P D vwCl [(h0, .inr (12, fs184)), (q1, .inl (cq1, 3000, .inl (fun _ => 0))), (q3, .inl (cq3, 710, .inl (fun _ => 0))), (q5, .inl (cq5, 710, .inl (fun _ => 0))), (q7, .inl (cq7, 710, .inl (fun _ => 0))), (q9, .inl (cq9, 710, .inl (fun _ => 0))), (q159, .inl (cq159, 2, .inl (fun _ => 0))), (q183, .inl (cq183, 6000, .inl (fun _ => 0)))] H := hP
  have hD : va_D A [(h0, .inr (12, fs184)), (q1, .inl (cq1, 3000, .inl (fun _ => 0))), (q3, .inl (cq3, 710, .inl (fun _ => 0))), (q5, .inl (cq5, 710, .inl (fun _ => 0))), (q7, .inl (cq7, 710, .inl (fun _ => 0))), (q9, .inl (cq9, 710, .inl (fun _ => 0))), (q159, .inl (cq159, 2, .inl (fun _ => 0))), (q183, .inl (cq183, 6000, .inl (fun _ => 0)))] := hD
  have hP : va_P D vwCl [(h0, .inr (12, fs184)), (q1, .inl (cq1, 3000, .inl (fun _ => 0))), (q3, .inl (cq3, 710, .inl (fun _ => 0))), (q5, .inl (cq5, 710, .inl (fun _ => 0))), (q7, .inl (cq7, 710, .inl (fun _ => 0))), (q9, .inl (cq9, 710, .inl (fun _ => 0))), (q159, .inl (cq159, 2, .inl (fun _ => 0)))] H := hP.sub [0, 1, 2, 3, 4, 5, 6] rfl
  have hD : va_D A [(h0, .inr (12, fs184)), (q1, .inl (cq1, 3000, .inl (fun _ => 0))), (q3, .inl (cq3, 710, .inl (fun _ => 0))), (q5, .inl (cq5, 710, .inl (fun _ => 0))), (q7, .inl (cq7, 710, .inl (fun _ => 0))), (q9, .inl (cq9, 710, .inl (fun _ => 0))), (q159, .inl (cq159, 2, .inl (fun _ => 0)))] := hD.sub [0, 1, 2, 3, 4, 5, 6] (by decide) rfl
  have hK : va_K D vwCl [(cq1, .byte), (cq3, .int), (cq5, .int), (cq7, .int), (cq9, .int), (cq159, .boolean)] s := hK.sub [0, 1, 2, 3, 4, 5] rfl
  refine lv_aload_n hx hb dX12_init_769 rfl (lv_at hl 0 rfl) ?_
  refine lv_sipush (v := 6000) hx hb dX12_init_770 (by decide +kernel) ?_
  refine va_newa (atype := .int) (ty := .int) (N' := 6000) (a0 := (6000, .inl (fun _ => 0))) hx hb (hts (.arrayClass .int) (by decide +kernel)) rfl hK hP hD hS hA (na_int 6000) (by decide +kernel) (by decide +kernel) (by decide +kernel) (Nat.le_of_ble_eq_true rfl) (Nat.le_of_ble_eq_true rfl) dX12_init_773 (fun q185 cq185 H hK hP hD hS => ?_)
  have hP : va_P D vwCl [(h0, .inr (12, fs184)), (q1, .inl (cq1, 3000, .inl (fun _ => 0))), (q3, .inl (cq3, 710, .inl (fun _ => 0))), (q5, .inl (cq5, 710, .inl (fun _ => 0))), (q7, .inl (cq7, 710, .inl (fun _ => 0))), (q9, .inl (cq9, 710, .inl (fun _ => 0))), (q159, .inl (cq159, 2, .inl (fun _ => 0))), (q185, .inl (cq185, 6000, .inl (fun _ => 0)))] H := hP
  have hD : va_D A [(h0, .inr (12, fs184)), (q1, .inl (cq1, 3000, .inl (fun _ => 0))), (q3, .inl (cq3, 710, .inl (fun _ => 0))), (q5, .inl (cq5, 710, .inl (fun _ => 0))), (q7, .inl (cq7, 710, .inl (fun _ => 0))), (q9, .inl (cq9, 710, .inl (fun _ => 0))), (q159, .inl (cq159, 2, .inl (fun _ => 0))), (q185, .inl (cq185, 6000, .inl (fun _ => 0)))] := hD
  have hK : va_K D vwCl [(cq1, .byte), (cq3, .int), (cq5, .int), (cq7, .int), (cq9, .int), (cq159, .boolean), (cq185, .int)] s := hK
  refine W.widen (k := 92) (n := 220474) (Nat.le_of_ble_eq_true rfl) (Nat.le_of_ble_eq_true rfl) ?_
  refine va_put (D := D) (ci := 12) (v := .ref q185) (ty := .array .int) (C := RX12) (T := TX12) (N := 139) hx hb hts i_v_c_Model_init_X12 tyX12 tyX12_ok nmX12 hown hK hP hD hS 0 rfl rfl 131 (by decide) (hts (.fieldLink RX12 294 "ScheduleHouseModel" "far" "[I") (by decide +kernel)) (fun _ h9 => h9) rfl (by decide +kernel) rfl rfl (kp_lt kfs184 hlen (by decide)) dX12_init_775 (fun H locs hP hD hS => ?_)
  obtain ⟨fs186, hfs186⟩ : ∃ z, z = fs184.set 131 (.ref q185) := ⟨_, rfl⟩
  have kfs186 := kp_s 131 (.ref q185) kfs184
  have gfs186_118 : fs186[118]? = some (.ref q159) := by rw [hfs186]; exact se_ne gfs184_118 (by decide)
  have gfs186_12 : fs186[12]? = some (.int (-1)) := by rw [hfs186]; exact se_ne gfs184_12 (by decide)
  have gfs186_11 : fs186[11]? = some (.int (-1)) := by rw [hfs186]; exact se_ne gfs184_11 (by decide)
  have gfs186_7 : fs186[7]? = some (.ref q9) := by rw [hfs186]; exact se_ne gfs184_7 (by decide)
  have gfs186_6 : fs186[6]? = some (.ref q7) := by rw [hfs186]; exact se_ne gfs184_6 (by decide)
  have gfs186_5 : fs186[5]? = some (.ref q5) := by rw [hfs186]; exact se_ne gfs184_5 (by decide)
  have gfs186_4 : fs186[4]? = some (.ref q3) := by rw [hfs186]; exact se_ne gfs184_4 (by decide)
  have gfs186_1 : fs186[1]? = some (.ref q1) := by rw [hfs186]; exact se_ne gfs184_1 (by decide)
  rw [← hfs186] at hP hD kfs186
  have hP : va_P D vwCl [(h0, .inr (12, fs186)), (q1, .inl (cq1, 3000, .inl (fun _ => 0))), (q3, .inl (cq3, 710, .inl (fun _ => 0))), (q5, .inl (cq5, 710, .inl (fun _ => 0))), (q7, .inl (cq7, 710, .inl (fun _ => 0))), (q9, .inl (cq9, 710, .inl (fun _ => 0))), (q159, .inl (cq159, 2, .inl (fun _ => 0))), (q185, .inl (cq185, 6000, .inl (fun _ => 0)))] H := hP
  have hD : va_D A [(h0, .inr (12, fs186)), (q1, .inl (cq1, 3000, .inl (fun _ => 0))), (q3, .inl (cq3, 710, .inl (fun _ => 0))), (q5, .inl (cq5, 710, .inl (fun _ => 0))), (q7, .inl (cq7, 710, .inl (fun _ => 0))), (q9, .inl (cq9, 710, .inl (fun _ => 0))), (q159, .inl (cq159, 2, .inl (fun _ => 0))), (q185, .inl (cq185, 6000, .inl (fun _ => 0)))] := hD
  have hP : va_P D vwCl [(h0, .inr (12, fs186)), (q1, .inl (cq1, 3000, .inl (fun _ => 0))), (q3, .inl (cq3, 710, .inl (fun _ => 0))), (q5, .inl (cq5, 710, .inl (fun _ => 0))), (q7, .inl (cq7, 710, .inl (fun _ => 0))), (q9, .inl (cq9, 710, .inl (fun _ => 0))), (q159, .inl (cq159, 2, .inl (fun _ => 0)))] H := hP.sub [0, 1, 2, 3, 4, 5, 6] rfl
  have hD : va_D A [(h0, .inr (12, fs186)), (q1, .inl (cq1, 3000, .inl (fun _ => 0))), (q3, .inl (cq3, 710, .inl (fun _ => 0))), (q5, .inl (cq5, 710, .inl (fun _ => 0))), (q7, .inl (cq7, 710, .inl (fun _ => 0))), (q9, .inl (cq9, 710, .inl (fun _ => 0))), (q159, .inl (cq159, 2, .inl (fun _ => 0)))] := hD.sub [0, 1, 2, 3, 4, 5, 6] (by decide) rfl
  have hK : va_K D vwCl [(cq1, .byte), (cq3, .int), (cq5, .int), (cq7, .int), (cq9, .int), (cq159, .boolean)] s := hK.sub [0, 1, 2, 3, 4, 5] rfl
  refine lv_aload_n hx hb dX12_init_778 rfl (lv_at hl 0 rfl) ?_
  refine lv_ldcw (v := 720480) hx hb hown (hts (.constant RX12 297 (720480)) (by decide +kernel)) dX12_init_779 ?_
  refine va_newa (atype := .int) (ty := .int) (N' := 720480) (a0 := (720480, .inl (fun _ => 0))) hx hb (hts (.arrayClass .int) (by decide +kernel)) rfl hK hP hD hS hA (na_int 720480) (by decide +kernel) (by decide +kernel) (by decide +kernel) (Nat.le_of_ble_eq_true rfl) (Nat.le_of_ble_eq_true rfl) dX12_init_782 (fun q187 cq187 H hK hP hD hS => ?_)
  have hP : va_P D vwCl [(h0, .inr (12, fs186)), (q1, .inl (cq1, 3000, .inl (fun _ => 0))), (q3, .inl (cq3, 710, .inl (fun _ => 0))), (q5, .inl (cq5, 710, .inl (fun _ => 0))), (q7, .inl (cq7, 710, .inl (fun _ => 0))), (q9, .inl (cq9, 710, .inl (fun _ => 0))), (q159, .inl (cq159, 2, .inl (fun _ => 0))), (q187, .inl (cq187, 720480, .inl (fun _ => 0)))] H := hP
  have hD : va_D A [(h0, .inr (12, fs186)), (q1, .inl (cq1, 3000, .inl (fun _ => 0))), (q3, .inl (cq3, 710, .inl (fun _ => 0))), (q5, .inl (cq5, 710, .inl (fun _ => 0))), (q7, .inl (cq7, 710, .inl (fun _ => 0))), (q9, .inl (cq9, 710, .inl (fun _ => 0))), (q159, .inl (cq159, 2, .inl (fun _ => 0))), (q187, .inl (cq187, 720480, .inl (fun _ => 0)))] := hD
  have hK : va_K D vwCl [(cq1, .byte), (cq3, .int), (cq5, .int), (cq7, .int), (cq9, .int), (cq159, .boolean), (cq187, .int)] s := hK
  refine W.widen (k := 93) (n := 940954) (Nat.le_of_ble_eq_true rfl) (Nat.le_of_ble_eq_true rfl) ?_
  refine va_put (D := D) (ci := 12) (v := .ref q187) (ty := .array .int) (C := RX12) (T := TX12) (N := 139) hx hb hts i_v_c_Model_init_X12 tyX12 tyX12_ok nmX12 hown hK hP hD hS 0 rfl rfl 132 (by decide) (hts (.fieldLink RX12 298 "ScheduleHouseModel" "rows" "[I") (by decide +kernel)) (fun _ h9 => h9) rfl (by decide +kernel) rfl rfl (kp_lt kfs186 hlen (by decide)) dX12_init_784 (fun H locs hP hD hS => ?_)
  obtain ⟨fs188, hfs188⟩ : ∃ z, z = fs186.set 132 (.ref q187) := ⟨_, rfl⟩
  have kfs188 := kp_s 132 (.ref q187) kfs186
  have gfs188_118 : fs188[118]? = some (.ref q159) := by rw [hfs188]; exact se_ne gfs186_118 (by decide)
  have gfs188_12 : fs188[12]? = some (.int (-1)) := by rw [hfs188]; exact se_ne gfs186_12 (by decide)
  have gfs188_11 : fs188[11]? = some (.int (-1)) := by rw [hfs188]; exact se_ne gfs186_11 (by decide)
  have gfs188_7 : fs188[7]? = some (.ref q9) := by rw [hfs188]; exact se_ne gfs186_7 (by decide)
  have gfs188_6 : fs188[6]? = some (.ref q7) := by rw [hfs188]; exact se_ne gfs186_6 (by decide)
  have gfs188_5 : fs188[5]? = some (.ref q5) := by rw [hfs188]; exact se_ne gfs186_5 (by decide)
  have gfs188_4 : fs188[4]? = some (.ref q3) := by rw [hfs188]; exact se_ne gfs186_4 (by decide)
  have gfs188_1 : fs188[1]? = some (.ref q1) := by rw [hfs188]; exact se_ne gfs186_1 (by decide)
  rw [← hfs188] at hP hD kfs188
  have hP : va_P D vwCl [(h0, .inr (12, fs188)), (q1, .inl (cq1, 3000, .inl (fun _ => 0))), (q3, .inl (cq3, 710, .inl (fun _ => 0))), (q5, .inl (cq5, 710, .inl (fun _ => 0))), (q7, .inl (cq7, 710, .inl (fun _ => 0))), (q9, .inl (cq9, 710, .inl (fun _ => 0))), (q159, .inl (cq159, 2, .inl (fun _ => 0))), (q187, .inl (cq187, 720480, .inl (fun _ => 0)))] H := hP
  have hD : va_D A [(h0, .inr (12, fs188)), (q1, .inl (cq1, 3000, .inl (fun _ => 0))), (q3, .inl (cq3, 710, .inl (fun _ => 0))), (q5, .inl (cq5, 710, .inl (fun _ => 0))), (q7, .inl (cq7, 710, .inl (fun _ => 0))), (q9, .inl (cq9, 710, .inl (fun _ => 0))), (q159, .inl (cq159, 2, .inl (fun _ => 0))), (q187, .inl (cq187, 720480, .inl (fun _ => 0)))] := hD
  have hP : va_P D vwCl [(h0, .inr (12, fs188)), (q1, .inl (cq1, 3000, .inl (fun _ => 0))), (q3, .inl (cq3, 710, .inl (fun _ => 0))), (q5, .inl (cq5, 710, .inl (fun _ => 0))), (q7, .inl (cq7, 710, .inl (fun _ => 0))), (q9, .inl (cq9, 710, .inl (fun _ => 0))), (q159, .inl (cq159, 2, .inl (fun _ => 0)))] H := hP.sub [0, 1, 2, 3, 4, 5, 6] rfl
  have hD : va_D A [(h0, .inr (12, fs188)), (q1, .inl (cq1, 3000, .inl (fun _ => 0))), (q3, .inl (cq3, 710, .inl (fun _ => 0))), (q5, .inl (cq5, 710, .inl (fun _ => 0))), (q7, .inl (cq7, 710, .inl (fun _ => 0))), (q9, .inl (cq9, 710, .inl (fun _ => 0))), (q159, .inl (cq159, 2, .inl (fun _ => 0)))] := hD.sub [0, 1, 2, 3, 4, 5, 6] (by decide) rfl
  have hK : va_K D vwCl [(cq1, .byte), (cq3, .int), (cq5, .int), (cq7, .int), (cq9, .int), (cq159, .boolean)] s := hK.sub [0, 1, 2, 3, 4, 5] rfl
  refine lv_aload_n hx hb dX12_init_787 rfl (lv_at hl 0 rfl) ?_
  refine lv_sipush (v := 3001) hx hb dX12_init_788 (by decide +kernel) ?_
  refine va_newa (atype := .int) (ty := .int) (N' := 3001) (a0 := (3001, .inl (fun _ => 0))) hx hb (hts (.arrayClass .int) (by decide +kernel)) rfl hK hP hD hS hA (na_int 3001) (by decide +kernel) (by decide +kernel) (by decide +kernel) (Nat.le_of_ble_eq_true rfl) (Nat.le_of_ble_eq_true rfl) dX12_init_791 (fun q189 cq189 H hK hP hD hS => ?_)
  have hP : va_P D vwCl [(h0, .inr (12, fs188)), (q1, .inl (cq1, 3000, .inl (fun _ => 0))), (q3, .inl (cq3, 710, .inl (fun _ => 0))), (q5, .inl (cq5, 710, .inl (fun _ => 0))), (q7, .inl (cq7, 710, .inl (fun _ => 0))), (q9, .inl (cq9, 710, .inl (fun _ => 0))), (q159, .inl (cq159, 2, .inl (fun _ => 0))), (q189, .inl (cq189, 3001, .inl (fun _ => 0)))] H := hP
  have hD : va_D A [(h0, .inr (12, fs188)), (q1, .inl (cq1, 3000, .inl (fun _ => 0))), (q3, .inl (cq3, 710, .inl (fun _ => 0))), (q5, .inl (cq5, 710, .inl (fun _ => 0))), (q7, .inl (cq7, 710, .inl (fun _ => 0))), (q9, .inl (cq9, 710, .inl (fun _ => 0))), (q159, .inl (cq159, 2, .inl (fun _ => 0))), (q189, .inl (cq189, 3001, .inl (fun _ => 0)))] := hD
  have hK : va_K D vwCl [(cq1, .byte), (cq3, .int), (cq5, .int), (cq7, .int), (cq9, .int), (cq159, .boolean), (cq189, .int)] s := hK
  refine W.widen (k := 94) (n := 943955) (Nat.le_of_ble_eq_true rfl) (Nat.le_of_ble_eq_true rfl) ?_
  refine va_put (D := D) (ci := 12) (v := .ref q189) (ty := .array .int) (C := RX12) (T := TX12) (N := 139) hx hb hts i_v_c_Model_init_X12 tyX12 tyX12_ok nmX12 hown hK hP hD hS 0 rfl rfl 133 (by decide) (hts (.fieldLink RX12 301 "ScheduleHouseModel" "nextRow" "[I") (by decide +kernel)) (fun _ h9 => h9) rfl (by decide +kernel) rfl rfl (kp_lt kfs188 hlen (by decide)) dX12_init_793 (fun H locs hP hD hS => ?_)
  obtain ⟨fs190, hfs190⟩ : ∃ z, z = fs188.set 133 (.ref q189) := ⟨_, rfl⟩
  have kfs190 := kp_s 133 (.ref q189) kfs188
  have gfs190_118 : fs190[118]? = some (.ref q159) := by rw [hfs190]; exact se_ne gfs188_118 (by decide)
  have gfs190_12 : fs190[12]? = some (.int (-1)) := by rw [hfs190]; exact se_ne gfs188_12 (by decide)
  have gfs190_11 : fs190[11]? = some (.int (-1)) := by rw [hfs190]; exact se_ne gfs188_11 (by decide)
  have gfs190_7 : fs190[7]? = some (.ref q9) := by rw [hfs190]; exact se_ne gfs188_7 (by decide)
  have gfs190_6 : fs190[6]? = some (.ref q7) := by rw [hfs190]; exact se_ne gfs188_6 (by decide)
  have gfs190_5 : fs190[5]? = some (.ref q5) := by rw [hfs190]; exact se_ne gfs188_5 (by decide)
  have gfs190_4 : fs190[4]? = some (.ref q3) := by rw [hfs190]; exact se_ne gfs188_4 (by decide)
  have gfs190_1 : fs190[1]? = some (.ref q1) := by rw [hfs190]; exact se_ne gfs188_1 (by decide)
  rw [← hfs190] at hP hD kfs190
  have hP : va_P D vwCl [(h0, .inr (12, fs190)), (q1, .inl (cq1, 3000, .inl (fun _ => 0))), (q3, .inl (cq3, 710, .inl (fun _ => 0))), (q5, .inl (cq5, 710, .inl (fun _ => 0))), (q7, .inl (cq7, 710, .inl (fun _ => 0))), (q9, .inl (cq9, 710, .inl (fun _ => 0))), (q159, .inl (cq159, 2, .inl (fun _ => 0))), (q189, .inl (cq189, 3001, .inl (fun _ => 0)))] H := hP
  have hD : va_D A [(h0, .inr (12, fs190)), (q1, .inl (cq1, 3000, .inl (fun _ => 0))), (q3, .inl (cq3, 710, .inl (fun _ => 0))), (q5, .inl (cq5, 710, .inl (fun _ => 0))), (q7, .inl (cq7, 710, .inl (fun _ => 0))), (q9, .inl (cq9, 710, .inl (fun _ => 0))), (q159, .inl (cq159, 2, .inl (fun _ => 0))), (q189, .inl (cq189, 3001, .inl (fun _ => 0)))] := hD
  have hP : va_P D vwCl [(h0, .inr (12, fs190)), (q1, .inl (cq1, 3000, .inl (fun _ => 0))), (q3, .inl (cq3, 710, .inl (fun _ => 0))), (q5, .inl (cq5, 710, .inl (fun _ => 0))), (q7, .inl (cq7, 710, .inl (fun _ => 0))), (q9, .inl (cq9, 710, .inl (fun _ => 0))), (q159, .inl (cq159, 2, .inl (fun _ => 0)))] H := hP.sub [0, 1, 2, 3, 4, 5, 6] rfl
  have hD : va_D A [(h0, .inr (12, fs190)), (q1, .inl (cq1, 3000, .inl (fun _ => 0))), (q3, .inl (cq3, 710, .inl (fun _ => 0))), (q5, .inl (cq5, 710, .inl (fun _ => 0))), (q7, .inl (cq7, 710, .inl (fun _ => 0))), (q9, .inl (cq9, 710, .inl (fun _ => 0))), (q159, .inl (cq159, 2, .inl (fun _ => 0)))] := hD.sub [0, 1, 2, 3, 4, 5, 6] (by decide) rfl
  have hK : va_K D vwCl [(cq1, .byte), (cq3, .int), (cq5, .int), (cq7, .int), (cq9, .int), (cq159, .boolean)] s := hK.sub [0, 1, 2, 3, 4, 5] rfl
  refine lv_aload_n hx hb dX12_init_796 rfl (lv_at hl 0 rfl) ?_
  refine lv_sipush (v := 4096) hx hb dX12_init_797 (by decide +kernel) ?_
  refine va_newa (atype := .int) (ty := .int) (N' := 4096) (a0 := (4096, .inl (fun _ => 0))) hx hb (hts (.arrayClass .int) (by decide +kernel)) rfl hK hP hD hS hA (na_int 4096) (by decide +kernel) (by decide +kernel) (by decide +kernel) (Nat.le_of_ble_eq_true rfl) (Nat.le_of_ble_eq_true rfl) dX12_init_800 (fun q191 cq191 H hK hP hD hS => ?_)
  have hP : va_P D vwCl [(h0, .inr (12, fs190)), (q1, .inl (cq1, 3000, .inl (fun _ => 0))), (q3, .inl (cq3, 710, .inl (fun _ => 0))), (q5, .inl (cq5, 710, .inl (fun _ => 0))), (q7, .inl (cq7, 710, .inl (fun _ => 0))), (q9, .inl (cq9, 710, .inl (fun _ => 0))), (q159, .inl (cq159, 2, .inl (fun _ => 0))), (q191, .inl (cq191, 4096, .inl (fun _ => 0)))] H := hP
  have hD : va_D A [(h0, .inr (12, fs190)), (q1, .inl (cq1, 3000, .inl (fun _ => 0))), (q3, .inl (cq3, 710, .inl (fun _ => 0))), (q5, .inl (cq5, 710, .inl (fun _ => 0))), (q7, .inl (cq7, 710, .inl (fun _ => 0))), (q9, .inl (cq9, 710, .inl (fun _ => 0))), (q159, .inl (cq159, 2, .inl (fun _ => 0))), (q191, .inl (cq191, 4096, .inl (fun _ => 0)))] := hD
  have hK : va_K D vwCl [(cq1, .byte), (cq3, .int), (cq5, .int), (cq7, .int), (cq9, .int), (cq159, .boolean), (cq191, .int)] s := hK
  refine W.widen (k := 95) (n := 948051) (Nat.le_of_ble_eq_true rfl) (Nat.le_of_ble_eq_true rfl) ?_
  refine va_put (D := D) (ci := 12) (v := .ref q191) (ty := .array .int) (C := RX12) (T := TX12) (N := 139) hx hb hts i_v_c_Model_init_X12 tyX12 tyX12_ok nmX12 hown hK hP hD hS 0 rfl rfl 134 (by decide) (hts (.fieldLink RX12 304 "ScheduleHouseModel" "heads" "[I") (by decide +kernel)) (fun _ h9 => h9) rfl (by decide +kernel) rfl rfl (kp_lt kfs190 hlen (by decide)) dX12_init_802 (fun H locs hP hD hS => ?_)
  obtain ⟨fs192, hfs192⟩ : ∃ z, z = fs190.set 134 (.ref q191) := ⟨_, rfl⟩
  have kfs192 := kp_s 134 (.ref q191) kfs190
  have gfs192_118 : fs192[118]? = some (.ref q159) := by rw [hfs192]; exact se_ne gfs190_118 (by decide)
  have gfs192_12 : fs192[12]? = some (.int (-1)) := by rw [hfs192]; exact se_ne gfs190_12 (by decide)
  have gfs192_11 : fs192[11]? = some (.int (-1)) := by rw [hfs192]; exact se_ne gfs190_11 (by decide)
  have gfs192_7 : fs192[7]? = some (.ref q9) := by rw [hfs192]; exact se_ne gfs190_7 (by decide)
  have gfs192_6 : fs192[6]? = some (.ref q7) := by rw [hfs192]; exact se_ne gfs190_6 (by decide)
  have gfs192_5 : fs192[5]? = some (.ref q5) := by rw [hfs192]; exact se_ne gfs190_5 (by decide)
  have gfs192_4 : fs192[4]? = some (.ref q3) := by rw [hfs192]; exact se_ne gfs190_4 (by decide)
  have gfs192_1 : fs192[1]? = some (.ref q1) := by rw [hfs192]; exact se_ne gfs190_1 (by decide)
  rw [← hfs192] at hP hD kfs192
  have hP : va_P D vwCl [(h0, .inr (12, fs192)), (q1, .inl (cq1, 3000, .inl (fun _ => 0))), (q3, .inl (cq3, 710, .inl (fun _ => 0))), (q5, .inl (cq5, 710, .inl (fun _ => 0))), (q7, .inl (cq7, 710, .inl (fun _ => 0))), (q9, .inl (cq9, 710, .inl (fun _ => 0))), (q159, .inl (cq159, 2, .inl (fun _ => 0))), (q191, .inl (cq191, 4096, .inl (fun _ => 0)))] H := hP
  have hD : va_D A [(h0, .inr (12, fs192)), (q1, .inl (cq1, 3000, .inl (fun _ => 0))), (q3, .inl (cq3, 710, .inl (fun _ => 0))), (q5, .inl (cq5, 710, .inl (fun _ => 0))), (q7, .inl (cq7, 710, .inl (fun _ => 0))), (q9, .inl (cq9, 710, .inl (fun _ => 0))), (q159, .inl (cq159, 2, .inl (fun _ => 0))), (q191, .inl (cq191, 4096, .inl (fun _ => 0)))] := hD
  have hP : va_P D vwCl [(h0, .inr (12, fs192)), (q1, .inl (cq1, 3000, .inl (fun _ => 0))), (q3, .inl (cq3, 710, .inl (fun _ => 0))), (q5, .inl (cq5, 710, .inl (fun _ => 0))), (q7, .inl (cq7, 710, .inl (fun _ => 0))), (q9, .inl (cq9, 710, .inl (fun _ => 0))), (q159, .inl (cq159, 2, .inl (fun _ => 0)))] H := hP.sub [0, 1, 2, 3, 4, 5, 6] rfl
  have hD : va_D A [(h0, .inr (12, fs192)), (q1, .inl (cq1, 3000, .inl (fun _ => 0))), (q3, .inl (cq3, 710, .inl (fun _ => 0))), (q5, .inl (cq5, 710, .inl (fun _ => 0))), (q7, .inl (cq7, 710, .inl (fun _ => 0))), (q9, .inl (cq9, 710, .inl (fun _ => 0))), (q159, .inl (cq159, 2, .inl (fun _ => 0)))] := hD.sub [0, 1, 2, 3, 4, 5, 6] (by decide) rfl
  have hK : va_K D vwCl [(cq1, .byte), (cq3, .int), (cq5, .int), (cq7, .int), (cq9, .int), (cq159, .boolean)] s := hK.sub [0, 1, 2, 3, 4, 5] rfl
  refine lv_aload_n hx hb dX12_init_805 rfl (lv_at hl 0 rfl) ?_
  refine lv_sipush (v := 240) hx hb dX12_init_806 (by decide +kernel) ?_
  refine va_newa (atype := .int) (ty := .int) (N' := 240) (a0 := (240, .inl (fun _ => 0))) hx hb (hts (.arrayClass .int) (by decide +kernel)) rfl hK hP hD hS hA (na_int 240) (by decide +kernel) (by decide +kernel) (by decide +kernel) (Nat.le_of_ble_eq_true rfl) (Nat.le_of_ble_eq_true rfl) dX12_init_809 (fun q193 cq193 H hK hP hD hS => ?_)
  have hP : va_P D vwCl [(h0, .inr (12, fs192)), (q1, .inl (cq1, 3000, .inl (fun _ => 0))), (q3, .inl (cq3, 710, .inl (fun _ => 0))), (q5, .inl (cq5, 710, .inl (fun _ => 0))), (q7, .inl (cq7, 710, .inl (fun _ => 0))), (q9, .inl (cq9, 710, .inl (fun _ => 0))), (q159, .inl (cq159, 2, .inl (fun _ => 0))), (q193, .inl (cq193, 240, .inl (fun _ => 0)))] H := hP
  have hD : va_D A [(h0, .inr (12, fs192)), (q1, .inl (cq1, 3000, .inl (fun _ => 0))), (q3, .inl (cq3, 710, .inl (fun _ => 0))), (q5, .inl (cq5, 710, .inl (fun _ => 0))), (q7, .inl (cq7, 710, .inl (fun _ => 0))), (q9, .inl (cq9, 710, .inl (fun _ => 0))), (q159, .inl (cq159, 2, .inl (fun _ => 0))), (q193, .inl (cq193, 240, .inl (fun _ => 0)))] := hD
  have hK : va_K D vwCl [(cq1, .byte), (cq3, .int), (cq5, .int), (cq7, .int), (cq9, .int), (cq159, .boolean), (cq193, .int)] s := hK
  refine W.widen (k := 96) (n := 948291) (Nat.le_of_ble_eq_true rfl) (Nat.le_of_ble_eq_true rfl) ?_
  refine va_put (D := D) (ci := 12) (v := .ref q193) (ty := .array .int) (C := RX12) (T := TX12) (N := 139) hx hb hts i_v_c_Model_init_X12 tyX12 tyX12_ok nmX12 hown hK hP hD hS 0 rfl rfl 135 (by decide) (hts (.fieldLink RX12 307 "ScheduleHouseModel" "kept" "[I") (by decide +kernel)) (fun _ h9 => h9) rfl (by decide +kernel) rfl rfl (kp_lt kfs192 hlen (by decide)) dX12_init_811 (fun H locs hP hD hS => ?_)
  obtain ⟨fs194, hfs194⟩ : ∃ z, z = fs192.set 135 (.ref q193) := ⟨_, rfl⟩
  have kfs194 := kp_s 135 (.ref q193) kfs192
  have gfs194_118 : fs194[118]? = some (.ref q159) := by rw [hfs194]; exact se_ne gfs192_118 (by decide)
  have gfs194_12 : fs194[12]? = some (.int (-1)) := by rw [hfs194]; exact se_ne gfs192_12 (by decide)
  have gfs194_11 : fs194[11]? = some (.int (-1)) := by rw [hfs194]; exact se_ne gfs192_11 (by decide)
  have gfs194_7 : fs194[7]? = some (.ref q9) := by rw [hfs194]; exact se_ne gfs192_7 (by decide)
  have gfs194_6 : fs194[6]? = some (.ref q7) := by rw [hfs194]; exact se_ne gfs192_6 (by decide)
  have gfs194_5 : fs194[5]? = some (.ref q5) := by rw [hfs194]; exact se_ne gfs192_5 (by decide)
  have gfs194_4 : fs194[4]? = some (.ref q3) := by rw [hfs194]; exact se_ne gfs192_4 (by decide)
  have gfs194_1 : fs194[1]? = some (.ref q1) := by rw [hfs194]; exact se_ne gfs192_1 (by decide)
  rw [← hfs194] at hP hD kfs194
  have hP : va_P D vwCl [(h0, .inr (12, fs194)), (q1, .inl (cq1, 3000, .inl (fun _ => 0))), (q3, .inl (cq3, 710, .inl (fun _ => 0))), (q5, .inl (cq5, 710, .inl (fun _ => 0))), (q7, .inl (cq7, 710, .inl (fun _ => 0))), (q9, .inl (cq9, 710, .inl (fun _ => 0))), (q159, .inl (cq159, 2, .inl (fun _ => 0))), (q193, .inl (cq193, 240, .inl (fun _ => 0)))] H := hP
  have hD : va_D A [(h0, .inr (12, fs194)), (q1, .inl (cq1, 3000, .inl (fun _ => 0))), (q3, .inl (cq3, 710, .inl (fun _ => 0))), (q5, .inl (cq5, 710, .inl (fun _ => 0))), (q7, .inl (cq7, 710, .inl (fun _ => 0))), (q9, .inl (cq9, 710, .inl (fun _ => 0))), (q159, .inl (cq159, 2, .inl (fun _ => 0))), (q193, .inl (cq193, 240, .inl (fun _ => 0)))] := hD
  have hP : va_P D vwCl [(h0, .inr (12, fs194)), (q1, .inl (cq1, 3000, .inl (fun _ => 0))), (q3, .inl (cq3, 710, .inl (fun _ => 0))), (q5, .inl (cq5, 710, .inl (fun _ => 0))), (q7, .inl (cq7, 710, .inl (fun _ => 0))), (q9, .inl (cq9, 710, .inl (fun _ => 0))), (q159, .inl (cq159, 2, .inl (fun _ => 0)))] H := hP.sub [0, 1, 2, 3, 4, 5, 6] rfl
  have hD : va_D A [(h0, .inr (12, fs194)), (q1, .inl (cq1, 3000, .inl (fun _ => 0))), (q3, .inl (cq3, 710, .inl (fun _ => 0))), (q5, .inl (cq5, 710, .inl (fun _ => 0))), (q7, .inl (cq7, 710, .inl (fun _ => 0))), (q9, .inl (cq9, 710, .inl (fun _ => 0))), (q159, .inl (cq159, 2, .inl (fun _ => 0)))] := hD.sub [0, 1, 2, 3, 4, 5, 6] (by decide) rfl
  have hK : va_K D vwCl [(cq1, .byte), (cq3, .int), (cq5, .int), (cq7, .int), (cq9, .int), (cq159, .boolean)] s := hK.sub [0, 1, 2, 3, 4, 5] rfl
  refine lv_aload_n hx hb dX12_init_814 rfl (lv_at hl 0 rfl) ?_
  refine lv_sipush (v := 400) hx hb dX12_init_815 (by decide +kernel) ?_
  refine va_newa (atype := .int) (ty := .int) (N' := 400) (a0 := (400, .inl (fun _ => 0))) hx hb (hts (.arrayClass .int) (by decide +kernel)) rfl hK hP hD hS hA (na_int 400) (by decide +kernel) (by decide +kernel) (by decide +kernel) (Nat.le_of_ble_eq_true rfl) (Nat.le_of_ble_eq_true rfl) dX12_init_818 (fun q195 cq195 H hK hP hD hS => ?_)
  have hP : va_P D vwCl [(h0, .inr (12, fs194)), (q1, .inl (cq1, 3000, .inl (fun _ => 0))), (q3, .inl (cq3, 710, .inl (fun _ => 0))), (q5, .inl (cq5, 710, .inl (fun _ => 0))), (q7, .inl (cq7, 710, .inl (fun _ => 0))), (q9, .inl (cq9, 710, .inl (fun _ => 0))), (q159, .inl (cq159, 2, .inl (fun _ => 0))), (q195, .inl (cq195, 400, .inl (fun _ => 0)))] H := hP
  have hD : va_D A [(h0, .inr (12, fs194)), (q1, .inl (cq1, 3000, .inl (fun _ => 0))), (q3, .inl (cq3, 710, .inl (fun _ => 0))), (q5, .inl (cq5, 710, .inl (fun _ => 0))), (q7, .inl (cq7, 710, .inl (fun _ => 0))), (q9, .inl (cq9, 710, .inl (fun _ => 0))), (q159, .inl (cq159, 2, .inl (fun _ => 0))), (q195, .inl (cq195, 400, .inl (fun _ => 0)))] := hD
  have hK : va_K D vwCl [(cq1, .byte), (cq3, .int), (cq5, .int), (cq7, .int), (cq9, .int), (cq159, .boolean), (cq195, .int)] s := hK
  refine W.widen (k := 97) (n := 948691) (Nat.le_of_ble_eq_true rfl) (Nat.le_of_ble_eq_true rfl) ?_
  refine va_put (D := D) (ci := 12) (v := .ref q195) (ty := .array .int) (C := RX12) (T := TX12) (N := 139) hx hb hts i_v_c_Model_init_X12 tyX12 tyX12_ok nmX12 hown hK hP hD hS 0 rfl rfl 137 (by decide) (hts (.fieldLink RX12 310 "ScheduleHouseModel" "path" "[I") (by decide +kernel)) (fun _ h9 => h9) rfl (by decide +kernel) rfl rfl (kp_lt kfs194 hlen (by decide)) dX12_init_820 (fun H locs hP hD hS => ?_)
  obtain ⟨fs196, hfs196⟩ : ∃ z, z = fs194.set 137 (.ref q195) := ⟨_, rfl⟩
  have kfs196 := kp_s 137 (.ref q195) kfs194
  have gfs196_118 : fs196[118]? = some (.ref q159) := by rw [hfs196]; exact se_ne gfs194_118 (by decide)
  have gfs196_12 : fs196[12]? = some (.int (-1)) := by rw [hfs196]; exact se_ne gfs194_12 (by decide)
  have gfs196_11 : fs196[11]? = some (.int (-1)) := by rw [hfs196]; exact se_ne gfs194_11 (by decide)
  have gfs196_7 : fs196[7]? = some (.ref q9) := by rw [hfs196]; exact se_ne gfs194_7 (by decide)
  have gfs196_6 : fs196[6]? = some (.ref q7) := by rw [hfs196]; exact se_ne gfs194_6 (by decide)
  have gfs196_5 : fs196[5]? = some (.ref q5) := by rw [hfs196]; exact se_ne gfs194_5 (by decide)
  have gfs196_4 : fs196[4]? = some (.ref q3) := by rw [hfs196]; exact se_ne gfs194_4 (by decide)
  have gfs196_1 : fs196[1]? = some (.ref q1) := by rw [hfs196]; exact se_ne gfs194_1 (by decide)
  rw [← hfs196] at hP hD kfs196
  have hP : va_P D vwCl [(h0, .inr (12, fs196)), (q1, .inl (cq1, 3000, .inl (fun _ => 0))), (q3, .inl (cq3, 710, .inl (fun _ => 0))), (q5, .inl (cq5, 710, .inl (fun _ => 0))), (q7, .inl (cq7, 710, .inl (fun _ => 0))), (q9, .inl (cq9, 710, .inl (fun _ => 0))), (q159, .inl (cq159, 2, .inl (fun _ => 0))), (q195, .inl (cq195, 400, .inl (fun _ => 0)))] H := hP
  have hD : va_D A [(h0, .inr (12, fs196)), (q1, .inl (cq1, 3000, .inl (fun _ => 0))), (q3, .inl (cq3, 710, .inl (fun _ => 0))), (q5, .inl (cq5, 710, .inl (fun _ => 0))), (q7, .inl (cq7, 710, .inl (fun _ => 0))), (q9, .inl (cq9, 710, .inl (fun _ => 0))), (q159, .inl (cq159, 2, .inl (fun _ => 0))), (q195, .inl (cq195, 400, .inl (fun _ => 0)))] := hD
  have hP : va_P D vwCl [(h0, .inr (12, fs196)), (q1, .inl (cq1, 3000, .inl (fun _ => 0))), (q3, .inl (cq3, 710, .inl (fun _ => 0))), (q5, .inl (cq5, 710, .inl (fun _ => 0))), (q7, .inl (cq7, 710, .inl (fun _ => 0))), (q9, .inl (cq9, 710, .inl (fun _ => 0))), (q159, .inl (cq159, 2, .inl (fun _ => 0)))] H := hP.sub [0, 1, 2, 3, 4, 5, 6] rfl
  have hD : va_D A [(h0, .inr (12, fs196)), (q1, .inl (cq1, 3000, .inl (fun _ => 0))), (q3, .inl (cq3, 710, .inl (fun _ => 0))), (q5, .inl (cq5, 710, .inl (fun _ => 0))), (q7, .inl (cq7, 710, .inl (fun _ => 0))), (q9, .inl (cq9, 710, .inl (fun _ => 0))), (q159, .inl (cq159, 2, .inl (fun _ => 0)))] := hD.sub [0, 1, 2, 3, 4, 5, 6] (by decide) rfl
  have hK : va_K D vwCl [(cq1, .byte), (cq3, .int), (cq5, .int), (cq7, .int), (cq9, .int), (cq159, .boolean)] s := hK.sub [0, 1, 2, 3, 4, 5] rfl
  refine lv_aload_n hx hb dX12_init_823 rfl (lv_at hl 0 rfl) ?_
  refine lv_bipush (v := 6) hx hb dX12_init_824 (by decide +kernel) ?_
  refine va_newa (atype := .int) (ty := .int) (N' := 6) (a0 := (6, .inl (fun _ => 0))) hx hb (hts (.arrayClass .int) (by decide +kernel)) rfl hK hP hD hS hA (na_int 6) (by decide +kernel) (by decide +kernel) (by decide +kernel) (Nat.le_of_ble_eq_true rfl) (Nat.le_of_ble_eq_true rfl) dX12_init_826 (fun q197 cq197 H hK hP hD hS => ?_)
  have hP : va_P D vwCl [(h0, .inr (12, fs196)), (q1, .inl (cq1, 3000, .inl (fun _ => 0))), (q3, .inl (cq3, 710, .inl (fun _ => 0))), (q5, .inl (cq5, 710, .inl (fun _ => 0))), (q7, .inl (cq7, 710, .inl (fun _ => 0))), (q9, .inl (cq9, 710, .inl (fun _ => 0))), (q159, .inl (cq159, 2, .inl (fun _ => 0))), (q197, .inl (cq197, 6, .inl (fun _ => 0)))] H := hP
  have hD : va_D A [(h0, .inr (12, fs196)), (q1, .inl (cq1, 3000, .inl (fun _ => 0))), (q3, .inl (cq3, 710, .inl (fun _ => 0))), (q5, .inl (cq5, 710, .inl (fun _ => 0))), (q7, .inl (cq7, 710, .inl (fun _ => 0))), (q9, .inl (cq9, 710, .inl (fun _ => 0))), (q159, .inl (cq159, 2, .inl (fun _ => 0))), (q197, .inl (cq197, 6, .inl (fun _ => 0)))] := hD
  have hK : va_K D vwCl [(cq1, .byte), (cq3, .int), (cq5, .int), (cq7, .int), (cq9, .int), (cq159, .boolean), (cq197, .int)] s := hK
  refine W.widen (k := 98) (n := 948697) (Nat.le_of_ble_eq_true rfl) (Nat.le_of_ble_eq_true rfl) ?_
  refine va_put (D := D) (ci := 12) (v := .ref q197) (ty := .array .int) (C := RX12) (T := TX12) (N := 139) hx hb hts i_v_c_Model_init_X12 tyX12 tyX12_ok nmX12 hown hK hP hD hS 0 rfl rfl 138 (by decide) (hts (.fieldLink RX12 313 "ScheduleHouseModel" "ringFar" "[I") (by decide +kernel)) (fun _ h9 => h9) rfl (by decide +kernel) rfl rfl (kp_lt kfs196 hlen (by decide)) dX12_init_828 (fun H locs hP hD hS => ?_)
  obtain ⟨fs198, hfs198⟩ : ∃ z, z = fs196.set 138 (.ref q197) := ⟨_, rfl⟩
  have kfs198 := kp_s 138 (.ref q197) kfs196
  have gfs198_118 : fs198[118]? = some (.ref q159) := by rw [hfs198]; exact se_ne gfs196_118 (by decide)
  have gfs198_12 : fs198[12]? = some (.int (-1)) := by rw [hfs198]; exact se_ne gfs196_12 (by decide)
  have gfs198_11 : fs198[11]? = some (.int (-1)) := by rw [hfs198]; exact se_ne gfs196_11 (by decide)
  have gfs198_7 : fs198[7]? = some (.ref q9) := by rw [hfs198]; exact se_ne gfs196_7 (by decide)
  have gfs198_6 : fs198[6]? = some (.ref q7) := by rw [hfs198]; exact se_ne gfs196_6 (by decide)
  have gfs198_5 : fs198[5]? = some (.ref q5) := by rw [hfs198]; exact se_ne gfs196_5 (by decide)
  have gfs198_4 : fs198[4]? = some (.ref q3) := by rw [hfs198]; exact se_ne gfs196_4 (by decide)
  have gfs198_1 : fs198[1]? = some (.ref q1) := by rw [hfs198]; exact se_ne gfs196_1 (by decide)
  rw [← hfs198] at hP hD kfs198
  have hP : va_P D vwCl [(h0, .inr (12, fs198)), (q1, .inl (cq1, 3000, .inl (fun _ => 0))), (q3, .inl (cq3, 710, .inl (fun _ => 0))), (q5, .inl (cq5, 710, .inl (fun _ => 0))), (q7, .inl (cq7, 710, .inl (fun _ => 0))), (q9, .inl (cq9, 710, .inl (fun _ => 0))), (q159, .inl (cq159, 2, .inl (fun _ => 0))), (q197, .inl (cq197, 6, .inl (fun _ => 0)))] H := hP
  have hD : va_D A [(h0, .inr (12, fs198)), (q1, .inl (cq1, 3000, .inl (fun _ => 0))), (q3, .inl (cq3, 710, .inl (fun _ => 0))), (q5, .inl (cq5, 710, .inl (fun _ => 0))), (q7, .inl (cq7, 710, .inl (fun _ => 0))), (q9, .inl (cq9, 710, .inl (fun _ => 0))), (q159, .inl (cq159, 2, .inl (fun _ => 0))), (q197, .inl (cq197, 6, .inl (fun _ => 0)))] := hD
  have hP : va_P D vwCl [(h0, .inr (12, fs198)), (q1, .inl (cq1, 3000, .inl (fun _ => 0))), (q3, .inl (cq3, 710, .inl (fun _ => 0))), (q5, .inl (cq5, 710, .inl (fun _ => 0))), (q7, .inl (cq7, 710, .inl (fun _ => 0))), (q9, .inl (cq9, 710, .inl (fun _ => 0))), (q159, .inl (cq159, 2, .inl (fun _ => 0)))] H := hP.sub [0, 1, 2, 3, 4, 5, 6] rfl
  have hD : va_D A [(h0, .inr (12, fs198)), (q1, .inl (cq1, 3000, .inl (fun _ => 0))), (q3, .inl (cq3, 710, .inl (fun _ => 0))), (q5, .inl (cq5, 710, .inl (fun _ => 0))), (q7, .inl (cq7, 710, .inl (fun _ => 0))), (q9, .inl (cq9, 710, .inl (fun _ => 0))), (q159, .inl (cq159, 2, .inl (fun _ => 0)))] := hD.sub [0, 1, 2, 3, 4, 5, 6] (by decide) rfl
  have hK : va_K D vwCl [(cq1, .byte), (cq3, .int), (cq5, .int), (cq7, .int), (cq9, .int), (cq159, .boolean)] s := hK.sub [0, 1, 2, 3, 4, 5] rfl
  have hP : va_P D vwCl [(h0, .inr (12, fs198)), (q1, .inl (cq1, 3000, .inl (fun _ => 0))), (q3, .inl (cq3, 710, .inl (fun _ => 0))), (q5, .inl (cq5, 710, .inl (fun _ => 0))), (q7, .inl (cq7, 710, .inl (fun _ => 0))), (q9, .inl (cq9, 710, .inl (fun _ => 0))), (q159, .inl (cq159, 2, .inl (fun _ => 0)))] H := hP.sub [0, 1, 2, 3, 4, 5, 6] rfl
  have hD : va_D A [(h0, .inr (12, fs198)), (q1, .inl (cq1, 3000, .inl (fun _ => 0))), (q3, .inl (cq3, 710, .inl (fun _ => 0))), (q5, .inl (cq5, 710, .inl (fun _ => 0))), (q7, .inl (cq7, 710, .inl (fun _ => 0))), (q9, .inl (cq9, 710, .inl (fun _ => 0))), (q159, .inl (cq159, 2, .inl (fun _ => 0)))] := hD.sub [0, 1, 2, 3, 4, 5, 6] (by decide) rfl
  have hK : va_K D vwCl [(cq1, .byte), (cq3, .int), (cq5, .int), (cq7, .int), (cq9, .int), (cq159, .boolean)] s := hK.sub [0, 1, 2, 3, 4, 5] rfl
  have hzz : ∀ j ∈ mz, fs198[j]? = some (.int 0) := by
    intro j hj
    exact kp_at kfs198 (hz j hj) (mz_ok j hj)
  exact W.vret hx hb hr (fun t ht hW => ⟨⟨fs198, rfl, ⟨by rw [kfs198.1]; exact hlen, hzz, gfs198_11, gfs198_12⟩, q1, q3, q5, q7, q9, q159, cq1, cq3, cq5, cq7, cq9, cq159, gfs198_1, gfs198_4, gfs198_5, gfs198_6, gfs198_7, gfs198_118, by rw [ht]; exact hP, va_K.moved hW.alike hK, hD⟩, hS.F ht⟩) hS.2.2 dX12_init_831
