set_option maxRecDepth 100000 in
set_option maxHeartbeats 4000000 in
theorem lc_0 {p : Program} {e : Env} {s : State} {m : MethodId} {args : Array Value} {below : List Frame} {meth : Method} {c : Code} {H : Heap} {locs : List Loc} {Q : State → Prop} {ls : Array Slot} {A : Nat → Prop} {G : kG} {x w : gd} {q : kP} {x0 m0 o0 b L k : Nat} {xs : Nat → Int32} {i : Int32} (C : gC (wE (kE G)) 1000 yLaw p room_1 s m args meth c A) (hX : va_X b L xs s s.heap) (hbl : b < s.heap.size) (hbA : ¬ A b) (hI : LI G A H x q w x0 m0 o0) (hJ : LJ k x q w) (hk : k < 64) (hS : va_S A s.heap H locs) (v1 : vp_in (i + 1) L) (v2 : vp_in (i + 2) L) (v3 : vp_in (i + 3) L) (hl : lv_has ls 7 [(4, .int i), (3, .ref o0), (2, .ref m0), (1, .ref x0), (0, .ref b)]) (kk : ∀ (x1 : gd) (q1 : kP) (w1 : gd) (H1 : Heap) (locs1 : List Loc) (ls1 : Array Slot), LI G A H1 x1 q1 w1 x0 m0 o0 → LJ (k + 1) x1 q1 w1 → va_S A s.heap H1 locs1 → lv_has ls1 7 [(4, .int i), (3, .ref o0), (2, .ref m0), (1, .ref x0), (0, .ref b)] → W p G.1 e room_1 s m args below meth c H1 locs1 (q1.ce + 200) (q1.sl + 960000) Q (F0 m 1187 ls1 [])) : W p G.1 e room_1 s m args below meth c H locs (q.ce + 200) (q.sl + 960000) Q (F0 m 168 ls []) := by
  have hx := C.1.1
  have hb : c.code = cL_law := C.1.2.1
  obtain ⟨hu, hH, hm, el, b1, b2⟩ := id hJ
  obtain ⟨C9, wr, n9, lm, hj⟩ := el
  have el := JH_J hj
  refine lv_aload_n hx hb dlw_168 rfl (lv_at hl 3 rfl) ?_
  refine lv_aload_n hx hb dlw_169 rfl (lv_at hl 4 rfl) ?_
  refine lv_iload hx hb dlw_170 (lv_at hl 0 rfl) ?_
  refine lv_iconst (v := 1) hx hb dlw_172 (by decide +kernel) ?_
  refine lv_iadd hx hb dlw_173 ?_
  refine va_sld hx hb hX hbl hbA hS (i := i + 1) v1 dlw_174 ?_
  refine lv_aload_n hx hb dlw_175 rfl (lv_at hl 4 rfl) ?_
  refine lv_iload hx hb dlw_176 (lv_at hl 0 rfl) ?_
  refine lv_iconst (v := 2) hx hb dlw_178 (by decide +kernel) ?_
  refine lv_iadd hx hb dlw_179 ?_
  refine va_sld hx hb hX hbl hbA hS (i := i + 2) v2 dlw_180 ?_
  refine lv_i2l (v := (xs (i + 2).toNatClampNeg).toInt64) hx hb dlw_181 rfl ?_
  refine lv_bipush (v := 32) hx hb dlw_182 (by decide +kernel) ?_
  refine lv_lshl (v := (xs (i + 2).toNatClampNeg).toInt64 <<< ((32 : Int32).toInt64 &&& 63)) hx hb dlw_184 rfl ?_
  refine lv_aload_n hx hb dlw_185 rfl (lv_at hl 4 rfl) ?_
  refine lv_iload hx hb dlw_186 (lv_at hl 0 rfl) ?_
  refine lv_iconst (v := 3) hx hb dlw_188 (by decide +kernel) ?_
  refine lv_iadd hx hb dlw_189 ?_
  refine va_sld hx hb hX hbl hbA hS (i := i + 3) v3 dlw_190 ?_
  refine lv_i2l (v := (xs (i + 3).toNatClampNeg).toInt64) hx hb dlw_191 rfl ?_
  refine lv_ldc2 (v := 4294967295) hx hb C.1.2.2.2.1 (C.1.2.2.2.2 _ kc_long) dlw_192 ?_
  refine lv_land hx hb dlw_195 ?_
  refine lv_lor hx hb dlw_196 ?_
  refine lv_aload_n hx hb dlw_197 rfl (lv_at hl 1 rfl) ?_
  refine LI_S C hI hu hS hl.1 [vi (xs (i + 1).toNatClampNeg), vl ((((xs (i + 2).toNatClampNeg).toInt64 <<< ((32 : Int32).toInt64 &&& 63)) ||| ((xs (i + 3).toNatClampNeg).toInt64 &&& 4294967295)))] [.int (xs (i + 1).toNatClampNeg), .long ((((xs (i + 2).toNatClampNeg).toInt64 <<< ((32 : Int32).toInt64 &&& 63)) ||| ((xs (i + 3).toNatClampNeg).toInt64 &&& 4294967295)))] (fun _ => rfl) dlw_198 wcs_105 rfl (by intro h; cases h) (Nat.le_of_ble_eq_true rfl) (kw_feed (d := 870) hu hH (xs (i + 1).toNatClampNeg) ((((xs (i + 2).toNatClampNeg).toInt64 <<< ((32 : Int32).toInt64 &&& 63)) ||| ((xs (i + 3).toNatClampNeg).toInt64 &&& 4294967295)))) (LJ_room hJ hk) (fun r1 x1 q1 H1 locs1 hI hu1 hk1 hH1 hp1 hS => ?_)
  refine lv_istore (lv' := (5, .int r1) :: [(4, .int i), (3, .ref o0), (2, .ref m0), (1, .ref x0), (0, .ref b)]) hx hb dlw_201 hl (by decide) rfl (fun ls hl => ?_)
  refine lv_aload_n hx hb dlw_203 rfl (lv_at hl 3 rfl) ?_
  refine lv_aload_n hx hb dlw_204 rfl (lv_at hl 5 rfl) ?_
  refine lv_iload hx hb dlw_205 (lv_at hl 1 rfl) ?_
  refine lv_iconst (v := 1) hx hb dlw_207 (by decide +kernel) ?_
  refine lv_iadd hx hb dlw_208 ?_
  refine va_sld hx hb hX hbl hbA hS (i := i + 1) v1 dlw_209 ?_
  refine lv_aload_n hx hb dlw_210 rfl (lv_at hl 5 rfl) ?_
  refine lv_iload hx hb dlw_211 (lv_at hl 1 rfl) ?_
  refine lv_iconst (v := 2) hx hb dlw_213 (by decide +kernel) ?_
  refine lv_iadd hx hb dlw_214 ?_
  refine va_sld hx hb hX hbl hbA hS (i := i + 2) v2 dlw_215 ?_
  refine lv_i2l (v := (xs (i + 2).toNatClampNeg).toInt64) hx hb dlw_216 rfl ?_
  refine lv_bipush (v := 32) hx hb dlw_217 (by decide +kernel) ?_
  refine lv_lshl (v := (xs (i + 2).toNatClampNeg).toInt64 <<< ((32 : Int32).toInt64 &&& 63)) hx hb dlw_219 rfl ?_
  refine lv_aload_n hx hb dlw_220 rfl (lv_at hl 5 rfl) ?_
  refine lv_iload hx hb dlw_221 (lv_at hl 1 rfl) ?_
  refine lv_iconst (v := 3) hx hb dlw_223 (by decide +kernel) ?_
  refine lv_iadd hx hb dlw_224 ?_
  refine va_sld hx hb hX hbl hbA hS (i := i + 3) v3 dlw_225 ?_
  refine lv_i2l (v := (xs (i + 3).toNatClampNeg).toInt64) hx hb dlw_226 rfl ?_
  refine lv_ldc2 (v := 4294967295) hx hb C.1.2.2.2.1 (C.1.2.2.2.2 _ kc_long) dlw_227 ?_
  refine lv_land hx hb dlw_230 ?_
  refine lv_lor hx hb dlw_231 ?_
  refine LI_M C hI hS hl.1 (restv := []) (d1 := 900) (F := fun _ w1 => MI w1 ∧ (okF w (xs (i + 1).toNatClampNeg) → ((w1.1 0 2 = w.1 0 2 + xs (i + 1).toNatClampNeg ∧ FBm w ((((xs (i + 2).toNatClampNeg).toInt64 <<< ((32 : Int32).toInt64 &&& 63)) ||| ((xs (i + 3).toNatClampNeg).toInt64 &&& 4294967295))) (xs (i + 1).toNatClampNeg).toNatClampNeg w1) ∧ w1.1 0 66 = 0 ∧ z5 w1) ∧ ZM w1) ∧ (¬ okF w (xs (i + 1).toNatClampNeg) → rdM C9 wr w w1)) [vi (xs (i + 1).toNatClampNeg), vl ((((xs (i + 2).toNatClampNeg).toInt64 <<< ((32 : Int32).toInt64 &&& 63)) ||| ((xs (i + 3).toNatClampNeg).toInt64 &&& 4294967295)))] [.int (xs (i + 1).toNatClampNeg), .long ((((xs (i + 2).toNatClampNeg).toInt64 <<< ((32 : Int32).toInt64 &&& 63)) ||| ((xs (i + 3).toNatClampNeg).toInt64 &&& 4294967295)))] (fun _ => rfl) dlw_232 wcm_110 rfl rfl (Nat.le_of_ble_eq_true rfl) (by decide) (by omega) (sp_feed (d := 899) (xs (i + 1).toNatClampNeg) ((((xs (i + 2).toNatClampNeg).toInt64 <<< ((32 : Int32).toInt64 &&& 63)) ||| ((xs (i + 3).toNatClampNeg).toInt64 &&& 4294967295))) hm.1 (fun hn w1 hmd _ => ⟨(MI_0 (mi_of hmd) hm).1, fun e9 => absurd e9 hn, fun _ => rd_0 (mi_of hmd) hm⟩) (fun hy w1 hg _ e9 => ⟨MI_wG hg, fun _ => ⟨⟨e9, hg.2.1, hg.2.2.2.2.2⟩, hg.2.2.1, hg.2.2.2.1, hg.2.2.2.2.1⟩, fun e8 => absurd hy e8⟩)) ⟨(LJ_room hJ hk q1 hu1 hk1).1, (LJ_room hJ hk q1 hu1 hk1).2⟩ (fun r2 w1 H1 locs1 hI hpm hS => ?_)
  refine lv_istore (lv' := (6, .int r2) :: (5, .int r1) :: [(4, .int i), (3, .ref o0), (2, .ref m0), (1, .ref x0), (0, .ref b)]) hx hb dlw_235 hl (by decide) rfl (fun ls hl => ?_)
  refine lv_goto (tgt := 1187) hx hb dlw_237 (by decide) ?_
  refine kk x1 q1 w1 H1 locs1 ls hI (LJ_next hJ hu1 hk1 hH1 hpm.1 ?_) hS (lv_tl (lv_tl hl))
  by_cases ho : okk x (xs (i + 1).toNatClampNeg)
  · have hoF : okF w (xs (i + 1).toNatClampNeg) := by
      unfold okk at ho; unfold okF; rw [← el.1.1]; exact ho
    obtain ⟨⟨a1, a2, a3⟩, a4⟩ := hp1.1 ho
    obtain ⟨⟨⟨c1, c2⟩, c3, c4⟩, c5⟩ := hpm.2.1 hoF
    have hL := hH.1
    unfold kL at hL
    unfold okk at ho
    exact JR3_z (JR_feed el ho hL.1 a1 a2 a3 c1 c2 c3 c4) a4 c5
  · have hoF : ¬ okF w (xs (i + 1).toNatClampNeg) := fun h => ho (by unfold okF at h; unfold okk; rw [el.1.1]; exact h)
    exact JQ_rd hj hH1 (hp1.2 ho) (hpm.2.2 hoF)
set_option maxRecDepth 100000 in
set_option maxHeartbeats 4000000 in
theorem lc_1 {p : Program} {e : Env} {s : State} {m : MethodId} {args : Array Value} {below : List Frame} {meth : Method} {c : Code} {H : Heap} {locs : List Loc} {Q : State → Prop} {ls : Array Slot} {A : Nat → Prop} {G : kG} {x w : gd} {q : kP} {x0 m0 o0 b L k : Nat} {xs : Nat → Int32} {i : Int32} (C : gC (wE (kE G)) 1000 yLaw p room_1 s m args meth c A) (hX : va_X b L xs s s.heap) (hbl : b < s.heap.size) (hbA : ¬ A b) (hI : LI G A H x q w x0 m0 o0) (hJ : LJ k x q w) (hk : k < 64) (hS : va_S A s.heap H locs) (v1 : vp_in (i + 1) L) (v2 : vp_in (i + 2) L) (v3 : vp_in (i + 3) L) (hl : lv_has ls 7 [(4, .int i), (3, .ref o0), (2, .ref m0), (1, .ref x0), (0, .ref b)]) (kk : ∀ (x1 : gd) (q1 : kP) (w1 : gd) (H1 : Heap) (locs1 : List Loc) (ls1 : Array Slot), LI G A H1 x1 q1 w1 x0 m0 o0 → LJ (k + 1) x1 q1 w1 → va_S A s.heap H1 locs1 → lv_has ls1 7 [(4, .int i), (3, .ref o0), (2, .ref m0), (1, .ref x0), (0, .ref b)] → W p G.1 e room_1 s m args below meth c H1 locs1 (q1.ce + 200) (q1.sl + 960000) Q (F0 m 1187 ls1 [])) : W p G.1 e room_1 s m args below meth c H locs (q.ce + 200) (q.sl + 960000) Q (F0 m 240 ls []) := by
  have hx := C.1.1
  have hb : c.code = cL_law := C.1.2.1
  obtain ⟨hu, hH, hm, el, b1, b2⟩ := id hJ
  obtain ⟨C9, wr, n9, lm, hj⟩ := el
  have el := JH_J hj
  refine lv_aload_n hx hb dlw_240 rfl (lv_at hl 3 rfl) ?_
  refine LI_K C hI hu hS hl.1 (restv := []) (P := fun r9 y9 _ => r9 = x.1 20 1 ∧ ((y9.1 20 1 = 0 ∧ y9.1 0 9 = 0) ∧ ZR y9)) dlw_241 wcv_111 rfl (Nat.le_of_ble_eq_true rfl) (by decide) (T_mono (kr_wipe (d := 899) hu.1 hH (P := fun v9 y9 => v9 = some (vi (x.1 20 1)) ∧ HOI y9 q ∧ ((y9.1 20 1 = 0 ∧ y9.1 0 9 = 0) ∧ ZR y9)) (fun y9 h1 h2 => ⟨rfl, h1, h2⟩)) (fun o9 x9 f9 w9 => by obtain ⟨rfl, v, rfl, rfl, h1, h2⟩ := w9; exact ⟨_, q, rfl, rfl, hu, kst_rf q, h1, rfl, h2⟩)) (LJ_room hJ hk) (fun r1 x1 x2 q1 H1 locs1 hI hu1 hk1 hH1 hp1 ex hS => ?_)
  refine lv_pop hx hb dlw_244 rfl ?_
  refine lv_aload_n hx hb dlw_245 rfl (lv_at hl 2 rfl) ?_
  refine LI_M C hI hS hl.1 (restv := []) (d1 := 900) (F := fun r9 w1 => r9 = w.1 0 2 ∧ MI w1 ∧ ((w1.1 0 2 = 0 ∧ w1.1 0 66 = 0 ∧ z5 w1) ∧ ZM w1)) [] [] (fun _ => rfl) dlw_246 wcm_114 rfl rfl (Nat.le_of_ble_eq_true rfl) (by decide) (by omega) (sp_wipe (d := 899) hm.1 (fun w1 hg e9 => ⟨rfl, MI_wG hg, ⟨e9, hg.2.1, hg.2.2.2.2.2⟩, hg.2.2.1, hg.2.2.2.1, hg.2.2.2.2.1⟩)) ⟨(LJ_room hJ hk q1 hu1 hk1).1, (LJ_room hJ hk q1 hu1 hk1).2⟩ (fun r2 w1 H1 locs1 hI hpm hS => ?_)
  refine lv_pop hx hb dlw_249 rfl ?_
  refine lv_goto (tgt := 1187) hx hb dlw_250 (by decide) ?_
  exact kk x1 q1 w1 H1 locs1 ls hI (LJ_next hJ hu1 hk1 hH1 hpm.2.1 (JR3_x ex (JR3_z (JR_wipe hp1.2.1.1 hp1.2.1.2 hpm.2.2.1.1 hpm.2.2.1.2.1 hpm.2.2.1.2.2) hp1.2.2 hpm.2.2.2))) hS hl
set_option maxRecDepth 100000 in
set_option maxHeartbeats 4000000 in
theorem lc_2 {p : Program} {e : Env} {s : State} {m : MethodId} {args : Array Value} {below : List Frame} {meth : Method} {c : Code} {H : Heap} {locs : List Loc} {Q : State → Prop} {ls : Array Slot} {A : Nat → Prop} {G : kG} {x w : gd} {q : kP} {x0 m0 o0 b L k : Nat} {xs : Nat → Int32} {i : Int32} (C : gC (wE (kE G)) 1000 yLaw p room_1 s m args meth c A) (hX : va_X b L xs s s.heap) (hbl : b < s.heap.size) (hbA : ¬ A b) (hI : LI G A H x q w x0 m0 o0) (hJ : LJ k x q w) (hk : k < 64) (hS : va_S A s.heap H locs) (v1 : vp_in (i + 1) L) (v2 : vp_in (i + 2) L) (v3 : vp_in (i + 3) L) (hl : lv_has ls 7 [(4, .int i), (3, .ref o0), (2, .ref m0), (1, .ref x0), (0, .ref b)]) (kk : ∀ (x1 : gd) (q1 : kP) (w1 : gd) (H1 : Heap) (locs1 : List Loc) (ls1 : Array Slot), LI G A H1 x1 q1 w1 x0 m0 o0 → LJ (k + 1) x1 q1 w1 → va_S A s.heap H1 locs1 → lv_has ls1 7 [(4, .int i), (3, .ref o0), (2, .ref m0), (1, .ref x0), (0, .ref b)] → W p G.1 e room_1 s m args below meth c H1 locs1 (q1.ce + 200) (q1.sl + 960000) Q (F0 m 1187 ls1 [])) : W p G.1 e room_1 s m args below meth c H locs (q.ce + 200) (q.sl + 960000) Q (F0 m 253 ls []) := by
  have hx := C.1.1
  have hb : c.code = cL_law := C.1.2.1
  obtain ⟨hu, hH, hm, el, b1, b2⟩ := id hJ
  obtain ⟨C9, wr, n9, lm, hj⟩ := el
  have el := JH_J hj
  refine lv_aload_n hx hb dlw_253 rfl (lv_at hl 3 rfl) ?_
  refine LI_K C hI hu hS hl.1 (restv := []) (P := fun _ y9 _ => y9.1 20 1 = x.1 20 1 ∧ CCf x y9 ∧ ZR y9) dlw_254 wcv_115 rfl (Nat.le_of_ble_eq_true rfl) (by decide) (T_mono (kr_compile (d := 886) hu hH (P := fun v9 y9 q9 => ∃ r, v9 = some (vi r) ∧ kU q9 ∧ kst q q9 ∧ HOI y9 q9 ∧ (y9.1 20 1 = x.1 20 1 ∧ CCf x y9 ∧ ZR y9)) (X := fun _ _ _ => False) (fun r y9 q9 hq9 g1 g2 g3 g4 g5 => ⟨r, rfl, g1, by rcases hq9 with e9 | e9 <;> rw [e9] <;> first | exact kst_rf q | exact kst_th q, g2, g3, g4, g5⟩)) (fun o9 x9 f9 w9 => by
    obtain ⟨q9, ⟨rfl, v, rfl, r, rfl, g1, g2, g3, g4⟩ | ⟨-, c9, -, hf⟩⟩ := w9
    · exact ⟨r, q9, rfl, rfl, g1, g2, g3, g4⟩
    · exact hf.elim)) (LJ_room hJ hk) (fun r1 x1 x2 q1 H1 locs1 hI hu1 hk1 hH1 hp1 ex hS => ?_)
  refine lv_pop hx hb dlw_257 rfl ?_
  refine lv_aload_n hx hb dlw_258 rfl (lv_at hl 2 rfl) ?_
  refine LI_M C hI hS hl.1 (restv := []) (d1 := 900) (F := fun _ w1 => ((MI w1 ∧ w1.1 0 2 = w.1 0 2) ∧ ZM w1) ∧ MCf w w1) [] [] (fun _ => rfl) dlw_259 wcm_118 rfl rfl (Nat.le_of_ble_eq_true rfl) (by decide) (by omega) (sf_compile (by omega) hm.1 (fun _ _ h h2 => ⟨⟨MI_cG h, h.2.2.2.1, h.2.2.2.2.1, h.2.2.2.2.2⟩, h2⟩)) ⟨(LJ_room hJ hk q1 hu1 hk1).1, (LJ_room hJ hk q1 hu1 hk1).2⟩ (fun r2 w1 H1 locs1 hI hpm hS => ?_)
  refine lv_pop hx hb dlw_262 rfl ?_
  refine lv_goto (tgt := 1187) hx hb dlw_263 (by decide) ?_
  exact kk x1 q1 w1 H1 locs1 ls hI (LJ_next hJ hu1 hk1 hH1 hpm.1.1.1 (JR3_x ex (JR3_z (JR_comp el.1 hp1.2.1 hp1.1 hpm.2 hpm.1.1.2 hpm.1.1.1.2.1) hp1.2.2 hpm.1.2))) hS hl
set_option maxRecDepth 100000 in
set_option maxHeartbeats 4000000 in
theorem lc_3 {p : Program} {e : Env} {s : State} {m : MethodId} {args : Array Value} {below : List Frame} {meth : Method} {c : Code} {H : Heap} {locs : List Loc} {Q : State → Prop} {ls : Array Slot} {A : Nat → Prop} {G : kG} {x w : gd} {q : kP} {x0 m0 o0 b L k : Nat} {xs : Nat → Int32} {i : Int32} (C : gC (wE (kE G)) 1000 yLaw p room_1 s m args meth c A) (hX : va_X b L xs s s.heap) (hbl : b < s.heap.size) (hbA : ¬ A b) (hI : LI G A H x q w x0 m0 o0) (hJ : LJ k x q w) (hk : k < 64) (hS : va_S A s.heap H locs) (v1 : vp_in (i + 1) L) (v2 : vp_in (i + 2) L) (v3 : vp_in (i + 3) L) (hl : lv_has ls 7 [(4, .int i), (3, .ref o0), (2, .ref m0), (1, .ref x0), (0, .ref b)]) (kk : ∀ (x1 : gd) (q1 : kP) (w1 : gd) (H1 : Heap) (locs1 : List Loc) (ls1 : Array Slot), LI G A H1 x1 q1 w1 x0 m0 o0 → LJ (k + 1) x1 q1 w1 → va_S A s.heap H1 locs1 → lv_has ls1 7 [(4, .int i), (3, .ref o0), (2, .ref m0), (1, .ref x0), (0, .ref b)] → W p G.1 e room_1 s m args below meth c H1 locs1 (q1.ce + 200) (q1.sl + 960000) Q (F0 m 1187 ls1 [])) : W p G.1 e room_1 s m args below meth c H locs (q.ce + 200) (q.sl + 960000) Q (F0 m 266 ls []) := by
  have hx := C.1.1
  have hb : c.code = cL_law := C.1.2.1
  obtain ⟨hu, hH, hm, el, b1, b2⟩ := id hJ
  obtain ⟨C9, wr, n9, lm, hj⟩ := el
  have el := JH_J hj
  refine lv_aload_n hx hb dlw_266 rfl (lv_at hl 3 rfl) ?_
  refine lv_aload_n hx hb dlw_267 rfl (lv_at hl 4 rfl) ?_
  refine lv_iload hx hb dlw_268 (lv_at hl 0 rfl) ?_
  refine lv_iconst (v := 1) hx hb dlw_270 (by decide +kernel) ?_
  refine lv_iadd hx hb dlw_271 ?_
  refine va_sld hx hb hX hbl hbA hS (i := i + 1) v1 dlw_272 ?_
  refine lv_aload_n hx hb dlw_273 rfl (lv_at hl 1 rfl) ?_
  refine LI_S C hI hu hS hl.1 [vi (xs (i + 1).toNatClampNeg)] [.int (xs (i + 1).toNatClampNeg)] (fun _ => rfl) dlw_274 wcs_119 rfl (by intro h; cases h) (Nat.le_of_ble_eq_true rfl) (kw_fault (d := 870) hu hH (xs (i + 1).toNatClampNeg)) (LJ_room hJ hk) (fun r1 x1 q1 H1 locs1 hI hu1 hk1 hH1 hp1 hS => ?_)
  refine lv_istore (lv' := (5, .int r1) :: [(4, .int i), (3, .ref o0), (2, .ref m0), (1, .ref x0), (0, .ref b)]) hx hb dlw_277 hl (by decide) rfl (fun ls hl => ?_)
  refine lv_aload_n hx hb dlw_279 rfl (lv_at hl 3 rfl) ?_
  refine lv_aload_n hx hb dlw_280 rfl (lv_at hl 5 rfl) ?_
  refine lv_iload hx hb dlw_281 (lv_at hl 1 rfl) ?_
  refine lv_iconst (v := 1) hx hb dlw_283 (by decide +kernel) ?_
  refine lv_iadd hx hb dlw_284 ?_
  refine va_sld hx hb hX hbl hbA hS (i := i + 1) v1 dlw_285 ?_
  refine LI_M C hI hS hl.1 (restv := []) (d1 := 900) (F := fun _ w1 => rdM C9 wr w w1) [vi (xs (i + 1).toNatClampNeg)] [.int (xs (i + 1).toNatClampNeg)] (fun _ => rfl) dlw_286 wcm_122 rfl rfl (Nat.le_of_ble_eq_true rfl) (by decide) (by omega) (sr_fault2 (D := 899) hm (xs (i + 1).toNatClampNeg) (fun _ _ h => h)) ⟨(LJ_room hJ hk q1 hu1 hk1).1, (LJ_room hJ hk q1 hu1 hk1).2⟩ (fun r2 w1 H1 locs1 hI hpm hS => ?_)
  refine lv_istore (lv' := (6, .int r2) :: (5, .int r1) :: [(4, .int i), (3, .ref o0), (2, .ref m0), (1, .ref x0), (0, .ref b)]) hx hb dlw_289 hl (by decide) rfl (fun ls hl => ?_)
  refine lv_goto (tgt := 1187) hx hb dlw_291 (by decide) ?_
  exact kk x1 q1 w1 H1 locs1 ls hI (LJ_next hJ hu1 hk1 hH1 hpm.1.1 (JQ_rd hj hH1 hp1 hpm)) hS (lv_tl (lv_tl hl))
set_option maxRecDepth 100000 in
set_option maxHeartbeats 4000000 in
theorem lc_4 {p : Program} {e : Env} {s : State} {m : MethodId} {args : Array Value} {below : List Frame} {meth : Method} {c : Code} {H : Heap} {locs : List Loc} {Q : State → Prop} {ls : Array Slot} {A : Nat → Prop} {G : kG} {x w : gd} {q : kP} {x0 m0 o0 b L k : Nat} {xs : Nat → Int32} {i : Int32} (C : gC (wE (kE G)) 1000 yLaw p room_1 s m args meth c A) (hX : va_X b L xs s s.heap) (hbl : b < s.heap.size) (hbA : ¬ A b) (hI : LI G A H x q w x0 m0 o0) (hJ : LJ k x q w) (hk : k < 64) (hS : va_S A s.heap H locs) (v1 : vp_in (i + 1) L) (v2 : vp_in (i + 2) L) (v3 : vp_in (i + 3) L) (hl : lv_has ls 7 [(4, .int i), (3, .ref o0), (2, .ref m0), (1, .ref x0), (0, .ref b)]) (kk : ∀ (x1 : gd) (q1 : kP) (w1 : gd) (H1 : Heap) (locs1 : List Loc) (ls1 : Array Slot), LI G A H1 x1 q1 w1 x0 m0 o0 → LJ (k + 1) x1 q1 w1 → va_S A s.heap H1 locs1 → lv_has ls1 7 [(4, .int i), (3, .ref o0), (2, .ref m0), (1, .ref x0), (0, .ref b)] → W p G.1 e room_1 s m args below meth c H1 locs1 (q1.ce + 200) (q1.sl + 960000) Q (F0 m 1187 ls1 [])) : W p G.1 e room_1 s m args below meth c H locs (q.ce + 200) (q.sl + 960000) Q (F0 m 294 ls []) := by
  have hx := C.1.1
  have hb : c.code = cL_law := C.1.2.1
  obtain ⟨hu, hH, hm, el, b1, b2⟩ := id hJ
  obtain ⟨C9, wr, n9, lm, hj⟩ := el
  have el := JH_J hj
  refine lv_aload_n hx hb dlw_294 rfl (lv_at hl 3 rfl) ?_
  refine lv_aload_n hx hb dlw_295 rfl (lv_at hl 4 rfl) ?_
  refine lv_iload hx hb dlw_296 (lv_at hl 0 rfl) ?_
  refine lv_iconst (v := 1) hx hb dlw_298 (by decide +kernel) ?_
  refine lv_iadd hx hb dlw_299 ?_
  refine va_sld hx hb hX hbl hbA hS (i := i + 1) v1 dlw_300 ?_
  refine lv_aload_n hx hb dlw_301 rfl (lv_at hl 1 rfl) ?_
  refine LI_S C hI hu hS hl.1 [vi (xs (i + 1).toNatClampNeg)] [.int (xs (i + 1).toNatClampNeg)] (fun _ => rfl) dlw_302 wcs_123 rfl (by intro h; cases h) (Nat.le_of_ble_eq_true rfl) (kw_count (d := 870) hu hH (xs (i + 1).toNatClampNeg)) (LJ_room hJ hk) (fun r1 x1 q1 H1 locs1 hI hu1 hk1 hH1 hp1 hS => ?_)
  refine lv_istore (lv' := (5, .int r1) :: [(4, .int i), (3, .ref o0), (2, .ref m0), (1, .ref x0), (0, .ref b)]) hx hb dlw_305 hl (by decide) rfl (fun ls hl => ?_)
  refine lv_aload_n hx hb dlw_307 rfl (lv_at hl 3 rfl) ?_
  refine lv_aload_n hx hb dlw_308 rfl (lv_at hl 5 rfl) ?_
  refine lv_iload hx hb dlw_309 (lv_at hl 1 rfl) ?_
  refine lv_iconst (v := 1) hx hb dlw_311 (by decide +kernel) ?_
  refine lv_iadd hx hb dlw_312 ?_
  refine va_sld hx hb hX hbl hbA hS (i := i + 1) v1 dlw_313 ?_
  refine LI_M C hI hS hl.1 (restv := []) (d1 := 900) (F := fun _ w1 => rdM C9 wr w w1) [vi (xs (i + 1).toNatClampNeg)] [.int (xs (i + 1).toNatClampNeg)] (fun _ => rfl) dlw_314 wcm_125 rfl rfl (Nat.le_of_ble_eq_true rfl) (by decide) (by omega) (sr_count (D := 899) hm (xs (i + 1).toNatClampNeg) (fun _ _ h _ => h)) ⟨(LJ_room hJ hk q1 hu1 hk1).1, (LJ_room hJ hk q1 hu1 hk1).2⟩ (fun r2 w1 H1 locs1 hI hpm hS => ?_)
  refine lv_istore (lv' := (6, .int r2) :: (5, .int r1) :: [(4, .int i), (3, .ref o0), (2, .ref m0), (1, .ref x0), (0, .ref b)]) hx hb dlw_317 hl (by decide) rfl (fun ls hl => ?_)
  refine lv_goto (tgt := 1187) hx hb dlw_319 (by decide) ?_
  exact kk x1 q1 w1 H1 locs1 ls hI (LJ_next hJ hu1 hk1 hH1 hpm.1.1 (JQ_rd hj hH1 hp1 hpm)) hS (lv_tl (lv_tl hl))
set_option maxRecDepth 100000 in
set_option maxHeartbeats 4000000 in
theorem lc_5 {p : Program} {e : Env} {s : State} {m : MethodId} {args : Array Value} {below : List Frame} {meth : Method} {c : Code} {H : Heap} {locs : List Loc} {Q : State → Prop} {ls : Array Slot} {A : Nat → Prop} {G : kG} {x w : gd} {q : kP} {x0 m0 o0 b L k : Nat} {xs : Nat → Int32} {i : Int32} (C : gC (wE (kE G)) 1000 yLaw p room_1 s m args meth c A) (hX : va_X b L xs s s.heap) (hbl : b < s.heap.size) (hbA : ¬ A b) (hI : LI G A H x q w x0 m0 o0) (hJ : LJ k x q w) (hk : k < 64) (hS : va_S A s.heap H locs) (v1 : vp_in (i + 1) L) (v2 : vp_in (i + 2) L) (v3 : vp_in (i + 3) L) (hl : lv_has ls 7 [(4, .int i), (3, .ref o0), (2, .ref m0), (1, .ref x0), (0, .ref b)]) (kk : ∀ (x1 : gd) (q1 : kP) (w1 : gd) (H1 : Heap) (locs1 : List Loc) (ls1 : Array Slot), LI G A H1 x1 q1 w1 x0 m0 o0 → LJ (k + 1) x1 q1 w1 → va_S A s.heap H1 locs1 → lv_has ls1 7 [(4, .int i), (3, .ref o0), (2, .ref m0), (1, .ref x0), (0, .ref b)] → W p G.1 e room_1 s m args below meth c H1 locs1 (q1.ce + 200) (q1.sl + 960000) Q (F0 m 1187 ls1 [])) : W p G.1 e room_1 s m args below meth c H locs (q.ce + 200) (q.sl + 960000) Q (F0 m 322 ls []) := by
  have hx := C.1.1
  have hb : c.code = cL_law := C.1.2.1
  obtain ⟨hu, hH, hm, el, b1, b2⟩ := id hJ
  obtain ⟨C9, wr, n9, lm, hj⟩ := el
  have el := JH_J hj
  refine lv_aload_n hx hb dlw_322 rfl (lv_at hl 3 rfl) ?_
  refine lv_aload_n hx hb dlw_323 rfl (lv_at hl 4 rfl) ?_
  refine lv_iload hx hb dlw_324 (lv_at hl 0 rfl) ?_
  refine lv_iconst (v := 1) hx hb dlw_326 (by decide +kernel) ?_
  refine lv_iadd hx hb dlw_327 ?_
  refine va_sld hx hb hX hbl hbA hS (i := i + 1) v1 dlw_328 ?_
  refine lv_aload_n hx hb dlw_329 rfl (lv_at hl 1 rfl) ?_
  refine LI_S C hI hu hS hl.1 [vi (xs (i + 1).toNatClampNeg)] [.int (xs (i + 1).toNatClampNeg)] (fun _ => rfl) dlw_330 wcs_126 rfl (by intro h; cases h) (Nat.le_of_ble_eq_true rfl) (kw_begin (d := 870) hj hu hH (xs (i + 1).toNatClampNeg)) (LJ_room hJ hk) (fun r1 x1 q1 H1 locs1 hI hu1 hk1 hH1 hp1 hS => ?_)
  refine lv_istore (lv' := (5, .int r1) :: [(4, .int i), (3, .ref o0), (2, .ref m0), (1, .ref x0), (0, .ref b)]) hx hb dlw_333 hl (by decide) rfl (fun ls hl => ?_)
  refine lv_aload_n hx hb dlw_335 rfl (lv_at hl 3 rfl) ?_
  refine lv_aload_n hx hb dlw_336 rfl (lv_at hl 5 rfl) ?_
  refine lv_iload hx hb dlw_337 (lv_at hl 1 rfl) ?_
  refine lv_iconst (v := 1) hx hb dlw_339 (by decide +kernel) ?_
  refine lv_iadd hx hb dlw_340 ?_
  refine va_sld hx hb hX hbl hbA hS (i := i + 1) v1 dlw_341 ?_
  refine LI_M C hI hS hl.1 (restv := []) (d1 := 900) (F := fun r9 w1 => ansM C9 wr (f1Bg w) (f2Bg w (xs (i + 1).toNatClampNeg)) (tBg C9 w (xs (i + 1).toNatClampNeg)) w r9 w1) [vi (xs (i + 1).toNatClampNeg)] [.int (xs (i + 1).toNatClampNeg)] (fun _ => rfl) dlw_342 wcm_128 rfl rfl (Nat.le_of_ble_eq_true rfl) (by decide) (by omega) (ma_begin hj hH hm (xs (i + 1).toNatClampNeg) (by omega) (fun _ _ h1 => h1)) ⟨(LJ_room hJ hk q1 hu1 hk1).1, (LJ_room hJ hk q1 hu1 hk1).2⟩ (fun r2 w1 H1 locs1 hI hpm hS => ?_)
  have hj2 := ja_begin hj hH1 hp1 hpm
  refine lv_istore (lv' := (6, .int r2) :: (5, .int r1) :: [(4, .int i), (3, .ref o0), (2, .ref m0), (1, .ref x0), (0, .ref b)]) hx hb dlw_345 hl (by decide) rfl (fun ls hl => ?_)
  refine lv_goto (tgt := 1187) hx hb dlw_347 (by decide) ?_
  exact kk x1 q1 w1 H1 locs1 ls hI (LJ_next hJ hu1 hk1 hH1 hpm.1 hj2.1) hS (lv_tl (lv_tl hl))
set_option maxRecDepth 100000 in
set_option maxHeartbeats 4000000 in
theorem lc_6 {p : Program} {e : Env} {s : State} {m : MethodId} {args : Array Value} {below : List Frame} {meth : Method} {c : Code} {H : Heap} {locs : List Loc} {Q : State → Prop} {ls : Array Slot} {A : Nat → Prop} {G : kG} {x w : gd} {q : kP} {x0 m0 o0 b L k : Nat} {xs : Nat → Int32} {i : Int32} (C : gC (wE (kE G)) 1000 yLaw p room_1 s m args meth c A) (hX : va_X b L xs s s.heap) (hbl : b < s.heap.size) (hbA : ¬ A b) (hI : LI G A H x q w x0 m0 o0) (hJ : LJ k x q w) (hk : k < 64) (hS : va_S A s.heap H locs) (v1 : vp_in (i + 1) L) (v2 : vp_in (i + 2) L) (v3 : vp_in (i + 3) L) (hl : lv_has ls 7 [(4, .int i), (3, .ref o0), (2, .ref m0), (1, .ref x0), (0, .ref b)]) (kk : ∀ (x1 : gd) (q1 : kP) (w1 : gd) (H1 : Heap) (locs1 : List Loc) (ls1 : Array Slot), LI G A H1 x1 q1 w1 x0 m0 o0 → LJ (k + 1) x1 q1 w1 → va_S A s.heap H1 locs1 → lv_has ls1 7 [(4, .int i), (3, .ref o0), (2, .ref m0), (1, .ref x0), (0, .ref b)] → W p G.1 e room_1 s m args below meth c H1 locs1 (q1.ce + 200) (q1.sl + 960000) Q (F0 m 1187 ls1 [])) : W p G.1 e room_1 s m args below meth c H locs (q.ce + 200) (q.sl + 960000) Q (F0 m 350 ls []) := by
  have hx := C.1.1
  have hb : c.code = cL_law := C.1.2.1
  obtain ⟨hu, hH, hm, el, b1, b2⟩ := id hJ
  obtain ⟨C9, wr, n9, lm, hj⟩ := el
  have el := JH_J hj
  refine lv_aload_n hx hb dlw_350 rfl (lv_at hl 3 rfl) ?_
  refine lv_aload_n hx hb dlw_351 rfl (lv_at hl 1 rfl) ?_
  refine LI_S C hI hu hS hl.1 [] [] (fun _ => rfl) dlw_352 wcs_129 rfl (by intro h; cases h) (Nat.le_of_ble_eq_true rfl) (kw_choices (d := 870) hu hH ) (LJ_room hJ hk) (fun r1 x1 q1 H1 locs1 hI hu1 hk1 hH1 hp1 hS => ?_)
  refine lv_istore (lv' := (5, .int r1) :: [(4, .int i), (3, .ref o0), (2, .ref m0), (1, .ref x0), (0, .ref b)]) hx hb dlw_355 hl (by decide) rfl (fun ls hl => ?_)
  refine lv_aload_n hx hb dlw_357 rfl (lv_at hl 3 rfl) ?_
  refine LI_M C hI hS hl.1 (restv := []) (d1 := 900) (F := fun r9 w1 => ansM C9 wr (f1Ch w) (False) (tCh C9 wr w) w r9 w1) [] [] (fun _ => rfl) dlw_358 wcm_132 rfl rfl (Nat.le_of_ble_eq_true rfl) (by decide) (by omega) (ma_choices hm  (by omega) (fun _ _ h1 => h1)) ⟨(LJ_room hJ hk q1 hu1 hk1).1, (LJ_room hJ hk q1 hu1 hk1).2⟩ (fun r2 w1 H1 locs1 hI hpm hS => ?_)
  have hj2 := ja_choices hj hH1 hp1 hpm
  refine lv_istore (lv' := (6, .int r2) :: (5, .int r1) :: [(4, .int i), (3, .ref o0), (2, .ref m0), (1, .ref x0), (0, .ref b)]) hx hb dlw_361 hl (by decide) rfl (fun ls hl => ?_)
  refine lv_goto (tgt := 1187) hx hb dlw_363 (by decide) ?_
  exact kk x1 q1 w1 H1 locs1 ls hI (LJ_next hJ hu1 hk1 hH1 hpm.1 hj2.1) hS (lv_tl (lv_tl hl))
set_option maxRecDepth 100000 in
set_option maxHeartbeats 4000000 in
theorem lc_7 {p : Program} {e : Env} {s : State} {m : MethodId} {args : Array Value} {below : List Frame} {meth : Method} {c : Code} {H : Heap} {locs : List Loc} {Q : State → Prop} {ls : Array Slot} {A : Nat → Prop} {G : kG} {x w : gd} {q : kP} {x0 m0 o0 b L k : Nat} {xs : Nat → Int32} {i : Int32} (C : gC (wE (kE G)) 1000 yLaw p room_1 s m args meth c A) (hX : va_X b L xs s s.heap) (hbl : b < s.heap.size) (hbA : ¬ A b) (hI : LI G A H x q w x0 m0 o0) (hJ : LJ k x q w) (hk : k < 64) (hS : va_S A s.heap H locs) (v1 : vp_in (i + 1) L) (v2 : vp_in (i + 2) L) (v3 : vp_in (i + 3) L) (hl : lv_has ls 7 [(4, .int i), (3, .ref o0), (2, .ref m0), (1, .ref x0), (0, .ref b)]) (kk : ∀ (x1 : gd) (q1 : kP) (w1 : gd) (H1 : Heap) (locs1 : List Loc) (ls1 : Array Slot), LI G A H1 x1 q1 w1 x0 m0 o0 → LJ (k + 1) x1 q1 w1 → va_S A s.heap H1 locs1 → lv_has ls1 7 [(4, .int i), (3, .ref o0), (2, .ref m0), (1, .ref x0), (0, .ref b)] → W p G.1 e room_1 s m args below meth c H1 locs1 (q1.ce + 200) (q1.sl + 960000) Q (F0 m 1187 ls1 [])) : W p G.1 e room_1 s m args below meth c H locs (q.ce + 200) (q.sl + 960000) Q (F0 m 366 ls []) := by
  have hx := C.1.1
  have hb : c.code = cL_law := C.1.2.1
  obtain ⟨hu, hH, hm, el, b1, b2⟩ := id hJ
  obtain ⟨C9, wr, n9, lm, hj⟩ := el
  have el := JH_J hj
  refine lv_aload_n hx hb dlw_366 rfl (lv_at hl 3 rfl) ?_
  refine lv_aload_n hx hb dlw_367 rfl (lv_at hl 4 rfl) ?_
  refine lv_iload hx hb dlw_368 (lv_at hl 0 rfl) ?_
  refine lv_iconst (v := 1) hx hb dlw_370 (by decide +kernel) ?_
  refine lv_iadd hx hb dlw_371 ?_
  refine va_sld hx hb hX hbl hbA hS (i := i + 1) v1 dlw_372 ?_
  refine lv_aload_n hx hb dlw_373 rfl (lv_at hl 4 rfl) ?_
  refine lv_iload hx hb dlw_374 (lv_at hl 0 rfl) ?_
  refine lv_iconst (v := 2) hx hb dlw_376 (by decide +kernel) ?_
  refine lv_iadd hx hb dlw_377 ?_
  refine va_sld hx hb hX hbl hbA hS (i := i + 2) v2 dlw_378 ?_
  refine lv_aload_n hx hb dlw_379 rfl (lv_at hl 1 rfl) ?_
  refine LI_S C hI hu hS hl.1 [vi (xs (i + 1).toNatClampNeg), vi (xs (i + 2).toNatClampNeg)] [.int (xs (i + 1).toNatClampNeg), .int (xs (i + 2).toNatClampNeg)] (fun _ => rfl) dlw_380 wcs_133 rfl (by intro h; cases h) (Nat.le_of_ble_eq_true rfl) (kw_choice (d := 870) hj hu hH (xs (i + 1).toNatClampNeg) (xs (i + 2).toNatClampNeg)) (LJ_room hJ hk) (fun r1 x1 q1 H1 locs1 hI hu1 hk1 hH1 hp1 hS => ?_)
  refine lv_istore (lv' := (5, .int r1) :: [(4, .int i), (3, .ref o0), (2, .ref m0), (1, .ref x0), (0, .ref b)]) hx hb dlw_383 hl (by decide) rfl (fun ls hl => ?_)
  refine lv_aload_n hx hb dlw_385 rfl (lv_at hl 3 rfl) ?_
  refine lv_aload_n hx hb dlw_386 rfl (lv_at hl 5 rfl) ?_
  refine lv_iload hx hb dlw_387 (lv_at hl 1 rfl) ?_
  refine lv_iconst (v := 1) hx hb dlw_389 (by decide +kernel) ?_
  refine lv_iadd hx hb dlw_390 ?_
  refine va_sld hx hb hX hbl hbA hS (i := i + 1) v1 dlw_391 ?_
  refine lv_aload_n hx hb dlw_392 rfl (lv_at hl 5 rfl) ?_
  refine lv_iload hx hb dlw_393 (lv_at hl 1 rfl) ?_
  refine lv_iconst (v := 2) hx hb dlw_395 (by decide +kernel) ?_
  refine lv_iadd hx hb dlw_396 ?_
  refine va_sld hx hb hX hbl hbA hS (i := i + 2) v2 dlw_397 ?_
  refine LI_M C hI hS hl.1 (restv := []) (d1 := 900) (F := fun r9 w1 => ansM C9 wr (f1Ch w) (f2Ci w (xs (i + 1).toNatClampNeg) (xs (i + 2).toNatClampNeg)) (tCi C9 wr n9 w (xs (i + 1).toNatClampNeg) (xs (i + 2).toNatClampNeg)) w r9 w1) [vi (xs (i + 1).toNatClampNeg), vi (xs (i + 2).toNatClampNeg)] [.int (xs (i + 1).toNatClampNeg), .int (xs (i + 2).toNatClampNeg)] (fun _ => rfl) dlw_398 wcm_136 rfl rfl (Nat.le_of_ble_eq_true rfl) (by decide) (by omega) (ma_choice hj hH hm (xs (i + 1).toNatClampNeg) (xs (i + 2).toNatClampNeg) (by omega) (fun _ _ h1 => h1)) ⟨(LJ_room hJ hk q1 hu1 hk1).1, (LJ_room hJ hk q1 hu1 hk1).2⟩ (fun r2 w1 H1 locs1 hI hpm hS => ?_)
  have hj2 := ja_choice hj hH1 hp1 hpm
  refine lv_istore (lv' := (6, .int r2) :: (5, .int r1) :: [(4, .int i), (3, .ref o0), (2, .ref m0), (1, .ref x0), (0, .ref b)]) hx hb dlw_401 hl (by decide) rfl (fun ls hl => ?_)
  refine lv_goto (tgt := 1187) hx hb dlw_403 (by decide) ?_
  exact kk x1 q1 w1 H1 locs1 ls hI (LJ_next hJ hu1 hk1 hH1 hpm.1 hj2.1) hS (lv_tl (lv_tl hl))
set_option maxRecDepth 100000 in
set_option maxHeartbeats 4000000 in
theorem lc_8 {p : Program} {e : Env} {s : State} {m : MethodId} {args : Array Value} {below : List Frame} {meth : Method} {c : Code} {H : Heap} {locs : List Loc} {Q : State → Prop} {ls : Array Slot} {A : Nat → Prop} {G : kG} {x w : gd} {q : kP} {x0 m0 o0 b L k : Nat} {xs : Nat → Int32} {i : Int32} (C : gC (wE (kE G)) 1000 yLaw p room_1 s m args meth c A) (hX : va_X b L xs s s.heap) (hbl : b < s.heap.size) (hbA : ¬ A b) (hI : LI G A H x q w x0 m0 o0) (hJ : LJ k x q w) (hk : k < 64) (hS : va_S A s.heap H locs) (v1 : vp_in (i + 1) L) (v2 : vp_in (i + 2) L) (v3 : vp_in (i + 3) L) (hl : lv_has ls 7 [(4, .int i), (3, .ref o0), (2, .ref m0), (1, .ref x0), (0, .ref b)]) (kk : ∀ (x1 : gd) (q1 : kP) (w1 : gd) (H1 : Heap) (locs1 : List Loc) (ls1 : Array Slot), LI G A H1 x1 q1 w1 x0 m0 o0 → LJ (k + 1) x1 q1 w1 → va_S A s.heap H1 locs1 → lv_has ls1 7 [(4, .int i), (3, .ref o0), (2, .ref m0), (1, .ref x0), (0, .ref b)] → W p G.1 e room_1 s m args below meth c H1 locs1 (q1.ce + 200) (q1.sl + 960000) Q (F0 m 1187 ls1 [])) : W p G.1 e room_1 s m args below meth c H locs (q.ce + 200) (q.sl + 960000) Q (F0 m 406 ls []) := by
  have hx := C.1.1
  have hb : c.code = cL_law := C.1.2.1
  obtain ⟨hu, hH, hm, el, b1, b2⟩ := id hJ
  obtain ⟨C9, wr, n9, lm, hj⟩ := el
  have el := JH_J hj
  refine lv_aload_n hx hb dlw_406 rfl (lv_at hl 3 rfl) ?_
  refine lv_aload_n hx hb dlw_407 rfl (lv_at hl 4 rfl) ?_
  refine lv_iload hx hb dlw_408 (lv_at hl 0 rfl) ?_
  refine lv_iconst (v := 1) hx hb dlw_410 (by decide +kernel) ?_
  refine lv_iadd hx hb dlw_411 ?_
  refine va_sld hx hb hX hbl hbA hS (i := i + 1) v1 dlw_412 ?_
  refine lv_aload_n hx hb dlw_413 rfl (lv_at hl 1 rfl) ?_
  refine LI_S C hI hu hS hl.1 [vi (xs (i + 1).toNatClampNeg)] [.int (xs (i + 1).toNatClampNeg)] (fun _ => rfl) dlw_414 wcs_137 rfl (by intro h; cases h) (Nat.le_of_ble_eq_true rfl) (kw_go (d := 870) hj hu hH (xs (i + 1).toNatClampNeg)) (LJ_room hJ hk) (fun r1 x1 q1 H1 locs1 hI hu1 hk1 hH1 hp1 hS => ?_)
  refine lv_istore (lv' := (5, .int r1) :: [(4, .int i), (3, .ref o0), (2, .ref m0), (1, .ref x0), (0, .ref b)]) hx hb dlw_417 hl (by decide) rfl (fun ls hl => ?_)
  refine lv_aload_n hx hb dlw_419 rfl (lv_at hl 3 rfl) ?_
  refine lv_aload_n hx hb dlw_420 rfl (lv_at hl 5 rfl) ?_
  refine lv_iload hx hb dlw_421 (lv_at hl 1 rfl) ?_
  refine lv_iconst (v := 1) hx hb dlw_423 (by decide +kernel) ?_
  refine lv_iadd hx hb dlw_424 ?_
  refine va_sld hx hb hX hbl hbA hS (i := i + 1) v1 dlw_425 ?_
  refine LI_M C hI hS hl.1 (restv := []) (d1 := 900) (F := fun r9 w1 => ansM C9 wr (f1Go w) (f2Go w (xs (i + 1).toNatClampNeg)) (tGo C9 wr n9 w (xs (i + 1).toNatClampNeg)) w r9 w1) [vi (xs (i + 1).toNatClampNeg)] [.int (xs (i + 1).toNatClampNeg)] (fun _ => rfl) dlw_426 wcm_139 rfl rfl (Nat.le_of_ble_eq_true rfl) (by decide) (by omega) (ma_go hj hH hm (xs (i + 1).toNatClampNeg) (by omega) (fun _ _ h1 => h1)) ⟨(LJ_room hJ hk q1 hu1 hk1).1, (LJ_room hJ hk q1 hu1 hk1).2⟩ (fun r2 w1 H1 locs1 hI hpm hS => ?_)
  have hj2 := ja_go hj hH1 hp1 hpm
  refine lv_istore (lv' := (6, .int r2) :: (5, .int r1) :: [(4, .int i), (3, .ref o0), (2, .ref m0), (1, .ref x0), (0, .ref b)]) hx hb dlw_429 hl (by decide) rfl (fun ls hl => ?_)
  refine lv_goto (tgt := 1187) hx hb dlw_431 (by decide) ?_
  exact kk x1 q1 w1 H1 locs1 ls hI (LJ_next hJ hu1 hk1 hH1 hpm.1 hj2.1) hS (lv_tl (lv_tl hl))
set_option maxRecDepth 100000 in
set_option maxHeartbeats 4000000 in
theorem lc_9 {p : Program} {e : Env} {s : State} {m : MethodId} {args : Array Value} {below : List Frame} {meth : Method} {c : Code} {H : Heap} {locs : List Loc} {Q : State → Prop} {ls : Array Slot} {A : Nat → Prop} {G : kG} {x w : gd} {q : kP} {x0 m0 o0 b L k : Nat} {xs : Nat → Int32} {i : Int32} (C : gC (wE (kE G)) 1000 yLaw p room_1 s m args meth c A) (hX : va_X b L xs s s.heap) (hbl : b < s.heap.size) (hbA : ¬ A b) (hI : LI G A H x q w x0 m0 o0) (hJ : LJ k x q w) (hk : k < 64) (hS : va_S A s.heap H locs) (v1 : vp_in (i + 1) L) (v2 : vp_in (i + 2) L) (v3 : vp_in (i + 3) L) (hl : lv_has ls 7 [(4, .int i), (3, .ref o0), (2, .ref m0), (1, .ref x0), (0, .ref b)]) (kk : ∀ (x1 : gd) (q1 : kP) (w1 : gd) (H1 : Heap) (locs1 : List Loc) (ls1 : Array Slot), LI G A H1 x1 q1 w1 x0 m0 o0 → LJ (k + 1) x1 q1 w1 → va_S A s.heap H1 locs1 → lv_has ls1 7 [(4, .int i), (3, .ref o0), (2, .ref m0), (1, .ref x0), (0, .ref b)] → W p G.1 e room_1 s m args below meth c H1 locs1 (q1.ce + 200) (q1.sl + 960000) Q (F0 m 1187 ls1 [])) : W p G.1 e room_1 s m args below meth c H locs (q.ce + 200) (q.sl + 960000) Q (F0 m 434 ls []) := by
  have hx := C.1.1
  have hb : c.code = cL_law := C.1.2.1
  obtain ⟨hu, hH, hm, el, b1, b2⟩ := id hJ
  obtain ⟨C9, wr, n9, lm, hj⟩ := el
  have el := JH_J hj
  refine lv_aload_n hx hb dlw_434 rfl (lv_at hl 3 rfl) ?_
  refine lv_aload_n hx hb dlw_435 rfl (lv_at hl 4 rfl) ?_
  refine lv_iload hx hb dlw_436 (lv_at hl 0 rfl) ?_
  refine lv_iconst (v := 1) hx hb dlw_438 (by decide +kernel) ?_
  refine lv_iadd hx hb dlw_439 ?_
  refine va_sld hx hb hX hbl hbA hS (i := i + 1) v1 dlw_440 ?_
  refine lv_aload_n hx hb dlw_441 rfl (lv_at hl 4 rfl) ?_
  refine lv_iload hx hb dlw_442 (lv_at hl 0 rfl) ?_
  refine lv_iconst (v := 2) hx hb dlw_444 (by decide +kernel) ?_
  refine lv_iadd hx hb dlw_445 ?_
  refine va_sld hx hb hX hbl hbA hS (i := i + 2) v2 dlw_446 ?_
  refine lv_aload_n hx hb dlw_447 rfl (lv_at hl 1 rfl) ?_
  refine LI_S C hI hu hS hl.1 [vi (xs (i + 1).toNatClampNeg), vi (xs (i + 2).toNatClampNeg)] [.int (xs (i + 1).toNatClampNeg), .int (xs (i + 2).toNatClampNeg)] (fun _ => rfl) dlw_448 wcs_140 rfl (by intro h; cases h) (Nat.le_of_ble_eq_true rfl) (kw_draw (d := 870) hj hu hH (xs (i + 1).toNatClampNeg) (xs (i + 2).toNatClampNeg)) (LJ_room hJ hk) (fun r1 x1 q1 H1 locs1 hI hu1 hk1 hH1 hp1 hS => ?_)
  refine lv_istore (lv' := (5, .int r1) :: [(4, .int i), (3, .ref o0), (2, .ref m0), (1, .ref x0), (0, .ref b)]) hx hb dlw_451 hl (by decide) rfl (fun ls hl => ?_)
  refine lv_aload_n hx hb dlw_453 rfl (lv_at hl 3 rfl) ?_
  refine lv_aload_n hx hb dlw_454 rfl (lv_at hl 5 rfl) ?_
  refine lv_iload hx hb dlw_455 (lv_at hl 1 rfl) ?_
  refine lv_iconst (v := 1) hx hb dlw_457 (by decide +kernel) ?_
  refine lv_iadd hx hb dlw_458 ?_
  refine va_sld hx hb hX hbl hbA hS (i := i + 1) v1 dlw_459 ?_
  refine lv_aload_n hx hb dlw_460 rfl (lv_at hl 5 rfl) ?_
  refine lv_iload hx hb dlw_461 (lv_at hl 1 rfl) ?_
  refine lv_iconst (v := 2) hx hb dlw_463 (by decide +kernel) ?_
  refine lv_iadd hx hb dlw_464 ?_
  refine va_sld hx hb hX hbl hbA hS (i := i + 2) v2 dlw_465 ?_
  refine LI_M C hI hS hl.1 (restv := []) (d1 := 900) (F := fun r9 w1 => ansM C9 wr (f1Ch w) (f2Dr w (xs (i + 2).toNatClampNeg)) (tDr C9 wr n9 w (xs (i + 1).toNatClampNeg) (xs (i + 2).toNatClampNeg)) w r9 w1) [vi (xs (i + 1).toNatClampNeg), vi (xs (i + 2).toNatClampNeg)] [.int (xs (i + 1).toNatClampNeg), .int (xs (i + 2).toNatClampNeg)] (fun _ => rfl) dlw_466 wcm_142 rfl rfl (Nat.le_of_ble_eq_true rfl) (by decide) (by omega) (ma_draw hj hH hm (xs (i + 1).toNatClampNeg) (xs (i + 2).toNatClampNeg) (by omega) (fun _ _ h1 => h1)) ⟨(LJ_room hJ hk q1 hu1 hk1).1, (LJ_room hJ hk q1 hu1 hk1).2⟩ (fun r2 w1 H1 locs1 hI hpm hS => ?_)
  have hj2 := ja_draw hj hH1 hp1 hpm
  refine lv_istore (lv' := (6, .int r2) :: (5, .int r1) :: [(4, .int i), (3, .ref o0), (2, .ref m0), (1, .ref x0), (0, .ref b)]) hx hb dlw_469 hl (by decide) rfl (fun ls hl => ?_)
  refine lv_goto (tgt := 1187) hx hb dlw_471 (by decide) ?_
  exact kk x1 q1 w1 H1 locs1 ls hI (LJ_next hJ hu1 hk1 hH1 hpm.1 hj2.1) hS (lv_tl (lv_tl hl))
