set_option maxRecDepth 100000 in
set_option maxHeartbeats 4000000 in
theorem lc_20 {p : Program} {e : Env} {s : State} {m : MethodId} {args : Array Value} {below : List Frame} {meth : Method} {c : Code} {H : Heap} {locs : List Loc} {Q : State → Prop} {ls : Array Slot} {A : Nat → Prop} {G : kG} {x w : gd} {q : kP} {x0 m0 o0 b L k : Nat} {xs : Nat → Int32} {i : Int32} (C : gC (wE (kE G)) 1000 yLaw p room_1 s m args meth c A) (hX : va_X b L xs s s.heap) (hbl : b < s.heap.size) (hbA : ¬ A b) (hI : LI G A H x q w x0 m0 o0) (hJ : LJ k x q w) (hk : k < 64) (hS : va_S A s.heap H locs) (v1 : vp_in (i + 1) L) (v2 : vp_in (i + 2) L) (v3 : vp_in (i + 3) L) (hl : lv_has ls 7 [(4, .int i), (3, .ref o0), (2, .ref m0), (1, .ref x0), (0, .ref b)]) (kk : ∀ (x1 : gd) (q1 : kP) (w1 : gd) (H1 : Heap) (locs1 : List Loc) (ls1 : Array Slot), LI G A H1 x1 q1 w1 x0 m0 o0 → LJ (k + 1) x1 q1 w1 → va_S A s.heap H1 locs1 → lv_has ls1 7 [(4, .int i), (3, .ref o0), (2, .ref m0), (1, .ref x0), (0, .ref b)] → W p G.1 e room_1 s m args below meth c H1 locs1 (q1.ce + 200) (q1.sl + 960000) Q (F0 m 1159 ls1 [])) : W p G.1 e room_1 s m args below meth c H locs (q.ce + 200) (q.sl + 960000) Q (F0 m 838 ls []) := by
  have hx := C.1.1
  have hb : c.code = cL_law := C.1.2.1
  obtain ⟨hu, hH, hm, el, b1, b2⟩ := id hJ
  refine lv_aload_n hx hb dlw_838 rfl (lv_at hl 3 rfl) ?_
  refine lv_aload_n hx hb dlw_839 rfl (lv_at hl 4 rfl) ?_
  refine lv_iload hx hb dlw_840 (lv_at hl 0 rfl) ?_
  refine lv_iconst (v := 1) hx hb dlw_842 (by decide +kernel) ?_
  refine lv_iadd hx hb dlw_843 ?_
  refine va_sld hx hb hX hbl hbA hS (i := i + 1) v1 dlw_844 ?_
  refine lv_aload_n hx hb dlw_845 rfl (lv_at hl 1 rfl) ?_
  refine LI_S C hI hu hS hl.1 [vi (xs (i + 1).toNatClampNeg)] [.int (xs (i + 1).toNatClampNeg)] (fun _ => rfl) dlw_846 wcs_173 rfl (by intro h; cases h) (Nat.le_of_ble_eq_true rfl) (kw_linear (d := 870) hu hH (xs (i + 1).toNatClampNeg)) (LJ_room hJ hk) (fun r1 x1 q1 H1 locs1 hI hu1 hk1 hH1 hp1 hS => ?_)
  refine lv_istore (lv' := (5, .int r1) :: [(4, .int i), (3, .ref o0), (2, .ref m0), (1, .ref x0), (0, .ref b)]) hx hb dlw_849 hl (by decide) rfl (fun ls hl => ?_)
  refine lv_aload_n hx hb dlw_851 rfl (lv_at hl 3 rfl) ?_
  refine lv_aload_n hx hb dlw_852 rfl (lv_at hl 5 rfl) ?_
  refine lv_iload hx hb dlw_853 (lv_at hl 1 rfl) ?_
  refine lv_iconst (v := 1) hx hb dlw_855 (by decide +kernel) ?_
  refine lv_iadd hx hb dlw_856 ?_
  refine va_sld hx hb hX hbl hbA hS (i := i + 1) v1 dlw_857 ?_
  refine LI_M C hI hS hl.1 (restv := []) (d1 := 900) (F := fun _ w1 => PM w w1) [vi (xs (i + 1).toNatClampNeg)] [.int (xs (i + 1).toNatClampNeg)] (fun _ => rfl) dlw_858 wcm_175 rfl rfl (Nat.le_of_ble_eq_true rfl) (by decide) (by omega) (sp_linear hm (xs (i + 1).toNatClampNeg) (by omega) (fun _ _ h => h)) ⟨(LJ_room hJ hk q1 hu1 hk1).1, (LJ_room hJ hk q1 hu1 hk1).2⟩ (fun r2 w1 H1 locs1 hI hpm hS => ?_)
  refine lv_istore (lv' := (6, .int r2) :: (5, .int r1) :: [(4, .int i), (3, .ref o0), (2, .ref m0), (1, .ref x0), (0, .ref b)]) hx hb dlw_861 hl (by decide) rfl (fun ls hl => ?_)
  refine lv_goto (tgt := 1159) hx hb dlw_863 (by decide) ?_
  exact kk x1 q1 w1 H1 locs1 ls hI (LJ_next hJ hu1 hk1 hH1 hpm.1 (by rw [hp1, hpm.2]; exact el)) hS (lv_tl (lv_tl hl))
set_option maxRecDepth 100000 in
set_option maxHeartbeats 4000000 in
theorem lc_21 {p : Program} {e : Env} {s : State} {m : MethodId} {args : Array Value} {below : List Frame} {meth : Method} {c : Code} {H : Heap} {locs : List Loc} {Q : State → Prop} {ls : Array Slot} {A : Nat → Prop} {G : kG} {x w : gd} {q : kP} {x0 m0 o0 b L k : Nat} {xs : Nat → Int32} {i : Int32} (C : gC (wE (kE G)) 1000 yLaw p room_1 s m args meth c A) (hX : va_X b L xs s s.heap) (hbl : b < s.heap.size) (hbA : ¬ A b) (hI : LI G A H x q w x0 m0 o0) (hJ : LJ k x q w) (hk : k < 64) (hS : va_S A s.heap H locs) (v1 : vp_in (i + 1) L) (v2 : vp_in (i + 2) L) (v3 : vp_in (i + 3) L) (hl : lv_has ls 7 [(4, .int i), (3, .ref o0), (2, .ref m0), (1, .ref x0), (0, .ref b)]) (kk : ∀ (x1 : gd) (q1 : kP) (w1 : gd) (H1 : Heap) (locs1 : List Loc) (ls1 : Array Slot), LI G A H1 x1 q1 w1 x0 m0 o0 → LJ (k + 1) x1 q1 w1 → va_S A s.heap H1 locs1 → lv_has ls1 7 [(4, .int i), (3, .ref o0), (2, .ref m0), (1, .ref x0), (0, .ref b)] → W p G.1 e room_1 s m args below meth c H1 locs1 (q1.ce + 200) (q1.sl + 960000) Q (F0 m 1159 ls1 [])) : W p G.1 e room_1 s m args below meth c H locs (q.ce + 200) (q.sl + 960000) Q (F0 m 866 ls []) := by
  have hx := C.1.1
  have hb : c.code = cL_law := C.1.2.1
  obtain ⟨hu, hH, hm, el, b1, b2⟩ := id hJ
  refine lv_aload_n hx hb dlw_866 rfl (lv_at hl 3 rfl) ?_
  refine lv_aload_n hx hb dlw_867 rfl (lv_at hl 4 rfl) ?_
  refine lv_iload hx hb dlw_868 (lv_at hl 0 rfl) ?_
  refine lv_iconst (v := 1) hx hb dlw_870 (by decide +kernel) ?_
  refine lv_iadd hx hb dlw_871 ?_
  refine va_sld hx hb hX hbl hbA hS (i := i + 1) v1 dlw_872 ?_
  refine lv_aload_n hx hb dlw_873 rfl (lv_at hl 4 rfl) ?_
  refine lv_iload hx hb dlw_874 (lv_at hl 0 rfl) ?_
  refine lv_iconst (v := 2) hx hb dlw_876 (by decide +kernel) ?_
  refine lv_iadd hx hb dlw_877 ?_
  refine va_sld hx hb hX hbl hbA hS (i := i + 2) v2 dlw_878 ?_
  refine lv_aload_n hx hb dlw_879 rfl (lv_at hl 1 rfl) ?_
  refine LI_S C hI hu hS hl.1 [vi (xs (i + 1).toNatClampNeg), vi (xs (i + 2).toNatClampNeg)] [.int (xs (i + 1).toNatClampNeg), .int (xs (i + 2).toNatClampNeg)] (fun _ => rfl) dlw_880 wcs_176 rfl (by intro h; cases h) (Nat.le_of_ble_eq_true rfl) (kw_attempt (d := 870) hu hH (xs (i + 1).toNatClampNeg) (xs (i + 2).toNatClampNeg)) (LJ_room hJ hk) (fun r1 x1 q1 H1 locs1 hI hu1 hk1 hH1 hp1 hS => ?_)
  refine lv_istore (lv' := (5, .int r1) :: [(4, .int i), (3, .ref o0), (2, .ref m0), (1, .ref x0), (0, .ref b)]) hx hb dlw_883 hl (by decide) rfl (fun ls hl => ?_)
  refine lv_aload_n hx hb dlw_885 rfl (lv_at hl 3 rfl) ?_
  refine lv_aload_n hx hb dlw_886 rfl (lv_at hl 5 rfl) ?_
  refine lv_iload hx hb dlw_887 (lv_at hl 1 rfl) ?_
  refine lv_iconst (v := 1) hx hb dlw_889 (by decide +kernel) ?_
  refine lv_iadd hx hb dlw_890 ?_
  refine va_sld hx hb hX hbl hbA hS (i := i + 1) v1 dlw_891 ?_
  refine lv_aload_n hx hb dlw_892 rfl (lv_at hl 5 rfl) ?_
  refine lv_iload hx hb dlw_893 (lv_at hl 1 rfl) ?_
  refine lv_iconst (v := 2) hx hb dlw_895 (by decide +kernel) ?_
  refine lv_iadd hx hb dlw_896 ?_
  refine va_sld hx hb hX hbl hbA hS (i := i + 2) v2 dlw_897 ?_
  refine LI_M C hI hS hl.1 (restv := []) (d1 := 900) (F := fun _ w1 => PM w w1) [vi (xs (i + 1).toNatClampNeg), vi (xs (i + 2).toNatClampNeg)] [.int (xs (i + 1).toNatClampNeg), .int (xs (i + 2).toNatClampNeg)] (fun _ => rfl) dlw_898 wcm_178 rfl rfl (Nat.le_of_ble_eq_true rfl) (by decide) (by omega) (sp_attempt hm (xs (i + 1).toNatClampNeg) (xs (i + 2).toNatClampNeg) (by omega) (fun _ _ h => h)) ⟨(LJ_room hJ hk q1 hu1 hk1).1, (LJ_room hJ hk q1 hu1 hk1).2⟩ (fun r2 w1 H1 locs1 hI hpm hS => ?_)
  refine lv_istore (lv' := (6, .int r2) :: (5, .int r1) :: [(4, .int i), (3, .ref o0), (2, .ref m0), (1, .ref x0), (0, .ref b)]) hx hb dlw_901 hl (by decide) rfl (fun ls hl => ?_)
  refine lv_goto (tgt := 1159) hx hb dlw_903 (by decide) ?_
  exact kk x1 q1 w1 H1 locs1 ls hI (LJ_next hJ hu1 hk1 hH1 hpm.1 (by rw [hp1, hpm.2]; exact el)) hS (lv_tl (lv_tl hl))
set_option maxRecDepth 100000 in
set_option maxHeartbeats 4000000 in
theorem lc_22 {p : Program} {e : Env} {s : State} {m : MethodId} {args : Array Value} {below : List Frame} {meth : Method} {c : Code} {H : Heap} {locs : List Loc} {Q : State → Prop} {ls : Array Slot} {A : Nat → Prop} {G : kG} {x w : gd} {q : kP} {x0 m0 o0 b L k : Nat} {xs : Nat → Int32} {i : Int32} (C : gC (wE (kE G)) 1000 yLaw p room_1 s m args meth c A) (hX : va_X b L xs s s.heap) (hbl : b < s.heap.size) (hbA : ¬ A b) (hI : LI G A H x q w x0 m0 o0) (hJ : LJ k x q w) (hk : k < 64) (hS : va_S A s.heap H locs) (v1 : vp_in (i + 1) L) (v2 : vp_in (i + 2) L) (v3 : vp_in (i + 3) L) (hl : lv_has ls 7 [(4, .int i), (3, .ref o0), (2, .ref m0), (1, .ref x0), (0, .ref b)]) (kk : ∀ (x1 : gd) (q1 : kP) (w1 : gd) (H1 : Heap) (locs1 : List Loc) (ls1 : Array Slot), LI G A H1 x1 q1 w1 x0 m0 o0 → LJ (k + 1) x1 q1 w1 → va_S A s.heap H1 locs1 → lv_has ls1 7 [(4, .int i), (3, .ref o0), (2, .ref m0), (1, .ref x0), (0, .ref b)] → W p G.1 e room_1 s m args below meth c H1 locs1 (q1.ce + 200) (q1.sl + 960000) Q (F0 m 1159 ls1 [])) : W p G.1 e room_1 s m args below meth c H locs (q.ce + 200) (q.sl + 960000) Q (F0 m 906 ls []) := by
  have hx := C.1.1
  have hb : c.code = cL_law := C.1.2.1
  obtain ⟨hu, hH, hm, el, b1, b2⟩ := id hJ
  refine lv_aload_n hx hb dlw_906 rfl (lv_at hl 3 rfl) ?_
  refine lv_aload_n hx hb dlw_907 rfl (lv_at hl 4 rfl) ?_
  refine lv_iload hx hb dlw_908 (lv_at hl 0 rfl) ?_
  refine lv_iconst (v := 1) hx hb dlw_910 (by decide +kernel) ?_
  refine lv_iadd hx hb dlw_911 ?_
  refine va_sld hx hb hX hbl hbA hS (i := i + 1) v1 dlw_912 ?_
  refine lv_aload_n hx hb dlw_913 rfl (lv_at hl 4 rfl) ?_
  refine lv_iload hx hb dlw_914 (lv_at hl 0 rfl) ?_
  refine lv_iconst (v := 2) hx hb dlw_916 (by decide +kernel) ?_
  refine lv_iadd hx hb dlw_917 ?_
  refine va_sld hx hb hX hbl hbA hS (i := i + 2) v2 dlw_918 ?_
  refine lv_aload_n hx hb dlw_919 rfl (lv_at hl 1 rfl) ?_
  refine LI_S C hI hu hS hl.1 [vi (xs (i + 1).toNatClampNeg), vi (xs (i + 2).toNatClampNeg)] [.int (xs (i + 1).toNatClampNeg), .int (xs (i + 2).toNatClampNeg)] (fun _ => rfl) dlw_920 wcs_179 rfl (by intro h; cases h) (Nat.le_of_ble_eq_true rfl) (kw_tried (d := 870) hu hH (xs (i + 1).toNatClampNeg) (xs (i + 2).toNatClampNeg)) (LJ_room hJ hk) (fun r1 x1 q1 H1 locs1 hI hu1 hk1 hH1 hp1 hS => ?_)
  refine lv_istore (lv' := (5, .int r1) :: [(4, .int i), (3, .ref o0), (2, .ref m0), (1, .ref x0), (0, .ref b)]) hx hb dlw_923 hl (by decide) rfl (fun ls hl => ?_)
  refine lv_aload_n hx hb dlw_925 rfl (lv_at hl 3 rfl) ?_
  refine lv_aload_n hx hb dlw_926 rfl (lv_at hl 5 rfl) ?_
  refine lv_iload hx hb dlw_927 (lv_at hl 1 rfl) ?_
  refine lv_iconst (v := 1) hx hb dlw_929 (by decide +kernel) ?_
  refine lv_iadd hx hb dlw_930 ?_
  refine va_sld hx hb hX hbl hbA hS (i := i + 1) v1 dlw_931 ?_
  refine lv_aload_n hx hb dlw_932 rfl (lv_at hl 5 rfl) ?_
  refine lv_iload hx hb dlw_933 (lv_at hl 1 rfl) ?_
  refine lv_iconst (v := 2) hx hb dlw_935 (by decide +kernel) ?_
  refine lv_iadd hx hb dlw_936 ?_
  refine va_sld hx hb hX hbl hbA hS (i := i + 2) v2 dlw_937 ?_
  refine LI_M C hI hS hl.1 (restv := []) (d1 := 900) (F := fun _ w1 => PM w w1) [vi (xs (i + 1).toNatClampNeg), vi (xs (i + 2).toNatClampNeg)] [.int (xs (i + 1).toNatClampNeg), .int (xs (i + 2).toNatClampNeg)] (fun _ => rfl) dlw_938 wcm_181 rfl rfl (Nat.le_of_ble_eq_true rfl) (by decide) (by omega) (sp_tried hm (xs (i + 1).toNatClampNeg) (xs (i + 2).toNatClampNeg) (by omega) (fun _ _ h => h)) ⟨(LJ_room hJ hk q1 hu1 hk1).1, (LJ_room hJ hk q1 hu1 hk1).2⟩ (fun r2 w1 H1 locs1 hI hpm hS => ?_)
  refine lv_istore (lv' := (6, .int r2) :: (5, .int r1) :: [(4, .int i), (3, .ref o0), (2, .ref m0), (1, .ref x0), (0, .ref b)]) hx hb dlw_941 hl (by decide) rfl (fun ls hl => ?_)
  refine lv_goto (tgt := 1159) hx hb dlw_943 (by decide) ?_
  exact kk x1 q1 w1 H1 locs1 ls hI (LJ_next hJ hu1 hk1 hH1 hpm.1 (by rw [hp1, hpm.2]; exact el)) hS (lv_tl (lv_tl hl))
set_option maxRecDepth 100000 in
set_option maxHeartbeats 4000000 in
theorem lc_23 {p : Program} {e : Env} {s : State} {m : MethodId} {args : Array Value} {below : List Frame} {meth : Method} {c : Code} {H : Heap} {locs : List Loc} {Q : State → Prop} {ls : Array Slot} {A : Nat → Prop} {G : kG} {x w : gd} {q : kP} {x0 m0 o0 b L k : Nat} {xs : Nat → Int32} {i : Int32} (C : gC (wE (kE G)) 1000 yLaw p room_1 s m args meth c A) (hX : va_X b L xs s s.heap) (hbl : b < s.heap.size) (hbA : ¬ A b) (hI : LI G A H x q w x0 m0 o0) (hJ : LJ k x q w) (hk : k < 64) (hS : va_S A s.heap H locs) (v1 : vp_in (i + 1) L) (v2 : vp_in (i + 2) L) (v3 : vp_in (i + 3) L) (hl : lv_has ls 7 [(4, .int i), (3, .ref o0), (2, .ref m0), (1, .ref x0), (0, .ref b)]) (kk : ∀ (x1 : gd) (q1 : kP) (w1 : gd) (H1 : Heap) (locs1 : List Loc) (ls1 : Array Slot), LI G A H1 x1 q1 w1 x0 m0 o0 → LJ (k + 1) x1 q1 w1 → va_S A s.heap H1 locs1 → lv_has ls1 7 [(4, .int i), (3, .ref o0), (2, .ref m0), (1, .ref x0), (0, .ref b)] → W p G.1 e room_1 s m args below meth c H1 locs1 (q1.ce + 200) (q1.sl + 960000) Q (F0 m 1159 ls1 [])) : W p G.1 e room_1 s m args below meth c H locs (q.ce + 200) (q.sl + 960000) Q (F0 m 946 ls []) := by
  have hx := C.1.1
  have hb : c.code = cL_law := C.1.2.1
  obtain ⟨hu, hH, hm, el, b1, b2⟩ := id hJ
  refine lv_aload_n hx hb dlw_946 rfl (lv_at hl 3 rfl) ?_
  refine lv_aload_n hx hb dlw_947 rfl (lv_at hl 4 rfl) ?_
  refine lv_iload hx hb dlw_948 (lv_at hl 0 rfl) ?_
  refine lv_iconst (v := 1) hx hb dlw_950 (by decide +kernel) ?_
  refine lv_iadd hx hb dlw_951 ?_
  refine va_sld hx hb hX hbl hbA hS (i := i + 1) v1 dlw_952 ?_
  refine lv_aload_n hx hb dlw_953 rfl (lv_at hl 4 rfl) ?_
  refine lv_iload hx hb dlw_954 (lv_at hl 0 rfl) ?_
  refine lv_iconst (v := 2) hx hb dlw_956 (by decide +kernel) ?_
  refine lv_iadd hx hb dlw_957 ?_
  refine va_sld hx hb hX hbl hbA hS (i := i + 2) v2 dlw_958 ?_
  refine lv_aload_n hx hb dlw_959 rfl (lv_at hl 4 rfl) ?_
  refine lv_iload hx hb dlw_960 (lv_at hl 0 rfl) ?_
  refine lv_iconst (v := 3) hx hb dlw_962 (by decide +kernel) ?_
  refine lv_iadd hx hb dlw_963 ?_
  refine va_sld hx hb hX hbl hbA hS (i := i + 3) v3 dlw_964 ?_
  refine lv_aload_n hx hb dlw_965 rfl (lv_at hl 1 rfl) ?_
  refine LI_S C hI hu hS hl.1 [vi (xs (i + 1).toNatClampNeg), vi (xs (i + 2).toNatClampNeg), vi (xs (i + 3).toNatClampNeg)] [.int (xs (i + 1).toNatClampNeg), .int (xs (i + 2).toNatClampNeg), .int (xs (i + 3).toNatClampNeg)] (fun _ => rfl) dlw_966 wcs_182 rfl (by intro h; cases h) (Nat.le_of_ble_eq_true rfl) (kw_outcome (d := 870) hu hH (xs (i + 1).toNatClampNeg) (xs (i + 2).toNatClampNeg) (xs (i + 3).toNatClampNeg)) (LJ_room hJ hk) (fun r1 x1 q1 H1 locs1 hI hu1 hk1 hH1 hp1 hS => ?_)
  refine lv_istore (lv' := (5, .int r1) :: [(4, .int i), (3, .ref o0), (2, .ref m0), (1, .ref x0), (0, .ref b)]) hx hb dlw_969 hl (by decide) rfl (fun ls hl => ?_)
  refine lv_aload_n hx hb dlw_971 rfl (lv_at hl 3 rfl) ?_
  refine lv_aload_n hx hb dlw_972 rfl (lv_at hl 5 rfl) ?_
  refine lv_iload hx hb dlw_973 (lv_at hl 1 rfl) ?_
  refine lv_iconst (v := 1) hx hb dlw_975 (by decide +kernel) ?_
  refine lv_iadd hx hb dlw_976 ?_
  refine va_sld hx hb hX hbl hbA hS (i := i + 1) v1 dlw_977 ?_
  refine lv_aload_n hx hb dlw_978 rfl (lv_at hl 5 rfl) ?_
  refine lv_iload hx hb dlw_979 (lv_at hl 1 rfl) ?_
  refine lv_iconst (v := 2) hx hb dlw_981 (by decide +kernel) ?_
  refine lv_iadd hx hb dlw_982 ?_
  refine va_sld hx hb hX hbl hbA hS (i := i + 2) v2 dlw_983 ?_
  refine lv_aload_n hx hb dlw_984 rfl (lv_at hl 5 rfl) ?_
  refine lv_iload hx hb dlw_985 (lv_at hl 1 rfl) ?_
  refine lv_iconst (v := 3) hx hb dlw_987 (by decide +kernel) ?_
  refine lv_iadd hx hb dlw_988 ?_
  refine va_sld hx hb hX hbl hbA hS (i := i + 3) v3 dlw_989 ?_
  refine LI_M C hI hS hl.1 (restv := []) (d1 := 900) (F := fun _ w1 => PM w w1) [vi (xs (i + 1).toNatClampNeg), vi (xs (i + 2).toNatClampNeg), vi (xs (i + 3).toNatClampNeg)] [.int (xs (i + 1).toNatClampNeg), .int (xs (i + 2).toNatClampNeg), .int (xs (i + 3).toNatClampNeg)] (fun _ => rfl) dlw_990 wcm_185 rfl rfl (Nat.le_of_ble_eq_true rfl) (by decide) (by omega) (sp_outcome hm (xs (i + 1).toNatClampNeg) (xs (i + 2).toNatClampNeg) (xs (i + 3).toNatClampNeg) (by omega) (fun _ _ h => h)) ⟨(LJ_room hJ hk q1 hu1 hk1).1, (LJ_room hJ hk q1 hu1 hk1).2⟩ (fun r2 w1 H1 locs1 hI hpm hS => ?_)
  refine lv_istore (lv' := (6, .int r2) :: (5, .int r1) :: [(4, .int i), (3, .ref o0), (2, .ref m0), (1, .ref x0), (0, .ref b)]) hx hb dlw_993 hl (by decide) rfl (fun ls hl => ?_)
  refine lv_goto (tgt := 1159) hx hb dlw_995 (by decide) ?_
  exact kk x1 q1 w1 H1 locs1 ls hI (LJ_next hJ hu1 hk1 hH1 hpm.1 (by rw [hp1, hpm.2]; exact el)) hS (lv_tl (lv_tl hl))
set_option maxRecDepth 100000 in
set_option maxHeartbeats 4000000 in
theorem lc_24 {p : Program} {e : Env} {s : State} {m : MethodId} {args : Array Value} {below : List Frame} {meth : Method} {c : Code} {H : Heap} {locs : List Loc} {Q : State → Prop} {ls : Array Slot} {A : Nat → Prop} {G : kG} {x w : gd} {q : kP} {x0 m0 o0 b L k : Nat} {xs : Nat → Int32} {i : Int32} (C : gC (wE (kE G)) 1000 yLaw p room_1 s m args meth c A) (hX : va_X b L xs s s.heap) (hbl : b < s.heap.size) (hbA : ¬ A b) (hI : LI G A H x q w x0 m0 o0) (hJ : LJ k x q w) (hk : k < 64) (hS : va_S A s.heap H locs) (v1 : vp_in (i + 1) L) (v2 : vp_in (i + 2) L) (v3 : vp_in (i + 3) L) (hl : lv_has ls 7 [(4, .int i), (3, .ref o0), (2, .ref m0), (1, .ref x0), (0, .ref b)]) (kk : ∀ (x1 : gd) (q1 : kP) (w1 : gd) (H1 : Heap) (locs1 : List Loc) (ls1 : Array Slot), LI G A H1 x1 q1 w1 x0 m0 o0 → LJ (k + 1) x1 q1 w1 → va_S A s.heap H1 locs1 → lv_has ls1 7 [(4, .int i), (3, .ref o0), (2, .ref m0), (1, .ref x0), (0, .ref b)] → W p G.1 e room_1 s m args below meth c H1 locs1 (q1.ce + 200) (q1.sl + 960000) Q (F0 m 1159 ls1 [])) : W p G.1 e room_1 s m args below meth c H locs (q.ce + 200) (q.sl + 960000) Q (F0 m 998 ls []) := by
  have hx := C.1.1
  have hb : c.code = cL_law := C.1.2.1
  obtain ⟨hu, hH, hm, el, b1, b2⟩ := id hJ
  refine lv_aload_n hx hb dlw_998 rfl (lv_at hl 3 rfl) ?_
  refine lv_aload_n hx hb dlw_999 rfl (lv_at hl 4 rfl) ?_
  refine lv_iload hx hb dlw_1000 (lv_at hl 0 rfl) ?_
  refine lv_iconst (v := 1) hx hb dlw_1002 (by decide +kernel) ?_
  refine lv_iadd hx hb dlw_1003 ?_
  refine va_sld hx hb hX hbl hbA hS (i := i + 1) v1 dlw_1004 ?_
  refine lv_aload_n hx hb dlw_1005 rfl (lv_at hl 4 rfl) ?_
  refine lv_iload hx hb dlw_1006 (lv_at hl 0 rfl) ?_
  refine lv_iconst (v := 2) hx hb dlw_1008 (by decide +kernel) ?_
  refine lv_iadd hx hb dlw_1009 ?_
  refine va_sld hx hb hX hbl hbA hS (i := i + 2) v2 dlw_1010 ?_
  refine lv_aload_n hx hb dlw_1011 rfl (lv_at hl 1 rfl) ?_
  refine LI_S C hI hu hS hl.1 [vi (xs (i + 1).toNatClampNeg), vi (xs (i + 2).toNatClampNeg)] [.int (xs (i + 1).toNatClampNeg), .int (xs (i + 2).toNatClampNeg)] (fun _ => rfl) dlw_1012 wcs_186 rfl (by intro h; cases h) (Nat.le_of_ble_eq_true rfl) (kw_finding (d := 870) hu hH (xs (i + 1).toNatClampNeg) (xs (i + 2).toNatClampNeg)) (LJ_room hJ hk) (fun r1 x1 q1 H1 locs1 hI hu1 hk1 hH1 hp1 hS => ?_)
  refine lv_istore (lv' := (5, .int r1) :: [(4, .int i), (3, .ref o0), (2, .ref m0), (1, .ref x0), (0, .ref b)]) hx hb dlw_1015 hl (by decide) rfl (fun ls hl => ?_)
  refine lv_aload_n hx hb dlw_1017 rfl (lv_at hl 3 rfl) ?_
  refine lv_aload_n hx hb dlw_1018 rfl (lv_at hl 5 rfl) ?_
  refine lv_iload hx hb dlw_1019 (lv_at hl 1 rfl) ?_
  refine lv_iconst (v := 1) hx hb dlw_1021 (by decide +kernel) ?_
  refine lv_iadd hx hb dlw_1022 ?_
  refine va_sld hx hb hX hbl hbA hS (i := i + 1) v1 dlw_1023 ?_
  refine lv_aload_n hx hb dlw_1024 rfl (lv_at hl 5 rfl) ?_
  refine lv_iload hx hb dlw_1025 (lv_at hl 1 rfl) ?_
  refine lv_iconst (v := 2) hx hb dlw_1027 (by decide +kernel) ?_
  refine lv_iadd hx hb dlw_1028 ?_
  refine va_sld hx hb hX hbl hbA hS (i := i + 2) v2 dlw_1029 ?_
  refine LI_M C hI hS hl.1 (restv := []) (d1 := 900) (F := fun _ w1 => PM w w1) [vi (xs (i + 1).toNatClampNeg), vi (xs (i + 2).toNatClampNeg)] [.int (xs (i + 1).toNatClampNeg), .int (xs (i + 2).toNatClampNeg)] (fun _ => rfl) dlw_1030 wcm_188 rfl rfl (Nat.le_of_ble_eq_true rfl) (by decide) (by omega) (sp_finding hm (xs (i + 1).toNatClampNeg) (xs (i + 2).toNatClampNeg) (by omega) (fun _ _ h => h)) ⟨(LJ_room hJ hk q1 hu1 hk1).1, (LJ_room hJ hk q1 hu1 hk1).2⟩ (fun r2 w1 H1 locs1 hI hpm hS => ?_)
  refine lv_istore (lv' := (6, .int r2) :: (5, .int r1) :: [(4, .int i), (3, .ref o0), (2, .ref m0), (1, .ref x0), (0, .ref b)]) hx hb dlw_1033 hl (by decide) rfl (fun ls hl => ?_)
  refine lv_goto (tgt := 1159) hx hb dlw_1035 (by decide) ?_
  exact kk x1 q1 w1 H1 locs1 ls hI (LJ_next hJ hu1 hk1 hH1 hpm.1 (by rw [hp1, hpm.2]; exact el)) hS (lv_tl (lv_tl hl))
set_option maxRecDepth 100000 in
set_option maxHeartbeats 4000000 in
theorem lc_25 {p : Program} {e : Env} {s : State} {m : MethodId} {args : Array Value} {below : List Frame} {meth : Method} {c : Code} {H : Heap} {locs : List Loc} {Q : State → Prop} {ls : Array Slot} {A : Nat → Prop} {G : kG} {x w : gd} {q : kP} {x0 m0 o0 b L k : Nat} {xs : Nat → Int32} {i : Int32} (C : gC (wE (kE G)) 1000 yLaw p room_1 s m args meth c A) (hX : va_X b L xs s s.heap) (hbl : b < s.heap.size) (hbA : ¬ A b) (hI : LI G A H x q w x0 m0 o0) (hJ : LJ k x q w) (hk : k < 64) (hS : va_S A s.heap H locs) (v1 : vp_in (i + 1) L) (v2 : vp_in (i + 2) L) (v3 : vp_in (i + 3) L) (hl : lv_has ls 7 [(4, .int i), (3, .ref o0), (2, .ref m0), (1, .ref x0), (0, .ref b)]) (kk : ∀ (x1 : gd) (q1 : kP) (w1 : gd) (H1 : Heap) (locs1 : List Loc) (ls1 : Array Slot), LI G A H1 x1 q1 w1 x0 m0 o0 → LJ (k + 1) x1 q1 w1 → va_S A s.heap H1 locs1 → lv_has ls1 7 [(4, .int i), (3, .ref o0), (2, .ref m0), (1, .ref x0), (0, .ref b)] → W p G.1 e room_1 s m args below meth c H1 locs1 (q1.ce + 200) (q1.sl + 960000) Q (F0 m 1159 ls1 [])) : W p G.1 e room_1 s m args below meth c H locs (q.ce + 200) (q.sl + 960000) Q (F0 m 1038 ls []) := by
  have hx := C.1.1
  have hb : c.code = cL_law := C.1.2.1
  obtain ⟨hu, hH, hm, el, b1, b2⟩ := id hJ
  refine lv_aload_n hx hb dlw_1038 rfl (lv_at hl 3 rfl) ?_
  refine lv_aload_n hx hb dlw_1039 rfl (lv_at hl 4 rfl) ?_
  refine lv_iload hx hb dlw_1040 (lv_at hl 0 rfl) ?_
  refine lv_iconst (v := 1) hx hb dlw_1042 (by decide +kernel) ?_
  refine lv_iadd hx hb dlw_1043 ?_
  refine va_sld hx hb hX hbl hbA hS (i := i + 1) v1 dlw_1044 ?_
  refine lv_aload_n hx hb dlw_1045 rfl (lv_at hl 4 rfl) ?_
  refine lv_iload hx hb dlw_1046 (lv_at hl 0 rfl) ?_
  refine lv_iconst (v := 2) hx hb dlw_1048 (by decide +kernel) ?_
  refine lv_iadd hx hb dlw_1049 ?_
  refine va_sld hx hb hX hbl hbA hS (i := i + 2) v2 dlw_1050 ?_
  refine lv_aload_n hx hb dlw_1051 rfl (lv_at hl 1 rfl) ?_
  refine LI_S C hI hu hS hl.1 [vi (xs (i + 1).toNatClampNeg), vi (xs (i + 2).toNatClampNeg)] [.int (xs (i + 1).toNatClampNeg), .int (xs (i + 2).toNatClampNeg)] (fun _ => rfl) dlw_1052 wcs_189 rfl (by intro h; cases h) (Nat.le_of_ble_eq_true rfl) (kw_show (d := 870) hu hH (xs (i + 1).toNatClampNeg) (xs (i + 2).toNatClampNeg)) (LJ_room hJ hk) (fun r1 x1 q1 H1 locs1 hI hu1 hk1 hH1 hp1 hS => ?_)
  refine lv_istore (lv' := (5, .int r1) :: [(4, .int i), (3, .ref o0), (2, .ref m0), (1, .ref x0), (0, .ref b)]) hx hb dlw_1055 hl (by decide) rfl (fun ls hl => ?_)
  refine lv_aload_n hx hb dlw_1057 rfl (lv_at hl 3 rfl) ?_
  refine lv_aload_n hx hb dlw_1058 rfl (lv_at hl 5 rfl) ?_
  refine lv_iload hx hb dlw_1059 (lv_at hl 1 rfl) ?_
  refine lv_iconst (v := 1) hx hb dlw_1061 (by decide +kernel) ?_
  refine lv_iadd hx hb dlw_1062 ?_
  refine va_sld hx hb hX hbl hbA hS (i := i + 1) v1 dlw_1063 ?_
  refine lv_aload_n hx hb dlw_1064 rfl (lv_at hl 5 rfl) ?_
  refine lv_iload hx hb dlw_1065 (lv_at hl 1 rfl) ?_
  refine lv_iconst (v := 2) hx hb dlw_1067 (by decide +kernel) ?_
  refine lv_iadd hx hb dlw_1068 ?_
  refine va_sld hx hb hX hbl hbA hS (i := i + 2) v2 dlw_1069 ?_
  refine LI_M C hI hS hl.1 (restv := []) (d1 := 900) (F := fun _ w1 => PM w w1) [vi (xs (i + 1).toNatClampNeg), vi (xs (i + 2).toNatClampNeg)] [.int (xs (i + 1).toNatClampNeg), .int (xs (i + 2).toNatClampNeg)] (fun _ => rfl) dlw_1070 wcm_191 rfl rfl (Nat.le_of_ble_eq_true rfl) (by decide) (by omega) (sp_show hm (xs (i + 1).toNatClampNeg) (xs (i + 2).toNatClampNeg) (by omega) (fun _ _ h => h)) ⟨(LJ_room hJ hk q1 hu1 hk1).1, (LJ_room hJ hk q1 hu1 hk1).2⟩ (fun r2 w1 H1 locs1 hI hpm hS => ?_)
  refine lv_istore (lv' := (6, .int r2) :: (5, .int r1) :: [(4, .int i), (3, .ref o0), (2, .ref m0), (1, .ref x0), (0, .ref b)]) hx hb dlw_1073 hl (by decide) rfl (fun ls hl => ?_)
  refine lv_goto (tgt := 1159) hx hb dlw_1075 (by decide) ?_
  exact kk x1 q1 w1 H1 locs1 ls hI (LJ_next hJ hu1 hk1 hH1 hpm.1 (by rw [hp1, hpm.2]; exact el)) hS (lv_tl (lv_tl hl))
set_option maxRecDepth 100000 in
set_option maxHeartbeats 4000000 in
theorem lc_26 {p : Program} {e : Env} {s : State} {m : MethodId} {args : Array Value} {below : List Frame} {meth : Method} {c : Code} {H : Heap} {locs : List Loc} {Q : State → Prop} {ls : Array Slot} {A : Nat → Prop} {G : kG} {x w : gd} {q : kP} {x0 m0 o0 b L k : Nat} {xs : Nat → Int32} {i : Int32} (C : gC (wE (kE G)) 1000 yLaw p room_1 s m args meth c A) (hX : va_X b L xs s s.heap) (hbl : b < s.heap.size) (hbA : ¬ A b) (hI : LI G A H x q w x0 m0 o0) (hJ : LJ k x q w) (hk : k < 64) (hS : va_S A s.heap H locs) (v1 : vp_in (i + 1) L) (v2 : vp_in (i + 2) L) (v3 : vp_in (i + 3) L) (hl : lv_has ls 7 [(4, .int i), (3, .ref o0), (2, .ref m0), (1, .ref x0), (0, .ref b)]) (kk : ∀ (x1 : gd) (q1 : kP) (w1 : gd) (H1 : Heap) (locs1 : List Loc) (ls1 : Array Slot), LI G A H1 x1 q1 w1 x0 m0 o0 → LJ (k + 1) x1 q1 w1 → va_S A s.heap H1 locs1 → lv_has ls1 7 [(4, .int i), (3, .ref o0), (2, .ref m0), (1, .ref x0), (0, .ref b)] → W p G.1 e room_1 s m args below meth c H1 locs1 (q1.ce + 200) (q1.sl + 960000) Q (F0 m 1159 ls1 [])) : W p G.1 e room_1 s m args below meth c H locs (q.ce + 200) (q.sl + 960000) Q (F0 m 1078 ls []) := by
  have hx := C.1.1
  have hb : c.code = cL_law := C.1.2.1
  obtain ⟨hu, hH, hm, el, b1, b2⟩ := id hJ
  refine lv_aload_n hx hb dlw_1078 rfl (lv_at hl 3 rfl) ?_
  refine lv_aload_n hx hb dlw_1079 rfl (lv_at hl 4 rfl) ?_
  refine lv_iload hx hb dlw_1080 (lv_at hl 0 rfl) ?_
  refine lv_iconst (v := 1) hx hb dlw_1082 (by decide +kernel) ?_
  refine lv_iadd hx hb dlw_1083 ?_
  refine va_sld hx hb hX hbl hbA hS (i := i + 1) v1 dlw_1084 ?_
  refine lv_aload_n hx hb dlw_1085 rfl (lv_at hl 4 rfl) ?_
  refine lv_iload hx hb dlw_1086 (lv_at hl 0 rfl) ?_
  refine lv_iconst (v := 2) hx hb dlw_1088 (by decide +kernel) ?_
  refine lv_iadd hx hb dlw_1089 ?_
  refine va_sld hx hb hX hbl hbA hS (i := i + 2) v2 dlw_1090 ?_
  refine lv_aload_n hx hb dlw_1091 rfl (lv_at hl 1 rfl) ?_
  refine LI_S C hI hu hS hl.1 [vi (xs (i + 1).toNatClampNeg), vi (xs (i + 2).toNatClampNeg)] [.int (xs (i + 1).toNatClampNeg), .int (xs (i + 2).toNatClampNeg)] (fun _ => rfl) dlw_1092 wcs_192 rfl (by intro h; cases h) (Nat.le_of_ble_eq_true rfl) (kw_common (d := 870) hu hH (xs (i + 1).toNatClampNeg) (xs (i + 2).toNatClampNeg)) (LJ_room hJ hk) (fun r1 x1 q1 H1 locs1 hI hu1 hk1 hH1 hp1 hS => ?_)
  refine lv_istore (lv' := (5, .int r1) :: [(4, .int i), (3, .ref o0), (2, .ref m0), (1, .ref x0), (0, .ref b)]) hx hb dlw_1095 hl (by decide) rfl (fun ls hl => ?_)
  refine lv_aload_n hx hb dlw_1097 rfl (lv_at hl 3 rfl) ?_
  refine lv_aload_n hx hb dlw_1098 rfl (lv_at hl 5 rfl) ?_
  refine lv_iload hx hb dlw_1099 (lv_at hl 1 rfl) ?_
  refine lv_iconst (v := 1) hx hb dlw_1101 (by decide +kernel) ?_
  refine lv_iadd hx hb dlw_1102 ?_
  refine va_sld hx hb hX hbl hbA hS (i := i + 1) v1 dlw_1103 ?_
  refine lv_aload_n hx hb dlw_1104 rfl (lv_at hl 5 rfl) ?_
  refine lv_iload hx hb dlw_1105 (lv_at hl 1 rfl) ?_
  refine lv_iconst (v := 2) hx hb dlw_1107 (by decide +kernel) ?_
  refine lv_iadd hx hb dlw_1108 ?_
  refine va_sld hx hb hX hbl hbA hS (i := i + 2) v2 dlw_1109 ?_
  refine LI_M C hI hS hl.1 (restv := []) (d1 := 900) (F := fun _ w1 => PM w w1) [vi (xs (i + 1).toNatClampNeg), vi (xs (i + 2).toNatClampNeg)] [.int (xs (i + 1).toNatClampNeg), .int (xs (i + 2).toNatClampNeg)] (fun _ => rfl) dlw_1110 wcm_194 rfl rfl (Nat.le_of_ble_eq_true rfl) (by decide) (by omega) (sp_common hm (xs (i + 1).toNatClampNeg) (xs (i + 2).toNatClampNeg) (by omega) (fun _ _ h => h)) ⟨(LJ_room hJ hk q1 hu1 hk1).1, (LJ_room hJ hk q1 hu1 hk1).2⟩ (fun r2 w1 H1 locs1 hI hpm hS => ?_)
  refine lv_istore (lv' := (6, .int r2) :: (5, .int r1) :: [(4, .int i), (3, .ref o0), (2, .ref m0), (1, .ref x0), (0, .ref b)]) hx hb dlw_1113 hl (by decide) rfl (fun ls hl => ?_)
  refine lv_goto (tgt := 1159) hx hb dlw_1115 (by decide) ?_
  exact kk x1 q1 w1 H1 locs1 ls hI (LJ_next hJ hu1 hk1 hH1 hpm.1 (by rw [hp1, hpm.2]; exact el)) hS (lv_tl (lv_tl hl))
set_option maxRecDepth 100000 in
set_option maxHeartbeats 4000000 in
theorem lc_27 {p : Program} {e : Env} {s : State} {m : MethodId} {args : Array Value} {below : List Frame} {meth : Method} {c : Code} {H : Heap} {locs : List Loc} {Q : State → Prop} {ls : Array Slot} {A : Nat → Prop} {G : kG} {x w : gd} {q : kP} {x0 m0 o0 b L k : Nat} {xs : Nat → Int32} {i : Int32} (C : gC (wE (kE G)) 1000 yLaw p room_1 s m args meth c A) (hX : va_X b L xs s s.heap) (hbl : b < s.heap.size) (hbA : ¬ A b) (hI : LI G A H x q w x0 m0 o0) (hJ : LJ k x q w) (hk : k < 64) (hS : va_S A s.heap H locs) (v1 : vp_in (i + 1) L) (v2 : vp_in (i + 2) L) (v3 : vp_in (i + 3) L) (hl : lv_has ls 7 [(4, .int i), (3, .ref o0), (2, .ref m0), (1, .ref x0), (0, .ref b)]) (kk : ∀ (x1 : gd) (q1 : kP) (w1 : gd) (H1 : Heap) (locs1 : List Loc) (ls1 : Array Slot), LI G A H1 x1 q1 w1 x0 m0 o0 → LJ (k + 1) x1 q1 w1 → va_S A s.heap H1 locs1 → lv_has ls1 7 [(4, .int i), (3, .ref o0), (2, .ref m0), (1, .ref x0), (0, .ref b)] → W p G.1 e room_1 s m args below meth c H1 locs1 (q1.ce + 200) (q1.sl + 960000) Q (F0 m 1159 ls1 [])) : W p G.1 e room_1 s m args below meth c H locs (q.ce + 200) (q.sl + 960000) Q (F0 m 1118 ls []) := by
  have hx := C.1.1
  have hb : c.code = cL_law := C.1.2.1
  obtain ⟨hu, hH, hm, el, b1, b2⟩ := id hJ
  refine lv_aload_n hx hb dlw_1118 rfl (lv_at hl 3 rfl) ?_
  refine lv_aload_n hx hb dlw_1119 rfl (lv_at hl 4 rfl) ?_
  refine lv_iload hx hb dlw_1120 (lv_at hl 0 rfl) ?_
  refine lv_iconst (v := 1) hx hb dlw_1122 (by decide +kernel) ?_
  refine lv_iadd hx hb dlw_1123 ?_
  refine va_sld hx hb hX hbl hbA hS (i := i + 1) v1 dlw_1124 ?_
  refine lv_aload_n hx hb dlw_1125 rfl (lv_at hl 1 rfl) ?_
  refine LI_S C hI hu hS hl.1 [vi (xs (i + 1).toNatClampNeg)] [.int (xs (i + 1).toNatClampNeg)] (fun _ => rfl) dlw_1126 wcs_195 rfl (by intro h; cases h) (Nat.le_of_ble_eq_true rfl) (kw_ring (d := 870) hu hH (xs (i + 1).toNatClampNeg)) (LJ_room hJ hk) (fun r1 x1 q1 H1 locs1 hI hu1 hk1 hH1 hp1 hS => ?_)
  refine lv_istore (lv' := (5, .int r1) :: [(4, .int i), (3, .ref o0), (2, .ref m0), (1, .ref x0), (0, .ref b)]) hx hb dlw_1129 hl (by decide) rfl (fun ls hl => ?_)
  refine lv_aload_n hx hb dlw_1131 rfl (lv_at hl 3 rfl) ?_
  refine lv_aload_n hx hb dlw_1132 rfl (lv_at hl 5 rfl) ?_
  refine lv_iload hx hb dlw_1133 (lv_at hl 1 rfl) ?_
  refine lv_iconst (v := 1) hx hb dlw_1135 (by decide +kernel) ?_
  refine lv_iadd hx hb dlw_1136 ?_
  refine va_sld hx hb hX hbl hbA hS (i := i + 1) v1 dlw_1137 ?_
  refine LI_M C hI hS hl.1 (restv := []) (d1 := 900) (F := fun _ w1 => PM w w1) [vi (xs (i + 1).toNatClampNeg)] [.int (xs (i + 1).toNatClampNeg)] (fun _ => rfl) dlw_1138 wcm_197 rfl rfl (Nat.le_of_ble_eq_true rfl) (by decide) (by omega) (sp_ring hm (xs (i + 1).toNatClampNeg) (by omega) (fun _ _ h => h)) ⟨(LJ_room hJ hk q1 hu1 hk1).1, (LJ_room hJ hk q1 hu1 hk1).2⟩ (fun r2 w1 H1 locs1 hI hpm hS => ?_)
  refine lv_istore (lv' := (6, .int r2) :: (5, .int r1) :: [(4, .int i), (3, .ref o0), (2, .ref m0), (1, .ref x0), (0, .ref b)]) hx hb dlw_1141 hl (by decide) rfl (fun ls hl => ?_)
  refine lv_goto (tgt := 1159) hx hb dlw_1143 (by decide) ?_
  exact kk x1 q1 w1 H1 locs1 ls hI (LJ_next hJ hu1 hk1 hH1 hpm.1 (by rw [hp1, hpm.2]; exact el)) hS (lv_tl (lv_tl hl))
set_option maxRecDepth 100000 in
set_option maxHeartbeats 4000000 in
theorem lc_28 {p : Program} {e : Env} {s : State} {m : MethodId} {args : Array Value} {below : List Frame} {meth : Method} {c : Code} {H : Heap} {locs : List Loc} {Q : State → Prop} {ls : Array Slot} {A : Nat → Prop} {G : kG} {x w : gd} {q : kP} {x0 m0 o0 b L k : Nat} {xs : Nat → Int32} {i : Int32} (C : gC (wE (kE G)) 1000 yLaw p room_1 s m args meth c A) (hX : va_X b L xs s s.heap) (hbl : b < s.heap.size) (hbA : ¬ A b) (hI : LI G A H x q w x0 m0 o0) (hJ : LJ k x q w) (hk : k < 64) (hS : va_S A s.heap H locs) (v1 : vp_in (i + 1) L) (v2 : vp_in (i + 2) L) (v3 : vp_in (i + 3) L) (hl : lv_has ls 7 [(4, .int i), (3, .ref o0), (2, .ref m0), (1, .ref x0), (0, .ref b)]) (kk : ∀ (x1 : gd) (q1 : kP) (w1 : gd) (H1 : Heap) (locs1 : List Loc) (ls1 : Array Slot), LI G A H1 x1 q1 w1 x0 m0 o0 → LJ (k + 1) x1 q1 w1 → va_S A s.heap H1 locs1 → lv_has ls1 7 [(4, .int i), (3, .ref o0), (2, .ref m0), (1, .ref x0), (0, .ref b)] → W p G.1 e room_1 s m args below meth c H1 locs1 (q1.ce + 200) (q1.sl + 960000) Q (F0 m 1159 ls1 [])) : W p G.1 e room_1 s m args below meth c H locs (q.ce + 200) (q.sl + 960000) Q (F0 m 1146 ls []) := by
  have hx := C.1.1
  have hb : c.code = cL_law := C.1.2.1
  obtain ⟨hu, hH, hm, el, b1, b2⟩ := id hJ
  refine lv_aload_n hx hb dlw_1146 rfl (lv_at hl 3 rfl) ?_
  refine LI_K C hI hu hS hl.1 (restv := []) (P := fun _ y9 _ => y9.1 20 1 = x.1 20 1) dlw_1147 wcv_198 rfl (Nat.le_of_ble_eq_true rfl) (by decide) (T_mono (kz_alike (d := 898) hu.1 hH (P := fun v9 y9 => ∃ r, v9 = some (vi r) ∧ HOI y9 q ∧ y9.1 20 1 = x.1 20 1) (fun r y9 h1 h2 => ⟨r, rfl, h1, h2⟩)) (fun o9 x9 f9 w9 => by obtain ⟨rfl, v, rfl, r, rfl, h1, h2⟩ := w9; exact ⟨r, q, rfl, rfl, hu, kst_rf q, h1, h2⟩)) (LJ_room hJ hk) (fun r1 x1 x2 q1 H1 locs1 hI hu1 hk1 hH1 hp1 ex hS => ?_)
  refine lv_pop hx hb dlw_1150 rfl ?_
  refine lv_aload_n hx hb dlw_1151 rfl (lv_at hl 2 rfl) ?_
  refine LI_M C hI hS hl.1 (restv := []) (d1 := 900) (F := fun _ w1 => PM w w1) [] [] (fun _ => rfl) dlw_1152 wcm_201 rfl rfl (Nat.le_of_ble_eq_true rfl) (by decide) (by omega) (sp_alike hm (fun _ _ h => h)) ⟨(LJ_room hJ hk q1 hu1 hk1).1, (LJ_room hJ hk q1 hu1 hk1).2⟩ (fun r2 w1 H1 locs1 hI hpm hS => ?_)
  refine lv_pop hx hb dlw_1155 rfl ?_
  refine lv_goto (tgt := 1159) hx hb dlw_1156 (by decide) ?_
  exact kk x1 q1 w1 H1 locs1 ls hI (LJ_next hJ hu1 hk1 hH1 hpm.1 (by rw [ex, hp1, hpm.2]; exact el)) hS hl
