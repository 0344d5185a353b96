section
set_option maxRecDepth 100000 in
set_option maxHeartbeats 4000000 in
theorem lc_20 {p : Program} {e : Env} {s : State} {m : MethodId} {args : Array Value} {below : List Frame} {meth : Method} {c : Code} {H : Heap} {locs : List Loc} {Q : State → Prop} {ls : Array Slot} {A : Nat → Prop} {G : kG} {x w : gd} {q : kP} {x0 m0 o0 b L k : Nat} {xs : Nat → Int32} {i : Int32} (C : gC (wE (kE G)) 1000 yLaw p room_1 s m args meth c A) (hX : va_X b L xs s s.heap) (hbl : b < s.heap.size) (hbA : ¬ A b) (hI : LI G A H x q w x0 m0 o0) (hJ : LJ k x q w) (hk : k < 64) (hS : va_S A s.heap H locs) (v1 : vp_in (i + 1) L) (v2 : vp_in (i + 2) L) (v3 : vp_in (i + 3) L) (hl : lv_has ls 7 [(4, .int i), (3, .ref o0), (2, .ref m0), (1, .ref x0), (0, .ref b)]) (kk : ∀ (x1 : gd) (q1 : kP) (w1 : gd) (H1 : Heap) (locs1 : List Loc) (ls1 : Array Slot), LI G A H1 x1 q1 w1 x0 m0 o0 → LJ (k + 1) x1 q1 w1 → va_S A s.heap H1 locs1 → lv_has ls1 7 [(4, .int i), (3, .ref o0), (2, .ref m0), (1, .ref x0), (0, .ref b)] → W p G.1 e room_1 s m args below meth c H1 locs1 (q1.ce + 200) (q1.sl + 960000) Q (F0 m 1187 ls1 [])) : W p G.1 e room_1 s m args below meth c H locs (q.ce + 200) (q.sl + 960000) Q (F0 m 838 ls []) := by
  have hx := C.1.1
  have hb : c.code = cL_law := C.1.2.1
  obtain ⟨hu, hH, hm, el, b1, b2⟩ := id hJ
  obtain ⟨C9, wr, n9, lm, hj⟩ := el
  have el := JH_J hj
  refine lv_aload_n hx hb dlw_838 rfl (lv_at hl 3 rfl) ?_
  refine lv_aload_n hx hb dlw_839 rfl (lv_at hl 4 rfl) ?_
  refine lv_iload hx hb dlw_840 (lv_at hl 0 rfl) ?_
  refine lv_iconst (v := 1) hx hb dlw_842 (by decide +kernel) ?_
  refine lv_iadd hx hb dlw_843 ?_
  refine va_sld hx hb hX hbl hbA hS (i := i + 1) v1 dlw_844 ?_
  refine lv_aload_n hx hb dlw_845 rfl (lv_at hl 1 rfl) ?_
  refine LI_S C hI hu hS hl.1 [vi (xs (i + 1).toNatClampNeg)] [.int (xs (i + 1).toNatClampNeg)] (fun _ => rfl) dlw_846 wcs_173 rfl (by intro h; cases h) (Nat.le_of_ble_eq_true rfl) (kw_linear (d := 870) hu hH (xs (i + 1).toNatClampNeg)) (LJ_room hJ hk) (fun r1 x1 q1 H1 locs1 hI hu1 hk1 hH1 hp1 hS => ?_)
  refine lv_istore (lv' := (5, .int r1) :: [(4, .int i), (3, .ref o0), (2, .ref m0), (1, .ref x0), (0, .ref b)]) hx hb dlw_849 hl (by decide) rfl (fun ls hl => ?_)
  refine lv_aload_n hx hb dlw_851 rfl (lv_at hl 3 rfl) ?_
  refine lv_aload_n hx hb dlw_852 rfl (lv_at hl 5 rfl) ?_
  refine lv_iload hx hb dlw_853 (lv_at hl 1 rfl) ?_
  refine lv_iconst (v := 1) hx hb dlw_855 (by decide +kernel) ?_
  refine lv_iadd hx hb dlw_856 ?_
  refine va_sld hx hb hX hbl hbA hS (i := i + 1) v1 dlw_857 ?_
  refine LI_M C hI hS hl.1 (restv := []) (d1 := 900) (F := fun _ w1 => rdM C9 wr w w1) [vi (xs (i + 1).toNatClampNeg)] [.int (xs (i + 1).toNatClampNeg)] (fun _ => rfl) dlw_858 wcm_175 rfl rfl (Nat.le_of_ble_eq_true rfl) (by decide) (by omega) (sr_linear hm (xs (i + 1).toNatClampNeg) (by omega) (fun _ _ h => h)) ⟨(LJ_room hJ hk q1 hu1 hk1).1, (LJ_room hJ hk q1 hu1 hk1).2⟩ (fun r2 w1 H1 locs1 hI hpm hS => ?_)
  refine lv_istore (lv' := (6, .int r2) :: (5, .int r1) :: [(4, .int i), (3, .ref o0), (2, .ref m0), (1, .ref x0), (0, .ref b)]) hx hb dlw_861 hl (by decide) rfl (fun ls hl => ?_)
  refine lv_goto (tgt := 1187) hx hb dlw_863 (by decide) ?_
  exact kk x1 q1 w1 H1 locs1 ls hI (LJ_next hJ hu1 hk1 hH1 hpm.1.1 (JQ_rd hj hH1 hp1 hpm)) hS (lv_tl (lv_tl hl))
set_option maxRecDepth 100000 in
set_option maxHeartbeats 4000000 in
theorem lc_21 {p : Program} {e : Env} {s : State} {m : MethodId} {args : Array Value} {below : List Frame} {meth : Method} {c : Code} {H : Heap} {locs : List Loc} {Q : State → Prop} {ls : Array Slot} {A : Nat → Prop} {G : kG} {x w : gd} {q : kP} {x0 m0 o0 b L k : Nat} {xs : Nat → Int32} {i : Int32} (C : gC (wE (kE G)) 1000 yLaw p room_1 s m args meth c A) (hX : va_X b L xs s s.heap) (hbl : b < s.heap.size) (hbA : ¬ A b) (hI : LI G A H x q w x0 m0 o0) (hJ : LJ k x q w) (hk : k < 64) (hS : va_S A s.heap H locs) (v1 : vp_in (i + 1) L) (v2 : vp_in (i + 2) L) (v3 : vp_in (i + 3) L) (hl : lv_has ls 7 [(4, .int i), (3, .ref o0), (2, .ref m0), (1, .ref x0), (0, .ref b)]) (kk : ∀ (x1 : gd) (q1 : kP) (w1 : gd) (H1 : Heap) (locs1 : List Loc) (ls1 : Array Slot), LI G A H1 x1 q1 w1 x0 m0 o0 → LJ (k + 1) x1 q1 w1 → va_S A s.heap H1 locs1 → lv_has ls1 7 [(4, .int i), (3, .ref o0), (2, .ref m0), (1, .ref x0), (0, .ref b)] → W p G.1 e room_1 s m args below meth c H1 locs1 (q1.ce + 200) (q1.sl + 960000) Q (F0 m 1187 ls1 [])) : W p G.1 e room_1 s m args below meth c H locs (q.ce + 200) (q.sl + 960000) Q (F0 m 866 ls []) := by
  have hx := C.1.1
  have hb : c.code = cL_law := C.1.2.1
  obtain ⟨hu, hH, hm, el, b1, b2⟩ := id hJ
  obtain ⟨C9, wr, n9, lm, hj⟩ := el
  have el := JH_J hj
  refine lv_aload_n hx hb dlw_866 rfl (lv_at hl 3 rfl) ?_
  refine lv_aload_n hx hb dlw_867 rfl (lv_at hl 4 rfl) ?_
  refine lv_iload hx hb dlw_868 (lv_at hl 0 rfl) ?_
  refine lv_iconst (v := 1) hx hb dlw_870 (by decide +kernel) ?_
  refine lv_iadd hx hb dlw_871 ?_
  refine va_sld hx hb hX hbl hbA hS (i := i + 1) v1 dlw_872 ?_
  refine lv_aload_n hx hb dlw_873 rfl (lv_at hl 4 rfl) ?_
  refine lv_iload hx hb dlw_874 (lv_at hl 0 rfl) ?_
  refine lv_iconst (v := 2) hx hb dlw_876 (by decide +kernel) ?_
  refine lv_iadd hx hb dlw_877 ?_
  refine va_sld hx hb hX hbl hbA hS (i := i + 2) v2 dlw_878 ?_
  refine lv_aload_n hx hb dlw_879 rfl (lv_at hl 1 rfl) ?_
  refine LI_S C hI hu hS hl.1 [vi (xs (i + 1).toNatClampNeg), vi (xs (i + 2).toNatClampNeg)] [.int (xs (i + 1).toNatClampNeg), .int (xs (i + 2).toNatClampNeg)] (fun _ => rfl) dlw_880 wcs_176 rfl (by intro h; cases h) (Nat.le_of_ble_eq_true rfl) (kw_attempt (d := 870) hj hu hH (xs (i + 1).toNatClampNeg) (xs (i + 2).toNatClampNeg)) (LJ_room hJ hk) (fun r1 x1 q1 H1 locs1 hI hu1 hk1 hH1 hp1 hS => ?_)
  refine lv_istore (lv' := (5, .int r1) :: [(4, .int i), (3, .ref o0), (2, .ref m0), (1, .ref x0), (0, .ref b)]) hx hb dlw_883 hl (by decide) rfl (fun ls hl => ?_)
  refine lv_aload_n hx hb dlw_885 rfl (lv_at hl 3 rfl) ?_
  refine lv_aload_n hx hb dlw_886 rfl (lv_at hl 5 rfl) ?_
  refine lv_iload hx hb dlw_887 (lv_at hl 1 rfl) ?_
  refine lv_iconst (v := 1) hx hb dlw_889 (by decide +kernel) ?_
  refine lv_iadd hx hb dlw_890 ?_
  refine va_sld hx hb hX hbl hbA hS (i := i + 1) v1 dlw_891 ?_
  refine lv_aload_n hx hb dlw_892 rfl (lv_at hl 5 rfl) ?_
  refine lv_iload hx hb dlw_893 (lv_at hl 1 rfl) ?_
  refine lv_iconst (v := 2) hx hb dlw_895 (by decide +kernel) ?_
  refine lv_iadd hx hb dlw_896 ?_
  refine va_sld hx hb hX hbl hbA hS (i := i + 2) v2 dlw_897 ?_
  refine LI_M C hI hS hl.1 (restv := []) (d1 := 900) (F := fun r9 w1 => ansM C9 wr (f1Bg w) (f2At w (xs (i + 1).toNatClampNeg) (xs (i + 2).toNatClampNeg)) (tAq C9 wr w (xs (i + 1).toNatClampNeg) (xs (i + 2).toNatClampNeg)) w r9 w1) [vi (xs (i + 1).toNatClampNeg), vi (xs (i + 2).toNatClampNeg)] [.int (xs (i + 1).toNatClampNeg), .int (xs (i + 2).toNatClampNeg)] (fun _ => rfl) dlw_898 wcm_178 rfl rfl (Nat.le_of_ble_eq_true rfl) (by decide) (by omega) (ma_attempt hj hH hm (xs (i + 1).toNatClampNeg) (xs (i + 2).toNatClampNeg) (by omega) (fun _ _ h1 => h1)) ⟨(LJ_room hJ hk q1 hu1 hk1).1, (LJ_room hJ hk q1 hu1 hk1).2⟩ (fun r2 w1 H1 locs1 hI hpm hS => ?_)
  have hj2 := ja_attempt hj hH1 hp1 hpm
  refine lv_istore (lv' := (6, .int r2) :: (5, .int r1) :: [(4, .int i), (3, .ref o0), (2, .ref m0), (1, .ref x0), (0, .ref b)]) hx hb dlw_901 hl (by decide) rfl (fun ls hl => ?_)
  refine lv_goto (tgt := 1187) hx hb dlw_903 (by decide) ?_
  exact kk x1 q1 w1 H1 locs1 ls hI (LJ_next hJ hu1 hk1 hH1 hpm.1 hj2.1) hS (lv_tl (lv_tl hl))
set_option maxRecDepth 100000 in
set_option maxHeartbeats 4000000 in
theorem lc_22 {p : Program} {e : Env} {s : State} {m : MethodId} {args : Array Value} {below : List Frame} {meth : Method} {c : Code} {H : Heap} {locs : List Loc} {Q : State → Prop} {ls : Array Slot} {A : Nat → Prop} {G : kG} {x w : gd} {q : kP} {x0 m0 o0 b L k : Nat} {xs : Nat → Int32} {i : Int32} (C : gC (wE (kE G)) 1000 yLaw p room_1 s m args meth c A) (hX : va_X b L xs s s.heap) (hbl : b < s.heap.size) (hbA : ¬ A b) (hI : LI G A H x q w x0 m0 o0) (hJ : LJ k x q w) (hk : k < 64) (hS : va_S A s.heap H locs) (v1 : vp_in (i + 1) L) (v2 : vp_in (i + 2) L) (v3 : vp_in (i + 3) L) (hl : lv_has ls 7 [(4, .int i), (3, .ref o0), (2, .ref m0), (1, .ref x0), (0, .ref b)]) (kk : ∀ (x1 : gd) (q1 : kP) (w1 : gd) (H1 : Heap) (locs1 : List Loc) (ls1 : Array Slot), LI G A H1 x1 q1 w1 x0 m0 o0 → LJ (k + 1) x1 q1 w1 → va_S A s.heap H1 locs1 → lv_has ls1 7 [(4, .int i), (3, .ref o0), (2, .ref m0), (1, .ref x0), (0, .ref b)] → W p G.1 e room_1 s m args below meth c H1 locs1 (q1.ce + 200) (q1.sl + 960000) Q (F0 m 1187 ls1 [])) : W p G.1 e room_1 s m args below meth c H locs (q.ce + 200) (q.sl + 960000) Q (F0 m 906 ls []) := by
  have hx := C.1.1
  have hb : c.code = cL_law := C.1.2.1
  obtain ⟨hu, hH, hm, el, b1, b2⟩ := id hJ
  obtain ⟨C9, wr, n9, lm, hj⟩ := el
  have el := JH_J hj
  refine lv_aload_n hx hb dlw_906 rfl (lv_at hl 3 rfl) ?_
  refine lv_aload_n hx hb dlw_907 rfl (lv_at hl 4 rfl) ?_
  refine lv_iload hx hb dlw_908 (lv_at hl 0 rfl) ?_
  refine lv_iconst (v := 1) hx hb dlw_910 (by decide +kernel) ?_
  refine lv_iadd hx hb dlw_911 ?_
  refine va_sld hx hb hX hbl hbA hS (i := i + 1) v1 dlw_912 ?_
  refine lv_aload_n hx hb dlw_913 rfl (lv_at hl 4 rfl) ?_
  refine lv_iload hx hb dlw_914 (lv_at hl 0 rfl) ?_
  refine lv_iconst (v := 2) hx hb dlw_916 (by decide +kernel) ?_
  refine lv_iadd hx hb dlw_917 ?_
  refine va_sld hx hb hX hbl hbA hS (i := i + 2) v2 dlw_918 ?_
  refine lv_aload_n hx hb dlw_919 rfl (lv_at hl 1 rfl) ?_
  refine LI_S C hI hu hS hl.1 [vi (xs (i + 1).toNatClampNeg), vi (xs (i + 2).toNatClampNeg)] [.int (xs (i + 1).toNatClampNeg), .int (xs (i + 2).toNatClampNeg)] (fun _ => rfl) dlw_920 wcs_179 rfl (by intro h; cases h) (Nat.le_of_ble_eq_true rfl) (kw_tried (d := 870) hj hu hH (xs (i + 1).toNatClampNeg) (xs (i + 2).toNatClampNeg)) (LJ_room hJ hk) (fun r1 x1 q1 H1 locs1 hI hu1 hk1 hH1 hp1 hS => ?_)
  refine lv_istore (lv' := (5, .int r1) :: [(4, .int i), (3, .ref o0), (2, .ref m0), (1, .ref x0), (0, .ref b)]) hx hb dlw_923 hl (by decide) rfl (fun ls hl => ?_)
  refine lv_aload_n hx hb dlw_925 rfl (lv_at hl 3 rfl) ?_
  refine lv_aload_n hx hb dlw_926 rfl (lv_at hl 5 rfl) ?_
  refine lv_iload hx hb dlw_927 (lv_at hl 1 rfl) ?_
  refine lv_iconst (v := 1) hx hb dlw_929 (by decide +kernel) ?_
  refine lv_iadd hx hb dlw_930 ?_
  refine va_sld hx hb hX hbl hbA hS (i := i + 1) v1 dlw_931 ?_
  refine lv_aload_n hx hb dlw_932 rfl (lv_at hl 5 rfl) ?_
  refine lv_iload hx hb dlw_933 (lv_at hl 1 rfl) ?_
  refine lv_iconst (v := 2) hx hb dlw_935 (by decide +kernel) ?_
  refine lv_iadd hx hb dlw_936 ?_
  refine va_sld hx hb hX hbl hbA hS (i := i + 2) v2 dlw_937 ?_
  refine LI_M C hI hS hl.1 (restv := []) (d1 := 900) (F := fun r9 w1 => ansM C9 wr (e1Tr (xs (i + 1).toNatClampNeg) (xs (i + 2).toNatClampNeg)) (e2Tr (xs (i + 1).toNatClampNeg) (xs (i + 2).toNatClampNeg)) (tTd C9 lm wr w (xs (i + 1).toNatClampNeg) (xs (i + 2).toNatClampNeg)) w r9 w1) [vi (xs (i + 1).toNatClampNeg), vi (xs (i + 2).toNatClampNeg)] [.int (xs (i + 1).toNatClampNeg), .int (xs (i + 2).toNatClampNeg)] (fun _ => rfl) dlw_938 wcm_181 rfl rfl (Nat.le_of_ble_eq_true rfl) (by decide) (by omega) (ma_tried hj hH hm (xs (i + 1).toNatClampNeg) (xs (i + 2).toNatClampNeg) (by omega) (fun _ _ h1 => h1)) ⟨(LJ_room hJ hk q1 hu1 hk1).1, (LJ_room hJ hk q1 hu1 hk1).2⟩ (fun r2 w1 H1 locs1 hI hpm hS => ?_)
  have hj2 := ja_tried hj hH1 hp1 hpm
  refine lv_istore (lv' := (6, .int r2) :: (5, .int r1) :: [(4, .int i), (3, .ref o0), (2, .ref m0), (1, .ref x0), (0, .ref b)]) hx hb dlw_941 hl (by decide) rfl (fun ls hl => ?_)
  refine lv_aload_n hx hb dlw_943 rfl (lv_at hl 4 rfl) ?_
  refine LI_M C hI hS hl.1 (restv := []) (d1 := 900) (F := fun r3 w2 => r3 = w1.1 0 0 ∧ w2 = w1) [] [] (fun _ => rfl) dlw_944 wcm_182 rfl rfl (Nat.le_of_ble_eq_true rfl) (by decide) (by omega) (sp_thrown (d := 899) ⟨rfl, rfl⟩) ⟨(LJ_room hJ hk q1 hu1 hk1).1, (LJ_room hJ hk q1 hu1 hk1).2⟩ (fun r3 w2 H2 locs2 hI2 hp3 hS2 => ?_)
  obtain ⟨h3, e2⟩ := hp3
  rw [e2] at hI2
  have hag : (r1 = 0 ∧ r3 = 0 ∧ x1.2 299 (0 : Int32).toNatClampNeg = r2.toInt64) ∨ (¬ r1 = 0 ∧ r3 = r1) := by
    rcases hj2.2 with ⟨z1, z2, z3⟩ | ⟨z1, z2⟩
    · exact Or.inl ⟨z1, h3.trans z2, z3⟩
    · exact Or.inr ⟨z1, h3.trans z2⟩
  refine lv_iload hx hb dlw_947 (lv_at hl 1 rfl) ?_
  refine lv_icmp_eq (tgt := 954) hx hb dlw_949 (by decide) (fun _ => ?_) (fun c9 => absurd (show r3 = r1 by rcases hag with h | h; exact h.2.1.trans h.1.symm; exact h.2) c9)
  refine lv_iload hx hb dlw_954 (lv_at hl 1 rfl) ?_
  refine lv_if_ne (tgt := 971) hx hb dlw_956 (by decide) (fun _ => ?_) (fun c0 => ?_)
  · skip
    refine lv_goto (tgt := 1187) hx hb dlw_971 (by decide) ?_
    exact kk x1 q1 w1 H2 locs2 ls hI2 (LJ_next hJ hu1 hk1 hH1 hpm.1 hj2.1) hS2 (lv_tl (lv_tl hl))
  · have hok := hag.resolve_right (fun h => absurd c0 h.1)
    refine lv_aload_n hx hb dlw_959 rfl (lv_at hl 3 rfl) ?_
    refine lv_iconst (v := 0) hx hb dlw_960 (by decide +kernel) ?_
    refine LI_O C hI2 dlw_961 ?_
    refine lv_iload hx hb dlw_962 (lv_at hl 0 rfl) ?_
    refine lv_i2l (v := r2.toInt64) hx hb dlw_964 rfl ?_
    refine W.lcmp hx hb dlw_965 ?_
    refine lv_if_eq (tgt := 971) hx hb dlw_966 (by decide) (fun _ => ?_) (fun c9 => absurd (by rw [hok.2.2]; exact lg_self _) c9)
    refine lv_goto (tgt := 1187) hx hb dlw_971 (by decide) ?_
    exact kk x1 q1 w1 H2 locs2 ls hI2 (LJ_next hJ hu1 hk1 hH1 hpm.1 hj2.1) hS2 (lv_tl (lv_tl hl))
set_option maxRecDepth 100000 in
set_option maxHeartbeats 4000000 in
theorem lc_23 {p : Program} {e : Env} {s : State} {m : MethodId} {args : Array Value} {below : List Frame} {meth : Method} {c : Code} {H : Heap} {locs : List Loc} {Q : State → Prop} {ls : Array Slot} {A : Nat → Prop} {G : kG} {x w : gd} {q : kP} {x0 m0 o0 b L k : Nat} {xs : Nat → Int32} {i : Int32} (C : gC (wE (kE G)) 1000 yLaw p room_1 s m args meth c A) (hX : va_X b L xs s s.heap) (hbl : b < s.heap.size) (hbA : ¬ A b) (hI : LI G A H x q w x0 m0 o0) (hJ : LJ k x q w) (hk : k < 64) (hS : va_S A s.heap H locs) (v1 : vp_in (i + 1) L) (v2 : vp_in (i + 2) L) (v3 : vp_in (i + 3) L) (hl : lv_has ls 7 [(4, .int i), (3, .ref o0), (2, .ref m0), (1, .ref x0), (0, .ref b)]) (kk : ∀ (x1 : gd) (q1 : kP) (w1 : gd) (H1 : Heap) (locs1 : List Loc) (ls1 : Array Slot), LI G A H1 x1 q1 w1 x0 m0 o0 → LJ (k + 1) x1 q1 w1 → va_S A s.heap H1 locs1 → lv_has ls1 7 [(4, .int i), (3, .ref o0), (2, .ref m0), (1, .ref x0), (0, .ref b)] → W p G.1 e room_1 s m args below meth c H1 locs1 (q1.ce + 200) (q1.sl + 960000) Q (F0 m 1187 ls1 [])) : W p G.1 e room_1 s m args below meth c H locs (q.ce + 200) (q.sl + 960000) Q (F0 m 974 ls []) := by
  have hx := C.1.1
  have hb : c.code = cL_law := C.1.2.1
  obtain ⟨hu, hH, hm, el, b1, b2⟩ := id hJ
  obtain ⟨C9, wr, n9, lm, hj⟩ := el
  have el := JH_J hj
  refine lv_aload_n hx hb dlw_974 rfl (lv_at hl 3 rfl) ?_
  refine lv_aload_n hx hb dlw_975 rfl (lv_at hl 4 rfl) ?_
  refine lv_iload hx hb dlw_976 (lv_at hl 0 rfl) ?_
  refine lv_iconst (v := 1) hx hb dlw_978 (by decide +kernel) ?_
  refine lv_iadd hx hb dlw_979 ?_
  refine va_sld hx hb hX hbl hbA hS (i := i + 1) v1 dlw_980 ?_
  refine lv_aload_n hx hb dlw_981 rfl (lv_at hl 4 rfl) ?_
  refine lv_iload hx hb dlw_982 (lv_at hl 0 rfl) ?_
  refine lv_iconst (v := 2) hx hb dlw_984 (by decide +kernel) ?_
  refine lv_iadd hx hb dlw_985 ?_
  refine va_sld hx hb hX hbl hbA hS (i := i + 2) v2 dlw_986 ?_
  refine lv_aload_n hx hb dlw_987 rfl (lv_at hl 4 rfl) ?_
  refine lv_iload hx hb dlw_988 (lv_at hl 0 rfl) ?_
  refine lv_iconst (v := 3) hx hb dlw_990 (by decide +kernel) ?_
  refine lv_iadd hx hb dlw_991 ?_
  refine va_sld hx hb hX hbl hbA hS (i := i + 3) v3 dlw_992 ?_
  refine lv_aload_n hx hb dlw_993 rfl (lv_at hl 1 rfl) ?_
  refine LI_S C hI hu hS hl.1 [vi (xs (i + 1).toNatClampNeg), vi (xs (i + 2).toNatClampNeg), vi (xs (i + 3).toNatClampNeg)] [.int (xs (i + 1).toNatClampNeg), .int (xs (i + 2).toNatClampNeg), .int (xs (i + 3).toNatClampNeg)] (fun _ => rfl) dlw_994 wcs_185 rfl (by intro h; cases h) (Nat.le_of_ble_eq_true rfl) (kw_outcome (d := 870) hu hH (xs (i + 1).toNatClampNeg) (xs (i + 2).toNatClampNeg) (xs (i + 3).toNatClampNeg)) (LJ_room hJ hk) (fun r1 x1 q1 H1 locs1 hI hu1 hk1 hH1 hp1 hS => ?_)
  refine lv_istore (lv' := (5, .int r1) :: [(4, .int i), (3, .ref o0), (2, .ref m0), (1, .ref x0), (0, .ref b)]) hx hb dlw_997 hl (by decide) rfl (fun ls hl => ?_)
  refine lv_aload_n hx hb dlw_999 rfl (lv_at hl 3 rfl) ?_
  refine lv_aload_n hx hb dlw_1000 rfl (lv_at hl 5 rfl) ?_
  refine lv_iload hx hb dlw_1001 (lv_at hl 1 rfl) ?_
  refine lv_iconst (v := 1) hx hb dlw_1003 (by decide +kernel) ?_
  refine lv_iadd hx hb dlw_1004 ?_
  refine va_sld hx hb hX hbl hbA hS (i := i + 1) v1 dlw_1005 ?_
  refine lv_aload_n hx hb dlw_1006 rfl (lv_at hl 5 rfl) ?_
  refine lv_iload hx hb dlw_1007 (lv_at hl 1 rfl) ?_
  refine lv_iconst (v := 2) hx hb dlw_1009 (by decide +kernel) ?_
  refine lv_iadd hx hb dlw_1010 ?_
  refine va_sld hx hb hX hbl hbA hS (i := i + 2) v2 dlw_1011 ?_
  refine lv_aload_n hx hb dlw_1012 rfl (lv_at hl 5 rfl) ?_
  refine lv_iload hx hb dlw_1013 (lv_at hl 1 rfl) ?_
  refine lv_iconst (v := 3) hx hb dlw_1015 (by decide +kernel) ?_
  refine lv_iadd hx hb dlw_1016 ?_
  refine va_sld hx hb hX hbl hbA hS (i := i + 3) v3 dlw_1017 ?_
  refine LI_M C hI hS hl.1 (restv := []) (d1 := 900) (F := fun _ w1 => rdM C9 wr w w1) [vi (xs (i + 1).toNatClampNeg), vi (xs (i + 2).toNatClampNeg), vi (xs (i + 3).toNatClampNeg)] [.int (xs (i + 1).toNatClampNeg), .int (xs (i + 2).toNatClampNeg), .int (xs (i + 3).toNatClampNeg)] (fun _ => rfl) dlw_1018 wcm_188 rfl rfl (Nat.le_of_ble_eq_true rfl) (by decide) (by omega) (sr_outcome hm (xs (i + 1).toNatClampNeg) (xs (i + 2).toNatClampNeg) (xs (i + 3).toNatClampNeg) (by omega) (fun _ _ h => h)) ⟨(LJ_room hJ hk q1 hu1 hk1).1, (LJ_room hJ hk q1 hu1 hk1).2⟩ (fun r2 w1 H1 locs1 hI hpm hS => ?_)
  refine lv_istore (lv' := (6, .int r2) :: (5, .int r1) :: [(4, .int i), (3, .ref o0), (2, .ref m0), (1, .ref x0), (0, .ref b)]) hx hb dlw_1021 hl (by decide) rfl (fun ls hl => ?_)
  refine lv_goto (tgt := 1187) hx hb dlw_1023 (by decide) ?_
  exact kk x1 q1 w1 H1 locs1 ls hI (LJ_next hJ hu1 hk1 hH1 hpm.1.1 (JQ_rd hj hH1 hp1 hpm)) hS (lv_tl (lv_tl hl))
set_option maxRecDepth 100000 in
set_option maxHeartbeats 4000000 in
theorem lc_24 {p : Program} {e : Env} {s : State} {m : MethodId} {args : Array Value} {below : List Frame} {meth : Method} {c : Code} {H : Heap} {locs : List Loc} {Q : State → Prop} {ls : Array Slot} {A : Nat → Prop} {G : kG} {x w : gd} {q : kP} {x0 m0 o0 b L k : Nat} {xs : Nat → Int32} {i : Int32} (C : gC (wE (kE G)) 1000 yLaw p room_1 s m args meth c A) (hX : va_X b L xs s s.heap) (hbl : b < s.heap.size) (hbA : ¬ A b) (hI : LI G A H x q w x0 m0 o0) (hJ : LJ k x q w) (hk : k < 64) (hS : va_S A s.heap H locs) (v1 : vp_in (i + 1) L) (v2 : vp_in (i + 2) L) (v3 : vp_in (i + 3) L) (hl : lv_has ls 7 [(4, .int i), (3, .ref o0), (2, .ref m0), (1, .ref x0), (0, .ref b)]) (kk : ∀ (x1 : gd) (q1 : kP) (w1 : gd) (H1 : Heap) (locs1 : List Loc) (ls1 : Array Slot), LI G A H1 x1 q1 w1 x0 m0 o0 → LJ (k + 1) x1 q1 w1 → va_S A s.heap H1 locs1 → lv_has ls1 7 [(4, .int i), (3, .ref o0), (2, .ref m0), (1, .ref x0), (0, .ref b)] → W p G.1 e room_1 s m args below meth c H1 locs1 (q1.ce + 200) (q1.sl + 960000) Q (F0 m 1187 ls1 [])) : W p G.1 e room_1 s m args below meth c H locs (q.ce + 200) (q.sl + 960000) Q (F0 m 1026 ls []) := by
  have hx := C.1.1
  have hb : c.code = cL_law := C.1.2.1
  obtain ⟨hu, hH, hm, el, b1, b2⟩ := id hJ
  obtain ⟨C9, wr, n9, lm, hj⟩ := el
  have el := JH_J hj
  refine lv_aload_n hx hb dlw_1026 rfl (lv_at hl 3 rfl) ?_
  refine lv_aload_n hx hb dlw_1027 rfl (lv_at hl 4 rfl) ?_
  refine lv_iload hx hb dlw_1028 (lv_at hl 0 rfl) ?_
  refine lv_iconst (v := 1) hx hb dlw_1030 (by decide +kernel) ?_
  refine lv_iadd hx hb dlw_1031 ?_
  refine va_sld hx hb hX hbl hbA hS (i := i + 1) v1 dlw_1032 ?_
  refine lv_aload_n hx hb dlw_1033 rfl (lv_at hl 4 rfl) ?_
  refine lv_iload hx hb dlw_1034 (lv_at hl 0 rfl) ?_
  refine lv_iconst (v := 2) hx hb dlw_1036 (by decide +kernel) ?_
  refine lv_iadd hx hb dlw_1037 ?_
  refine va_sld hx hb hX hbl hbA hS (i := i + 2) v2 dlw_1038 ?_
  refine lv_aload_n hx hb dlw_1039 rfl (lv_at hl 1 rfl) ?_
  refine LI_S C hI hu hS hl.1 [vi (xs (i + 1).toNatClampNeg), vi (xs (i + 2).toNatClampNeg)] [.int (xs (i + 1).toNatClampNeg), .int (xs (i + 2).toNatClampNeg)] (fun _ => rfl) dlw_1040 wcs_189 rfl (by intro h; cases h) (Nat.le_of_ble_eq_true rfl) (kw_finding (d := 870) hj hu hH (xs (i + 1).toNatClampNeg) (xs (i + 2).toNatClampNeg)) (LJ_room hJ hk) (fun r1 x1 q1 H1 locs1 hI hu1 hk1 hH1 hp1 hS => ?_)
  refine lv_istore (lv' := (5, .int r1) :: [(4, .int i), (3, .ref o0), (2, .ref m0), (1, .ref x0), (0, .ref b)]) hx hb dlw_1043 hl (by decide) rfl (fun ls hl => ?_)
  refine lv_aload_n hx hb dlw_1045 rfl (lv_at hl 3 rfl) ?_
  refine lv_aload_n hx hb dlw_1046 rfl (lv_at hl 5 rfl) ?_
  refine lv_iload hx hb dlw_1047 (lv_at hl 1 rfl) ?_
  refine lv_iconst (v := 1) hx hb dlw_1049 (by decide +kernel) ?_
  refine lv_iadd hx hb dlw_1050 ?_
  refine va_sld hx hb hX hbl hbA hS (i := i + 1) v1 dlw_1051 ?_
  refine lv_aload_n hx hb dlw_1052 rfl (lv_at hl 5 rfl) ?_
  refine lv_iload hx hb dlw_1053 (lv_at hl 1 rfl) ?_
  refine lv_iconst (v := 2) hx hb dlw_1055 (by decide +kernel) ?_
  refine lv_iadd hx hb dlw_1056 ?_
  refine va_sld hx hb hX hbl hbA hS (i := i + 2) v2 dlw_1057 ?_
  refine LI_M C hI hS hl.1 (restv := []) (d1 := 900) (F := fun r9 w1 => ansM C9 wr (e1Sh (xs (i + 1).toNatClampNeg) (xs (i + 2).toNatClampNeg)) (False) (tFi C9 lm wr w (xs (i + 1).toNatClampNeg) (xs (i + 2).toNatClampNeg)) w r9 w1) [vi (xs (i + 1).toNatClampNeg), vi (xs (i + 2).toNatClampNeg)] [.int (xs (i + 1).toNatClampNeg), .int (xs (i + 2).toNatClampNeg)] (fun _ => rfl) dlw_1058 wcm_191 rfl rfl (Nat.le_of_ble_eq_true rfl) (by decide) (by omega) (ma_finding hj hH hm (xs (i + 1).toNatClampNeg) (xs (i + 2).toNatClampNeg) (by omega) (fun _ _ h1 => h1)) ⟨(LJ_room hJ hk q1 hu1 hk1).1, (LJ_room hJ hk q1 hu1 hk1).2⟩ (fun r2 w1 H1 locs1 hI hpm hS => ?_)
  have hj2 := ja_finding hj hH1 hp1 hpm
  refine lv_istore (lv' := (6, .int r2) :: (5, .int r1) :: [(4, .int i), (3, .ref o0), (2, .ref m0), (1, .ref x0), (0, .ref b)]) hx hb dlw_1061 hl (by decide) rfl (fun ls hl => ?_)
  refine lv_goto (tgt := 1187) hx hb dlw_1063 (by decide) ?_
  exact kk x1 q1 w1 H1 locs1 ls hI (LJ_next hJ hu1 hk1 hH1 hpm.1 hj2.1) hS (lv_tl (lv_tl hl))
set_option maxRecDepth 100000 in
set_option maxHeartbeats 4000000 in
theorem lc_25 {p : Program} {e : Env} {s : State} {m : MethodId} {args : Array Value} {below : List Frame} {meth : Method} {c : Code} {H : Heap} {locs : List Loc} {Q : State → Prop} {ls : Array Slot} {A : Nat → Prop} {G : kG} {x w : gd} {q : kP} {x0 m0 o0 b L k : Nat} {xs : Nat → Int32} {i : Int32} (C : gC (wE (kE G)) 1000 yLaw p room_1 s m args meth c A) (hX : va_X b L xs s s.heap) (hbl : b < s.heap.size) (hbA : ¬ A b) (hI : LI G A H x q w x0 m0 o0) (hJ : LJ k x q w) (hk : k < 64) (hS : va_S A s.heap H locs) (v1 : vp_in (i + 1) L) (v2 : vp_in (i + 2) L) (v3 : vp_in (i + 3) L) (hl : lv_has ls 7 [(4, .int i), (3, .ref o0), (2, .ref m0), (1, .ref x0), (0, .ref b)]) (kk : ∀ (x1 : gd) (q1 : kP) (w1 : gd) (H1 : Heap) (locs1 : List Loc) (ls1 : Array Slot), LI G A H1 x1 q1 w1 x0 m0 o0 → LJ (k + 1) x1 q1 w1 → va_S A s.heap H1 locs1 → lv_has ls1 7 [(4, .int i), (3, .ref o0), (2, .ref m0), (1, .ref x0), (0, .ref b)] → W p G.1 e room_1 s m args below meth c H1 locs1 (q1.ce + 200) (q1.sl + 960000) Q (F0 m 1187 ls1 [])) : W p G.1 e room_1 s m args below meth c H locs (q.ce + 200) (q.sl + 960000) Q (F0 m 1066 ls []) := by
  have hx := C.1.1
  have hb : c.code = cL_law := C.1.2.1
  obtain ⟨hu, hH, hm, el, b1, b2⟩ := id hJ
  obtain ⟨C9, wr, n9, lm, hj⟩ := el
  have el := JH_J hj
  refine lv_aload_n hx hb dlw_1066 rfl (lv_at hl 3 rfl) ?_
  refine lv_aload_n hx hb dlw_1067 rfl (lv_at hl 4 rfl) ?_
  refine lv_iload hx hb dlw_1068 (lv_at hl 0 rfl) ?_
  refine lv_iconst (v := 1) hx hb dlw_1070 (by decide +kernel) ?_
  refine lv_iadd hx hb dlw_1071 ?_
  refine va_sld hx hb hX hbl hbA hS (i := i + 1) v1 dlw_1072 ?_
  refine lv_aload_n hx hb dlw_1073 rfl (lv_at hl 4 rfl) ?_
  refine lv_iload hx hb dlw_1074 (lv_at hl 0 rfl) ?_
  refine lv_iconst (v := 2) hx hb dlw_1076 (by decide +kernel) ?_
  refine lv_iadd hx hb dlw_1077 ?_
  refine va_sld hx hb hX hbl hbA hS (i := i + 2) v2 dlw_1078 ?_
  refine lv_aload_n hx hb dlw_1079 rfl (lv_at hl 1 rfl) ?_
  refine LI_S C hI hu hS hl.1 [vi (xs (i + 1).toNatClampNeg), vi (xs (i + 2).toNatClampNeg)] [.int (xs (i + 1).toNatClampNeg), .int (xs (i + 2).toNatClampNeg)] (fun _ => rfl) dlw_1080 wcs_192 rfl (by intro h; cases h) (Nat.le_of_ble_eq_true rfl) (kw_show (d := 870) hj hu hH (xs (i + 1).toNatClampNeg) (xs (i + 2).toNatClampNeg)) (LJ_room hJ hk) (fun r1 x1 q1 H1 locs1 hI hu1 hk1 hH1 hp1 hS => ?_)
  refine lv_istore (lv' := (5, .int r1) :: [(4, .int i), (3, .ref o0), (2, .ref m0), (1, .ref x0), (0, .ref b)]) hx hb dlw_1083 hl (by decide) rfl (fun ls hl => ?_)
  refine lv_aload_n hx hb dlw_1085 rfl (lv_at hl 3 rfl) ?_
  refine lv_aload_n hx hb dlw_1086 rfl (lv_at hl 5 rfl) ?_
  refine lv_iload hx hb dlw_1087 (lv_at hl 1 rfl) ?_
  refine lv_iconst (v := 1) hx hb dlw_1089 (by decide +kernel) ?_
  refine lv_iadd hx hb dlw_1090 ?_
  refine va_sld hx hb hX hbl hbA hS (i := i + 1) v1 dlw_1091 ?_
  refine lv_aload_n hx hb dlw_1092 rfl (lv_at hl 5 rfl) ?_
  refine lv_iload hx hb dlw_1093 (lv_at hl 1 rfl) ?_
  refine lv_iconst (v := 2) hx hb dlw_1095 (by decide +kernel) ?_
  refine lv_iadd hx hb dlw_1096 ?_
  refine va_sld hx hb hX hbl hbA hS (i := i + 2) v2 dlw_1097 ?_
  refine LI_M C hI hS hl.1 (restv := []) (d1 := 900) (F := fun r9 w1 => ansM C9 wr (e1Sh (xs (i + 1).toNatClampNeg) (xs (i + 2).toNatClampNeg)) (f2Sh C9 lm w (xs (i + 1).toNatClampNeg) (xs (i + 2).toNatClampNeg)) (tSh C9 lm w (xs (i + 1).toNatClampNeg) (xs (i + 2).toNatClampNeg)) w r9 w1) [vi (xs (i + 1).toNatClampNeg), vi (xs (i + 2).toNatClampNeg)] [.int (xs (i + 1).toNatClampNeg), .int (xs (i + 2).toNatClampNeg)] (fun _ => rfl) dlw_1098 wcm_194 rfl rfl (Nat.le_of_ble_eq_true rfl) (by decide) (by omega) (ma_show hj hH hm (xs (i + 1).toNatClampNeg) (xs (i + 2).toNatClampNeg) (by omega) (fun _ _ h1 => h1)) ⟨(LJ_room hJ hk q1 hu1 hk1).1, (LJ_room hJ hk q1 hu1 hk1).2⟩ (fun r2 w1 H1 locs1 hI hpm hS => ?_)
  have hj2 := ja_show hj hH1 hp1 hpm
  refine lv_istore (lv' := (6, .int r2) :: (5, .int r1) :: [(4, .int i), (3, .ref o0), (2, .ref m0), (1, .ref x0), (0, .ref b)]) hx hb dlw_1101 hl (by decide) rfl (fun ls hl => ?_)
  refine lv_goto (tgt := 1187) hx hb dlw_1103 (by decide) ?_
  exact kk x1 q1 w1 H1 locs1 ls hI (LJ_next hJ hu1 hk1 hH1 hpm.1 hj2.1) hS (lv_tl (lv_tl hl))
set_option maxRecDepth 100000 in
set_option maxHeartbeats 4000000 in
theorem lc_26 {p : Program} {e : Env} {s : State} {m : MethodId} {args : Array Value} {below : List Frame} {meth : Method} {c : Code} {H : Heap} {locs : List Loc} {Q : State → Prop} {ls : Array Slot} {A : Nat → Prop} {G : kG} {x w : gd} {q : kP} {x0 m0 o0 b L k : Nat} {xs : Nat → Int32} {i : Int32} (C : gC (wE (kE G)) 1000 yLaw p room_1 s m args meth c A) (hX : va_X b L xs s s.heap) (hbl : b < s.heap.size) (hbA : ¬ A b) (hI : LI G A H x q w x0 m0 o0) (hJ : LJ k x q w) (hk : k < 64) (hS : va_S A s.heap H locs) (v1 : vp_in (i + 1) L) (v2 : vp_in (i + 2) L) (v3 : vp_in (i + 3) L) (hl : lv_has ls 7 [(4, .int i), (3, .ref o0), (2, .ref m0), (1, .ref x0), (0, .ref b)]) (kk : ∀ (x1 : gd) (q1 : kP) (w1 : gd) (H1 : Heap) (locs1 : List Loc) (ls1 : Array Slot), LI G A H1 x1 q1 w1 x0 m0 o0 → LJ (k + 1) x1 q1 w1 → va_S A s.heap H1 locs1 → lv_has ls1 7 [(4, .int i), (3, .ref o0), (2, .ref m0), (1, .ref x0), (0, .ref b)] → W p G.1 e room_1 s m args below meth c H1 locs1 (q1.ce + 200) (q1.sl + 960000) Q (F0 m 1187 ls1 [])) : W p G.1 e room_1 s m args below meth c H locs (q.ce + 200) (q.sl + 960000) Q (F0 m 1106 ls []) := by
  have hx := C.1.1
  have hb : c.code = cL_law := C.1.2.1
  obtain ⟨hu, hH, hm, el, b1, b2⟩ := id hJ
  obtain ⟨C9, wr, n9, lm, hj⟩ := el
  have el := JH_J hj
  refine lv_aload_n hx hb dlw_1106 rfl (lv_at hl 3 rfl) ?_
  refine lv_aload_n hx hb dlw_1107 rfl (lv_at hl 4 rfl) ?_
  refine lv_iload hx hb dlw_1108 (lv_at hl 0 rfl) ?_
  refine lv_iconst (v := 1) hx hb dlw_1110 (by decide +kernel) ?_
  refine lv_iadd hx hb dlw_1111 ?_
  refine va_sld hx hb hX hbl hbA hS (i := i + 1) v1 dlw_1112 ?_
  refine lv_aload_n hx hb dlw_1113 rfl (lv_at hl 4 rfl) ?_
  refine lv_iload hx hb dlw_1114 (lv_at hl 0 rfl) ?_
  refine lv_iconst (v := 2) hx hb dlw_1116 (by decide +kernel) ?_
  refine lv_iadd hx hb dlw_1117 ?_
  refine va_sld hx hb hX hbl hbA hS (i := i + 2) v2 dlw_1118 ?_
  refine lv_aload_n hx hb dlw_1119 rfl (lv_at hl 1 rfl) ?_
  refine LI_S C hI hu hS hl.1 [vi (xs (i + 1).toNatClampNeg), vi (xs (i + 2).toNatClampNeg)] [.int (xs (i + 1).toNatClampNeg), .int (xs (i + 2).toNatClampNeg)] (fun _ => rfl) dlw_1120 wcs_195 rfl (by intro h; cases h) (Nat.le_of_ble_eq_true rfl) (kw_common (d := 870) hj hu hH (xs (i + 1).toNatClampNeg) (xs (i + 2).toNatClampNeg)) (LJ_room hJ hk) (fun r1 x1 q1 H1 locs1 hI hu1 hk1 hH1 hp1 hS => ?_)
  refine lv_istore (lv' := (5, .int r1) :: [(4, .int i), (3, .ref o0), (2, .ref m0), (1, .ref x0), (0, .ref b)]) hx hb dlw_1123 hl (by decide) rfl (fun ls hl => ?_)
  refine lv_aload_n hx hb dlw_1125 rfl (lv_at hl 3 rfl) ?_
  refine lv_aload_n hx hb dlw_1126 rfl (lv_at hl 5 rfl) ?_
  refine lv_iload hx hb dlw_1127 (lv_at hl 1 rfl) ?_
  refine lv_iconst (v := 1) hx hb dlw_1129 (by decide +kernel) ?_
  refine lv_iadd hx hb dlw_1130 ?_
  refine va_sld hx hb hX hbl hbA hS (i := i + 1) v1 dlw_1131 ?_
  refine lv_aload_n hx hb dlw_1132 rfl (lv_at hl 5 rfl) ?_
  refine lv_iload hx hb dlw_1133 (lv_at hl 1 rfl) ?_
  refine lv_iconst (v := 2) hx hb dlw_1135 (by decide +kernel) ?_
  refine lv_iadd hx hb dlw_1136 ?_
  refine va_sld hx hb hX hbl hbA hS (i := i + 2) v2 dlw_1137 ?_
  refine LI_M C hI hS hl.1 (restv := []) (d1 := 900) (F := fun r9 w1 => ansM C9 wr (e1Tr (xs (i + 1).toNatClampNeg) (xs (i + 2).toNatClampNeg)) (f2Co w (xs (i + 1).toNatClampNeg) (xs (i + 2).toNatClampNeg)) (tCo C9 lm wr w (xs (i + 1).toNatClampNeg) (xs (i + 2).toNatClampNeg)) w r9 w1) [vi (xs (i + 1).toNatClampNeg), vi (xs (i + 2).toNatClampNeg)] [.int (xs (i + 1).toNatClampNeg), .int (xs (i + 2).toNatClampNeg)] (fun _ => rfl) dlw_1138 wcm_197 rfl rfl (Nat.le_of_ble_eq_true rfl) (by decide) (by omega) (ma_common hj hH hm (xs (i + 1).toNatClampNeg) (xs (i + 2).toNatClampNeg) (by omega) (fun _ _ h1 => h1)) ⟨(LJ_room hJ hk q1 hu1 hk1).1, (LJ_room hJ hk q1 hu1 hk1).2⟩ (fun r2 w1 H1 locs1 hI hpm hS => ?_)
  have hj2 := ja_common hj hH1 hp1 hpm
  refine lv_istore (lv' := (6, .int r2) :: (5, .int r1) :: [(4, .int i), (3, .ref o0), (2, .ref m0), (1, .ref x0), (0, .ref b)]) hx hb dlw_1141 hl (by decide) rfl (fun ls hl => ?_)
  refine lv_goto (tgt := 1187) hx hb dlw_1143 (by decide) ?_
  exact kk x1 q1 w1 H1 locs1 ls hI (LJ_next hJ hu1 hk1 hH1 hpm.1 hj2.1) hS (lv_tl (lv_tl hl))
set_option maxRecDepth 100000 in
set_option maxHeartbeats 4000000 in
theorem lc_27 {p : Program} {e : Env} {s : State} {m : MethodId} {args : Array Value} {below : List Frame} {meth : Method} {c : Code} {H : Heap} {locs : List Loc} {Q : State → Prop} {ls : Array Slot} {A : Nat → Prop} {G : kG} {x w : gd} {q : kP} {x0 m0 o0 b L k : Nat} {xs : Nat → Int32} {i : Int32} (C : gC (wE (kE G)) 1000 yLaw p room_1 s m args meth c A) (hX : va_X b L xs s s.heap) (hbl : b < s.heap.size) (hbA : ¬ A b) (hI : LI G A H x q w x0 m0 o0) (hJ : LJ k x q w) (hk : k < 64) (hS : va_S A s.heap H locs) (v1 : vp_in (i + 1) L) (v2 : vp_in (i + 2) L) (v3 : vp_in (i + 3) L) (hl : lv_has ls 7 [(4, .int i), (3, .ref o0), (2, .ref m0), (1, .ref x0), (0, .ref b)]) (kk : ∀ (x1 : gd) (q1 : kP) (w1 : gd) (H1 : Heap) (locs1 : List Loc) (ls1 : Array Slot), LI G A H1 x1 q1 w1 x0 m0 o0 → LJ (k + 1) x1 q1 w1 → va_S A s.heap H1 locs1 → lv_has ls1 7 [(4, .int i), (3, .ref o0), (2, .ref m0), (1, .ref x0), (0, .ref b)] → W p G.1 e room_1 s m args below meth c H1 locs1 (q1.ce + 200) (q1.sl + 960000) Q (F0 m 1187 ls1 [])) : W p G.1 e room_1 s m args below meth c H locs (q.ce + 200) (q.sl + 960000) Q (F0 m 1146 ls []) := by
  have hx := C.1.1
  have hb : c.code = cL_law := C.1.2.1
  obtain ⟨hu, hH, hm, el, b1, b2⟩ := id hJ
  obtain ⟨C9, wr, n9, lm, hj⟩ := el
  have el := JH_J hj
  refine lv_aload_n hx hb dlw_1146 rfl (lv_at hl 3 rfl) ?_
  refine lv_aload_n hx hb dlw_1147 rfl (lv_at hl 4 rfl) ?_
  refine lv_iload hx hb dlw_1148 (lv_at hl 0 rfl) ?_
  refine lv_iconst (v := 1) hx hb dlw_1150 (by decide +kernel) ?_
  refine lv_iadd hx hb dlw_1151 ?_
  refine va_sld hx hb hX hbl hbA hS (i := i + 1) v1 dlw_1152 ?_
  refine lv_aload_n hx hb dlw_1153 rfl (lv_at hl 1 rfl) ?_
  refine LI_S C hI hu hS hl.1 [vi (xs (i + 1).toNatClampNeg)] [.int (xs (i + 1).toNatClampNeg)] (fun _ => rfl) dlw_1154 wcs_198 rfl (by intro h; cases h) (Nat.le_of_ble_eq_true rfl) (kw_ring (d := 870) hj hu hH (xs (i + 1).toNatClampNeg)) (LJ_room hJ hk) (fun r1 x1 q1 H1 locs1 hI hu1 hk1 hH1 hp1 hS => ?_)
  refine lv_istore (lv' := (5, .int r1) :: [(4, .int i), (3, .ref o0), (2, .ref m0), (1, .ref x0), (0, .ref b)]) hx hb dlw_1157 hl (by decide) rfl (fun ls hl => ?_)
  refine lv_aload_n hx hb dlw_1159 rfl (lv_at hl 3 rfl) ?_
  refine lv_aload_n hx hb dlw_1160 rfl (lv_at hl 5 rfl) ?_
  refine lv_iload hx hb dlw_1161 (lv_at hl 1 rfl) ?_
  refine lv_iconst (v := 1) hx hb dlw_1163 (by decide +kernel) ?_
  refine lv_iadd hx hb dlw_1164 ?_
  refine va_sld hx hb hX hbl hbA hS (i := i + 1) v1 dlw_1165 ?_
  refine LI_M C hI hS hl.1 (restv := []) (d1 := 900) (F := fun r9 w1 => ansM C9 wr (e1Rg (xs (i + 1).toNatClampNeg)) (False) (tRg C9 lm wr w (xs (i + 1).toNatClampNeg)) w r9 w1) [vi (xs (i + 1).toNatClampNeg)] [.int (xs (i + 1).toNatClampNeg)] (fun _ => rfl) dlw_1166 wcm_200 rfl rfl (Nat.le_of_ble_eq_true rfl) (by decide) (by omega) (ma_ring hj hH hm (xs (i + 1).toNatClampNeg) (by omega) (fun _ _ h1 => h1)) ⟨(LJ_room hJ hk q1 hu1 hk1).1, (LJ_room hJ hk q1 hu1 hk1).2⟩ (fun r2 w1 H1 locs1 hI hpm hS => ?_)
  have hj2 := ja_ring hj hH1 hp1 hpm
  refine lv_istore (lv' := (6, .int r2) :: (5, .int r1) :: [(4, .int i), (3, .ref o0), (2, .ref m0), (1, .ref x0), (0, .ref b)]) hx hb dlw_1169 hl (by decide) rfl (fun ls hl => ?_)
  refine lv_goto (tgt := 1187) hx hb dlw_1171 (by decide) ?_
  exact kk x1 q1 w1 H1 locs1 ls hI (LJ_next hJ hu1 hk1 hH1 hpm.1 hj2.1) hS (lv_tl (lv_tl hl))
set_option maxRecDepth 100000 in
set_option maxHeartbeats 4000000 in
theorem lc_28 {p : Program} {e : Env} {s : State} {m : MethodId} {args : Array Value} {below : List Frame} {meth : Method} {c : Code} {H : Heap} {locs : List Loc} {Q : State → Prop} {ls : Array Slot} {A : Nat → Prop} {G : kG} {x w : gd} {q : kP} {x0 m0 o0 b L k : Nat} {xs : Nat → Int32} {i : Int32} (C : gC (wE (kE G)) 1000 yLaw p room_1 s m args meth c A) (hX : va_X b L xs s s.heap) (hbl : b < s.heap.size) (hbA : ¬ A b) (hI : LI G A H x q w x0 m0 o0) (hJ : LJ k x q w) (hk : k < 64) (hS : va_S A s.heap H locs) (v1 : vp_in (i + 1) L) (v2 : vp_in (i + 2) L) (v3 : vp_in (i + 3) L) (hl : lv_has ls 7 [(4, .int i), (3, .ref o0), (2, .ref m0), (1, .ref x0), (0, .ref b)]) (kk : ∀ (x1 : gd) (q1 : kP) (w1 : gd) (H1 : Heap) (locs1 : List Loc) (ls1 : Array Slot), LI G A H1 x1 q1 w1 x0 m0 o0 → LJ (k + 1) x1 q1 w1 → va_S A s.heap H1 locs1 → lv_has ls1 7 [(4, .int i), (3, .ref o0), (2, .ref m0), (1, .ref x0), (0, .ref b)] → W p G.1 e room_1 s m args below meth c H1 locs1 (q1.ce + 200) (q1.sl + 960000) Q (F0 m 1187 ls1 [])) : W p G.1 e room_1 s m args below meth c H locs (q.ce + 200) (q.sl + 960000) Q (F0 m 1174 ls []) := by
  have hx := C.1.1
  have hb : c.code = cL_law := C.1.2.1
  obtain ⟨hu, hH, hm, el, b1, b2⟩ := id hJ
  obtain ⟨C9, wr, n9, lm, hj⟩ := el
  have el := JH_J hj
  refine lv_aload_n hx hb dlw_1174 rfl (lv_at hl 3 rfl) ?_
  refine LI_K C hI hu hS hl.1 (restv := []) (P := fun _ y9 _ => KRd x y9) dlw_1175 wcv_201 rfl (Nat.le_of_ble_eq_true rfl) (by decide) (T_mono (kr_alike (d := 898) hu.1 hH (P := fun v9 y9 => ∃ r, v9 = some (vi r) ∧ HOI y9 q ∧ KRd x y9) (fun r y9 h1 h2 => ⟨r, rfl, h1, h2⟩)) (fun o9 x9 f9 w9 => by obtain ⟨rfl, v, rfl, r, rfl, h1, h2⟩ := w9; exact ⟨r, q, rfl, rfl, hu, kst_rf q, h1, h2⟩)) (LJ_room hJ hk) (fun r1 x1 x2 q1 H1 locs1 hI hu1 hk1 hH1 hp1 ex hS => ?_)
  refine lv_pop hx hb dlw_1178 rfl ?_
  refine lv_aload_n hx hb dlw_1179 rfl (lv_at hl 2 rfl) ?_
  refine LI_M C hI hS hl.1 (restv := []) (d1 := 900) (F := fun _ w1 => rdM C9 wr w w1) [] [] (fun _ => rfl) dlw_1180 wcm_204 rfl rfl (Nat.le_of_ble_eq_true rfl) (by decide) (by omega) (sr_alike hm (fun _ _ h => h)) ⟨(LJ_room hJ hk q1 hu1 hk1).1, (LJ_room hJ hk q1 hu1 hk1).2⟩ (fun r2 w1 H1 locs1 hI hpm hS => ?_)
  refine lv_pop hx hb dlw_1183 rfl ?_
  refine lv_goto (tgt := 1187) hx hb dlw_1184 (by decide) ?_
  exact kk x1 q1 w1 H1 locs1 ls hI (LJ_next hJ hu1 hk1 hH1 hpm.1.1 (JR3_x ex (JQ_rd hj (HOI_1 ex.symm hu1 hH1) hp1 hpm))) hS hl
end
section
/-! THE CLAIM OUT OF ONE WALK OF THE LAW'S BODY. Your part is whole_start (and what it stands on); all else here is the same for every law, but numbers. -/
def R_law : String := "ScheduleHouseLaw"
def lw_P (b : Addr) (xs : List Int32) (args : Array Value) (s : State) : Prop := args = #[.ref b] ∧ s.IntsAt b xs ∧ xs.length ≤ 256 ∧ (Jvm.Cond.and given_1 narrow_1).before args s = true
def lw_Q (_ : Array Value) (s : State) (o : Outcome) (t : State) : Prop := o = .returned (some (.int 1)) ∧ Framed s o t [] 408892 7874804
def lw_Z (below : List Frame) (a : Array Value) (s : State) : State → Prop := fun t => ∃ o, t.status = .running ∧ Ended t below o ∧ lw_Q a s o t
/-- the law's own end, with 1 on the stack, nothing written that was there before, its room as the claim has it -/
theorem lw_ret {p : Program} {l : Launch} {e : Env} {s : State} {m : MethodId} {below : List Frame} {meth : Method} {c : Code} {b : Nat} (hx : p.tables.exec = Jvm.exec) (hb : c.code = code) (hr : meth.sig.returnType = ret) (hlocks : meth.locks = false) {pc : Nat} {H : Heap} {ls : Array Slot} (hdg : decode code pc = .ok (.ireturn, 1)) : W p l e room_1 s m #[Value.ref b] below meth c H [] 408892 7874804 (lw_Z below #[Value.ref b] s) (F0 m pc ls [.int 1]) := by
  intro T hT X
  obtain ⟨fs, hret, hrun, hended, hW, hframe⟩ := X.leave (v := some (.int 1)) (hlocks := hlocks) (fun h => by rw [hr] at h; cases h)
  have hmeth' : T.vm.method? m = some meth := X.method'
  refine ⟨T.setFrames fs, ?_, .returned (some (.int 1)), hrun, hended, rfl, ⟨_, rfl⟩, hW, hframe⟩
  jvm_step X.here [X.here.top, hx, hb, hdg, hmeth', hr, ret, narrow_b1]
  (try refine ⟨rfl, ?_⟩); (try refine ⟨rfl, ?_⟩)
  first | (intro acts; rw [hret _ acts rfl rfl rfl]) | rw [hret _ _ rfl rfl rfl]
  exact Steps.refl _
/-- what holds at the law's entry: the machine, the code, the tables' words (any of lw_tbl by 'hts w (by decide +kernel)'), the script of L ints xs at the cell b, what the Statement gives of the start (any of its parts by flat_of_before) -/
def lw_At (p : Program) (s : State) (m : MethodId) (meth : Method) (c : Code) (b L : Nat) (xs : Nat → Int32) : Prop :=
  p.tables.exec = Jvm.exec ∧ c.code = code ∧ meth.sig.returnType = ret ∧ c.maxLocals = 7 ∧ s.vm.findClass R_law = some m.cls ∧ (∀ w ∈ lw_tbl, w.before #[Value.ref b] s = true) ∧ va_X b L xs s s.heap ∧ b < s.heap.size ∧ meth.locks = false ∧ (Jvm.Cond.and given_1 narrow_1).before #[Value.ref b] s = true
theorem t_and31 (a : Int32) : 0 ≤ (a &&& 31).toInt ∧ (a &&& 31).toInt < 32 := by
  have h : (a &&& 31).toBitVec.toNat ≤ 31 := by
    rw [Int32.toBitVec_and, BitVec.toNat_and]
    exact Nat.and_le_right
  have e : (a &&& 31).toInt = ((a &&& 31).toBitVec.toNat : Int) := by
    show (a &&& 31).toBitVec.toInt = _
    exact BitVec.toInt_eq_toNat_of_lt (by omega)
  omega
theorem LJ_up {k : Nat} {x w : gd} {q : kP} (hJ : LJ k x q w) : LJ (k + 1) x q w := LJ_next hJ hJ.1 (kst_rf q) hJ.2.1 hJ.2.2.1 hJ.2.2.2.1
theorem LJ_rE {k : Nat} {x w : gd} {q : kP} (hJ : LJ k x q w) (hk : k ≤ 64) : q.ce + 200 ≤ 408892 ∧ q.sl + 960000 ≤ 7874804 := by
  have a1 := wC_b hJ.1
  have a2 := wS_b hJ.1
  have b1 := hJ.2.2.2.2.1
  have b2 := hJ.2.2.2.2.2
  omega
set_option maxRecDepth 100000 in
set_option maxHeartbeats 4000000 in
theorem law_loop {p : Program} {e : Env} {s : State} {m : MethodId} {below : List Frame} {meth : Method} {c : Code} {A : Nat → Prop} {G : kG} {x0 m0 o0 b L : Nat} {xs : Nat → Int32} (C : gC (wE (kE G)) 1000 yLaw p room_1 s m #[Value.ref b] meth c A) (hA : A = fun q : Nat => s.heap.size ≤ q) (hX : va_X b L xs s s.heap) (hbl : b < s.heap.size) (hbA : ¬ A b) (hL : L ≤ 256) :
    ∀ (n k : Nat) (i : Int32) (x : gd) (q : kP) (w : gd) (H : Heap) (locs : List Loc) (ls : Array Slot), k + n = 64 → i.toInt = 4 * k → LI G A H x q w x0 m0 o0 → LJ k x q w → va_S A s.heap H locs → lv_has ls 7 [(4, .int i), (3, .ref o0), (2, .ref m0), (1, .ref x0), (0, .ref b)] → W p G.1 e room_1 s m #[Value.ref b] below meth c H locs (q.ce + 200) (q.sl + 960000) (lw_Z below #[Value.ref b] s) (F0 m 23 ls []) := by
  have hx := C.1.1
  have hb : c.code = cL_law := C.1.2.1
  have k4 : (4 : Int32).toInt = 4 := rfl
  have eL : (Int32.ofNat L).toInt = L := by
    rw [Int32.toInt_ofNat_of_lt (by omega)]
  have e4 : (Int32.ofNat L - 4).toInt = L - 4 := by rw [t_sub (by rw [eL, k4]; omega) (by rw [eL, k4]; omega), eL, k4]
  intro n
  induction n with
  | zero =>
    intro k i x q w H locs ls hkn ei hI hJ hS hl
    refine lv_iload hx hb dlw_23 (lv_at hl 0 rfl) ?_
    refine lv_aload_n hx hb dlw_25 rfl (lv_at hl 4 rfl) ?_
    refine va_slen hx hb hX hbl hbA hS dlw_26 ?_
    refine lv_iconst (v := 4) hx hb dlw_27 (by decide +kernel) ?_
    refine lv_isub hx hb dlw_28 ?_
    refine lv_icmp_gt (tgt := 1193) hx hb dlw_29 (by decide) (fun _ => ?_) (fun c9 => absurd (show Int32.ofNat L - 4 < i by rw [t_lt, e4, ei]; omega) c9)
    refine lv_iconst (v := 1) hx hb dlw_1193 (by decide +kernel) ?_
    subst hA
    refine va_forget (fun q hq => hS.2.2 q hq) ?_
    have hr := LJ_rE hJ (by omega)
    refine W.widen (k := 408892) (n := 7874804) hr.1 hr.2 ?_
    exact lw_ret hx hb C.2.1.1 C.2.1.2.1 dlw_1194
  | succ n ih =>
    intro k i x q w H locs ls hkn ei hI hJ hS hl
    have hk : k < 64 := by omega
    refine lv_iload hx hb dlw_23 (lv_at hl 0 rfl) ?_
    refine lv_aload_n hx hb dlw_25 rfl (lv_at hl 4 rfl) ?_
    refine va_slen hx hb hX hbl hbA hS dlw_26 ?_
    refine lv_iconst (v := 4) hx hb dlw_27 (by decide +kernel) ?_
    refine lv_isub hx hb dlw_28 ?_
    refine lv_icmp_gt (tgt := 1193) hx hb dlw_29 (by decide) (fun _ => ?_) (fun c9 => ?_)
    · refine lv_iconst (v := 1) hx hb dlw_1193 (by decide +kernel) ?_
      subst hA
      refine va_forget (fun q hq => hS.2.2 q hq) ?_
      have hr := LJ_rE hJ (by omega)
      refine W.widen (k := 408892) (n := 7874804) hr.1 hr.2 ?_
      exact lw_ret hx hb C.2.1.1 C.2.1.2.1 dlw_1194
    rw [t_lt, e4, ei] at c9
    have ik : ∀ j : Int32, 0 ≤ j.toInt → j.toInt ≤ 3 → vp_in (i + j) L := fun j h0 h3 => by
      rw [vp_in_iff, t_add (by omega) (by omega)]; omega
    have v0 : vp_in i L := by rw [vp_in_iff]; omega
    have v1 := ik 1 (by decide) (by decide)
    have v2 := ik 2 (by decide) (by decide)
    have v3 := ik 3 (by decide) (by decide)
    have kk : ∀ (x1 : gd) (q1 : kP) (w1 : gd) (H1 : Heap) (locs1 : List Loc) (ls1 : Array Slot), LI G A H1 x1 q1 w1 x0 m0 o0 → LJ (k + 1) x1 q1 w1 → va_S A s.heap H1 locs1 → lv_has ls1 7 [(4, .int i), (3, .ref o0), (2, .ref m0), (1, .ref x0), (0, .ref b)] → W p G.1 e room_1 s m #[Value.ref b] below meth c H1 locs1 (q1.ce + 200) (q1.sl + 960000) (lw_Z below #[Value.ref b] s) (F0 m 1187 ls1 []) := by
      intro x1 q1 w1 H1 locs1 ls1 hI1 hJ1 hS1 hl1
      refine lv_iinc (v := i + 4) (lv' := [(4, .int (i + 4)), (3, .ref o0), (2, .ref m0), (1, .ref x0), (0, .ref b)]) hx hb dlw_1187 hl1 (k := 0) rfl rfl (by decide) rfl (fun ls2 hl2 => ?_)
      refine lv_goto (tgt := 23) hx hb dlw_1190 (by decide) ?_
      exact ih (k + 1) (i + 4) x1 q1 w1 H1 locs1 ls2 (by omega) (by rw [t_add (by rw [k4]; omega) (by rw [k4]; omega), k4, ei]; push_cast; omega) hI1 hJ1 hS1 hl2
    refine lv_aload_n hx hb dlw_32 rfl (lv_at hl 4 rfl) ?_
    refine lv_iload hx hb dlw_33 (lv_at hl 0 rfl) ?_
    refine va_sld hx hb hX hbl hbA hS (i := i) v0 dlw_35 ?_
    refine lv_bipush (v := 31) hx hb dlw_36 (by decide +kernel) ?_
    refine lv_iand hx hb dlw_38 ?_
    have hb31 := t_and31 (xs i.toNatClampNeg)
    obtain ⟨v, hv⟩ : ∃ v, v = xs i.toNatClampNeg &&& 31 := ⟨_, rfl⟩
    rw [← hv] at hb31 ⊢
    clear hv
    by_cases h28 : 28 < v.toInt
    · exact lv_tableOut (tgt := 1187) hx hb dlw_39 (Or.inr h28) (by decide) (kk x q w H locs ls hI (LJ_up hJ) hS hl)
    have hvs : v.toInt = 0 ∨ v.toInt = 1 ∨ v.toInt = 2 ∨ v.toInt = 3 ∨ v.toInt = 4 ∨ v.toInt = 5 ∨ v.toInt = 6 ∨ v.toInt = 7 ∨ v.toInt = 8 ∨ v.toInt = 9 ∨ v.toInt = 10 ∨ v.toInt = 11 ∨ v.toInt = 12 ∨ v.toInt = 13 ∨ v.toInt = 14 ∨ v.toInt = 15 ∨ v.toInt = 16 ∨ v.toInt = 17 ∨ v.toInt = 18 ∨ v.toInt = 19 ∨ v.toInt = 20 ∨ v.toInt = 21 ∨ v.toInt = 22 ∨ v.toInt = 23 ∨ v.toInt = 24 ∨ v.toInt = 25 ∨ v.toInt = 26 ∨ v.toInt = 27 ∨ v.toInt = 28 := by omega
    rcases hvs with hj | hj | hj | hj | hj | hj | hj | hj | hj | hj | hj | hj | hj | hj | hj | hj | hj | hj | hj | hj | hj | hj | hj | hj | hj | hj | hj | hj | hj
    · exact lv_tableIn (off := 129) (tgt := 168) hx hb dlw_39 (by omega) (by omega) (by rw [hj]; rfl) (by decide) (lc_0 C hX hbl hbA hI hJ hk hS v1 v2 v3 hl kk)
    · exact lv_tableIn (off := 201) (tgt := 240) hx hb dlw_39 (by omega) (by omega) (by rw [hj]; rfl) (by decide) (lc_1 C hX hbl hbA hI hJ hk hS v1 v2 v3 hl kk)
    · exact lv_tableIn (off := 214) (tgt := 253) hx hb dlw_39 (by omega) (by omega) (by rw [hj]; rfl) (by decide) (lc_2 C hX hbl hbA hI hJ hk hS v1 v2 v3 hl kk)
    · exact lv_tableIn (off := 227) (tgt := 266) hx hb dlw_39 (by omega) (by omega) (by rw [hj]; rfl) (by decide) (lc_3 C hX hbl hbA hI hJ hk hS v1 v2 v3 hl kk)
    · exact lv_tableIn (off := 255) (tgt := 294) hx hb dlw_39 (by omega) (by omega) (by rw [hj]; rfl) (by decide) (lc_4 C hX hbl hbA hI hJ hk hS v1 v2 v3 hl kk)
    · exact lv_tableIn (off := 283) (tgt := 322) hx hb dlw_39 (by omega) (by omega) (by rw [hj]; rfl) (by decide) (lc_5 C hX hbl hbA hI hJ hk hS v1 v2 v3 hl kk)
    · exact lv_tableIn (off := 311) (tgt := 350) hx hb dlw_39 (by omega) (by omega) (by rw [hj]; rfl) (by decide) (lc_6 C hX hbl hbA hI hJ hk hS v1 v2 v3 hl kk)
    · exact lv_tableIn (off := 327) (tgt := 366) hx hb dlw_39 (by omega) (by omega) (by rw [hj]; rfl) (by decide) (lc_7 C hX hbl hbA hI hJ hk hS v1 v2 v3 hl kk)
    · exact lv_tableIn (off := 367) (tgt := 406) hx hb dlw_39 (by omega) (by omega) (by rw [hj]; rfl) (by decide) (lc_8 C hX hbl hbA hI hJ hk hS v1 v2 v3 hl kk)
    · exact lv_tableIn (off := 395) (tgt := 434) hx hb dlw_39 (by omega) (by omega) (by rw [hj]; rfl) (by decide) (lc_9 C hX hbl hbA hI hJ hk hS v1 v2 v3 hl kk)
    · exact lv_tableIn (off := 435) (tgt := 474) hx hb dlw_39 (by omega) (by omega) (by rw [hj]; rfl) (by decide) (lc_10 C hX hbl hbA hI hJ hk hS v1 v2 v3 hl kk)
    · exact lv_tableIn (off := 463) (tgt := 502) hx hb dlw_39 (by omega) (by omega) (by rw [hj]; rfl) (by decide) (lc_11 C hX hbl hbA hI hJ hk hS v1 v2 v3 hl kk)
    · exact lv_tableIn (off := 491) (tgt := 530) hx hb dlw_39 (by omega) (by omega) (by rw [hj]; rfl) (by decide) (lc_12 C hX hbl hbA hI hJ hk hS v1 v2 v3 hl kk)
    · exact lv_tableIn (off := 519) (tgt := 558) hx hb dlw_39 (by omega) (by omega) (by rw [hj]; rfl) (by decide) (lc_13 C hX hbl hbA hI hJ hk hS v1 v2 v3 hl kk)
    · exact lv_tableIn (off := 559) (tgt := 598) hx hb dlw_39 (by omega) (by omega) (by rw [hj]; rfl) (by decide) (lc_14 C hX hbl hbA hI hJ hk hS v1 v2 v3 hl kk)
    · exact lv_tableIn (off := 599) (tgt := 638) hx hb dlw_39 (by omega) (by omega) (by rw [hj]; rfl) (by decide) (lc_15 C hX hbl hbA hI hJ hk hS v1 v2 v3 hl kk)
    · exact lv_tableIn (off := 639) (tgt := 678) hx hb dlw_39 (by omega) (by omega) (by rw [hj]; rfl) (by decide) (lc_16 C hX hbl hbA hI hJ hk hS v1 v2 v3 hl kk)
    · exact lv_tableIn (off := 679) (tgt := 718) hx hb dlw_39 (by omega) (by omega) (by rw [hj]; rfl) (by decide) (lc_17 C hX hbl hbA hI hJ hk hS v1 v2 v3 hl kk)
    · exact lv_tableIn (off := 719) (tgt := 758) hx hb dlw_39 (by omega) (by omega) (by rw [hj]; rfl) (by decide) (lc_18 C hX hbl hbA hI hJ hk hS v1 v2 v3 hl kk)
    · exact lv_tableIn (off := 759) (tgt := 798) hx hb dlw_39 (by omega) (by omega) (by rw [hj]; rfl) (by decide) (lc_19 C hX hbl hbA hI hJ hk hS v1 v2 v3 hl kk)
    · exact lv_tableIn (off := 799) (tgt := 838) hx hb dlw_39 (by omega) (by omega) (by rw [hj]; rfl) (by decide) (lc_20 C hX hbl hbA hI hJ hk hS v1 v2 v3 hl kk)
    · exact lv_tableIn (off := 827) (tgt := 866) hx hb dlw_39 (by omega) (by omega) (by rw [hj]; rfl) (by decide) (lc_21 C hX hbl hbA hI hJ hk hS v1 v2 v3 hl kk)
    · exact lv_tableIn (off := 867) (tgt := 906) hx hb dlw_39 (by omega) (by omega) (by rw [hj]; rfl) (by decide) (lc_22 C hX hbl hbA hI hJ hk hS v1 v2 v3 hl kk)
    · exact lv_tableIn (off := 935) (tgt := 974) hx hb dlw_39 (by omega) (by omega) (by rw [hj]; rfl) (by decide) (lc_23 C hX hbl hbA hI hJ hk hS v1 v2 v3 hl kk)
    · exact lv_tableIn (off := 987) (tgt := 1026) hx hb dlw_39 (by omega) (by omega) (by rw [hj]; rfl) (by decide) (lc_24 C hX hbl hbA hI hJ hk hS v1 v2 v3 hl kk)
    · exact lv_tableIn (off := 1027) (tgt := 1066) hx hb dlw_39 (by omega) (by omega) (by rw [hj]; rfl) (by decide) (lc_25 C hX hbl hbA hI hJ hk hS v1 v2 v3 hl kk)
    · exact lv_tableIn (off := 1067) (tgt := 1106) hx hb dlw_39 (by omega) (by omega) (by rw [hj]; rfl) (by decide) (lc_26 C hX hbl hbA hI hJ hk hS v1 v2 v3 hl kk)
    · exact lv_tableIn (off := 1107) (tgt := 1146) hx hb dlw_39 (by omega) (by omega) (by rw [hj]; rfl) (by decide) (lc_27 C hX hbl hbA hI hJ hk hS v1 v2 v3 hl kk)
    · exact lv_tableIn (off := 1135) (tgt := 1174) hx hb dlw_39 (by omega) (by omega) (by rw [hj]; rfl) (by decide) (lc_28 C hX hbl hbA hI hJ hk hS v1 v2 v3 hl kk)
end
