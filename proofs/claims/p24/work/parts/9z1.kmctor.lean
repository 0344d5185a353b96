section
/-! the model is made -/
def zq0 : gd := (fun _ _ => 0, fun _ _ => 0)
def z1 : gd := si (si zq0 0 11 (-1)) 0 12 (-1)
def z2 : gd := si zq0 0 11 (-1)
theorem zn_zq0 {c : Nat} : znew zq0 c = zq0 := by
  unfold znew zq0
  refine Prod.ext ?_ ?_
  · funext c'; show (if c' = c then fun _ => (0 : Int32) else fun _ => 0) = fun _ => 0; split <;> rfl
  · funext c'; show (if c' = c then fun _ => (0 : Int64) else fun _ => 0) = fun _ => 0; split <;> rfl
theorem zn_z1 {c : Nat} : znew z1 (c + 1) = z1 := by
  refine Prod.ext ?_ ?_
  · funext c' k
    show (znew z1 (c + 1)).1 c' k = z1.1 c' k
    rw [zn_get]
    by_cases e : c' = c + 1
    · rw [if_pos e]
      unfold z1
      rw [si_get, if_neg (by omega), si_get, if_neg (by omega)]; rfl
    · rw [if_neg e]
  · funext c'
    show (if c' = c + 1 then fun _ => (0 : Int64) else fun _ => 0) = fun _ => 0
    split <;> rfl
/-- the model's shape while its arrays come: the slots that hold one (the last first) -/
def mSv (ds : List Nat) (ce sl : Nat) : gf := (fun c k => if c = 0 ∧ k ∈ ds then some (k + 1) else none, 0 :: ds.reverse.map (· + 1), ce, sl)
theorem mS_0 {ds : List Nat} {ce sl : Nat} : 0 ∈ (mSv ds ce sl).2.1 := List.mem_cons_self
theorem mS_n {ds : List Nat} {ce sl k : Nat} (h : k ∉ ds) : k + 1 ∉ (mSv ds ce sl).2.1 ∧ NR (mSv ds ce sl) (k + 1) := by
  constructor
  · intro hm
    rcases List.mem_cons.mp hm with e | hm
    · omega
    · obtain ⟨k', hk', e⟩ := List.mem_map.mp hm
      have e : k' + 1 = k + 1 := e
      have e : k' = k := by omega
      exact h (e ▸ List.mem_reverse.mp hk')
  · intro c' hc' j hj
    have hj : (if c' = 0 ∧ j ∈ ds then some (j + 1) else none) = some (k + 1) := hj
    by_cases e : c' = 0 ∧ j ∈ ds
    · rw [if_pos e] at hj
      have : j + 1 = k + 1 := Option.some.inj hj
      have : j = k := by omega
      exact h (this ▸ e.2)
    · rw [if_neg e] at hj; cases hj
theorem mS_s {ds : List Nat} {ce sl k n : Nat} : frf (fnew (mSv ds ce sl) (k + 1) n) 0 k (some (k + 1)) = mSv (k :: ds) (ce + 1) (sl + n) := by
  refine Prod.ext ?_ (Prod.ext ?_ rfl)
  · funext c j
    show (if c = 0 ∧ j = k then some (k + 1) else if c = k + 1 then none else (if c = 0 ∧ j ∈ ds then some (j + 1) else none)) = (if c = 0 ∧ j ∈ k :: ds then some (j + 1) else none)
    by_cases e0 : c = 0
    · by_cases ej : j = k
      · rw [if_pos ⟨e0, ej⟩, if_pos ⟨e0, by rw [ej]; exact List.mem_cons_self⟩, ej]
      · rw [if_neg (fun z => ej z.2), if_neg (by omega)]
        by_cases em : j ∈ ds
        · rw [if_pos ⟨e0, em⟩, if_pos ⟨e0, List.mem_cons_of_mem _ em⟩]
        · rw [if_neg (fun z => em z.2), if_neg (fun z => by
            rcases List.mem_cons.mp z.2 with h | h
            · exact ej h
            · exact em h)]
    · rw [if_neg (fun z => e0 z.1), if_neg (fun z : c = 0 ∧ j ∈ k :: ds => e0 z.1)]
      split
      · rfl
      · rw [if_neg (fun z => e0 z.1)]
  · show (0 :: ds.reverse.map (· + 1)) ++ [k + 1] = 0 :: (k :: ds).reverse.map (· + 1)
    rw [List.reverse_cons, List.map_append]; rfl
section GMS
variable {E : gE} {d : Nat} {y : gy} {pc : Nat} {lv : List (Nat × gv)} {st : List gv} {x : gd} {f : gf} {Q : gr → gd → gf → Prop}
/-- as T_newI, longer ones too -/
theorem T_newB (c : Nat) {atype : ArrayType} {ty : FieldType} {n : Nat} {v : Int32} (hd : decode y.2.1 pc = .ok (.newarray atype, 2)) (hty : newarray.typeOf atype = ty) (ht : ty = .int ∨ ty = .byte ∨ ty = .boolean) (hw : Cond.arrayClass ty ∈ W0) (hK : E.2.2.2.1 c = .inr (ty, n)) (hv : ¬ v < 0) (hN : v.toNatClampNeg = n) (hb : n ≤ 1000000) (hc : c ∉ f.2.1) (h9 : c < 900 ∨ 905 ≤ c) (hr : NR f c) (hok : gok f.2.1 lv st = true)
    (k9 : T E d y (pc + 2) lv (vr c :: st) (znew x c) (fnew f c n) Q) : T E d y pc lv (vi v :: st) x f Q := by
  refine T_stepN hc h9 hok (fun p e R s m args below meth c0 A H locs cells slots ls ad Q9 C hP hS hl h1 h2 kk => ?_) k9
  have hb2 : n * componentBytes ty ≤ 536870912 := by
    have : componentBytes ty ≤ 8 := by rcases ht with rfl | rfl | rfl <;> decide
    have := Nat.mul_le_mul hb this
    omega
  have ha : ∀ cA : ClassId, vp_cell cA (n, .inl (fun _ => 0)) = arrV cA n (fun _ => defaultValue ty) := by rcases ht with rfl | rfl | rfl <;> intro cA <;> rfl
  have h0 : ∃ t0 : Nat, (gtys E)[t0]? = some (E.2.2.1 ty, ty) := by
    rcases ht with rfl | rfl | rfl
    · exact ⟨0, rfl⟩
    · exact ⟨1, rfl⟩
    · exact ⟨2, rfl⟩
  obtain ⟨t0, h0⟩ := h0
  refine va_newa (a0 := (n, .inl (fun _ => 0))) C.1.1 C.1.2.1 (C.1.2.2.2.2 _ (hty ▸ hw)) hty C.2.2.2.1.1 hP.1.1 hP.1.2 hS C.2.2.2.2 ha hv hN hb2 h1 h2 hd (fun q cA H1 hK1 hP1 hD1 hS1 => ?_)
  have hcA := cA_eq C.2.2.2.1.1 hK1 h0
  have e9 : gce E (znew x c) (fnew f c n) (anew ad c q) c = .inl (cA, n, .inl (fun _ => 0)) := by
    rw [gce_arr hK, hcA]
    have zz1 : (znew x c).1 c = fun _ => 0 := if_pos rfl
    rcases ht with rfl | rfl | rfl <;> (show Sum.inl (_, _, Sum.inl ((znew x c).1 c)) = _; rw [zz1])
  refine kk q H1 ⟨⟨?_, ?_⟩, gad_new h9 hP.2⟩ hS1
  · rw [gwl_new hc hr, e9]; exact hP1
  · rw [gwl_new hc hr, e9]; exact hD1
theorem T_newL (c : Nat) {n : Nat} {v : Int32} (hd : decode y.2.1 pc = .ok (.newarray .long, 2)) (hw : Cond.arrayClass .long ∈ W0) (hK : E.2.2.2.1 c = .inr (.long, n)) (hv : ¬ v < 0) (hN : v.toNatClampNeg = n) (hb : n ≤ 1000000) (hc : c ∉ f.2.1) (h9 : c < 900 ∨ 905 ≤ c) (hr : NR f c) (hok : gok f.2.1 lv st = true)
    (k9 : T E d y (pc + 2) lv (vr c :: st) (znew x c) (fnew f c n) Q) : T E d y pc lv (vi v :: st) x f Q := by
  refine T_stepN hc h9 hok (fun p e R s m args below meth c0 A H locs cells slots ls ad Q9 C hP hS hl h1 h2 kk => ?_) k9
  have hb2 : n * componentBytes .long ≤ 536870912 := by
    have : componentBytes .long ≤ 8 := by decide
    have := Nat.mul_le_mul hb this
    omega
  refine va_newa (atype := .long) (ty := .long) (a0 := (n, .inr (.inl (fun _ => 0)))) C.1.1 C.1.2.1 (C.1.2.2.2.2 _ (show Cond.arrayClass (newarray.typeOf .long) ∈ W0 from hw)) rfl C.2.2.2.1.1 hP.1.1 hP.1.2 hS C.2.2.2.2 (fun cA => rfl) hv hN hb2 h1 h2 hd (fun q cA H1 hK1 hP1 hD1 hS1 => ?_)
  have hcA := cA_eq C.2.2.2.1.1 hK1 (t0 := 3) rfl
  have e9 : gce E (znew x c) (fnew f c n) (anew ad c q) c = .inl (cA, n, .inr (.inl (fun _ => 0))) := by
    rw [gce_arr hK, hcA]
    have zz1 : (znew x c).2 c = fun _ => 0 := if_pos rfl
    show Sum.inl (_, _, Sum.inr (Sum.inl ((znew x c).2 c))) = _
    rw [zz1]
  refine kk q H1 ⟨⟨?_, ?_⟩, gad_new h9 hP.2⟩ hS1
  · rw [gwl_new hc hr, e9]; exact hP1
  · rw [gwl_new hc hr, e9]; exact hD1
end GMS
section GMT
variable {G : mG} {d : Nat} {y : gy} {pc : Nat} {x : gd} {Q : gr → gd → gf → Prop} {ds : List Nat} {ce sl : Nat}
theorem ms_I {k n idx : Nat} {atype : ArrayType} {ty : FieldType} {v : Int32} (hd : decode y.2.1 pc = .ok (.newarray atype, 2)) (hd2 : decode y.2.1 (pc + 2) = .ok (.putfield idx, 3)) (hty : newarray.typeOf atype = ty) (ht : ty = .int ∨ ty = .byte ∨ ty = .boolean) (hw : Cond.arrayClass ty ∈ W0) (hK : mK (k + 1) = .inr (ty, n)) (hv : ¬ v < 0) (hN : v.toNatClampNeg = n) (hb : n ≤ 1000000) (hk : k < 139) (hs : msl.getD k false = true) (hf : gFl y.1.cls idx 12 k (.array ty) false 139) (hn : k ∉ ds) (hz : znew x (k + 1) = x)
    (k9 : T (mE G) d y (pc + 5) [(0, vr 0)] [] x (mSv (k :: ds) (ce + 1) (sl + n)) Q) : T (mE G) d y pc [(0, vr 0)] [vi v, vr 0] x (mSv ds ce sl) Q := by
  have fr := mS_n (ce := ce) (sl := sl) hn
  have l0 : 0 ∈ (mSv ds ce sl).2.1 := mS_0
  refine T_newB (k + 1) hd hty ht hw hK hv hN hb fr.1 (by omega) fr.2 (gok_i (av_c (gkr l0) av_n) (as_c (gkr l0) as_n)) ?_
  rw [hz]
  refine T_putR 0 k (k + 1) hd2 hf mk_0 (List.mem_append_left _ l0) (by show k < 139; exact hk) hs (fun a => ⟨rfl, rfl⟩) ?_
  rw [mS_s]; exact k9
theorem ms_L {k n idx : Nat} {v : Int32} (hd : decode y.2.1 pc = .ok (.newarray .long, 2)) (hd2 : decode y.2.1 (pc + 2) = .ok (.putfield idx, 3)) (hw : Cond.arrayClass .long ∈ W0) (hK : mK (k + 1) = .inr (.long, n)) (hv : ¬ v < 0) (hN : v.toNatClampNeg = n) (hb : n ≤ 1000000) (hk : k < 139) (hs : msl.getD k false = true) (hf : gFl y.1.cls idx 12 k (.array .long) false 139) (hn : k ∉ ds) (hz : znew x (k + 1) = x)
    (k9 : T (mE G) d y (pc + 5) [(0, vr 0)] [] x (mSv (k :: ds) (ce + 1) (sl + n)) Q) : T (mE G) d y pc [(0, vr 0)] [vi v, vr 0] x (mSv ds ce sl) Q := by
  have fr := mS_n (ce := ce) (sl := sl) hn
  have l0 : 0 ∈ (mSv ds ce sl).2.1 := mS_0
  refine T_newL (k + 1) hd hw hK hv hN hb fr.1 (by omega) fr.2 (gok_i (av_c (gkr l0) av_n) (as_c (gkr l0) as_n)) ?_
  rw [hz]
  refine T_putR 0 k (k + 1) hd2 hf mk_0 (List.mem_append_left _ l0) (by show k < 139; exact hk) hs (fun a => ⟨rfl, rfl⟩) ?_
  rw [mS_s]; exact k9
end GMT
abbrev z_init : gy := (yX12_init, cX12_init, 1, none, [])
set_option maxRecDepth 100000 in
set_option maxHeartbeats 4000000 in
theorem mi_3 {G : mG} {d : Nat} {Q : gr → gd → gf → Prop} {ce sl : Nat} (h : Q (.inl none) z1 (mSv [138, 137, 135, 134, 133, 132, 131, 130, 129, 128, 127, 126, 125, 124, 123, 122, 121, 120, 119, 118, 117, 115, 114, 113, 112, 111, 110, 109, 108, 106, 105, 104, 103, 102, 101, 100, 99, 98, 97, 95, 87, 86, 85, 83, 81, 80, 79, 78, 77, 76, 75, 74, 73, 72, 71, 70, 69, 65, 64, 63, 62, 61, 60, 59, 58, 57, 56, 55, 54, 53, 51, 50, 46, 45, 44, 40, 39, 38, 37, 36, 35, 34, 33, 32, 31, 30, 29, 19, 18, 17, 16, 15, 14, 7, 6, 5, 4, 1] (ce + 23) (sl + 890413))) : T (mE G) (d + 1) z_init 645 [(0, vr 0)] [] z1 (mSv [113, 112, 111, 110, 109, 108, 106, 105, 104, 103, 102, 101, 100, 99, 98, 97, 95, 87, 86, 85, 83, 81, 80, 79, 78, 77, 76, 75, 74, 73, 72, 71, 70, 69, 65, 64, 63, 62, 61, 60, 59, 58, 57, 56, 55, 54, 53, 51, 50, 46, 45, 44, 40, 39, 38, 37, 36, 35, 34, 33, 32, 31, 30, 29, 19, 18, 17, 16, 15, 14, 7, 6, 5, 4, 1] ce sl) Q := by
  refine T_aload_n 0 dmi_645 rfl rfl ?_
  refine T_bipush (v := 14) dmi_646 (by decide +kernel) ?_
  refine ms_I (k := 114) (n := 14) dmi_648 dmi_650 rfl (Or.inl rfl) (W0_in (tp_1 (List.mem_of_getElem? (i := 82) (by decide +kernel))) rfl) rfl (by decide) (by decide) (by decide) (by decide) rfl fl_245 (by decide) zn_z1 ?_
  refine T_aload_n 0 dmi_653 rfl rfl ?_
  refine T_bipush (v := 14) dmi_654 (by decide +kernel) ?_
  refine ms_I (k := 115) (n := 14) dmi_656 dmi_658 rfl (Or.inl rfl) (W0_in (tp_1 (List.mem_of_getElem? (i := 82) (by decide +kernel))) rfl) rfl (by decide) (by decide) (by decide) (by decide) rfl fl_248 (by decide) zn_z1 ?_
  refine T_aload_n 0 dmi_661 rfl rfl ?_
  refine T_bipush (v := 6) dmi_662 (by decide +kernel) ?_
  refine ms_I (k := 117) (n := 6) dmi_664 dmi_666 rfl (Or.inl rfl) (W0_in (tp_1 (List.mem_of_getElem? (i := 82) (by decide +kernel))) rfl) rfl (by decide) (by decide) (by decide) (by decide) rfl fl_251 (by decide) zn_z1 ?_
  refine T_aload_n 0 dmi_669 rfl rfl ?_
  refine T_iconst (v := 2) dmi_670 (by decide +kernel) ?_
  refine ms_I (k := 118) (n := 2) dmi_671 dmi_673 rfl (Or.inr (Or.inr rfl)) (W0_in (tp_2 (List.mem_of_getElem? (i := 47) (by decide +kernel))) rfl) rfl (by decide) (by decide) (by decide) (by decide) rfl fl_254 (by decide) zn_z1 ?_
  refine T_aload_n 0 dmi_676 rfl rfl ?_
  refine T_iconst (v := 2) dmi_677 (by decide +kernel) ?_
  refine ms_I (k := 119) (n := 2) dmi_678 dmi_680 rfl (Or.inl rfl) (W0_in (tp_1 (List.mem_of_getElem? (i := 82) (by decide +kernel))) rfl) rfl (by decide) (by decide) (by decide) (by decide) rfl fl_257 (by decide) zn_z1 ?_
  refine T_aload_n 0 dmi_683 rfl rfl ?_
  refine T_iconst (v := 2) dmi_684 (by decide +kernel) ?_
  refine ms_I (k := 120) (n := 2) dmi_685 dmi_687 rfl (Or.inr (Or.inr rfl)) (W0_in (tp_2 (List.mem_of_getElem? (i := 47) (by decide +kernel))) rfl) rfl (by decide) (by decide) (by decide) (by decide) rfl fl_260 (by decide) zn_z1 ?_
  refine T_aload_n 0 dmi_690 rfl rfl ?_
  refine T_iconst (v := 2) dmi_691 (by decide +kernel) ?_
  refine ms_I (k := 121) (n := 2) dmi_692 dmi_694 rfl (Or.inl rfl) (W0_in (tp_1 (List.mem_of_getElem? (i := 82) (by decide +kernel))) rfl) rfl (by decide) (by decide) (by decide) (by decide) rfl fl_263 (by decide) zn_z1 ?_
  refine T_aload_n 0 dmi_697 rfl rfl ?_
  refine T_iconst (v := 2) dmi_698 (by decide +kernel) ?_
  refine ms_I (k := 122) (n := 2) dmi_699 dmi_701 rfl (Or.inl rfl) (W0_in (tp_1 (List.mem_of_getElem? (i := 82) (by decide +kernel))) rfl) rfl (by decide) (by decide) (by decide) (by decide) rfl fl_266 (by decide) zn_z1 ?_
  refine T_aload_n 0 dmi_704 rfl rfl ?_
  refine T_iconst (v := 2) dmi_705 (by decide +kernel) ?_
  refine ms_I (k := 123) (n := 2) dmi_706 dmi_708 rfl (Or.inl rfl) (W0_in (tp_1 (List.mem_of_getElem? (i := 82) (by decide +kernel))) rfl) rfl (by decide) (by decide) (by decide) (by decide) rfl fl_269 (by decide) zn_z1 ?_
  refine T_aload_n 0 dmi_711 rfl rfl ?_
  refine T_iconst (v := 2) dmi_712 (by decide +kernel) ?_
  refine ms_I (k := 124) (n := 2) dmi_713 dmi_715 rfl (Or.inl rfl) (W0_in (tp_1 (List.mem_of_getElem? (i := 82) (by decide +kernel))) rfl) rfl (by decide) (by decide) (by decide) (by decide) rfl fl_272 (by decide) zn_z1 ?_
  refine T_aload_n 0 dmi_718 rfl rfl ?_
  refine T_bipush (v := 22) dmi_719 (by decide +kernel) ?_
  refine ms_I (k := 125) (n := 22) dmi_721 dmi_723 rfl (Or.inl rfl) (W0_in (tp_1 (List.mem_of_getElem? (i := 82) (by decide +kernel))) rfl) rfl (by decide) (by decide) (by decide) (by decide) rfl fl_275 (by decide) zn_z1 ?_
  refine T_aload_n 0 dmi_726 rfl rfl ?_
  refine T_bipush (v := 48) dmi_727 (by decide +kernel) ?_
  refine ms_I (k := 126) (n := 48) dmi_729 dmi_731 rfl (Or.inl rfl) (W0_in (tp_1 (List.mem_of_getElem? (i := 82) (by decide +kernel))) rfl) rfl (by decide) (by decide) (by decide) (by decide) rfl fl_278 (by decide) zn_z1 ?_
  refine T_aload_n 0 dmi_734 rfl rfl ?_
  refine T_bipush (v := 72) dmi_735 (by decide +kernel) ?_
  refine ms_I (k := 127) (n := 72) dmi_737 dmi_739 rfl (Or.inr (Or.inr rfl)) (W0_in (tp_2 (List.mem_of_getElem? (i := 47) (by decide +kernel))) rfl) rfl (by decide) (by decide) (by decide) (by decide) rfl fl_281 (by decide) zn_z1 ?_
  refine T_aload_n 0 dmi_742 rfl rfl ?_
  refine T_ldcw (v := 144000) dmi_743 (W0_in (tp_8 (List.mem_of_getElem? (i := 185) (by decide +kernel))) rfl) ?_
  refine ms_I (k := 128) (n := 144000) dmi_746 dmi_748 rfl (Or.inl rfl) (W0_in (tp_1 (List.mem_of_getElem? (i := 82) (by decide +kernel))) rfl) rfl (by decide) (by decide) (by decide) (by decide) rfl fl_285 (by decide) zn_z1 ?_
  refine T_aload_n 0 dmi_751 rfl rfl ?_
  refine T_sipush (v := 6000) dmi_752 (by decide +kernel) ?_
  refine ms_I (k := 129) (n := 6000) dmi_755 dmi_757 rfl (Or.inl rfl) (W0_in (tp_1 (List.mem_of_getElem? (i := 82) (by decide +kernel))) rfl) rfl (by decide) (by decide) (by decide) (by decide) rfl fl_288 (by decide) zn_z1 ?_
  refine T_aload_n 0 dmi_760 rfl rfl ?_
  refine T_sipush (v := 6000) dmi_761 (by decide +kernel) ?_
  refine ms_I (k := 130) (n := 6000) dmi_764 dmi_766 rfl (Or.inl rfl) (W0_in (tp_1 (List.mem_of_getElem? (i := 82) (by decide +kernel))) rfl) rfl (by decide) (by decide) (by decide) (by decide) rfl fl_291 (by decide) zn_z1 ?_
  refine T_aload_n 0 dmi_769 rfl rfl ?_
  refine T_sipush (v := 6000) dmi_770 (by decide +kernel) ?_
  refine ms_I (k := 131) (n := 6000) dmi_773 dmi_775 rfl (Or.inl rfl) (W0_in (tp_1 (List.mem_of_getElem? (i := 82) (by decide +kernel))) rfl) rfl (by decide) (by decide) (by decide) (by decide) rfl fl_294 (by decide) zn_z1 ?_
  refine T_aload_n 0 dmi_778 rfl rfl ?_
  refine T_ldcw (v := 720480) dmi_779 (W0_in (tp_8 (List.mem_of_getElem? (i := 186) (by decide +kernel))) rfl) ?_
  refine ms_I (k := 132) (n := 720480) dmi_782 dmi_784 rfl (Or.inl rfl) (W0_in (tp_1 (List.mem_of_getElem? (i := 82) (by decide +kernel))) rfl) rfl (by decide) (by decide) (by decide) (by decide) rfl fl_298 (by decide) zn_z1 ?_
  refine T_aload_n 0 dmi_787 rfl rfl ?_
  refine T_sipush (v := 3001) dmi_788 (by decide +kernel) ?_
  refine ms_I (k := 133) (n := 3001) dmi_791 dmi_793 rfl (Or.inl rfl) (W0_in (tp_1 (List.mem_of_getElem? (i := 82) (by decide +kernel))) rfl) rfl (by decide) (by decide) (by decide) (by decide) rfl fl_301 (by decide) zn_z1 ?_
  refine T_aload_n 0 dmi_796 rfl rfl ?_
  refine T_sipush (v := 4096) dmi_797 (by decide +kernel) ?_
  refine ms_I (k := 134) (n := 4096) dmi_800 dmi_802 rfl (Or.inl rfl) (W0_in (tp_1 (List.mem_of_getElem? (i := 82) (by decide +kernel))) rfl) rfl (by decide) (by decide) (by decide) (by decide) rfl fl_304 (by decide) zn_z1 ?_
  refine T_aload_n 0 dmi_805 rfl rfl ?_
  refine T_sipush (v := 240) dmi_806 (by decide +kernel) ?_
  refine ms_I (k := 135) (n := 240) dmi_809 dmi_811 rfl (Or.inl rfl) (W0_in (tp_1 (List.mem_of_getElem? (i := 82) (by decide +kernel))) rfl) rfl (by decide) (by decide) (by decide) (by decide) rfl fl_307 (by decide) zn_z1 ?_
  refine T_aload_n 0 dmi_814 rfl rfl ?_
  refine T_sipush (v := 400) dmi_815 (by decide +kernel) ?_
  refine ms_I (k := 137) (n := 400) dmi_818 dmi_820 rfl (Or.inl rfl) (W0_in (tp_1 (List.mem_of_getElem? (i := 82) (by decide +kernel))) rfl) rfl (by decide) (by decide) (by decide) (by decide) rfl fl_310 (by decide) zn_z1 ?_
  refine T_aload_n 0 dmi_823 rfl rfl ?_
  refine T_bipush (v := 6) dmi_824 (by decide +kernel) ?_
  refine ms_I (k := 138) (n := 6) dmi_826 dmi_828 rfl (Or.inl rfl) (W0_in (tp_1 (List.mem_of_getElem? (i := 82) (by decide +kernel))) rfl) rfl (by decide) (by decide) (by decide) (by decide) rfl fl_313 (by decide) zn_z1 ?_
  rw [show ce + 1 + 1 + 1 + 1 + 1 + 1 + 1 + 1 + 1 + 1 + 1 + 1 + 1 + 1 + 1 + 1 + 1 + 1 + 1 + 1 + 1 + 1 + 1 = ce + 23 by omega, show sl + 14 + 14 + 6 + 2 + 2 + 2 + 2 + 2 + 2 + 2 + 22 + 48 + 72 + 144000 + 6000 + 6000 + 6000 + 720480 + 3001 + 4096 + 240 + 400 + 6 = sl + 890413 by omega]
  exact T_vret dmi_831 rfl h
set_option maxRecDepth 100000 in
set_option maxHeartbeats 4000000 in
theorem mi_2 {G : mG} {d : Nat} {Q : gr → gd → gf → Prop} {ce sl : Nat} (h : T (mE G) (d + 1) z_init 645 [(0, vr 0)] [] z1 (mSv [113, 112, 111, 110, 109, 108, 106, 105, 104, 103, 102, 101, 100, 99, 98, 97, 95, 87, 86, 85, 83, 81, 80, 79, 78, 77, 76, 75, 74, 73, 72, 71, 70, 69, 65, 64, 63, 62, 61, 60, 59, 58, 57, 56, 55, 54, 53, 51, 50, 46, 45, 44, 40, 39, 38, 37, 36, 35, 34, 33, 32, 31, 30, 29, 19, 18, 17, 16, 15, 14, 7, 6, 5, 4, 1] (ce + 25) (sl + 6888)) Q) : T (mE G) (d + 1) z_init 433 [(0, vr 0)] [] z1 (mSv [77, 76, 75, 74, 73, 72, 71, 70, 69, 65, 64, 63, 62, 61, 60, 59, 58, 57, 56, 55, 54, 53, 51, 50, 46, 45, 44, 40, 39, 38, 37, 36, 35, 34, 33, 32, 31, 30, 29, 19, 18, 17, 16, 15, 14, 7, 6, 5, 4, 1] ce sl) Q := by
  refine T_aload_n 0 dmi_433 rfl rfl ?_
  refine T_bipush (v := 6) dmi_434 (by decide +kernel) ?_
  refine ms_I (k := 78) (n := 6) dmi_436 dmi_438 rfl (Or.inl rfl) (W0_in (tp_1 (List.mem_of_getElem? (i := 82) (by decide +kernel))) rfl) rfl (by decide) (by decide) (by decide) (by decide) rfl fl_169 (by decide) zn_z1 ?_
  refine T_aload_n 0 dmi_441 rfl rfl ?_
  refine T_bipush (v := 6) dmi_442 (by decide +kernel) ?_
  refine ms_I (k := 79) (n := 6) dmi_444 dmi_446 rfl (Or.inl rfl) (W0_in (tp_1 (List.mem_of_getElem? (i := 82) (by decide +kernel))) rfl) rfl (by decide) (by decide) (by decide) (by decide) rfl fl_172 (by decide) zn_z1 ?_
  refine T_aload_n 0 dmi_449 rfl rfl ?_
  refine T_bipush (v := 60) dmi_450 (by decide +kernel) ?_
  refine ms_I (k := 80) (n := 60) dmi_452 dmi_454 rfl (Or.inl rfl) (W0_in (tp_1 (List.mem_of_getElem? (i := 82) (by decide +kernel))) rfl) rfl (by decide) (by decide) (by decide) (by decide) rfl fl_175 (by decide) zn_z1 ?_
  refine T_aload_n 0 dmi_457 rfl rfl ?_
  refine T_bipush (v := 60) dmi_458 (by decide +kernel) ?_
  refine ms_I (k := 81) (n := 60) dmi_460 dmi_462 rfl (Or.inl rfl) (W0_in (tp_1 (List.mem_of_getElem? (i := 82) (by decide +kernel))) rfl) rfl (by decide) (by decide) (by decide) (by decide) rfl fl_178 (by decide) zn_z1 ?_
  refine T_aload_n 0 dmi_465 rfl rfl ?_
  refine T_bipush (v := 60) dmi_466 (by decide +kernel) ?_
  refine ms_I (k := 83) (n := 60) dmi_468 dmi_470 rfl (Or.inl rfl) (W0_in (tp_1 (List.mem_of_getElem? (i := 82) (by decide +kernel))) rfl) rfl (by decide) (by decide) (by decide) (by decide) rfl fl_181 (by decide) zn_z1 ?_
  refine T_aload_n 0 dmi_473 rfl rfl ?_
  refine T_sipush (v := 200) dmi_474 (by decide +kernel) ?_
  refine ms_I (k := 85) (n := 200) dmi_477 dmi_479 rfl (Or.inl rfl) (W0_in (tp_1 (List.mem_of_getElem? (i := 82) (by decide +kernel))) rfl) rfl (by decide) (by decide) (by decide) (by decide) rfl fl_184 (by decide) zn_z1 ?_
  refine T_aload_n 0 dmi_482 rfl rfl ?_
  refine T_sipush (v := 200) dmi_483 (by decide +kernel) ?_
  refine ms_I (k := 86) (n := 200) dmi_486 dmi_488 rfl (Or.inl rfl) (W0_in (tp_1 (List.mem_of_getElem? (i := 82) (by decide +kernel))) rfl) rfl (by decide) (by decide) (by decide) (by decide) rfl fl_187 (by decide) zn_z1 ?_
  refine T_aload_n 0 dmi_491 rfl rfl ?_
  refine T_sipush (v := 200) dmi_492 (by decide +kernel) ?_
  refine ms_I (k := 87) (n := 200) dmi_495 dmi_497 rfl (Or.inl rfl) (W0_in (tp_1 (List.mem_of_getElem? (i := 82) (by decide +kernel))) rfl) rfl (by decide) (by decide) (by decide) (by decide) rfl fl_190 (by decide) zn_z1 ?_
  refine T_aload_n 0 dmi_500 rfl rfl ?_
  refine T_sipush (v := 400) dmi_501 (by decide +kernel) ?_
  refine ms_I (k := 95) (n := 400) dmi_504 dmi_506 rfl (Or.inl rfl) (W0_in (tp_1 (List.mem_of_getElem? (i := 82) (by decide +kernel))) rfl) rfl (by decide) (by decide) (by decide) (by decide) rfl fl_193 (by decide) zn_z1 ?_
  refine T_aload_n 0 dmi_509 rfl rfl ?_
  refine T_sipush (v := 400) dmi_510 (by decide +kernel) ?_
  refine ms_I (k := 97) (n := 400) dmi_513 dmi_515 rfl (Or.inl rfl) (W0_in (tp_1 (List.mem_of_getElem? (i := 82) (by decide +kernel))) rfl) rfl (by decide) (by decide) (by decide) (by decide) rfl fl_196 (by decide) zn_z1 ?_
  refine T_aload_n 0 dmi_518 rfl rfl ?_
  refine T_sipush (v := 400) dmi_519 (by decide +kernel) ?_
  refine ms_I (k := 98) (n := 400) dmi_522 dmi_524 rfl (Or.inl rfl) (W0_in (tp_1 (List.mem_of_getElem? (i := 82) (by decide +kernel))) rfl) rfl (by decide) (by decide) (by decide) (by decide) rfl fl_199 (by decide) zn_z1 ?_
  refine T_aload_n 0 dmi_527 rfl rfl ?_
  refine T_sipush (v := 400) dmi_528 (by decide +kernel) ?_
  refine ms_I (k := 99) (n := 400) dmi_531 dmi_533 rfl (Or.inl rfl) (W0_in (tp_1 (List.mem_of_getElem? (i := 82) (by decide +kernel))) rfl) rfl (by decide) (by decide) (by decide) (by decide) rfl fl_202 (by decide) zn_z1 ?_
  refine T_aload_n 0 dmi_536 rfl rfl ?_
  refine T_sipush (v := 400) dmi_537 (by decide +kernel) ?_
  refine ms_I (k := 100) (n := 400) dmi_540 dmi_542 rfl (Or.inl rfl) (W0_in (tp_1 (List.mem_of_getElem? (i := 82) (by decide +kernel))) rfl) rfl (by decide) (by decide) (by decide) (by decide) rfl fl_205 (by decide) zn_z1 ?_
  refine T_aload_n 0 dmi_545 rfl rfl ?_
  refine T_sipush (v := 400) dmi_546 (by decide +kernel) ?_
  refine ms_I (k := 101) (n := 400) dmi_549 dmi_551 rfl (Or.inl rfl) (W0_in (tp_1 (List.mem_of_getElem? (i := 82) (by decide +kernel))) rfl) rfl (by decide) (by decide) (by decide) (by decide) rfl fl_208 (by decide) zn_z1 ?_
  refine T_aload_n 0 dmi_554 rfl rfl ?_
  refine T_sipush (v := 400) dmi_555 (by decide +kernel) ?_
  refine ms_I (k := 102) (n := 400) dmi_558 dmi_560 rfl (Or.inr (Or.inr rfl)) (W0_in (tp_2 (List.mem_of_getElem? (i := 47) (by decide +kernel))) rfl) rfl (by decide) (by decide) (by decide) (by decide) rfl fl_211 (by decide) zn_z1 ?_
  refine T_aload_n 0 dmi_563 rfl rfl ?_
  refine T_sipush (v := 400) dmi_564 (by decide +kernel) ?_
  refine ms_I (k := 103) (n := 400) dmi_567 dmi_569 rfl (Or.inl rfl) (W0_in (tp_1 (List.mem_of_getElem? (i := 82) (by decide +kernel))) rfl) rfl (by decide) (by decide) (by decide) (by decide) rfl fl_214 (by decide) zn_z1 ?_
  refine T_aload_n 0 dmi_572 rfl rfl ?_
  refine T_sipush (v := 2800) dmi_573 (by decide +kernel) ?_
  refine ms_L (k := 104) (n := 2800) dmi_576 dmi_578 (W0_in (tp_10 (List.mem_of_getElem? (i := 124) (by decide +kernel))) rfl) rfl (by decide) (by decide) (by decide) (by decide) rfl fl_217 (by decide) zn_z1 ?_
  refine T_aload_n 0 dmi_581 rfl rfl ?_
  refine T_bipush (v := 6) dmi_582 (by decide +kernel) ?_
  refine ms_I (k := 105) (n := 6) dmi_584 dmi_586 rfl (Or.inl rfl) (W0_in (tp_1 (List.mem_of_getElem? (i := 82) (by decide +kernel))) rfl) rfl (by decide) (by decide) (by decide) (by decide) rfl fl_221 (by decide) zn_z1 ?_
  refine T_aload_n 0 dmi_589 rfl rfl ?_
  refine T_bipush (v := 6) dmi_590 (by decide +kernel) ?_
  refine ms_I (k := 106) (n := 6) dmi_592 dmi_594 rfl (Or.inl rfl) (W0_in (tp_1 (List.mem_of_getElem? (i := 82) (by decide +kernel))) rfl) rfl (by decide) (by decide) (by decide) (by decide) rfl fl_224 (by decide) zn_z1 ?_
  refine T_aload_n 0 dmi_597 rfl rfl ?_
  refine T_bipush (v := 14) dmi_598 (by decide +kernel) ?_
  refine ms_I (k := 108) (n := 14) dmi_600 dmi_602 rfl (Or.inl rfl) (W0_in (tp_1 (List.mem_of_getElem? (i := 82) (by decide +kernel))) rfl) rfl (by decide) (by decide) (by decide) (by decide) rfl fl_227 (by decide) zn_z1 ?_
  refine T_aload_n 0 dmi_605 rfl rfl ?_
  refine T_bipush (v := 14) dmi_606 (by decide +kernel) ?_
  refine ms_I (k := 109) (n := 14) dmi_608 dmi_610 rfl (Or.inl rfl) (W0_in (tp_1 (List.mem_of_getElem? (i := 82) (by decide +kernel))) rfl) rfl (by decide) (by decide) (by decide) (by decide) rfl fl_230 (by decide) zn_z1 ?_
  refine T_aload_n 0 dmi_613 rfl rfl ?_
  refine T_bipush (v := 14) dmi_614 (by decide +kernel) ?_
  refine ms_I (k := 110) (n := 14) dmi_616 dmi_618 rfl (Or.inl rfl) (W0_in (tp_1 (List.mem_of_getElem? (i := 82) (by decide +kernel))) rfl) rfl (by decide) (by decide) (by decide) (by decide) rfl fl_233 (by decide) zn_z1 ?_
  refine T_aload_n 0 dmi_621 rfl rfl ?_
  refine T_bipush (v := 14) dmi_622 (by decide +kernel) ?_
  refine ms_I (k := 111) (n := 14) dmi_624 dmi_626 rfl (Or.inl rfl) (W0_in (tp_1 (List.mem_of_getElem? (i := 82) (by decide +kernel))) rfl) rfl (by decide) (by decide) (by decide) (by decide) rfl fl_236 (by decide) zn_z1 ?_
  refine T_aload_n 0 dmi_629 rfl rfl ?_
  refine T_bipush (v := 14) dmi_630 (by decide +kernel) ?_
  refine ms_I (k := 112) (n := 14) dmi_632 dmi_634 rfl (Or.inl rfl) (W0_in (tp_1 (List.mem_of_getElem? (i := 82) (by decide +kernel))) rfl) rfl (by decide) (by decide) (by decide) (by decide) rfl fl_239 (by decide) zn_z1 ?_
  refine T_aload_n 0 dmi_637 rfl rfl ?_
  refine T_bipush (v := 14) dmi_638 (by decide +kernel) ?_
  refine ms_I (k := 113) (n := 14) dmi_640 dmi_642 rfl (Or.inl rfl) (W0_in (tp_1 (List.mem_of_getElem? (i := 82) (by decide +kernel))) rfl) rfl (by decide) (by decide) (by decide) (by decide) rfl fl_242 (by decide) zn_z1 ?_
  rw [show ce + 1 + 1 + 1 + 1 + 1 + 1 + 1 + 1 + 1 + 1 + 1 + 1 + 1 + 1 + 1 + 1 + 1 + 1 + 1 + 1 + 1 + 1 + 1 + 1 + 1 = ce + 25 by omega, show sl + 6 + 6 + 60 + 60 + 60 + 200 + 200 + 200 + 400 + 400 + 400 + 400 + 400 + 400 + 400 + 400 + 2800 + 6 + 6 + 14 + 14 + 14 + 14 + 14 + 14 = sl + 6888 by omega]
  exact h
set_option maxRecDepth 100000 in
set_option maxHeartbeats 4000000 in
theorem mi_1 {G : mG} {d : Nat} {Q : gr → gd → gf → Prop} {ce sl : Nat} (h : T (mE G) (d + 1) z_init 433 [(0, vr 0)] [] z1 (mSv [77, 76, 75, 74, 73, 72, 71, 70, 69, 65, 64, 63, 62, 61, 60, 59, 58, 57, 56, 55, 54, 53, 51, 50, 46, 45, 44, 40, 39, 38, 37, 36, 35, 34, 33, 32, 31, 30, 29, 19, 18, 17, 16, 15, 14, 7, 6, 5, 4, 1] (ce + 25) (sl + 27168)) Q) : T (mE G) (d + 1) z_init 223 [(0, vr 0)] [] z1 (mSv [45, 44, 40, 39, 38, 37, 36, 35, 34, 33, 32, 31, 30, 29, 19, 18, 17, 16, 15, 14, 7, 6, 5, 4, 1] ce sl) Q := by
  refine T_aload_n 0 dmi_223 rfl rfl ?_
  refine T_bipush (v := 40) dmi_224 (by decide +kernel) ?_
  refine ms_I (k := 46) (n := 40) dmi_226 dmi_228 rfl (Or.inl rfl) (W0_in (tp_1 (List.mem_of_getElem? (i := 82) (by decide +kernel))) rfl) rfl (by decide) (by decide) (by decide) (by decide) rfl fl_94 (by decide) zn_z1 ?_
  refine T_aload_n 0 dmi_231 rfl rfl ?_
  refine T_sipush (v := 6000) dmi_232 (by decide +kernel) ?_
  refine ms_I (k := 50) (n := 6000) dmi_235 dmi_237 rfl (Or.inl rfl) (W0_in (tp_1 (List.mem_of_getElem? (i := 82) (by decide +kernel))) rfl) rfl (by decide) (by decide) (by decide) (by decide) rfl fl_97 (by decide) zn_z1 ?_
  refine T_aload_n 0 dmi_240 rfl rfl ?_
  refine T_sipush (v := 6000) dmi_241 (by decide +kernel) ?_
  refine ms_I (k := 51) (n := 6000) dmi_244 dmi_246 rfl (Or.inl rfl) (W0_in (tp_1 (List.mem_of_getElem? (i := 82) (by decide +kernel))) rfl) rfl (by decide) (by decide) (by decide) (by decide) rfl fl_100 (by decide) zn_z1 ?_
  refine T_aload_n 0 dmi_249 rfl rfl ?_
  refine T_sipush (v := 1500) dmi_250 (by decide +kernel) ?_
  refine ms_I (k := 53) (n := 1500) dmi_253 dmi_255 rfl (Or.inl rfl) (W0_in (tp_1 (List.mem_of_getElem? (i := 82) (by decide +kernel))) rfl) rfl (by decide) (by decide) (by decide) (by decide) rfl fl_103 (by decide) zn_z1 ?_
  refine T_aload_n 0 dmi_258 rfl rfl ?_
  refine T_sipush (v := 1500) dmi_259 (by decide +kernel) ?_
  refine ms_I (k := 54) (n := 1500) dmi_262 dmi_264 rfl (Or.inl rfl) (W0_in (tp_1 (List.mem_of_getElem? (i := 82) (by decide +kernel))) rfl) rfl (by decide) (by decide) (by decide) (by decide) rfl fl_106 (by decide) zn_z1 ?_
  refine T_aload_n 0 dmi_267 rfl rfl ?_
  refine T_sipush (v := 1500) dmi_268 (by decide +kernel) ?_
  refine ms_I (k := 55) (n := 1500) dmi_271 dmi_273 rfl (Or.inl rfl) (W0_in (tp_1 (List.mem_of_getElem? (i := 82) (by decide +kernel))) rfl) rfl (by decide) (by decide) (by decide) (by decide) rfl fl_109 (by decide) zn_z1 ?_
  refine T_aload_n 0 dmi_276 rfl rfl ?_
  refine T_sipush (v := 1500) dmi_277 (by decide +kernel) ?_
  refine ms_I (k := 56) (n := 1500) dmi_280 dmi_282 rfl (Or.inl rfl) (W0_in (tp_1 (List.mem_of_getElem? (i := 82) (by decide +kernel))) rfl) rfl (by decide) (by decide) (by decide) (by decide) rfl fl_112 (by decide) zn_z1 ?_
  refine T_aload_n 0 dmi_285 rfl rfl ?_
  refine T_sipush (v := 1500) dmi_286 (by decide +kernel) ?_
  refine ms_I (k := 57) (n := 1500) dmi_289 dmi_291 rfl (Or.inl rfl) (W0_in (tp_1 (List.mem_of_getElem? (i := 82) (by decide +kernel))) rfl) rfl (by decide) (by decide) (by decide) (by decide) rfl fl_115 (by decide) zn_z1 ?_
  refine T_aload_n 0 dmi_294 rfl rfl ?_
  refine T_sipush (v := 1500) dmi_295 (by decide +kernel) ?_
  refine ms_I (k := 58) (n := 1500) dmi_298 dmi_300 rfl (Or.inl rfl) (W0_in (tp_1 (List.mem_of_getElem? (i := 82) (by decide +kernel))) rfl) rfl (by decide) (by decide) (by decide) (by decide) rfl fl_118 (by decide) zn_z1 ?_
  refine T_aload_n 0 dmi_303 rfl rfl ?_
  refine T_sipush (v := 1500) dmi_304 (by decide +kernel) ?_
  refine ms_I (k := 59) (n := 1500) dmi_307 dmi_309 rfl (Or.inl rfl) (W0_in (tp_1 (List.mem_of_getElem? (i := 82) (by decide +kernel))) rfl) rfl (by decide) (by decide) (by decide) (by decide) rfl fl_121 (by decide) zn_z1 ?_
  refine T_aload_n 0 dmi_312 rfl rfl ?_
  refine T_sipush (v := 1500) dmi_313 (by decide +kernel) ?_
  refine ms_I (k := 60) (n := 1500) dmi_316 dmi_318 rfl (Or.inl rfl) (W0_in (tp_1 (List.mem_of_getElem? (i := 82) (by decide +kernel))) rfl) rfl (by decide) (by decide) (by decide) (by decide) rfl fl_124 (by decide) zn_z1 ?_
  refine T_aload_n 0 dmi_321 rfl rfl ?_
  refine T_sipush (v := 1500) dmi_322 (by decide +kernel) ?_
  refine ms_I (k := 61) (n := 1500) dmi_325 dmi_327 rfl (Or.inl rfl) (W0_in (tp_1 (List.mem_of_getElem? (i := 82) (by decide +kernel))) rfl) rfl (by decide) (by decide) (by decide) (by decide) rfl fl_127 (by decide) zn_z1 ?_
  refine T_aload_n 0 dmi_330 rfl rfl ?_
  refine T_sipush (v := 1500) dmi_331 (by decide +kernel) ?_
  refine ms_I (k := 62) (n := 1500) dmi_334 dmi_336 rfl (Or.inl rfl) (W0_in (tp_1 (List.mem_of_getElem? (i := 82) (by decide +kernel))) rfl) rfl (by decide) (by decide) (by decide) (by decide) rfl fl_130 (by decide) zn_z1 ?_
  refine T_aload_n 0 dmi_339 rfl rfl ?_
  refine T_bipush (v := 6) dmi_340 (by decide +kernel) ?_
  refine ms_I (k := 63) (n := 6) dmi_342 dmi_344 rfl (Or.inl rfl) (W0_in (tp_1 (List.mem_of_getElem? (i := 82) (by decide +kernel))) rfl) rfl (by decide) (by decide) (by decide) (by decide) rfl fl_133 (by decide) zn_z1 ?_
  refine T_aload_n 0 dmi_347 rfl rfl ?_
  refine T_iconst (v := 4) dmi_348 (by decide +kernel) ?_
  refine ms_I (k := 64) (n := 4) dmi_349 dmi_351 rfl (Or.inl rfl) (W0_in (tp_1 (List.mem_of_getElem? (i := 82) (by decide +kernel))) rfl) rfl (by decide) (by decide) (by decide) (by decide) rfl fl_136 (by decide) zn_z1 ?_
  refine T_aload_n 0 dmi_354 rfl rfl ?_
  refine T_iconst (v := 4) dmi_355 (by decide +kernel) ?_
  refine ms_I (k := 65) (n := 4) dmi_356 dmi_358 rfl (Or.inl rfl) (W0_in (tp_1 (List.mem_of_getElem? (i := 82) (by decide +kernel))) rfl) rfl (by decide) (by decide) (by decide) (by decide) rfl fl_139 (by decide) zn_z1 ?_
  refine T_aload_n 0 dmi_361 rfl rfl ?_
  refine T_bipush (v := 24) dmi_362 (by decide +kernel) ?_
  refine ms_I (k := 69) (n := 24) dmi_364 dmi_366 rfl (Or.inl rfl) (W0_in (tp_1 (List.mem_of_getElem? (i := 82) (by decide +kernel))) rfl) rfl (by decide) (by decide) (by decide) (by decide) rfl fl_142 (by decide) zn_z1 ?_
  refine T_aload_n 0 dmi_369 rfl rfl ?_
  refine T_bipush (v := 6) dmi_370 (by decide +kernel) ?_
  refine ms_I (k := 70) (n := 6) dmi_372 dmi_374 rfl (Or.inl rfl) (W0_in (tp_1 (List.mem_of_getElem? (i := 82) (by decide +kernel))) rfl) rfl (by decide) (by decide) (by decide) (by decide) rfl fl_145 (by decide) zn_z1 ?_
  refine T_aload_n 0 dmi_377 rfl rfl ?_
  refine T_bipush (v := 6) dmi_378 (by decide +kernel) ?_
  refine ms_I (k := 71) (n := 6) dmi_380 dmi_382 rfl (Or.inl rfl) (W0_in (tp_1 (List.mem_of_getElem? (i := 82) (by decide +kernel))) rfl) rfl (by decide) (by decide) (by decide) (by decide) rfl fl_148 (by decide) zn_z1 ?_
  refine T_aload_n 0 dmi_385 rfl rfl ?_
  refine T_bipush (v := 6) dmi_386 (by decide +kernel) ?_
  refine ms_I (k := 72) (n := 6) dmi_388 dmi_390 rfl (Or.inl rfl) (W0_in (tp_1 (List.mem_of_getElem? (i := 82) (by decide +kernel))) rfl) rfl (by decide) (by decide) (by decide) (by decide) rfl fl_151 (by decide) zn_z1 ?_
  refine T_aload_n 0 dmi_393 rfl rfl ?_
  refine T_bipush (v := 6) dmi_394 (by decide +kernel) ?_
  refine ms_I (k := 73) (n := 6) dmi_396 dmi_398 rfl (Or.inl rfl) (W0_in (tp_1 (List.mem_of_getElem? (i := 82) (by decide +kernel))) rfl) rfl (by decide) (by decide) (by decide) (by decide) rfl fl_154 (by decide) zn_z1 ?_
  refine T_aload_n 0 dmi_401 rfl rfl ?_
  refine T_bipush (v := 6) dmi_402 (by decide +kernel) ?_
  refine ms_I (k := 74) (n := 6) dmi_404 dmi_406 rfl (Or.inl rfl) (W0_in (tp_1 (List.mem_of_getElem? (i := 82) (by decide +kernel))) rfl) rfl (by decide) (by decide) (by decide) (by decide) rfl fl_157 (by decide) zn_z1 ?_
  refine T_aload_n 0 dmi_409 rfl rfl ?_
  refine T_bipush (v := 48) dmi_410 (by decide +kernel) ?_
  refine ms_I (k := 75) (n := 48) dmi_412 dmi_414 rfl (Or.inl rfl) (W0_in (tp_1 (List.mem_of_getElem? (i := 82) (by decide +kernel))) rfl) rfl (by decide) (by decide) (by decide) (by decide) rfl fl_160 (by decide) zn_z1 ?_
  refine T_aload_n 0 dmi_417 rfl rfl ?_
  refine T_bipush (v := 6) dmi_418 (by decide +kernel) ?_
  refine ms_I (k := 76) (n := 6) dmi_420 dmi_422 rfl (Or.inl rfl) (W0_in (tp_1 (List.mem_of_getElem? (i := 82) (by decide +kernel))) rfl) rfl (by decide) (by decide) (by decide) (by decide) rfl fl_163 (by decide) zn_z1 ?_
  refine T_aload_n 0 dmi_425 rfl rfl ?_
  refine T_bipush (v := 6) dmi_426 (by decide +kernel) ?_
  refine ms_I (k := 77) (n := 6) dmi_428 dmi_430 rfl (Or.inl rfl) (W0_in (tp_1 (List.mem_of_getElem? (i := 82) (by decide +kernel))) rfl) rfl (by decide) (by decide) (by decide) (by decide) rfl fl_166 (by decide) zn_z1 ?_
  rw [show ce + 1 + 1 + 1 + 1 + 1 + 1 + 1 + 1 + 1 + 1 + 1 + 1 + 1 + 1 + 1 + 1 + 1 + 1 + 1 + 1 + 1 + 1 + 1 + 1 + 1 = ce + 25 by omega, show sl + 40 + 6000 + 6000 + 1500 + 1500 + 1500 + 1500 + 1500 + 1500 + 1500 + 1500 + 1500 + 1500 + 6 + 4 + 4 + 24 + 6 + 6 + 6 + 6 + 6 + 48 + 6 + 6 = sl + 27168 by omega]
  exact h
set_option maxRecDepth 100000 in
set_option maxHeartbeats 4000000 in
theorem mi_0 {G : mG} {d : Nat} {Q : gr → gd → gf → Prop} {ce sl : Nat} (h : T (mE G) (d + 1) z_init 223 [(0, vr 0)] [] z1 (mSv [45, 44, 40, 39, 38, 37, 36, 35, 34, 33, 32, 31, 30, 29, 19, 18, 17, 16, 15, 14, 7, 6, 5, 4, 1] (ce + 25) (sl + 24228)) Q) : T (mE G) (d + 1) z_init 0 [(0, vr 0)] [] zq0 (mSv [] ce sl) Q := by
  refine T_aload_n 0 dmi_0 rfl rfl ?_
  refine T_objInit dmi_1 ⟨(W0_in (tp_8 (List.mem_of_getElem? (i := 184) (by decide +kernel))) rfl), (W0_in (tp_1 (List.mem_of_getElem? (i := 34) (by decide +kernel))) rfl), (W0_in (tp_1 (List.mem_of_getElem? (i := 35) (by decide +kernel))) rfl)⟩ (by omega) (Nat.le_of_ble_eq_true rfl) ?_
  refine T_aload_n 0 dmi_4 rfl rfl ?_
  refine T_sipush (v := 3000) dmi_5 (by decide +kernel) ?_
  refine ms_I (k := 1) (n := 3000) dmi_8 dmi_10 rfl (Or.inr (Or.inl rfl)) (W0_in (tp_1 (List.mem_of_getElem? (i := 81) (by decide +kernel))) rfl) rfl (by decide) (by decide) (by decide) (by decide) rfl fl_7 (by decide) zn_zq0 ?_
  refine T_aload_n 0 dmi_13 rfl rfl ?_
  refine T_sipush (v := 710) dmi_14 (by decide +kernel) ?_
  refine ms_I (k := 4) (n := 710) dmi_17 dmi_19 rfl (Or.inl rfl) (W0_in (tp_1 (List.mem_of_getElem? (i := 82) (by decide +kernel))) rfl) rfl (by decide) (by decide) (by decide) (by decide) rfl fl_13 (by decide) zn_zq0 ?_
  refine T_aload_n 0 dmi_22 rfl rfl ?_
  refine T_sipush (v := 710) dmi_23 (by decide +kernel) ?_
  refine ms_I (k := 5) (n := 710) dmi_26 dmi_28 rfl (Or.inl rfl) (W0_in (tp_1 (List.mem_of_getElem? (i := 82) (by decide +kernel))) rfl) rfl (by decide) (by decide) (by decide) (by decide) rfl fl_17 (by decide) zn_zq0 ?_
  refine T_aload_n 0 dmi_31 rfl rfl ?_
  refine T_sipush (v := 710) dmi_32 (by decide +kernel) ?_
  refine ms_I (k := 6) (n := 710) dmi_35 dmi_37 rfl (Or.inl rfl) (W0_in (tp_1 (List.mem_of_getElem? (i := 82) (by decide +kernel))) rfl) rfl (by decide) (by decide) (by decide) (by decide) rfl fl_20 (by decide) zn_zq0 ?_
  refine T_aload_n 0 dmi_40 rfl rfl ?_
  refine T_sipush (v := 710) dmi_41 (by decide +kernel) ?_
  refine ms_I (k := 7) (n := 710) dmi_44 dmi_46 rfl (Or.inl rfl) (W0_in (tp_1 (List.mem_of_getElem? (i := 82) (by decide +kernel))) rfl) rfl (by decide) (by decide) (by decide) (by decide) rfl fl_23 (by decide) zn_zq0 ?_
  refine T_aload_n 0 dmi_49 rfl rfl ?_
  refine T_iconst (v := (-1)) dmi_50 (by decide +kernel) ?_
  refine T_putI 0 11 dmi_51 fl_26 mk_0 mS_0 (by decide) rfl ⟨rfl, rfl⟩ ?_
  show T (mE G) (d + 1) z_init 54 [(0, vr 0)] [] z2 (mSv [7, 6, 5, 4, 1] _ _) Q
  refine T_aload_n 0 dmi_54 rfl rfl ?_
  refine T_iconst (v := (-1)) dmi_55 (by decide +kernel) ?_
  refine T_putI 0 12 dmi_56 fl_30 mk_0 mS_0 (by decide) rfl ⟨rfl, rfl⟩ ?_
  show T (mE G) (d + 1) z_init 59 [(0, vr 0)] [] z1 (mSv [7, 6, 5, 4, 1] _ _) Q
  refine T_aload_n 0 dmi_59 rfl rfl ?_
  refine T_sipush (v := 3000) dmi_60 (by decide +kernel) ?_
  refine ms_I (k := 14) (n := 3000) dmi_63 dmi_65 rfl (Or.inl rfl) (W0_in (tp_1 (List.mem_of_getElem? (i := 82) (by decide +kernel))) rfl) rfl (by decide) (by decide) (by decide) (by decide) rfl fl_33 (by decide) zn_z1 ?_
  refine T_aload_n 0 dmi_68 rfl rfl ?_
  refine T_sipush (v := 3000) dmi_69 (by decide +kernel) ?_
  refine ms_I (k := 15) (n := 3000) dmi_72 dmi_74 rfl (Or.inl rfl) (W0_in (tp_1 (List.mem_of_getElem? (i := 82) (by decide +kernel))) rfl) rfl (by decide) (by decide) (by decide) (by decide) rfl fl_36 (by decide) zn_z1 ?_
  refine T_aload_n 0 dmi_77 rfl rfl ?_
  refine T_sipush (v := 3000) dmi_78 (by decide +kernel) ?_
  refine ms_I (k := 16) (n := 3000) dmi_81 dmi_83 rfl (Or.inl rfl) (W0_in (tp_1 (List.mem_of_getElem? (i := 82) (by decide +kernel))) rfl) rfl (by decide) (by decide) (by decide) (by decide) rfl fl_39 (by decide) zn_z1 ?_
  refine T_aload_n 0 dmi_86 rfl rfl ?_
  refine T_sipush (v := 3000) dmi_87 (by decide +kernel) ?_
  refine ms_I (k := 17) (n := 3000) dmi_90 dmi_92 rfl (Or.inl rfl) (W0_in (tp_1 (List.mem_of_getElem? (i := 82) (by decide +kernel))) rfl) rfl (by decide) (by decide) (by decide) (by decide) rfl fl_42 (by decide) zn_z1 ?_
  refine T_aload_n 0 dmi_95 rfl rfl ?_
  refine T_sipush (v := 3000) dmi_96 (by decide +kernel) ?_
  refine ms_I (k := 18) (n := 3000) dmi_99 dmi_101 rfl (Or.inl rfl) (W0_in (tp_1 (List.mem_of_getElem? (i := 82) (by decide +kernel))) rfl) rfl (by decide) (by decide) (by decide) (by decide) rfl fl_45 (by decide) zn_z1 ?_
  refine T_aload_n 0 dmi_104 rfl rfl ?_
  refine T_sipush (v := 3000) dmi_105 (by decide +kernel) ?_
  refine ms_I (k := 19) (n := 3000) dmi_108 dmi_110 rfl (Or.inl rfl) (W0_in (tp_1 (List.mem_of_getElem? (i := 82) (by decide +kernel))) rfl) rfl (by decide) (by decide) (by decide) (by decide) rfl fl_48 (by decide) zn_z1 ?_
  refine T_aload_n 0 dmi_113 rfl rfl ?_
  refine T_bipush (v := 40) dmi_114 (by decide +kernel) ?_
  refine ms_I (k := 29) (n := 40) dmi_116 dmi_118 rfl (Or.inl rfl) (W0_in (tp_1 (List.mem_of_getElem? (i := 82) (by decide +kernel))) rfl) rfl (by decide) (by decide) (by decide) (by decide) rfl fl_51 (by decide) zn_z1 ?_
  refine T_aload_n 0 dmi_121 rfl rfl ?_
  refine T_bipush (v := 40) dmi_122 (by decide +kernel) ?_
  refine ms_I (k := 30) (n := 40) dmi_124 dmi_126 rfl (Or.inl rfl) (W0_in (tp_1 (List.mem_of_getElem? (i := 82) (by decide +kernel))) rfl) rfl (by decide) (by decide) (by decide) (by decide) rfl fl_54 (by decide) zn_z1 ?_
  refine T_aload_n 0 dmi_129 rfl rfl ?_
  refine T_bipush (v := 40) dmi_130 (by decide +kernel) ?_
  refine ms_I (k := 31) (n := 40) dmi_132 dmi_134 rfl (Or.inl rfl) (W0_in (tp_1 (List.mem_of_getElem? (i := 82) (by decide +kernel))) rfl) rfl (by decide) (by decide) (by decide) (by decide) rfl fl_57 (by decide) zn_z1 ?_
  refine T_aload_n 0 dmi_137 rfl rfl ?_
  refine T_bipush (v := 40) dmi_138 (by decide +kernel) ?_
  refine ms_I (k := 32) (n := 40) dmi_140 dmi_142 rfl (Or.inl rfl) (W0_in (tp_1 (List.mem_of_getElem? (i := 82) (by decide +kernel))) rfl) rfl (by decide) (by decide) (by decide) (by decide) rfl fl_60 (by decide) zn_z1 ?_
  refine T_aload_n 0 dmi_145 rfl rfl ?_
  refine T_bipush (v := 40) dmi_146 (by decide +kernel) ?_
  refine ms_I (k := 33) (n := 40) dmi_148 dmi_150 rfl (Or.inr (Or.inr rfl)) (W0_in (tp_2 (List.mem_of_getElem? (i := 47) (by decide +kernel))) rfl) rfl (by decide) (by decide) (by decide) (by decide) rfl fl_63 (by decide) zn_z1 ?_
  refine T_aload_n 0 dmi_153 rfl rfl ?_
  refine T_bipush (v := 40) dmi_154 (by decide +kernel) ?_
  refine ms_I (k := 34) (n := 40) dmi_156 dmi_158 rfl (Or.inl rfl) (W0_in (tp_1 (List.mem_of_getElem? (i := 82) (by decide +kernel))) rfl) rfl (by decide) (by decide) (by decide) (by decide) rfl fl_67 (by decide) zn_z1 ?_
  refine T_aload_n 0 dmi_161 rfl rfl ?_
  refine T_bipush (v := 24) dmi_162 (by decide +kernel) ?_
  refine ms_I (k := 35) (n := 24) dmi_164 dmi_166 rfl (Or.inl rfl) (W0_in (tp_1 (List.mem_of_getElem? (i := 82) (by decide +kernel))) rfl) rfl (by decide) (by decide) (by decide) (by decide) rfl fl_70 (by decide) zn_z1 ?_
  refine T_aload_n 0 dmi_169 rfl rfl ?_
  refine T_bipush (v := 24) dmi_170 (by decide +kernel) ?_
  refine ms_I (k := 36) (n := 24) dmi_172 dmi_174 rfl (Or.inr (Or.inr rfl)) (W0_in (tp_2 (List.mem_of_getElem? (i := 47) (by decide +kernel))) rfl) rfl (by decide) (by decide) (by decide) (by decide) rfl fl_73 (by decide) zn_z1 ?_
  refine T_aload_n 0 dmi_177 rfl rfl ?_
  refine T_bipush (v := 6) dmi_178 (by decide +kernel) ?_
  refine ms_I (k := 37) (n := 6) dmi_180 dmi_182 rfl (Or.inr (Or.inr rfl)) (W0_in (tp_2 (List.mem_of_getElem? (i := 47) (by decide +kernel))) rfl) rfl (by decide) (by decide) (by decide) (by decide) rfl fl_76 (by decide) zn_z1 ?_
  refine T_aload_n 0 dmi_185 rfl rfl ?_
  refine T_bipush (v := 6) dmi_186 (by decide +kernel) ?_
  refine ms_I (k := 38) (n := 6) dmi_188 dmi_190 rfl (Or.inl rfl) (W0_in (tp_1 (List.mem_of_getElem? (i := 82) (by decide +kernel))) rfl) rfl (by decide) (by decide) (by decide) (by decide) rfl fl_79 (by decide) zn_z1 ?_
  refine T_aload_n 0 dmi_193 rfl rfl ?_
  refine T_iconst (v := 4) dmi_194 (by decide +kernel) ?_
  refine ms_I (k := 39) (n := 4) dmi_195 dmi_197 rfl (Or.inl rfl) (W0_in (tp_1 (List.mem_of_getElem? (i := 82) (by decide +kernel))) rfl) rfl (by decide) (by decide) (by decide) (by decide) rfl fl_82 (by decide) zn_z1 ?_
  refine T_aload_n 0 dmi_200 rfl rfl ?_
  refine T_iconst (v := 4) dmi_201 (by decide +kernel) ?_
  refine ms_I (k := 40) (n := 4) dmi_202 dmi_204 rfl (Or.inl rfl) (W0_in (tp_1 (List.mem_of_getElem? (i := 82) (by decide +kernel))) rfl) rfl (by decide) (by decide) (by decide) (by decide) rfl fl_85 (by decide) zn_z1 ?_
  refine T_aload_n 0 dmi_207 rfl rfl ?_
  refine T_bipush (v := 40) dmi_208 (by decide +kernel) ?_
  refine ms_I (k := 44) (n := 40) dmi_210 dmi_212 rfl (Or.inl rfl) (W0_in (tp_1 (List.mem_of_getElem? (i := 82) (by decide +kernel))) rfl) rfl (by decide) (by decide) (by decide) (by decide) rfl fl_88 (by decide) zn_z1 ?_
  refine T_aload_n 0 dmi_215 rfl rfl ?_
  refine T_bipush (v := 40) dmi_216 (by decide +kernel) ?_
  refine ms_I (k := 45) (n := 40) dmi_218 dmi_220 rfl (Or.inl rfl) (W0_in (tp_1 (List.mem_of_getElem? (i := 82) (by decide +kernel))) rfl) rfl (by decide) (by decide) (by decide) (by decide) rfl fl_91 (by decide) zn_z1 ?_
  rw [show ce + 1 + 1 + 1 + 1 + 1 + 1 + 1 + 1 + 1 + 1 + 1 + 1 + 1 + 1 + 1 + 1 + 1 + 1 + 1 + 1 + 1 + 1 + 1 + 1 + 1 = ce + 25 by omega, show sl + 3000 + 710 + 710 + 710 + 710 + 3000 + 3000 + 3000 + 3000 + 3000 + 3000 + 40 + 40 + 40 + 40 + 40 + 40 + 24 + 24 + 6 + 6 + 4 + 4 + 40 + 40 = sl + 24228 by omega]
  exact h
def mAll : List Nat := [138, 137, 135, 134, 133, 132, 131, 130, 129, 128, 127, 126, 125, 124, 123, 122, 121, 120, 119, 118, 117, 115, 114, 113, 112, 111, 110, 109, 108, 106, 105, 104, 103, 102, 101, 100, 99, 98, 97, 95, 87, 86, 85, 83, 81, 80, 79, 78, 77, 76, 75, 74, 73, 72, 71, 70, 69, 65, 64, 63, 62, 61, 60, 59, 58, 57, 56, 55, 54, 53, 51, 50, 46, 45, 44, 40, 39, 38, 37, 36, 35, 34, 33, 32, 31, 30, 29, 19, 18, 17, 16, 15, 14, 7, 6, 5, 4, 1]
theorem mi_all {G : mG} {d : Nat} {Q : gr → gd → gf → Prop} {ce sl : Nat} (h : Q (.inl none) z1 (mSv mAll (ce + 98) (sl + 948697))) : T (mE G) (d + 1) z_init 0 [(0, vr 0)] [] zq0 (mSv [] ce sl) Q := by
  refine mi_0 (ce := ce) (sl := sl) ?_
  refine mi_1 (ce := ce + 25) (sl := sl + 24228) ?_
  refine mi_2 (ce := ce + 25 + 25) (sl := sl + 24228 + 27168) ?_
  refine mi_3 (ce := ce + 25 + 25 + 25) (sl := sl + 24228 + 27168 + 6888) ?_
  rw [show ce + 25 + 25 + 25 + 23 = ce + 98 by omega, show sl + 24228 + 27168 + 6888 + 890413 = sl + 948697 by omega]
  exact h
end
section
/-! the law begins: the class is made, the model, the long -/
section LNW
variable {p : Program} {e : Env} {R : Room} {s : State} {m : MethodId} {args : Array Value} {below : List Frame} {meth : Method} {c : Code} {H : Heap} {locs : List Loc} {cells slots : Nat} {Q : State → Prop} {pc : Nat} {ls : Array Slot} {A : Nat → Prop} {D : Nat} {y z : gy} {E : gE} {x : gd} {f : gf} {ad : Nat → Nat} {st : List Value}
abbrev nul (sl : List Bool) : List Value := (List.range sl.length).map (fun j => if sl.getD j false = true then .null else .int 0)
theorem L_new {ws : va_W} {idx ci : Nat} {sl : List Bool} (C : gC E D y p R s m args meth c A) (hP : va_P E.2.1 vwCl ws H) (hD : va_D A ws) (hS : va_S A s.heap H locs) (hd : decode y.2.1 pc = .ok (.new idx, 3)) (hM : gNw y.1.cls idx ci sl) (h1 : cells + 1 ≤ R.cells) (h2 : slots + sl.length ≤ R.slots)
    (kk : ∀ (q : Nat) (H1 : Heap), va_P E.2.1 vwCl (ws ++ [(q, .inr (ci, nul sl))]) H1 → va_D A (ws ++ [(q, .inr (ci, nul sl))]) → va_S A s.heap H1 locs → W p E.1 e R s m args below meth c H1 locs (cells + 1) (slots + sl.length) Q (F0 m (pc + 3) ls (.ref q :: st))) : W p E.1 e R s m args below meth c H locs cells slots Q (F0 m pc ls st) := by
  obtain ⟨C0, U, ty, m1, m2, m3, m4, m5, m6, m7⟩ := hM
  refine va_new (C := C0) (T := U) (ci := ci) (fs := nul sl) C.1.1 C.1.2.1 C.1.2.2.2.2 m2 ty m6 C.1.2.2.2.1 (C.1.2.2.2.2 _ m3) (C.1.2.2.2.2 _ m4) (C.1.2.2.2.2 _ m5) C.2.2.2.1.1 hP hD hS C.2.2.2.2 m1 (fun j hj => ?_) h1 h2 hd (fun q H1 hP1 hD1 hS1 => kk q H1 hP1 hD1 hS1)
  rw [m7 j hj]; unfold vp_V; rw [List.getD_eq_getElem?_getD (l := List.map _ _), List.getElem?_map, List.getElem?_range hj]; rfl
theorem gP_one {c9 ci q : Nat} {sl : List Bool} (hL : f.2.1 = [c9]) (hf : ∀ j, f.1 c9 j = none) (hx : ∀ j, x.1 c9 j = 0) (hK : E.2.2.2.1 c9 = .inl (ci, sl)) (had : ad c9 = q) (hat : va_at E.2.1 vwCl (q, .inr (ci, nul sl)) H) (hA : A q) (hg : gad E ad) : gP E x f ad A H := by
  have e1 : gwl E x f ad = [(q, .inr (ci, nul sl))] := by
    unfold gwl
    rw [hL]
    show [(ad c9, gce E x f ad c9)] = _
    rw [had, gce_obj hK]
    congr 4
    unfold gfl
    apply List.map_congr_left
    intro j _
    rw [hf j, hx j]; rfl
  have one : ∀ (k : Nat) (q9 : Nat × va_E), ([(q, .inr (ci, nul sl))] : va_W)[k]? = some q9 → k = 0 ∧ q9 = (q, .inr (ci, nul sl)) := fun k q9 hk => by
    have hz : k < 1 := (List.getElem?_eq_some_iff.mp hk).1
    have hz : k = 0 := by omega
    subst hz
    cases hk
    exact ⟨rfl, rfl⟩
  refine ⟨⟨?_, ?_⟩, hg⟩
  · rw [e1]
    intro k q9 hk
    obtain ⟨-, rfl⟩ := one k q9 hk
    exact hat
  · rw [e1]
    refine ⟨fun i j p9 q9 hi hj _ => by have := (one i p9 hi).1; have := (one j q9 hj).1; omega, fun k q9 hk => ?_⟩
    obtain ⟨-, rfl⟩ := one k q9 hk
    exact hA
/-- a constructor -/
theorem L_I {cr idx : Nat} {QQ : gd → gf → Prop} {restv : List Value} (C : gC E D y p R s m args meth c A) (hP : gP E x f ad A H) (hS : va_S A s.heap H locs) (hls : ls.size = y.2.2.1) (d1 : Nat) (hd : decode y.2.1 pc = .ok (.invokespecial idx, 3)) (hM : gMi y.1.cls idx z 0) (hd1 : d1 + 1 ≤ D) (hfit : gsz [vr cr] ≤ z.2.2.1) (hcat : (restv.map fun v => v.category).sum ≤ 8)
    (k : T E d1 z 0 (glv 0 [vr cr]) [] x f (fun o x1 f1 => o = .inl none ∧ QQ x1 f1)) (hroom9 : ∀ x1 f1, QQ x1 f1 → cells + (f1.2.2.1 - f.2.2.1) ≤ R.cells ∧ slots + (f1.2.2.2 - f.2.2.2) ≤ R.slots)
    (kk : ∀ (x1 : gd) (f1 : gf) (ad1 : Nat → Nat) (H1 : Heap) (locs1 : List Loc), QQ x1 f1 → gle f f1 → gex f ad ad1 → gP E x1 f1 ad1 (gA f ad H.size) H1 → (∀ q : Nat, q < H.size → ¬ gA f ad H.size q → H1[q]? = H[q]?) → va_S A s.heap H1 locs1 → W p E.1 e R s m args below meth c H1 locs1 (cells + (f1.2.2.1 - f.2.2.1)) (slots + (f1.2.2.2 - f.2.2.2)) Q (F0 m (pc + 3) ls restv)) :
    W p E.1 e R s m args below meth c H locs cells slots Q (F0 m pc ls (.ref (ad cr) :: restv)) := by
  obtain ⟨⟨m1, m2, m4, m5⟩, m6, ⟨m7, m10⟩, m8, m9⟩ := hM
  obtain ⟨o1, x1, f1, ⟨rfl, hk⟩, hle, hw1⟩ := k
  obtain ⟨hc1, hs1⟩ := hroom9 x1 f1 hk
  have hroom : 8 + (z.2.2.1 + 11) + 41 * d1 ≤ R.locals := by
    have hq := C.2.2.1.2
    omega
  have hz : z.2.2.2.2 = [] := by rw [m9]
  have hz1 : z.2.2.2.1 = none := by rw [m9]
  have hrun := va_runI (g := F0 m pc ls (.ref (ad cr) :: restv)) (rest := restv) (As := ([] : List gv).map (gcv ad)) (b := ad cr) (Pc := va_Pc ([vr cr].map (gcv ad)) (gst E x f ad H.size)) (e := e) (below := below) (meth := meth) (locs := locs) (cells := cells) (slots := slots) ⟨C.1.1, C.1.2.1, C.1.2.2.1, C.1.2.2.2.1, C.1.2.2.2.2⟩ (gM_ofI C.2.2.2.1.2.2.2 m7 hfit hw1 ad H.size)
      ⟨callB_of (bytes := z.2.1) (maxL := z.2.2.1) (ret := none) (ws' := W0) 0 C.1.2.2.2.2 (gwsz m5) (by rw [gws, gcw, hz, hz1]) rfl rfl (C.1.2.2.2.2 _ m4) (C.1.2.2.2.2 _ m1) m6 ⟨Nat.le_trans hd1 C.2.2.1.1, hroom⟩, m10, C.1.2.2.2.2 _ m2⟩ ⟨gst_blind, fun U hU hW => ⟨rfl, gst_in C hP hS hU hW⟩⟩ rfl rfl hls rfl (lv_room hcat) hd ⟨hc1, hs1⟩
  intro T9 hT X
  obtain ⟨v', st₀, t, T', L, h0, X', hL, e1, e2, ⟨ad1, hex, ⟨v2, ev1, ev2⟩, hP1, hF⟩, stp⟩ := hrun T9 hT X
  cases ev1
  cases ev2
  have hin := gA_in (sz := H.size) hP (fun q hq => C.2.2.2.2 q (Nat.le_trans hS.1 hq))
  obtain ⟨k1, k2, k3⟩ := vx_keep h0 e1 hS (fun q _ h => hin q h) hin hL hF
  obtain ⟨t2, s1, s2⟩ := kk x1 f1 ad1 T'.heap (locs ++ L) hk hle hex (by rw [e1]; exact hP1) k2 k3 T' rfl X'
  exact ⟨t2, stp t2 s1, s2⟩
/-- a shape that looks alike where it is looked at -/
theorem gwl_rf {f2 : gf} (hL : f2.2.1 = f.2.1) (hr : ∀ c ∈ f.2.1, ∀ k, (∀ ci sl, E.2.2.2.1 c = .inl (ci, sl) → k < sl.length ∧ sl.getD k false = true) → (∀ ty n, E.2.2.2.1 c = .inr (ty, n) → ty.isReference = true) → f2.1 c k = f.1 c k) : gwl E x f2 ad = gwl E x f ad := by
  unfold gwl
  rw [hL]
  apply List.map_congr_left
  intro c hc
  have hg : gce E x f2 ad c = gce E x f ad c := by
    cases hk : E.2.2.2.1 c with
    | inl o =>
      obtain ⟨ci, sl⟩ := o
      rw [gce_obj hk, gce_obj hk]
      congr 2
      unfold gfl
      apply List.map_congr_left
      intro j hj
      by_cases hs : sl.getD j false = true
      · rw [if_pos hs, if_pos hs, hr c hc j (fun ci' sl' h' => by rw [hk] at h'; cases h'; exact ⟨List.mem_range.mp hj, hs⟩) (fun ty n h' => by rw [hk] at h'; cases h')]
      · rw [if_neg hs, if_neg hs]
    | inr a =>
      obtain ⟨ty, n⟩ := a
      rw [gce_arr hk, gce_arr hk]
      congr 3
      have hz : ty.isReference = true → ∀ j, f2.1 c j = f.1 c j := fun ht j => hr c hc j (fun ci' sl' h' => by rw [hk] at h'; cases h') (fun ty' n' h' => by rw [hk] at h'; cases h'; exact ht)
      unfold gar
      cases ty <;> first | rfl | (simp only [hz rfl])
  rw [hg]
end LNW
def fE : gf := (fun _ _ => none, [], 0, 0)
def q00 : kP := kmk false false false false none 0 0 0 (0 :: news_0) 66 19895
abbrev x00 : gd := xops (znew zq0 0) ops_0
abbrev f00 : gf := fops (fnew fE 0 13) ops_0
theorem q00_U : kU q00 := by
  refine ⟨⟨by decide +kernel, fun e => absurd e (by decide), fun e => absurd e (by decide), fun e => absurd e (by decide), fun e => absurd e (by decide), fun k hk => absurd hk (Nat.not_lt_zero _), fun k hk => absurd hk (Nat.not_lt_zero _), fun k hk => absurd hk (Nat.not_lt_zero _)⟩, fun c hc => Or.inl ((by decide +kernel : ∀ c ∈ 0 :: news_0, c ∈ kl0) c hc), ⟨fun _ => ⟨rfl, rfl⟩, fun _ => rfl, fun _ => rfl⟩, fun o e => (by cases e), Nat.zero_le _, Nat.zero_le _, Nat.zero_le _⟩
theorem f00_L : f00.2.1 = (kf q00).2.1 := by
  rw [ops_L]
  show ([] ++ [0]) ++ ops_0.flatMap onew = 0 :: news_0
  rw [show ops_0.flatMap onew = news_0 by decide +kernel]; rfl
theorem f00_c : f00.2.2 = (66, 19895) := by
  rw [ops_ct, show (ops_0.map fun o => (ocel o).1).sum = 65 by decide +kernel, show (ops_0.map fun o => (ocel o).2).sum = 19882 by decide +kernel]; rfl
def chk0 : Bool := (0 :: news_0).all (fun c => match kK c with
  | .inl (_, sl) => (List.range sl.length).all (fun k => !sl.getD k false || decide (kR q00 c k = f00.1 c k))
  | .inr (ty, _) => !ty.isReference || c == 7)
theorem chk0_t : chk0 = true := by decide +kernel
theorem f00_r {c k : Nat} (hc : c ∈ (0 :: news_0)) (g1 : ∀ ci sl, kK c = .inl (ci, sl) → k < sl.length ∧ sl.getD k false = true) (g2 : ∀ ty n, kK c = .inr (ty, n) → ty.isReference = true) : kR q00 c k = f00.1 c k := by
  have h := List.all_eq_true.mp chk0_t c hc
  cases hk : kK c with
  | inl o =>
    obtain ⟨ci, sl⟩ := o
    obtain ⟨a1, a2⟩ := g1 ci sl hk
    rw [hk] at h
    have h2 := List.all_eq_true.mp h k (List.mem_range.mpr a1)
    rw [a2] at h2
    exact of_decide_eq_true (by simpa using h2)
  | inr a =>
    obtain ⟨ty, n⟩ := a
    have a1 := g2 ty n hk
    rw [hk] at h
    have h2 : (!ty.isReference || c == 7) = true := h
    rw [a1] at h2
    have : c = 7 := by simpa using h2
    subst this
    show (if k = 0 then (if false = true then some 260 else none) else if k = 1 then (if false = true then some 280 else none) else none) = none
    split
    · rfl
    · split <;> rfl
theorem x00_H : HOI x00 q00 := by
  have z : ∀ o, (o = 260 ∨ o = 280) → x00.1 o 0 = 0 ∧ x00.1 o 3 = 0 := fun o hO => by
    rcases hO with e | e <;> subst e <;> exact ⟨by decide +kernel, by decide +kernel⟩
  refine ⟨?_, fun e => absurd (by decide +kernel) e, fun e => absurd (by decide +kernel) e, fun o hO => ⟨⟨?_, Or.inl (z o hO).1⟩, fun _ => (z o hO).1⟩⟩
  · unfold kL
    rw [show x00.1 20 1 = 0 by decide +kernel]; decide
  · unfold TO
    rw [(z o hO).2]
    have k0 : (0 : Int32).toInt = 0 := rfl
    rw [k0]
    exact ⟨⟨by omega, by omega, oN_U q00_U o⟩, fun i hi => by omega⟩
theorem z1_M : MI z1 := by
  have k0 : (0 : Int32).toInt = 0 := rfl
  have zc : ∀ c k, c ≠ 0 → z1.1 c k = 0 := fun c k hc => by
    unfold z1
    rw [si_get, if_neg (by omega), si_get, if_neg (by omega)]; rfl
  refine ⟨⟨by decide, by decide, fun j hj => ?_, by decide, by decide, fun t ht => ?_⟩, fun e => absurd rfl e, fun e => absurd rfl e, fun w hw e => absurd (zc 119 w (by omega)) e⟩
  · rw [zc 6 j (by omega), zc 8 j (by omega), zc 7 j (by omega), k0]; omega
  · rw [zc 118 t (by omega), k0]; omega
theorem mAll_r (j : Nat) : (msl.getD j false = true) ↔ j ∈ mAll := by
  by_cases h : j < 139
  · exact (by decide +kernel : ∀ j, j < 139 → ((msl.getD j false = true) ↔ j ∈ mAll)) j h
  · constructor
    · intro e
      have hl : msl.length = 139 := by decide +kernel
      rw [List.getD_eq_getElem?_getD, List.getElem?_eq_none (by omega)] at e; cases e
    · intro e
      have := (by decide +kernel : ∀ k ∈ mAll, k < 139) j e
      omega
theorem m_gwl {G : mG} {ad : Nat → Nat} {ce sl : Nat} : gwl (mE G) z1 (mf G) ad = gwl (mE G) z1 (mSv mAll ce sl) ad := by
  refine gwl_ag (by show mL = 0 :: mAll.reverse.map (· + 1); decide +kernel) (fun _ _ => rfl) rfl (fun _ _ => rfl) (fun _ _ => rfl) (fun _ _ => rfl) (fun c _ j => ?_)
  show Option.map ad (if c = 0 then (if msl.getD j false = true then some (j + 1) else none) else none) = Option.map ad (if c = 0 ∧ j ∈ mAll then some (j + 1) else none)
  by_cases e : c = 0
  · by_cases e2 : msl.getD j false = true
    · rw [if_pos e, if_pos e2, if_pos ⟨e, (mAll_r j).mp e2⟩]
    · rw [if_pos e, if_neg e2, if_neg (fun z => e2 ((mAll_r j).mpr z.2))]
  · rw [if_neg e, if_neg (fun z => e z.1)]
set_option maxRecDepth 100000 in
theorem sca_init : tables_1_8[183]? = some (Cond.code yX12_init cX12_init 1 none) := rfl
theorem scw_init : Cond.code yX12_init cX12_init 1 none ∈ W0 := W0_in (tp_8 (List.mem_of_getElem? sca_init)) rfl
theorem kn_L_8 : gNw RL 8 11 ks_X11 := ⟨RX11, TX11, tyX11, rfl, kw_X11, (W0_in (tp_1 (List.mem_of_getElem? (i := 28) (by decide +kernel))) rfl), (W0_in (tp_1 (List.mem_of_getElem? (i := 29) (by decide +kernel))) rfl), (W0_in (tp_1 (List.mem_of_getElem? (i := 1) (by decide +kernel))) rfl), tyX11_ok, by decide⟩
set_option maxRecDepth 100000 in
theorem kn_L_100 : gNw RL 100 12 msl := ⟨RX12, TX12, tyX12, rfl, tw0_X12, (W0_in (tp_8 (List.mem_of_getElem? (i := 179) (by decide +kernel))) rfl), (W0_in (tp_8 (List.mem_of_getElem? (i := 180) (by decide +kernel))) rfl), (W0_in (tp_1 (List.mem_of_getElem? (i := 10) (by decide +kernel))) rfl), tyX12_ok, by decide +kernel⟩
theorem kci_L_99 : gMi RL 99 zk_X11_init 0 := ⟨⟨(W0_in (tp_1 (List.mem_of_getElem? (i := 30) (by decide +kernel))) rfl), (W0_in (tp_1 (List.mem_of_getElem? (i := 31) (by decide +kernel))) rfl), (W0_in (tp_1 (List.mem_of_getElem? (i := 1) (by decide +kernel))) rfl), kcw_X11_init⟩, ⟨by decide, by decide, by decide +kernel⟩, ⟨by decide, rfl⟩, by decide, rfl⟩
theorem kci_L_102 : gMi RL 102 z_init 0 := ⟨⟨(W0_in (tp_8 (List.mem_of_getElem? (i := 181) (by decide +kernel))) rfl), (W0_in (tp_8 (List.mem_of_getElem? (i := 182) (by decide +kernel))) rfl), (W0_in (tp_1 (List.mem_of_getElem? (i := 10) (by decide +kernel))) rfl), scw_init⟩, ⟨by decide, by decide, by decide +kernel⟩, ⟨by decide, rfl⟩, by decide, rfl⟩
theorem aL_W : Cond.arrayClass .long ∈ W0 := (W0_in (tp_10 (List.mem_of_getElem? (i := 124) (by decide +kernel))) rfl)
theorem aB_W : Cond.arrayClass .byte ∈ W0 := (W0_in (tp_1 (List.mem_of_getElem? (i := 81) (by decide +kernel))) rfl)
theorem aZ_W : Cond.arrayClass .boolean ∈ W0 := (W0_in (tp_2 (List.mem_of_getElem? (i := 47) (by decide +kernel))) rfl)
end
