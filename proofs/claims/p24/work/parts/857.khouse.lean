section
def ops_0 : List gop := [oN_ 20 10, oN_ 21 3000, oR_ 20 0 21, oN_ 23 702, oR_ 20 2 23, oN_ 24 702, oR_ 20 3 24, oN_ 25 702, oR_ 20 4 25, oN_ 26 702, oR_ 20 5 26, oN_ 27 702, oR_ 20 6 27, oR_ 0 0 20, oN_ 40 12, oR_ 40 0 20, oN_ 42 702, oR_ 40 1 42, oN_ 43 702, oR_ 40 2 43, oN_ 44 24, oR_ 40 3 44, oN_ 45 24, oR_ 40 4 45, oN_ 46 24, oR_ 40 5 46, oN_ 48 6, oR_ 40 7 48, oN_ 50 6, oR_ 40 9 50, oR_ 0 1 40, oN_ 60 18, oN_ 80 10, oN_ 81 400, oR_ 80 0 81, oN_ 82 400, oR_ 80 1 82, oN_ 83 400, oR_ 80 2 83, oN_ 84 400, oR_ 80 3 84, oN_ 85 400, oR_ 80 4 85, oN_ 86 400, oR_ 80 5 86, oN_ 87 400, oR_ 80 6 87, oN_ 88 400, oR_ 80 7 88, oN_ 89 400, oR_ 80 8 89, oR_ 60 0 80, oN_ 62 800, oR_ 60 1 62, oN_ 63 800, oR_ 60 2 63, oN_ 65 40, oR_ 60 4 65, oN_ 68 24, oR_ 60 7 68, oN_ 69 24, oR_ 60 8 69, oN_ 72 6, oR_ 60 11 72, oN_ 73 6, oR_ 60 12 73, oN_ 76 4, oR_ 60 15 76, oN_ 78 4, oR_ 60 17 78, oR_ 0 2 60, oN_ 100 18, oR_ 100 0 20, oR_ 100 1 40, oR_ 100 2 60, oR_ 100 3 80, oN_ 109 8, oR_ 100 8 109, oN_ 111 20, oR_ 100 10 111, oN_ 112 20, oR_ 100 11 112, oN_ 113 20, oR_ 100 12 113, oN_ 115 20, oR_ 100 14 115, oN_ 116 20, oR_ 100 15 116, oN_ 117 20, oR_ 100 16 117, oR_ 0 3 100, oN_ 120 15, oR_ 120 0 60, oR_ 120 1 80, oN_ 140 7, oR_ 120 2 140, oN_ 125 228, oR_ 120 4 125, oN_ 131 84, oR_ 120 10 131, oN_ 132 84, oR_ 120 11 132, oN_ 133 84, oR_ 120 12 133, oR_ 0 4 120, oN_ 160 18, oR_ 160 0 60, oN_ 162 400, oR_ 160 1 162, oN_ 166 400, oR_ 160 5 166, oN_ 167 400, oR_ 160 6 167, oN_ 168 400, oR_ 160 7 168, oN_ 169 400, oR_ 160 8 169, oN_ 170 400, oR_ 160 9 170, oN_ 171 400, oR_ 160 10 171, oN_ 172 400, oR_ 160 11 172, oN_ 173 2400, oR_ 160 12 173, oN_ 174 6, oR_ 160 13 174, oN_ 175 36, oR_ 160 14 175, oN_ 176 36, oR_ 160 15 176, oN_ 177 144, oR_ 160 16 177, oN_ 178 36, oR_ 160 17 178, oR_ 0 5 160, oN_ 7 2, oR_ 0 6 7, oI_ 0 11 (-1), oI_ 0 12 (-1)]
def news_0 : List Nat := [20, 21, 23, 24, 25, 26, 27, 40, 42, 43, 44, 45, 46, 48, 50, 60, 80, 81, 82, 83, 84, 85, 86, 87, 88, 89, 62, 63, 65, 68, 69, 72, 73, 76, 78, 100, 109, 111, 112, 113, 115, 116, 117, 120, 140, 125, 131, 132, 133, 160, 162, 166, 167, 168, 169, 170, 171, 172, 173, 174, 175, 176, 177, 178, 7]
set_option maxRecDepth 100000 in
set_option maxHeartbeats 4000000 in
theorem kc_0 {G : kG} {d : Nat} {x : gd} {f : gf} {Q : gr → gd → gf → Prop} (hB : 0 ∈ f.2.1) (hfr : ∀ c ∈ news_0, c ∉ f.2.1 ∧ NR f c) (h : Q (.inl none) (xops x ops_0) (fops f ops_0)) : T (kE G) (d + 3) zk_X11_init 0 [(0, vr 0)] [] x f Q := by
  have fr0 : ∀ c ∈ ([20, 21, 23, 24, 25, 26, 27, 40, 42, 43, 44, 45, 46, 48, 50, 60, 80, 81, 82, 83, 84, 85, 86, 87, 88, 89, 62, 63, 65, 68, 69, 72, 73, 76, 78, 100, 109, 111, 112, 113, 115, 116, 117, 120, 140, 125, 131, 132, 133, 160, 162, 166, 167, 168, 169, 170, 171, 172, 173, 174, 175, 176, 177, 178, 7] : List Nat), c ∉ f.2.1 ∧ NR f c := hfr
  have li0 : ∀ c ∈ ([0] : List Nat), c ∈ f.2.1 := fun c hc => by rw [List.mem_singleton.mp hc]; exact hB
  obtain ⟨f0, e0⟩ : ∃ z, z = f := ⟨_, rfl⟩
  rw [← e0] at fr0 li0 ⊢
  refine T_aload_n 0 (dk dtk_X11_init 0 rfl) rfl rfl ?_
  refine T_objInit (dk dtk_X11_init 1 rfl) ⟨(W0_in (tp_1 (List.mem_of_getElem? (i := 33) (by decide +kernel))) rfl), (W0_in (tp_1 (List.mem_of_getElem? (i := 34) (by decide +kernel))) rfl), (W0_in (tp_1 (List.mem_of_getElem? (i := 35) (by decide +kernel))) rfl)⟩ (by omega) (Nat.le_of_ble_eq_true rfl) ?_
  refine T_aload_n 0 (dk dtk_X11_init 2 rfl) rfl rfl ?_
  refine T_newO 20 (dk dtk_X11_init 3 rfl) kn_X11_7 kk_20 (fr0 20 (by decide)).1 (Or.inl (by decide)) (fr0 20 (by decide)).2 (gok_i (av_c (gkr (li0 0 (by decide))) av_n) (as_c (gkr (li0 0 (by decide))) as_n)) ?_
  obtain ⟨f1, e1⟩ : ∃ z, z = fnew f0 20 ks_X9.length := ⟨_, rfl⟩
  rw [← e1]
  have fr1 : ∀ c ∈ ([21, 23, 24, 25, 26, 27, 40, 42, 43, 44, 45, 46, 48, 50, 60, 80, 81, 82, 83, 84, 85, 86, 87, 88, 89, 62, 63, 65, 68, 69, 72, 73, 76, 78, 100, 109, 111, 112, 113, 115, 116, 117, 120, 140, 125, 131, 132, 133, 160, 162, 166, 167, 168, 169, 170, 171, 172, 173, 174, 175, 176, 177, 178, 7] : List Nat), c ∉ f1.2.1 ∧ NR f1 c := by rw [e1]; exact ops_fr (l := [oN_ 20 10]) fr0 (by decide +kernel)
  have li1 : ∀ c ∈ ([0, 20] : List Nat), c ∈ f1.2.1 := by rw [e1]; exact ops_li (l := [oN_ 20 10]) li0 (by decide +kernel)
  refine T_dup (dk dtk_X11_init 4 rfl) rfl ?_
  refine T_callI [] [vr 20, vr 0] (d + 2) rfl (dk dtk_X11_init 5 rfl) kci_X11_9 rfl (by omega) (Nat.le_of_ble_eq_true rfl) (Nat.le_of_ble_eq_true rfl) (gok_i (av_c (gkr (li1 0 (by decide))) av_n) (as_c (gkr (li1 20 (by decide))) (as_c (gkr (li1 0 (by decide))) as_n))) (kc_20 (d := d + 1) (li1 20 (by decide))  (fun c hc => fr1 c ((by decide +kernel : ∀ c ∈ news_20, c ∈ ([21, 23, 24, 25, 26, 27, 40, 42, 43, 44, 45, 46, 48, 50, 60, 80, 81, 82, 83, 84, 85, 86, 87, 88, 89, 62, 63, 65, 68, 69, 72, 73, 76, 78, 100, 109, 111, 112, 113, 115, 116, 117, 120, 140, 125, 131, 132, 133, 160, 162, 166, 167, 168, 169, 170, 171, 172, 173, 174, 175, 176, 177, 178, 7] : List Nat)) c hc))  ⟨rfl, ?_⟩)
  obtain ⟨f2, e2⟩ : ∃ z, z = fops f1 ops_20 := ⟨_, rfl⟩
  rw [← e2]
  have fr2 : ∀ c ∈ ([40, 42, 43, 44, 45, 46, 48, 50, 60, 80, 81, 82, 83, 84, 85, 86, 87, 88, 89, 62, 63, 65, 68, 69, 72, 73, 76, 78, 100, 109, 111, 112, 113, 115, 116, 117, 120, 140, 125, 131, 132, 133, 160, 162, 166, 167, 168, 169, 170, 171, 172, 173, 174, 175, 176, 177, 178, 7] : List Nat), c ∉ f2.2.1 ∧ NR f2 c := by rw [e2]; exact ops_fr (l := ops_20) fr1 (by decide +kernel)
  have li2 : ∀ c ∈ ([0, 20] : List Nat), c ∈ f2.2.1 := by rw [e2]; exact ops_li (l := ops_20) li1 (by decide +kernel)
  refine T_putRF 0 0 20 (dk dtk_X11_init 6 rfl) rfl kfl_X11_10 kk_0 (li2 0 (by decide)) (by decide) rfl (fun _ => ⟨rfl, rfl⟩) (fun r h => by cases h; rfl) ?_
  obtain ⟨f3, e3⟩ : ∃ z, z = frf f2 0 0 (some 20) := ⟨_, rfl⟩
  rw [← e3]
  have fr3 : ∀ c ∈ ([40, 42, 43, 44, 45, 46, 48, 50, 60, 80, 81, 82, 83, 84, 85, 86, 87, 88, 89, 62, 63, 65, 68, 69, 72, 73, 76, 78, 100, 109, 111, 112, 113, 115, 116, 117, 120, 140, 125, 131, 132, 133, 160, 162, 166, 167, 168, 169, 170, 171, 172, 173, 174, 175, 176, 177, 178, 7] : List Nat), c ∉ f3.2.1 ∧ NR f3 c := by rw [e3]; exact ops_fr (l := [oR_ 0 0 20]) fr2 (by decide +kernel)
  have li3 : ∀ c ∈ ([0, 20] : List Nat), c ∈ f3.2.1 := by rw [e3]; exact ops_li (l := [oR_ 0 0 20]) li2 (by decide +kernel)
  have r3_0_0 : f3.1 0 0 = some 20 := by rw [e3]; rfl
  refine T_aload_n 0 (dk dtk_X11_init 7 rfl) rfl rfl ?_
  refine T_newO 40 (dk dtk_X11_init 8 rfl) kn_X11_16 kk_40 (fr3 40 (by decide)).1 (Or.inl (by decide)) (fr3 40 (by decide)).2 (gok_i (av_c (gkr (li3 0 (by decide))) av_n) (as_c (gkr (li3 0 (by decide))) as_n)) ?_
  obtain ⟨f4, e4⟩ : ∃ z, z = fnew f3 40 ks_X6.length := ⟨_, rfl⟩
  rw [← e4]
  have fr4 : ∀ c ∈ ([42, 43, 44, 45, 46, 48, 50, 60, 80, 81, 82, 83, 84, 85, 86, 87, 88, 89, 62, 63, 65, 68, 69, 72, 73, 76, 78, 100, 109, 111, 112, 113, 115, 116, 117, 120, 140, 125, 131, 132, 133, 160, 162, 166, 167, 168, 169, 170, 171, 172, 173, 174, 175, 176, 177, 178, 7] : List Nat), c ∉ f4.2.1 ∧ NR f4 c := by rw [e4]; exact ops_fr (l := [oN_ 40 12]) fr3 (by decide +kernel)
  have li4 : ∀ c ∈ ([0, 20, 40] : List Nat), c ∈ f4.2.1 := by rw [e4]; exact ops_li (l := [oN_ 40 12]) li3 (by decide +kernel)
  have r4_0_0 : f4.1 0 0 = some 20 := by rw [e4]; exact r3_0_0
  refine T_dup (dk dtk_X11_init 9 rfl) rfl ?_
  refine T_aload_n 0 (dk dtk_X11_init 10 rfl) rfl rfl ?_
  refine T_getR 0 0 20 (dk dtk_X11_init 11 rfl) kfl_X11_10 kk_0 (li4 0 (by decide)) (by decide) rfl r4_0_0 ?_
  refine T_callI [vr 20] [vr 40, vr 0] (d + 2) rfl (dk dtk_X11_init 12 rfl) kci_X11_18 rfl (by omega) (Nat.le_of_ble_eq_true rfl) (Nat.le_of_ble_eq_true rfl) (gok_i (av_c (gkr (li4 0 (by decide))) av_n) (as_c (gkr (li4 40 (by decide))) (as_c (gkr (li4 0 (by decide))) as_n))) (kc_40 (d := d + 1) (li4 40 (by decide)) (li4 20 (by decide)) (fun c hc => fr4 c ((by decide +kernel : ∀ c ∈ news_40, c ∈ ([42, 43, 44, 45, 46, 48, 50, 60, 80, 81, 82, 83, 84, 85, 86, 87, 88, 89, 62, 63, 65, 68, 69, 72, 73, 76, 78, 100, 109, 111, 112, 113, 115, 116, 117, 120, 140, 125, 131, 132, 133, 160, 162, 166, 167, 168, 169, 170, 171, 172, 173, 174, 175, 176, 177, 178, 7] : List Nat)) c hc))  ⟨rfl, ?_⟩)
  obtain ⟨f5, e5⟩ : ∃ z, z = fops f4 ops_40 := ⟨_, rfl⟩
  rw [← e5]
  have fr5 : ∀ c ∈ ([60, 80, 81, 82, 83, 84, 85, 86, 87, 88, 89, 62, 63, 65, 68, 69, 72, 73, 76, 78, 100, 109, 111, 112, 113, 115, 116, 117, 120, 140, 125, 131, 132, 133, 160, 162, 166, 167, 168, 169, 170, 171, 172, 173, 174, 175, 176, 177, 178, 7] : List Nat), c ∉ f5.2.1 ∧ NR f5 c := by rw [e5]; exact ops_fr (l := ops_40) fr4 (by decide +kernel)
  have li5 : ∀ c ∈ ([0, 20, 40] : List Nat), c ∈ f5.2.1 := by rw [e5]; exact ops_li (l := ops_40) li4 (by decide +kernel)
  have r5_0_0 : f5.1 0 0 = some 20 := by rw [e5]; exact r4_0_0
  refine T_putRF 0 1 40 (dk dtk_X11_init 13 rfl) rfl kfl_X11_21 kk_0 (li5 0 (by decide)) (by decide) rfl (fun _ => ⟨rfl, rfl⟩) (fun r h => by cases h; rfl) ?_
  obtain ⟨f6, e6⟩ : ∃ z, z = frf f5 0 1 (some 40) := ⟨_, rfl⟩
  rw [← e6]
  have fr6 : ∀ c ∈ ([60, 80, 81, 82, 83, 84, 85, 86, 87, 88, 89, 62, 63, 65, 68, 69, 72, 73, 76, 78, 100, 109, 111, 112, 113, 115, 116, 117, 120, 140, 125, 131, 132, 133, 160, 162, 166, 167, 168, 169, 170, 171, 172, 173, 174, 175, 176, 177, 178, 7] : List Nat), c ∉ f6.2.1 ∧ NR f6 c := by rw [e6]; exact ops_fr (l := [oR_ 0 1 40]) fr5 (by decide +kernel)
  have li6 : ∀ c ∈ ([0, 20, 40] : List Nat), c ∈ f6.2.1 := by rw [e6]; exact ops_li (l := [oR_ 0 1 40]) li5 (by decide +kernel)
  have r6_0_0 : f6.1 0 0 = some 20 := by rw [e6]; exact r5_0_0
  have r6_0_1 : f6.1 0 1 = some 40 := by rw [e6]; rfl
  refine T_aload_n 0 (dk dtk_X11_init 14 rfl) rfl rfl ?_
  refine T_newO 60 (dk dtk_X11_init 15 rfl) kn_X11_25 kk_60 (fr6 60 (by decide)).1 (Or.inl (by decide)) (fr6 60 (by decide)).2 (gok_i (av_c (gkr (li6 0 (by decide))) av_n) (as_c (gkr (li6 0 (by decide))) as_n)) ?_
  obtain ⟨f7, e7⟩ : ∃ z, z = fnew f6 60 ks_X0.length := ⟨_, rfl⟩
  rw [← e7]
  have fr7 : ∀ c ∈ ([80, 81, 82, 83, 84, 85, 86, 87, 88, 89, 62, 63, 65, 68, 69, 72, 73, 76, 78, 100, 109, 111, 112, 113, 115, 116, 117, 120, 140, 125, 131, 132, 133, 160, 162, 166, 167, 168, 169, 170, 171, 172, 173, 174, 175, 176, 177, 178, 7] : List Nat), c ∉ f7.2.1 ∧ NR f7 c := by rw [e7]; exact ops_fr (l := [oN_ 60 18]) fr6 (by decide +kernel)
  have li7 : ∀ c ∈ ([0, 20, 40, 60] : List Nat), c ∈ f7.2.1 := by rw [e7]; exact ops_li (l := [oN_ 60 18]) li6 (by decide +kernel)
  have r7_0_0 : f7.1 0 0 = some 20 := by rw [e7]; exact r6_0_0
  have r7_0_1 : f7.1 0 1 = some 40 := by rw [e7]; exact r6_0_1
  refine T_dup (dk dtk_X11_init 16 rfl) rfl ?_
  refine T_callI [] [vr 60, vr 0] (d + 2) rfl (dk dtk_X11_init 17 rfl) kci_X11_27 rfl (by omega) (Nat.le_of_ble_eq_true rfl) (Nat.le_of_ble_eq_true rfl) (gok_i (av_c (gkr (li7 0 (by decide))) av_n) (as_c (gkr (li7 60 (by decide))) (as_c (gkr (li7 0 (by decide))) as_n))) (kc_60 (d := d + 0) (li7 60 (by decide))  (fun c hc => fr7 c ((by decide +kernel : ∀ c ∈ news_60, c ∈ ([80, 81, 82, 83, 84, 85, 86, 87, 88, 89, 62, 63, 65, 68, 69, 72, 73, 76, 78, 100, 109, 111, 112, 113, 115, 116, 117, 120, 140, 125, 131, 132, 133, 160, 162, 166, 167, 168, 169, 170, 171, 172, 173, 174, 175, 176, 177, 178, 7] : List Nat)) c hc))  ⟨rfl, ?_⟩)
  obtain ⟨f8, e8⟩ : ∃ z, z = fops f7 ops_60 := ⟨_, rfl⟩
  rw [← e8]
  have fr8 : ∀ c ∈ ([100, 109, 111, 112, 113, 115, 116, 117, 120, 140, 125, 131, 132, 133, 160, 162, 166, 167, 168, 169, 170, 171, 172, 173, 174, 175, 176, 177, 178, 7] : List Nat), c ∉ f8.2.1 ∧ NR f8 c := by rw [e8]; exact ops_fr (l := ops_60) fr7 (by decide +kernel)
  have li8 : ∀ c ∈ ([0, 20, 40, 60, 80] : List Nat), c ∈ f8.2.1 := by rw [e8]; exact ops_li (l := ops_60) li7 (by decide +kernel)
  have r8_0_0 : f8.1 0 0 = some 20 := by rw [e8]; exact r7_0_0
  have r8_0_1 : f8.1 0 1 = some 40 := by rw [e8]; exact r7_0_1
  have r8_60_0 : f8.1 60 0 = some 80 := by rw [e8]; rfl
  refine T_putRF 0 2 60 (dk dtk_X11_init 18 rfl) rfl kfl_X11_28 kk_0 (li8 0 (by decide)) (by decide) rfl (fun _ => ⟨rfl, rfl⟩) (fun r h => by cases h; rfl) ?_
  obtain ⟨f9, e9⟩ : ∃ z, z = frf f8 0 2 (some 60) := ⟨_, rfl⟩
  rw [← e9]
  have fr9 : ∀ c ∈ ([100, 109, 111, 112, 113, 115, 116, 117, 120, 140, 125, 131, 132, 133, 160, 162, 166, 167, 168, 169, 170, 171, 172, 173, 174, 175, 176, 177, 178, 7] : List Nat), c ∉ f9.2.1 ∧ NR f9 c := by rw [e9]; exact ops_fr (l := [oR_ 0 2 60]) fr8 (by decide +kernel)
  have li9 : ∀ c ∈ ([0, 20, 40, 60, 80] : List Nat), c ∈ f9.2.1 := by rw [e9]; exact ops_li (l := [oR_ 0 2 60]) li8 (by decide +kernel)
  have r9_0_0 : f9.1 0 0 = some 20 := by rw [e9]; exact r8_0_0
  have r9_0_1 : f9.1 0 1 = some 40 := by rw [e9]; exact r8_0_1
  have r9_60_0 : f9.1 60 0 = some 80 := by rw [e9]; exact r8_60_0
  have r9_0_2 : f9.1 0 2 = some 60 := by rw [e9]; rfl
  refine T_aload_n 0 (dk dtk_X11_init 19 rfl) rfl rfl ?_
  refine T_newO 100 (dk dtk_X11_init 20 rfl) kn_X11_32 kk_100 (fr9 100 (by decide)).1 (Or.inl (by decide)) (fr9 100 (by decide)).2 (gok_i (av_c (gkr (li9 0 (by decide))) av_n) (as_c (gkr (li9 0 (by decide))) as_n)) ?_
  obtain ⟨f10, e10⟩ : ∃ z, z = fnew f9 100 ks_X7.length := ⟨_, rfl⟩
  rw [← e10]
  have fr10 : ∀ c ∈ ([109, 111, 112, 113, 115, 116, 117, 120, 140, 125, 131, 132, 133, 160, 162, 166, 167, 168, 169, 170, 171, 172, 173, 174, 175, 176, 177, 178, 7] : List Nat), c ∉ f10.2.1 ∧ NR f10 c := by rw [e10]; exact ops_fr (l := [oN_ 100 18]) fr9 (by decide +kernel)
  have li10 : ∀ c ∈ ([0, 20, 40, 60, 80, 100] : List Nat), c ∈ f10.2.1 := by rw [e10]; exact ops_li (l := [oN_ 100 18]) li9 (by decide +kernel)
  have r10_0_0 : f10.1 0 0 = some 20 := by rw [e10]; exact r9_0_0
  have r10_0_1 : f10.1 0 1 = some 40 := by rw [e10]; exact r9_0_1
  have r10_60_0 : f10.1 60 0 = some 80 := by rw [e10]; exact r9_60_0
  have r10_0_2 : f10.1 0 2 = some 60 := by rw [e10]; exact r9_0_2
  refine T_dup (dk dtk_X11_init 21 rfl) rfl ?_
  refine T_aload_n 0 (dk dtk_X11_init 22 rfl) rfl rfl ?_
  refine T_getR 0 0 20 (dk dtk_X11_init 23 rfl) kfl_X11_10 kk_0 (li10 0 (by decide)) (by decide) rfl r10_0_0 ?_
  refine T_aload_n 0 (dk dtk_X11_init 24 rfl) rfl rfl ?_
  refine T_getR 0 1 40 (dk dtk_X11_init 25 rfl) kfl_X11_21 kk_0 (li10 0 (by decide)) (by decide) rfl r10_0_1 ?_
  refine T_aload_n 0 (dk dtk_X11_init 26 rfl) rfl rfl ?_
  refine T_getR 0 2 60 (dk dtk_X11_init 27 rfl) kfl_X11_28 kk_0 (li10 0 (by decide)) (by decide) rfl r10_0_2 ?_
  refine T_callI [vr 20, vr 40, vr 60] [vr 100, vr 0] (d + 2) rfl (dk dtk_X11_init 28 rfl) kci_X11_34 rfl (by omega) (Nat.le_of_ble_eq_true rfl) (Nat.le_of_ble_eq_true rfl) (gok_i (av_c (gkr (li10 0 (by decide))) av_n) (as_c (gkr (li10 100 (by decide))) (as_c (gkr (li10 0 (by decide))) as_n))) (kc_100 (d := d + 1) (li10 100 (by decide)) (li10 20 (by decide)) (li10 40 (by decide)) (li10 60 (by decide)) (fun c hc => fr10 c ((by decide +kernel : ∀ c ∈ news_100, c ∈ ([109, 111, 112, 113, 115, 116, 117, 120, 140, 125, 131, 132, 133, 160, 162, 166, 167, 168, 169, 170, 171, 172, 173, 174, 175, 176, 177, 178, 7] : List Nat)) c hc)) r10_60_0 ⟨rfl, ?_⟩)
  obtain ⟨f11, e11⟩ : ∃ z, z = fops f10 ops_100 := ⟨_, rfl⟩
  rw [← e11]
  have fr11 : ∀ c ∈ ([120, 140, 125, 131, 132, 133, 160, 162, 166, 167, 168, 169, 170, 171, 172, 173, 174, 175, 176, 177, 178, 7] : List Nat), c ∉ f11.2.1 ∧ NR f11 c := by rw [e11]; exact ops_fr (l := ops_100) fr10 (by decide +kernel)
  have li11 : ∀ c ∈ ([0, 20, 40, 60, 80, 100] : List Nat), c ∈ f11.2.1 := by rw [e11]; exact ops_li (l := ops_100) li10 (by decide +kernel)
  have r11_0_0 : f11.1 0 0 = some 20 := by rw [e11]; exact r10_0_0
  have r11_0_1 : f11.1 0 1 = some 40 := by rw [e11]; exact r10_0_1
  have r11_60_0 : f11.1 60 0 = some 80 := by rw [e11]; exact r10_60_0
  have r11_0_2 : f11.1 0 2 = some 60 := by rw [e11]; exact r10_0_2
  refine T_putRF 0 3 100 (dk dtk_X11_init 29 rfl) rfl kfl_X11_37 kk_0 (li11 0 (by decide)) (by decide) rfl (fun _ => ⟨rfl, rfl⟩) (fun r h => by cases h; rfl) ?_
  obtain ⟨f12, e12⟩ : ∃ z, z = frf f11 0 3 (some 100) := ⟨_, rfl⟩
  rw [← e12]
  have fr12 : ∀ c ∈ ([120, 140, 125, 131, 132, 133, 160, 162, 166, 167, 168, 169, 170, 171, 172, 173, 174, 175, 176, 177, 178, 7] : List Nat), c ∉ f12.2.1 ∧ NR f12 c := by rw [e12]; exact ops_fr (l := [oR_ 0 3 100]) fr11 (by decide +kernel)
  have li12 : ∀ c ∈ ([0, 20, 40, 60, 80, 100] : List Nat), c ∈ f12.2.1 := by rw [e12]; exact ops_li (l := [oR_ 0 3 100]) li11 (by decide +kernel)
  have r12_0_0 : f12.1 0 0 = some 20 := by rw [e12]; exact r11_0_0
  have r12_0_1 : f12.1 0 1 = some 40 := by rw [e12]; exact r11_0_1
  have r12_60_0 : f12.1 60 0 = some 80 := by rw [e12]; exact r11_60_0
  have r12_0_2 : f12.1 0 2 = some 60 := by rw [e12]; exact r11_0_2
  refine T_aload_n 0 (dk dtk_X11_init 30 rfl) rfl rfl ?_
  refine T_newO 120 (dk dtk_X11_init 31 rfl) kn_X11_41 kk_120 (fr12 120 (by decide)).1 (Or.inl (by decide)) (fr12 120 (by decide)).2 (gok_i (av_c (gkr (li12 0 (by decide))) av_n) (as_c (gkr (li12 0 (by decide))) as_n)) ?_
  obtain ⟨f13, e13⟩ : ∃ z, z = fnew f12 120 ks_X5.length := ⟨_, rfl⟩
  rw [← e13]
  have fr13 : ∀ c ∈ ([140, 125, 131, 132, 133, 160, 162, 166, 167, 168, 169, 170, 171, 172, 173, 174, 175, 176, 177, 178, 7] : List Nat), c ∉ f13.2.1 ∧ NR f13 c := by rw [e13]; exact ops_fr (l := [oN_ 120 15]) fr12 (by decide +kernel)
  have li13 : ∀ c ∈ ([0, 20, 40, 60, 80, 100, 120] : List Nat), c ∈ f13.2.1 := by rw [e13]; exact ops_li (l := [oN_ 120 15]) li12 (by decide +kernel)
  have r13_0_0 : f13.1 0 0 = some 20 := by rw [e13]; exact r12_0_0
  have r13_0_1 : f13.1 0 1 = some 40 := by rw [e13]; exact r12_0_1
  have r13_60_0 : f13.1 60 0 = some 80 := by rw [e13]; exact r12_60_0
  have r13_0_2 : f13.1 0 2 = some 60 := by rw [e13]; exact r12_0_2
  refine T_dup (dk dtk_X11_init 32 rfl) rfl ?_
  refine T_aload_n 0 (dk dtk_X11_init 33 rfl) rfl rfl ?_
  refine T_getR 0 2 60 (dk dtk_X11_init 34 rfl) kfl_X11_28 kk_0 (li13 0 (by decide)) (by decide) rfl r13_0_2 ?_
  refine T_callI [vr 60] [vr 120, vr 0] (d + 2) rfl (dk dtk_X11_init 35 rfl) kci_X11_43 rfl (by omega) (Nat.le_of_ble_eq_true rfl) (Nat.le_of_ble_eq_true rfl) (gok_i (av_c (gkr (li13 0 (by decide))) av_n) (as_c (gkr (li13 120 (by decide))) (as_c (gkr (li13 0 (by decide))) as_n))) (kc_120 (d := d + 0) (li13 120 (by decide)) (li13 60 (by decide)) (fun c hc => fr13 c ((by decide +kernel : ∀ c ∈ news_120, c ∈ ([140, 125, 131, 132, 133, 160, 162, 166, 167, 168, 169, 170, 171, 172, 173, 174, 175, 176, 177, 178, 7] : List Nat)) c hc)) r13_60_0 ⟨rfl, ?_⟩)
  obtain ⟨f14, e14⟩ : ∃ z, z = fops f13 ops_120 := ⟨_, rfl⟩
  rw [← e14]
  have fr14 : ∀ c ∈ ([160, 162, 166, 167, 168, 169, 170, 171, 172, 173, 174, 175, 176, 177, 178, 7] : List Nat), c ∉ f14.2.1 ∧ NR f14 c := by rw [e14]; exact ops_fr (l := ops_120) fr13 (by decide +kernel)
  have li14 : ∀ c ∈ ([0, 20, 40, 60, 80, 100, 120] : List Nat), c ∈ f14.2.1 := by rw [e14]; exact ops_li (l := ops_120) li13 (by decide +kernel)
  have r14_0_0 : f14.1 0 0 = some 20 := by rw [e14]; exact r13_0_0
  have r14_0_1 : f14.1 0 1 = some 40 := by rw [e14]; exact r13_0_1
  have r14_60_0 : f14.1 60 0 = some 80 := by rw [e14]; exact r13_60_0
  have r14_0_2 : f14.1 0 2 = some 60 := by rw [e14]; exact r13_0_2
  refine T_putRF 0 4 120 (dk dtk_X11_init 36 rfl) rfl kfl_X11_46 kk_0 (li14 0 (by decide)) (by decide) rfl (fun _ => ⟨rfl, rfl⟩) (fun r h => by cases h; rfl) ?_
  obtain ⟨f15, e15⟩ : ∃ z, z = frf f14 0 4 (some 120) := ⟨_, rfl⟩
  rw [← e15]
  have fr15 : ∀ c ∈ ([160, 162, 166, 167, 168, 169, 170, 171, 172, 173, 174, 175, 176, 177, 178, 7] : List Nat), c ∉ f15.2.1 ∧ NR f15 c := by rw [e15]; exact ops_fr (l := [oR_ 0 4 120]) fr14 (by decide +kernel)
  have li15 : ∀ c ∈ ([0, 20, 40, 60, 80, 100, 120] : List Nat), c ∈ f15.2.1 := by rw [e15]; exact ops_li (l := [oR_ 0 4 120]) li14 (by decide +kernel)
  have r15_0_0 : f15.1 0 0 = some 20 := by rw [e15]; exact r14_0_0
  have r15_0_1 : f15.1 0 1 = some 40 := by rw [e15]; exact r14_0_1
  have r15_60_0 : f15.1 60 0 = some 80 := by rw [e15]; exact r14_60_0
  have r15_0_2 : f15.1 0 2 = some 60 := by rw [e15]; exact r14_0_2
  refine T_aload_n 0 (dk dtk_X11_init 37 rfl) rfl rfl ?_
  refine T_newO 160 (dk dtk_X11_init 38 rfl) kn_X11_50 kk_160 (fr15 160 (by decide)).1 (Or.inl (by decide)) (fr15 160 (by decide)).2 (gok_i (av_c (gkr (li15 0 (by decide))) av_n) (as_c (gkr (li15 0 (by decide))) as_n)) ?_
  obtain ⟨f16, e16⟩ : ∃ z, z = fnew f15 160 ks_X4.length := ⟨_, rfl⟩
  rw [← e16]
  have fr16 : ∀ c ∈ ([162, 166, 167, 168, 169, 170, 171, 172, 173, 174, 175, 176, 177, 178, 7] : List Nat), c ∉ f16.2.1 ∧ NR f16 c := by rw [e16]; exact ops_fr (l := [oN_ 160 18]) fr15 (by decide +kernel)
  have li16 : ∀ c ∈ ([0, 20, 40, 60, 80, 100, 120, 160] : List Nat), c ∈ f16.2.1 := by rw [e16]; exact ops_li (l := [oN_ 160 18]) li15 (by decide +kernel)
  have r16_0_0 : f16.1 0 0 = some 20 := by rw [e16]; exact r15_0_0
  have r16_0_1 : f16.1 0 1 = some 40 := by rw [e16]; exact r15_0_1
  have r16_60_0 : f16.1 60 0 = some 80 := by rw [e16]; exact r15_60_0
  have r16_0_2 : f16.1 0 2 = some 60 := by rw [e16]; exact r15_0_2
  refine T_dup (dk dtk_X11_init 39 rfl) rfl ?_
  refine T_aload_n 0 (dk dtk_X11_init 40 rfl) rfl rfl ?_
  refine T_getR 0 2 60 (dk dtk_X11_init 41 rfl) kfl_X11_28 kk_0 (li16 0 (by decide)) (by decide) rfl r16_0_2 ?_
  refine T_callI [vr 60] [vr 160, vr 0] (d + 2) rfl (dk dtk_X11_init 42 rfl) kci_X11_52 rfl (by omega) (Nat.le_of_ble_eq_true rfl) (Nat.le_of_ble_eq_true rfl) (gok_i (av_c (gkr (li16 0 (by decide))) av_n) (as_c (gkr (li16 160 (by decide))) (as_c (gkr (li16 0 (by decide))) as_n))) (kc_160 (d := d + 1) (li16 160 (by decide)) (li16 60 (by decide)) (fun c hc => fr16 c ((by decide +kernel : ∀ c ∈ news_160, c ∈ ([162, 166, 167, 168, 169, 170, 171, 172, 173, 174, 175, 176, 177, 178, 7] : List Nat)) c hc))  ⟨rfl, ?_⟩)
  obtain ⟨f17, e17⟩ : ∃ z, z = fops f16 ops_160 := ⟨_, rfl⟩
  rw [← e17]
  have fr17 : ∀ c ∈ ([7] : List Nat), c ∉ f17.2.1 ∧ NR f17 c := by rw [e17]; exact ops_fr (l := ops_160) fr16 (by decide +kernel)
  have li17 : ∀ c ∈ ([0, 20, 40, 60, 80, 100, 120, 160] : List Nat), c ∈ f17.2.1 := by rw [e17]; exact ops_li (l := ops_160) li16 (by decide +kernel)
  have r17_0_0 : f17.1 0 0 = some 20 := by rw [e17]; exact r16_0_0
  have r17_0_1 : f17.1 0 1 = some 40 := by rw [e17]; exact r16_0_1
  have r17_60_0 : f17.1 60 0 = some 80 := by rw [e17]; exact r16_60_0
  have r17_0_2 : f17.1 0 2 = some 60 := by rw [e17]; exact r16_0_2
  refine T_putRF 0 5 160 (dk dtk_X11_init 43 rfl) rfl kfl_X11_53 kk_0 (li17 0 (by decide)) (by decide) rfl (fun _ => ⟨rfl, rfl⟩) (fun r h => by cases h; rfl) ?_
  obtain ⟨f18, e18⟩ : ∃ z, z = frf f17 0 5 (some 160) := ⟨_, rfl⟩
  rw [← e18]
  have fr18 : ∀ c ∈ ([7] : List Nat), c ∉ f18.2.1 ∧ NR f18 c := by rw [e18]; exact ops_fr (l := [oR_ 0 5 160]) fr17 (by decide +kernel)
  have li18 : ∀ c ∈ ([0, 20, 40, 60, 80, 100, 120, 160] : List Nat), c ∈ f18.2.1 := by rw [e18]; exact ops_li (l := [oR_ 0 5 160]) li17 (by decide +kernel)
  have r18_0_0 : f18.1 0 0 = some 20 := by rw [e18]; exact r17_0_0
  have r18_0_1 : f18.1 0 1 = some 40 := by rw [e18]; exact r17_0_1
  have r18_60_0 : f18.1 60 0 = some 80 := by rw [e18]; exact r17_60_0
  have r18_0_2 : f18.1 0 2 = some 60 := by rw [e18]; exact r17_0_2
  refine T_aload_n 0 (dk dtk_X11_init 44 rfl) rfl rfl ?_
  refine T_iconst (v := 2) (dk dtk_X11_init 45 rfl) (by decide +kernel) ?_
  refine T_newT 7 (dk dtk_X11_init 46 rfl) (W0_in (tp_3 (List.mem_of_getElem? (i := 50) (by decide +kernel))) rfl) kk_7 (by decide) (by decide) (by decide) (fr18 7 (by decide)).1 (Or.inl (by decide)) (fr18 7 (by decide)).2 (gok_i (av_c (gkr (li18 0 (by decide))) av_n) (as_c (gkr (li18 0 (by decide))) as_n)) ?_
  obtain ⟨f19, e19⟩ : ∃ z, z = fnew f18 7 2 := ⟨_, rfl⟩
  rw [← e19]
  have fr19 : ∀ c ∈ ([] : List Nat), c ∉ f19.2.1 ∧ NR f19 c := by rw [e19]; exact ops_fr (l := [oN_ 7 2]) fr18 (by decide +kernel)
  have li19 : ∀ c ∈ ([0, 20, 40, 60, 80, 100, 120, 160, 7] : List Nat), c ∈ f19.2.1 := by rw [e19]; exact ops_li (l := [oN_ 7 2]) li18 (by decide +kernel)
  have r19_0_0 : f19.1 0 0 = some 20 := by rw [e19]; exact r18_0_0
  have r19_0_1 : f19.1 0 1 = some 40 := by rw [e19]; exact r18_0_1
  have r19_60_0 : f19.1 60 0 = some 80 := by rw [e19]; exact r18_60_0
  have r19_0_2 : f19.1 0 2 = some 60 := by rw [e19]; exact r18_0_2
  refine T_putRF 0 6 7 (dk dtk_X11_init 47 rfl) rfl kfl_X11_59 kk_0 (li19 0 (by decide)) (by decide) rfl (fun _ => ⟨rfl, rfl⟩) (fun r h => by cases h; rfl) ?_
  obtain ⟨f20, e20⟩ : ∃ z, z = frf f19 0 6 (some 7) := ⟨_, rfl⟩
  rw [← e20]
  have fr20 : ∀ c ∈ ([] : List Nat), c ∉ f20.2.1 ∧ NR f20 c := by rw [e20]; exact ops_fr (l := [oR_ 0 6 7]) fr19 (by decide +kernel)
  have li20 : ∀ c ∈ ([0, 20, 40, 60, 80, 100, 120, 160, 7] : List Nat), c ∈ f20.2.1 := by rw [e20]; exact ops_li (l := [oR_ 0 6 7]) li19 (by decide +kernel)
  have r20_0_0 : f20.1 0 0 = some 20 := by rw [e20]; exact r19_0_0
  have r20_0_1 : f20.1 0 1 = some 40 := by rw [e20]; exact r19_0_1
  have r20_60_0 : f20.1 60 0 = some 80 := by rw [e20]; exact r19_60_0
  have r20_0_2 : f20.1 0 2 = some 60 := by rw [e20]; exact r19_0_2
  refine T_aload_n 0 (dk dtk_X11_init 48 rfl) rfl rfl ?_
  refine T_iconst (v := (-1)) (dk dtk_X11_init 49 rfl) (by decide +kernel) ?_
  refine T_putI 0 11 (dk dtk_X11_init 50 rfl) kfl_X11_63 kk_0 (li20 0 (by decide)) (by decide) rfl ⟨rfl, rfl⟩ ?_
  refine T_aload_n 0 (dk dtk_X11_init 51 rfl) rfl rfl ?_
  refine T_iconst (v := (-1)) (dk dtk_X11_init 52 rfl) (by decide +kernel) ?_
  refine T_putI 0 12 (dk dtk_X11_init 53 rfl) kfl_X11_67 kk_0 (li20 0 (by decide)) (by decide) rfl ⟨rfl, rfl⟩ ?_
  have e9 : f20 = fops f ops_0 := by rw [e20, e19, e18, e17, e16, e15, e14, e13, e12, e11, e10, e9, e8, e7, e6, e5, e4, e3, e2, e1, e0]; rfl
  rw [e9]
  exact T_vret (dk dtk_X11_init 54 rfl) rfl h
end
section
/-! the class's shape while it runs: what was made, no more; rows that make a history, an explorer, a trying, rows of states and outcomes -/
def kmd (q : kP) (c : Nat) : Prop := c ∈ kl0 ∨ (q.hi = true ∧ c ∈ klH) ∨ (q.ex = true ∧ c ∈ klE) ∨ (q.t0 = true ∧ c ∈ klA) ∨ (q.t1 = true ∧ c ∈ klB) ∨ (∃ k, k < q.kn ∧ c = 1000 + k) ∨ (∃ k, k < q.o0 ∧ c = 4000 + k) ∨ ∃ k, k < q.o1 ∧ c = 7000 + k
def kU (q : kP) : Prop := kV q ∧ (∀ c ∈ q.L, kmd q c) ∧ ((q.ex = false → q.kn = 0 ∧ q.et = none) ∧ (q.t0 = false → q.o0 = 0) ∧ (q.t1 = false → q.o1 = 0)) ∧ (∀ o, q.et = some o → kiT q o) ∧ (q.kn ≤ 3000 ∧ q.o0 ≤ 3000 ∧ q.o1 ≤ 3000)
theorem kmd_L {q : kP} {c : Nat} (hu : kV q) (h : kmd q c) : c ∈ q.L := by
  rcases h with h | ⟨e, h⟩ | ⟨e, h⟩ | ⟨e, h⟩ | ⟨e, h⟩ | ⟨k, hk, rfl⟩ | ⟨k, hk, rfl⟩ | ⟨k, hk, rfl⟩
  · exact hu.1 c h
  · exact hu.2.1 e c h
  · exact hu.2.2.1 e c h
  · exact hu.2.2.2.1 e c h
  · exact hu.2.2.2.2.1 e c h
  · exact hu.2.2.2.2.2.1 k hk
  · exact hu.2.2.2.2.2.2.1 k hk
  · exact hu.2.2.2.2.2.2.2 k hk
def tOk (A B : List Nat) : Bool := A.all (fun c' => (kRa.getD c' []).all (fun r => match r with
  | none => true
  | some c => B.contains c))
theorem tOk_u {A B : List Nat} (h : tOk A B = true) {c' j c : Nat} (hc : c' ∈ A) (hj : (kRa.getD c' []).getD j none = some c) : c ∈ B := by
  have h1 := List.all_eq_true.mp h c' hc
  have hm : some c ∈ kRa.getD c' [] := by
    rw [List.getD_eq_getElem?_getD] at hj
    cases hr : (kRa.getD c' [])[j]? with
    | none => rw [hr] at hj; cases hj
    | some r => rw [hr] at hj; cases hj; exact List.mem_of_getElem? hr
  have h2 := List.all_eq_true.mp h1 _ hm
  exact List.contains_iff_mem.mp h2
theorem tOk_0 : tOk kl0 kl0 = true := by decide +kernel
theorem tOk_H : tOk klH (klH ++ kl0) = true := by decide +kernel
theorem tOk_E : tOk klE (klE ++ kl0) = true := by decide +kernel
theorem tOk_A : tOk klA (klA ++ kl0) = true := by decide +kernel
theorem tOk_B : tOk klB (klB ++ kl0) = true := by decide +kernel
theorem kRa_len : kRa.length = 300 := by decide +kernel
theorem kRa_far {c j : Nat} (h : 300 ≤ c) : (kRa.getD c []).getD j none = none := by
  have : kRa[c]? = none := List.getElem?_eq_none (by rw [kRa_len]; exact h)
  rw [List.getD_eq_getElem?_getD (l := kRa), this]; rfl
/-- what live cells hold is live -/
theorem kU_cl {q : kP} (hu : kU q) {c' j c : Nat} (hc : c' ∈ q.L) (h : kR q c' j = some c) : c ∈ q.L := by
  refine kmd_L hu.1 ?_
  have hm := hu.2.1 c' hc
  unfold kR at h
  by_cases h1 : c' = 0 ∧ j = 7
  · rw [if_pos h1] at h
    by_cases e : q.ex = true
    · rw [if_pos e] at h; cases h; exact Or.inr (Or.inr (Or.inl ⟨e, by decide⟩))
    · rw [if_neg e] at h; cases h
  rw [if_neg h1] at h
  by_cases h2 : c' = 0 ∧ j = 8
  · rw [if_pos h2] at h
    by_cases e : q.hi = true
    · rw [if_pos e] at h; cases h; exact Or.inr (Or.inl ⟨e, by decide⟩)
    · rw [if_neg e] at h; cases h
  rw [if_neg h2] at h
  by_cases h3 : c' = 7
  · rw [if_pos h3] at h
    by_cases e0 : j = 0
    · rw [if_pos e0] at h
      by_cases e : q.t0 = true
      · rw [if_pos e] at h; cases h; exact Or.inr (Or.inr (Or.inr (Or.inl ⟨e, by decide⟩)))
      · rw [if_neg e] at h; cases h
    rw [if_neg e0] at h
    by_cases e1 : j = 1
    · rw [if_pos e1] at h
      by_cases e : q.t1 = true
      · rw [if_pos e] at h; cases h; exact Or.inr (Or.inr (Or.inr (Or.inr (Or.inl ⟨e, by decide⟩))))
      · rw [if_neg e] at h; cases h
    rw [if_neg e1] at h; cases h
  rw [if_neg h3] at h
  by_cases h4 : c' = 200 ∧ j = 7
  · rw [if_pos h4] at h
    rcases hu.2.2.2.1 c h with ⟨rfl, e⟩ | ⟨rfl, e⟩
    · exact Or.inr (Or.inr (Or.inr (Or.inl ⟨e, by decide⟩)))
    · exact Or.inr (Or.inr (Or.inr (Or.inr (Or.inl ⟨e, by decide⟩))))
  rw [if_neg h4] at h
  by_cases h5 : c' = 203
  · rw [if_pos h5] at h
    by_cases e : j < q.kn
    · rw [if_pos e] at h; cases h; exact Or.inr (Or.inr (Or.inr (Or.inr (Or.inr (Or.inl ⟨j, e, rfl⟩)))))
    · rw [if_neg e] at h; cases h
  rw [if_neg h5] at h
  by_cases h6 : c' = 273
  · rw [if_pos h6] at h
    by_cases e : j < q.o0
    · rw [if_pos e] at h; cases h; exact Or.inr (Or.inr (Or.inr (Or.inr (Or.inr (Or.inr (Or.inl ⟨j, e, rfl⟩))))))
    · rw [if_neg e] at h; cases h
  rw [if_neg h6] at h
  by_cases h7 : c' = 293
  · rw [if_pos h7] at h
    by_cases e : j < q.o1
    · rw [if_pos e] at h; cases h; exact Or.inr (Or.inr (Or.inr (Or.inr (Or.inr (Or.inr (Or.inr ⟨j, e, rfl⟩))))))
    · rw [if_neg e] at h; cases h
  rw [if_neg h7] at h
  by_cases h8 : c' = 190
  · rw [if_pos h8] at h
    by_cases e : j < 13
    · rw [if_pos e] at h
      cases h
      subst h8
      have hi : q.hi = true := by
        rcases hm with g | ⟨g, -⟩ | ⟨-, g⟩ | ⟨-, g⟩ | ⟨-, g⟩ | ⟨k, -, g⟩ | ⟨k, -, g⟩ | ⟨k, -, g⟩
        · exact absurd g (by decide)
        · exact g
        · exact absurd g (by decide)
        · exact absurd g (by decide)
        · exact absurd g (by decide)
        · omega
        · omega
        · omega
      exact Or.inr (Or.inl ⟨hi, (by decide : ∀ k, k < 13 → 300 + k ∈ klH) j e⟩)
    · rw [if_neg e] at h; cases h
  rw [if_neg h8] at h
  have spl : ∀ {B : List Nat}, c ∈ B ++ kl0 → c ∈ B ∨ c ∈ kl0 := fun hh => List.mem_append.mp hh
  rcases hm with g | ⟨e, g⟩ | ⟨e, g⟩ | ⟨e, g⟩ | ⟨e, g⟩ | ⟨k, -, g⟩ | ⟨k, -, g⟩ | ⟨k, -, g⟩
  · exact Or.inl (tOk_u tOk_0 g h)
  · rcases spl (tOk_u tOk_H g h) with z | z
    · exact Or.inr (Or.inl ⟨e, z⟩)
    · exact Or.inl z
  · rcases spl (tOk_u tOk_E g h) with z | z
    · exact Or.inr (Or.inr (Or.inl ⟨e, z⟩))
    · exact Or.inl z
  · rcases spl (tOk_u tOk_A g h) with z | z
    · exact Or.inr (Or.inr (Or.inr (Or.inl ⟨e, z⟩)))
    · exact Or.inl z
  · rcases spl (tOk_u tOk_B g h) with z | z
    · exact Or.inr (Or.inr (Or.inr (Or.inr (Or.inl ⟨e, z⟩))))
    · exact Or.inl z
  · rw [kRa_far (by omega)] at h; cases h
  · rw [kRa_far (by omega)] at h; cases h
  · rw [kRa_far (by omega)] at h; cases h
theorem kU_NR {q : kP} (hu : kU q) {c : Nat} (hc : c ∉ q.L) : NR (kf q) c := fun c' h' j h => hc (kU_cl hu h' h)
theorem kU_fr {q : kP} (hu : kU q) {c : Nat} (h : ¬ kmd q c) : c ∉ (kf q).2.1 ∧ NR (kf q) c := ⟨fun hc => h (hu.2.1 c hc), kU_NR hu (fun hc => h (hu.2.1 c hc))⟩
/-- how much was made -/
def wC (q : kP) : Nat := q.kn + q.o0 + q.o1 + (cond q.hi 30 0) + (cond q.ex 30 0) + (cond q.t0 30 0) + cond q.t1 30 0
def wS (q : kP) : Nat := 228 * q.kn + 24 * q.o0 + 24 * q.o1 + (cond q.hi 400 0) + (cond q.ex 20000 0) + (cond q.t0 20000 0) + cond q.t1 20000 0
def kle (q q' : kP) : Prop := (∀ c ∈ q.L, c ∈ q'.L) ∧ ((q.hi = true → q'.hi = true) ∧ (q.ex = true → q'.ex = true) ∧ (q.t0 = true → q'.t0 = true) ∧ (q.t1 = true → q'.t1 = true)) ∧ (q.kn ≤ q'.kn ∧ q.o0 ≤ q'.o0 ∧ q.o1 ≤ q'.o1) ∧ q'.ce + wC q ≤ q.ce + wC q' ∧ q'.sl + wS q ≤ q.sl + wS q'
theorem kle_rf (q : kP) : kle q q := ⟨fun _ h => h, ⟨fun h => h, fun h => h, fun h => h, fun h => h⟩, ⟨Nat.le_refl _, Nat.le_refl _, Nat.le_refl _⟩, Nat.le_refl _, Nat.le_refl _⟩
theorem kle_tr {a b c : kP} (h : kle a b) (g : kle b c) : kle a c := by
  obtain ⟨h1, ⟨h2, h3, h4, h5⟩, ⟨h6, h7, h8⟩, h9, h10⟩ := h
  obtain ⟨g1, ⟨g2, g3, g4, g5⟩, ⟨g6, g7, g8⟩, g9, g10⟩ := g
  exact ⟨fun c hc => g1 c (h1 c hc), ⟨fun z => g2 (h2 z), fun z => g3 (h3 z), fun z => g4 (h4 z), fun z => g5 (h5 z)⟩, ⟨by omega, by omega, by omega⟩, by omega, by omega⟩
theorem kle_T {q q' : kP} {o : Nat} (h : kle q q') (ho : kiT q o) : kiT q' o := by
  rcases ho with ⟨e, g⟩ | ⟨e, g⟩
  · exact Or.inl ⟨e, h.2.1.2.2.1 g⟩
  · exact Or.inr ⟨e, h.2.1.2.2.2 g⟩
def kHi (q : kP) : kP := kmk true q.ex q.t0 q.t1 q.et q.kn q.o0 q.o1 (q.L ++ 180 :: news_180) (q.ce + 22) (q.sl + 286)
def kEx (q : kP) : kP := kmk q.hi true q.t0 q.t1 q.et q.kn q.o0 q.o1 (q.L ++ 200 :: news_200) (q.ce + 12) (q.sl + 14716)
def kT0 (q : kP) : kP := kmk q.hi q.ex true q.t1 q.et q.kn q.o0 q.o1 (q.L ++ 260 :: news_260) (q.ce + 9) (q.sl + 15055)
def kT1 (q : kP) : kP := kmk q.hi q.ex q.t0 true q.et q.kn q.o0 q.o1 (q.L ++ 280 :: news_280) (q.ce + 9) (q.sl + 15055)
def kKn (q : kP) : kP := kmk q.hi q.ex q.t0 q.t1 q.et (q.kn + 1) q.o0 q.o1 (q.L ++ [1000 + q.kn]) (q.ce + 1) (q.sl + 228)
def kO0 (q : kP) : kP := kmk q.hi q.ex q.t0 q.t1 q.et q.kn (q.o0 + 1) q.o1 (q.L ++ [4000 + q.o0]) (q.ce + 1) (q.sl + 24)
def kO1 (q : kP) : kP := kmk q.hi q.ex q.t0 q.t1 q.et q.kn q.o0 (q.o1 + 1) (q.L ++ [7000 + q.o1]) (q.ce + 1) (q.sl + 24)
def kEt (q : kP) (o : Nat) : kP := kmk q.hi q.ex q.t0 q.t1 (some o) q.kn q.o0 q.o1 q.L q.ce q.sl
section GRF
variable {E : gE} {d : Nat} {y : gy} {pc : Nat} {lv : List (Nat × gv)} {st : List gv} {x : gd} {f : gf} {Q : gr → gd → gf → Prop}
/-- a shape that looks alike where it is looked at -/
theorem T_refs {f2 : gf} (h2 : f2.2 = f.2) (hr : ∀ c ∈ f.2.1, ∀ k, (∀ ci sl, E.2.2.2.1 c = .inl (ci, sl) → k < sl.length ∧ sl.getD k false = true) → (∀ ty n, E.2.2.2.1 c = .inr (ty, n) → ty.isReference = true) → f2.1 c k = f.1 c k) (k : T E d y pc lv st x f2 Q) : T E d y pc lv st x f Q :=
  T_stepR h2 (fun p e R s m args below meth c A H locs cells slots ls ad Q9 C hP hS hl kk => by
    have e : gwl E x f2 ad = gwl E x f ad := by
      unfold gwl
      rw [show f2.2.1 = f.2.1 by rw [h2]]
      apply List.map_congr_left
      intro c hc
      have hg : gce E x f2 ad c = gce E x f ad c := by
        cases hk : E.2.2.2.1 c with
        | inl o =>
          obtain ⟨ci, sl⟩ := o
          rw [gce_obj hk, gce_obj hk]
          congr 2
          unfold gfl
          apply List.map_congr_left
          intro j hj
          by_cases hs : sl.getD j false = true
          · rw [if_pos hs, if_pos hs, hr c hc j (fun ci' sl' h' => by rw [hk] at h'; cases h'; exact ⟨List.mem_range.mp hj, hs⟩) (fun ty n h' => by rw [hk] at h'; cases h')]
          · rw [if_neg hs, if_neg hs]
        | inr a =>
          obtain ⟨ty, n⟩ := a
          rw [gce_arr hk, gce_arr hk]
          congr 3
          have hz : ty.isReference = true → ∀ j, f2.1 c j = f.1 c j := fun ht j => hr c hc j (fun ci' sl' h' => by rw [hk] at h'; cases h') (fun ty' n' h' => by rw [hk] at h'; cases h'; exact ht)
          unfold gar
          cases ty <;> first | rfl | (simp only [hz rfl])
      rw [hg]
    exact kk H locs ⟨⟨by rw [e]; exact hP.1.1, by rw [e]; exact hP.1.2⟩, hP.2⟩ hS) k
end GRF
theorem kHi_2 {q : kP} {i : Nat} {v : Option Nat} : (kf (kHi q)).2 = (frf (fops (fnew (kf q) 180 13) ops_180) 0 i v).2 := by
  show ((kHi q).L, (kHi q).ce, (kHi q).sl) = (fops (fnew (kf q) 180 13) ops_180).2
  refine Prod.ext ?_ ?_
  · rw [ops_L]
    show q.L ++ 180 :: news_180 = (q.L ++ [180]) ++ ops_180.flatMap onew
    rw [show ops_180.flatMap onew = news_180 by decide +kernel, List.append_assoc]; rfl
  · rw [ops_ct, show (ops_180.map fun o => (ocel o).1).sum = 21 by decide +kernel, show (ops_180.map fun o => (ocel o).2).sum = 273 by decide +kernel]
    exact Prod.ext (by show q.ce + 22 = q.ce + 1 + 21; omega) (by show q.sl + 286 = q.sl + 13 + 273; omega)
theorem kHi_r {q : kP} (h0 : q.hi = q.hi) (het : q.et = none ∨ True) {c k : Nat} (g1 : ∀ ci sl, kK c = .inl (ci, sl) → k < sl.length ∧ sl.getD k false = true) (g2 : ∀ ty n, kK c = .inr (ty, n) → ty.isReference = true) : (kf (kHi q)).1 c k = (frf (fops (fnew (kf q) 180 13) ops_180) 0 8 (some 180)).1 c k := by
  by_cases hm : c ∈ 180 :: news_180
  · simp only [news_180, List.mem_cons, List.not_mem_nil, or_false] at hm
    rcases hm with rfl | rfl | rfl | rfl | rfl | rfl | rfl | rfl | rfl | rfl | rfl | rfl | rfl | rfl | rfl | rfl | rfl | rfl | rfl | rfl | rfl | rfl
    · have hk : k < 13 := (g1 _ _ kk_180).1
      have hk2 : k = 0 ∨ k = 1 ∨ k = 2 ∨ k = 3 ∨ k = 4 ∨ k = 5 ∨ k = 6 ∨ k = 7 ∨ k = 8 ∨ k = 9 ∨ k = 10 ∨ k = 11 ∨ k = 12 := by omega
      rcases hk2 with rfl | rfl | rfl | rfl | rfl | rfl | rfl | rfl | rfl | rfl | rfl | rfl | rfl <;> first | rfl
    · exact absurd (g2 _ _ kk_181) (by decide)
    · exact absurd (g2 _ _ kk_182) (by decide)
    · exact absurd (g2 _ _ kk_183) (by decide)
    · exact absurd (g2 _ _ kk_184) (by decide)
    · exact absurd (g2 _ _ kk_185) (by decide)
    · exact absurd (g2 _ _ kk_186) (by decide)
    · exact absurd (g2 _ _ kk_189) (by decide)
    · show (if k < 13 then some (300 + k) else none) = (if 190 = 190 ∧ k < 13 then some (300 + k) else none)
      by_cases h13 : k < 13
      · rw [if_pos h13, if_pos ⟨rfl, h13⟩]
      · rw [if_neg h13, if_neg (fun z => h13 z.2)]
    · exact absurd (g2 _ _ (rfl : kK 300 = _)) (by decide)
    · exact absurd (g2 _ _ (rfl : kK 301 = _)) (by decide)
    · exact absurd (g2 _ _ (rfl : kK 302 = _)) (by decide)
    · exact absurd (g2 _ _ (rfl : kK 303 = _)) (by decide)
    · exact absurd (g2 _ _ (rfl : kK 304 = _)) (by decide)
    · exact absurd (g2 _ _ (rfl : kK 305 = _)) (by decide)
    · exact absurd (g2 _ _ (rfl : kK 306 = _)) (by decide)
    · exact absurd (g2 _ _ (rfl : kK 307 = _)) (by decide)
    · exact absurd (g2 _ _ (rfl : kK 308 = _)) (by decide)
    · exact absurd (g2 _ _ (rfl : kK 309 = _)) (by decide)
    · exact absurd (g2 _ _ (rfl : kK 310 = _)) (by decide)
    · exact absurd (g2 _ _ (rfl : kK 311 = _)) (by decide)
    · exact absurd (g2 _ _ (rfl : kK 312 = _)) (by decide)
  · have h1 : (fops (fnew (kf q) 180 13) ops_180).1 c k = kR q c k := by
      rw [ops_same (fun z => hm ((by decide +kernel : ∀ c ∈ ops_180.flatMap otch, c ∈ 180 :: news_180) c z))]
      exact if_neg (fun e => hm (by rw [e]; exact List.mem_cons_self))
    show kR (kHi q) c k = (if c = 0 ∧ k = 8 then some 180 else (fops (fnew (kf q) 180 13) ops_180).1 c k)
    rw [h1]
    unfold kR
    by_cases e : c = 0 ∧ k = 8
    · rw [if_pos e, if_neg (by omega), if_pos e]; rfl
    · rw [if_neg e, if_neg e, if_neg e]; rfl
theorem kEx_2 {q : kP} {i : Nat} {v : Option Nat} : (kf (kEx q)).2 = (frf (fops (fnew (kf q) 200 10) ops_200) 0 i v).2 := by
  show ((kEx q).L, (kEx q).ce, (kEx q).sl) = (fops (fnew (kf q) 200 10) ops_200).2
  refine Prod.ext ?_ ?_
  · rw [ops_L]
    show q.L ++ 200 :: news_200 = (q.L ++ [200]) ++ ops_200.flatMap onew
    rw [show ops_200.flatMap onew = news_200 by decide +kernel, List.append_assoc]; rfl
  · rw [ops_ct, show (ops_200.map fun o => (ocel o).1).sum = 11 by decide +kernel, show (ops_200.map fun o => (ocel o).2).sum = 14706 by decide +kernel]
    exact Prod.ext (by show q.ce + 12 = q.ce + 1 + 11; omega) (by show q.sl + 14716 = q.sl + 10 + 14706; omega)
theorem kEx_r {q : kP} (h0 : q.kn = 0) (het : q.et = none) {c k : Nat} (g1 : ∀ ci sl, kK c = .inl (ci, sl) → k < sl.length ∧ sl.getD k false = true) (g2 : ∀ ty n, kK c = .inr (ty, n) → ty.isReference = true) : (kf (kEx q)).1 c k = (frf (fops (fnew (kf q) 200 10) ops_200) 0 7 (some 200)).1 c k := by
  by_cases hm : c ∈ 200 :: news_200
  · simp only [news_200, List.mem_cons, List.not_mem_nil, or_false] at hm
    rcases hm with rfl | rfl | rfl | rfl | rfl | rfl | rfl | rfl | rfl | rfl | rfl | rfl
    · have hk : k < 10 := (g1 _ _ kk_200).1
      have hk2 : k = 0 ∨ k = 1 ∨ k = 2 ∨ k = 3 ∨ k = 4 ∨ k = 5 ∨ k = 6 ∨ k = 7 ∨ k = 8 ∨ k = 9 := by omega
      rcases hk2 with rfl | rfl | rfl | rfl | rfl | rfl | rfl | rfl | rfl | rfl <;> first | rfl | exact het
    · have hk : k < 15 := (g1 _ _ kk_220).1
      have hk2 : k = 0 ∨ k = 1 ∨ k = 2 ∨ k = 3 ∨ k = 4 ∨ k = 5 ∨ k = 6 ∨ k = 7 ∨ k = 8 ∨ k = 9 ∨ k = 10 ∨ k = 11 ∨ k = 12 ∨ k = 13 ∨ k = 14 := by omega
      rcases hk2 with rfl | rfl | rfl | rfl | rfl | rfl | rfl | rfl | rfl | rfl | rfl | rfl | rfl | rfl | rfl <;> first | rfl
    · have hk : k < 7 := (g1 _ _ kk_240).1
      have hk2 : k = 0 ∨ k = 1 ∨ k = 2 ∨ k = 3 ∨ k = 4 ∨ k = 5 ∨ k = 6 := by omega
      rcases hk2 with rfl | rfl | rfl | rfl | rfl | rfl | rfl <;> first | rfl
    · exact absurd (g2 _ _ kk_225) (by decide)
    · exact absurd (g2 _ _ kk_231) (by decide)
    · exact absurd (g2 _ _ kk_232) (by decide)
    · exact absurd (g2 _ _ kk_233) (by decide)
    · show (if k < q.kn then some _ else none) = none
      rw [h0, if_neg (Nat.not_lt_zero _)]
    · exact absurd (g2 _ _ kk_204) (by decide)
    · exact absurd (g2 _ _ kk_205) (by decide)
    · exact absurd (g2 _ _ kk_209) (by decide)
    · exact absurd (g2 _ _ kk_210) (by decide)
  · have h1 : (fops (fnew (kf q) 200 10) ops_200).1 c k = kR q c k := by
      rw [ops_same (fun z => hm ((by decide +kernel : ∀ c ∈ ops_200.flatMap otch, c ∈ 200 :: news_200) c z))]
      exact if_neg (fun e => hm (by rw [e]; exact List.mem_cons_self))
    show kR (kEx q) c k = (if c = 0 ∧ k = 7 then some 200 else (fops (fnew (kf q) 200 10) ops_200).1 c k)
    rw [h1]
    unfold kR
    by_cases e : c = 0 ∧ k = 7
    · rw [if_pos e, if_pos e]; rfl
    · rw [if_neg e, if_neg e, if_neg e]; rfl
theorem kT0_2 {q : kP} {i : Nat} {v : Option Nat} : (kf (kT0 q)).2 = (frf (fops (fnew (kf q) 260 14) ops_260) 7 i v).2 := by
  show ((kT0 q).L, (kT0 q).ce, (kT0 q).sl) = (fops (fnew (kf q) 260 14) ops_260).2
  refine Prod.ext ?_ ?_
  · rw [ops_L]
    show q.L ++ 260 :: news_260 = (q.L ++ [260]) ++ ops_260.flatMap onew
    rw [show ops_260.flatMap onew = news_260 by decide +kernel, List.append_assoc]; rfl
  · rw [ops_ct, show (ops_260.map fun o => (ocel o).1).sum = 8 by decide +kernel, show (ops_260.map fun o => (ocel o).2).sum = 15041 by decide +kernel]
    exact Prod.ext (by show q.ce + 9 = q.ce + 1 + 8; omega) (by show q.sl + 15055 = q.sl + 14 + 15041; omega)
theorem kT0_r {q : kP} (h0 : q.o0 = 0) (het : q.et = none ∨ True) {c k : Nat} (g1 : ∀ ci sl, kK c = .inl (ci, sl) → k < sl.length ∧ sl.getD k false = true) (g2 : ∀ ty n, kK c = .inr (ty, n) → ty.isReference = true) : (kf (kT0 q)).1 c k = (frf (fops (fnew (kf q) 260 14) ops_260) 7 0 (some 260)).1 c k := by
  by_cases hm : c ∈ 260 :: news_260
  · simp only [news_260, List.mem_cons, List.not_mem_nil, or_false] at hm
    rcases hm with rfl | rfl | rfl | rfl | rfl | rfl | rfl | rfl | rfl
    · have hk : k < 14 := (g1 _ _ (rfl : kK 260 = _)).1
      have hk2 : k = 0 ∨ k = 1 ∨ k = 2 ∨ k = 3 ∨ k = 4 ∨ k = 5 ∨ k = 6 ∨ k = 7 ∨ k = 8 ∨ k = 9 ∨ k = 10 ∨ k = 11 ∨ k = 12 ∨ k = 13 := by omega
      rcases hk2 with rfl | rfl | rfl | rfl | rfl | rfl | rfl | rfl | rfl | rfl | rfl | rfl | rfl | rfl <;> first | rfl
    · exact absurd (g2 _ _ (rfl : kK 267 = _)) (by decide)
    · exact absurd (g2 _ _ (rfl : kK 268 = _)) (by decide)
    · exact absurd (g2 _ _ (rfl : kK 269 = _)) (by decide)
    · exact absurd (g2 _ _ (rfl : kK 270 = _)) (by decide)
    · exact absurd (g2 _ _ (rfl : kK 271 = _)) (by decide)
    · exact absurd (g2 _ _ (rfl : kK 272 = _)) (by decide)
    · show (if k < q.o0 then some _ else none) = none
      rw [h0, if_neg (Nat.not_lt_zero _)]
    · exact absurd (g2 _ _ (rfl : kK 274 = _)) (by decide)
  · have h1 : (fops (fnew (kf q) 260 14) ops_260).1 c k = kR q c k := by
      rw [ops_same (fun z => hm ((by decide +kernel : ∀ c ∈ ops_260.flatMap otch, c ∈ 260 :: news_260) c z))]
      exact if_neg (fun e => hm (by rw [e]; exact List.mem_cons_self))
    show kR (kT0 q) c k = (if c = 7 ∧ k = 0 then some 260 else (fops (fnew (kf q) 260 14) ops_260).1 c k)
    rw [h1]
    by_cases e : c = 7 ∧ k = 0
    · obtain ⟨rfl, rfl⟩ := e
      rfl
    rw [if_neg e]
    by_cases e7 : c = 7
    · subst e7
      have e0 : ¬ k = 0 := fun z => e ⟨rfl, z⟩
      show (if k = 0 then some 260 else if k = 1 then (if q.t1 = true then some 280 else none) else none) = (if k = 0 then (if q.t0 = true then some 260 else none) else if k = 1 then (if q.t1 = true then some 280 else none) else none)
      rw [if_neg e0, if_neg e0]
    · unfold kR
      rw [if_neg e7, if_neg e7]; rfl
theorem kT1_2 {q : kP} {i : Nat} {v : Option Nat} : (kf (kT1 q)).2 = (frf (fops (fnew (kf q) 280 14) ops_280) 7 i v).2 := by
  show ((kT1 q).L, (kT1 q).ce, (kT1 q).sl) = (fops (fnew (kf q) 280 14) ops_280).2
  refine Prod.ext ?_ ?_
  · rw [ops_L]
    show q.L ++ 280 :: news_280 = (q.L ++ [280]) ++ ops_280.flatMap onew
    rw [show ops_280.flatMap onew = news_280 by decide +kernel, List.append_assoc]; rfl
  · rw [ops_ct, show (ops_280.map fun o => (ocel o).1).sum = 8 by decide +kernel, show (ops_280.map fun o => (ocel o).2).sum = 15041 by decide +kernel]
    exact Prod.ext (by show q.ce + 9 = q.ce + 1 + 8; omega) (by show q.sl + 15055 = q.sl + 14 + 15041; omega)
theorem kT1_r {q : kP} (h0 : q.o1 = 0) (het : q.et = none ∨ True) {c k : Nat} (g1 : ∀ ci sl, kK c = .inl (ci, sl) → k < sl.length ∧ sl.getD k false = true) (g2 : ∀ ty n, kK c = .inr (ty, n) → ty.isReference = true) : (kf (kT1 q)).1 c k = (frf (fops (fnew (kf q) 280 14) ops_280) 7 1 (some 280)).1 c k := by
  by_cases hm : c ∈ 280 :: news_280
  · simp only [news_280, List.mem_cons, List.not_mem_nil, or_false] at hm
    rcases hm with rfl | rfl | rfl | rfl | rfl | rfl | rfl | rfl | rfl
    · have hk : k < 14 := (g1 _ _ (rfl : kK 280 = _)).1
      have hk2 : k = 0 ∨ k = 1 ∨ k = 2 ∨ k = 3 ∨ k = 4 ∨ k = 5 ∨ k = 6 ∨ k = 7 ∨ k = 8 ∨ k = 9 ∨ k = 10 ∨ k = 11 ∨ k = 12 ∨ k = 13 := by omega
      rcases hk2 with rfl | rfl | rfl | rfl | rfl | rfl | rfl | rfl | rfl | rfl | rfl | rfl | rfl | rfl <;> first | rfl
    · exact absurd (g2 _ _ (rfl : kK 287 = _)) (by decide)
    · exact absurd (g2 _ _ (rfl : kK 288 = _)) (by decide)
    · exact absurd (g2 _ _ (rfl : kK 289 = _)) (by decide)
    · exact absurd (g2 _ _ (rfl : kK 290 = _)) (by decide)
    · exact absurd (g2 _ _ (rfl : kK 291 = _)) (by decide)
    · exact absurd (g2 _ _ (rfl : kK 292 = _)) (by decide)
    · show (if k < q.o1 then some _ else none) = none
      rw [h0, if_neg (Nat.not_lt_zero _)]
    · exact absurd (g2 _ _ (rfl : kK 294 = _)) (by decide)
  · have h1 : (fops (fnew (kf q) 280 14) ops_280).1 c k = kR q c k := by
      rw [ops_same (fun z => hm ((by decide +kernel : ∀ c ∈ ops_280.flatMap otch, c ∈ 280 :: news_280) c z))]
      exact if_neg (fun e => hm (by rw [e]; exact List.mem_cons_self))
    show kR (kT1 q) c k = (if c = 7 ∧ k = 1 then some 280 else (fops (fnew (kf q) 280 14) ops_280).1 c k)
    rw [h1]
    by_cases e : c = 7 ∧ k = 1
    · obtain ⟨rfl, rfl⟩ := e
      rfl
    rw [if_neg e]
    by_cases e7 : c = 7
    · subst e7
      have e0 : ¬ k = 1 := fun z => e ⟨rfl, z⟩
      show (if k = 0 then (if q.t0 = true then some 260 else none) else if k = 1 then some 280 else none) = (if k = 0 then (if q.t0 = true then some 260 else none) else if k = 1 then (if q.t1 = true then some 280 else none) else none)
      rw [if_neg e0, if_neg e0]
    · unfold kR
      rw [if_neg e7, if_neg e7]; rfl
end
