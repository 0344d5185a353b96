section
/-! the class: what may stand before an operand -/
/-- from x to y, M was read -/
def RIw (K V : Nat → Int32) (sN : Nat → Nat → Bool) (e : Nat) (E : gV) (x y : gd) (M : gU) : Prop := KA K V sN e y ∧ nn y ≤ e ∧ UR sN E x y M
theorem pbg_k {s k : Int32} {o : Bool} (hk : kc s = k) : pbg o k ↔ (s = 3 ∨ s = 2 ∨ s = 21 ∨ s = 59 ∨ s = 18 ∨ (s = 62 ∧ o = false)) := by
  have i : ∀ {c v : Int32}, kc c = v → ¬ kc c = -1 → (k = v ↔ s = c) := fun {c v} hc hn => ⟨fun q => kc_i (by rw [hk, q, hc]) hn, fun q => by rw [← hk, q, hc]⟩
  have e2 : k = 2 ↔ s = 3 := i (by decide) (by decide)
  have e32 : k = 32 ↔ s = 62 := i (by decide) (by decide)
  have e1 : k = 1 ↔ s = 2 := i (by decide) (by decide)
  have e61 : k = 61 ↔ s = 21 := i (by decide) (by decide)
  have e29 : k = 29 ↔ s = 59 := i (by decide) (by decide)
  have e58 : k = 58 ↔ s = 18 := i (by decide) (by decide)
  unfold pbg
  rw [e2, e32, e1, e61, e29, e58]
  constructor
  · rintro (h | h | h | h | h | h)
    · exact Or.inl h
    · exact Or.inr (Or.inr (Or.inr (Or.inr (Or.inr h))))
    · exact Or.inr (Or.inl h)
    · exact Or.inr (Or.inr (Or.inl h))
    · exact Or.inr (Or.inr (Or.inr (Or.inl h)))
    · exact Or.inr (Or.inr (Or.inr (Or.inr (Or.inl h))))
  · rintro (h | h | h | h | h | h)
    · exact Or.inl h
    · exact Or.inr (Or.inr (Or.inl h))
    · exact Or.inr (Or.inr (Or.inr (Or.inl h)))
    · exact Or.inr (Or.inr (Or.inr (Or.inr (Or.inl h))))
    · exact Or.inr (Or.inr (Or.inr (Or.inr (Or.inr h))))
    · exact Or.inr (Or.inl h)
section KOF
variable {G : kG} {q : kP} {d : Nat} {x x0 y z : gd} {F : Int32 → gd → Prop} {Fv : gd → Prop} {X : String → gd → Prop} {P : Option gv → gd → Prop} {m : Int} {K V : Nat → Int32} {sN : Nat → Nat → Bool} {e : Nat} {E : gV} {M : gU} {o : Bool}
theorem RI_st (h : RIw K V sN e E x y M) (e4 : z.1 100 4 = y.1 100 4) (eu : ∀ j, z.1 42 j = y.1 42 j) (f : ∀ c k, 20 ≤ c → c < 40 → z.1 c k = y.1 c k) : RIw K V sN e E x z M := by
  have en : nn z = nn y := by unfold nn; rw [e4]
  exact ⟨KA_fm h.1 f, by rw [en]; exact h.2.1, UR_same h.2.2 en (fun j _ => eu j)⟩
theorem nn_up (h0 : 0 ≤ nx y) (e1 : nx z = nx y + 1) : nn z = nn y + 1 := by
  have a := nn_is h0
  have b := nn_is (x := z) (by omega)
  omega
theorem RI_tok (h : RIw K V sN e E x y M) (h0 : 0 ≤ nx y) (h7 : nx y < 700) (k0 : ¬ K (nn y) = 0) (k3 : ¬ K (nn y) = 3) (l : La y z) (e1 : nx z = nx y + 1) (u : z.1 42 (nn y) = 0) : RIw K V sN e E x z M := by
  have a := nn_is h0
  have en := nn_up h0 e1
  exact ⟨KA_fm h.1 l.1, by rw [en]; exact KA_on h.1 h.2.1 (by omega) k0 k3, UR_tok h0 h.2.2 l en u⟩
/-- the stack's top, and how deep it is here -/
theorem HD_top {s : gH} (hH : HI y) (h1 : 1 ≤ hz y) (h : HD y (y.1 100 17).toNatClampNeg s) : ∃ a r v s', s = (a, r, v) :: s' ∧ ((dh y).toInt + r = 17 ∨ (17 ≤ (dh y).toInt ∧ r = 0)) := by
  obtain ⟨⟨a0, a1⟩, a2, a3⟩ := hH
  have k0 : (0 : Int32).toInt = 0 := rfl
  have k1 : (1 : Int32).toInt = 1 := rfl
  have hn : hz y ≤ (y.1 100 17).toNatClampNeg := zc_le _
  have u := t_cl (y.1 100 17)
  obtain ⟨n, en⟩ : ∃ n, (y.1 100 17).toNatClampNeg = n + 1 := ⟨(y.1 100 17).toNatClampNeg - 1, by omega⟩
  rw [en] at h
  obtain ⟨a, r, v, s', e1, e2, -⟩ := h
  refine ⟨a, r, v, s', e1, ?_⟩
  have e3 : (y.1 100 17 - 1).toInt = (y.1 100 17).toInt - 1 := by rw [t_sub (by rw [k1]; omega) (by rw [k1]; omega), k1]
  have e4 : (y.1 100 17 - 1).toNatClampNeg = n := by rw [t_cl, e3]; omega
  have ed : dh y = y.1 117 n := by
    unfold dh
    rw [if_neg (by rw [t_le, k0]; omega), e4]
  have g := a2 n (by omega)
  have ut := t_cl (y.1 117 n)
  rw [ed]
  omega
theorem kf_openOperand (hq : kV q) (h0 : fm sR x0 x) (st : gH) (L : gU) (hx : dAk K o st (nn x) L = none → RX x0 X) (hS : SU x) (hH : HI x) (hf : FR x) (ho : o = true ↔ x.1 100 5 = 0) (hR : RIw K V sN e E x x []) (h1 : 1 ≤ hz x) (hst : HD x (x.1 100 17).toNatClampNeg st) (hhp : HP K x (x.1 100 17).toNatClampNeg st)
    (h : ∀ r y, SM x y → FR y → 0 ≤ r.toInt → r.toInt ≤ 701 → (hz y : Int) = hz x + r.toInt → DL y → (y.1 23 (y.1 100 4).toNatClampNeg = 2 ∨ y.1 23 (y.1 100 4).toNatClampNeg = 3 ∨ (y.1 23 (y.1 100 4).toNatClampNeg = 62 ∧ o = false)) → RIw K V sN e E x y [] → ∀ a f v s', HD y (y.1 100 17).toNatClampNeg ((a, f + 1, v) :: s') → dAk K o st (nn x) L = dAk K o ((a, f + 1, v) :: s') (nn y) L → HP K y (y.1 100 17).toNatClampNeg ((a, f + 1, v) :: s') → CPl x y [] → F r y) : KE G q (d + 8) zk_X7_openOperand 0 [(0, vr 100)] [] x (ri F) X := by
  have k700 : (700 : Int32).toInt = 700 := rfl
  have k16 : (16 : Int32).toInt = 16 := rfl
  have k1 : (1 : Int32).toInt = 1 := rfl
  have k0 : (0 : Int32).toInt = 0 := rfl
  have hn0 := hS.1.2.1
  have loop : ∀ (n : Nat) (o2 k : Int32) (y : gd) (sy : gH), SM x y → FR y → 0 ≤ o2.toInt → o2.toInt ≤ k.toInt → (hz y : Int) = hz x + o2.toInt → 0 ≤ k.toInt → nx y = nx x + k.toInt → 700 - nx y < n → RIw K V sN e E x y [] → HD y (y.1 100 17).toNatClampNeg sy → dAk K o st (nn x) L = dAk K o sy (nn y) L → HP K y (y.1 100 17).toNatClampNeg sy → CPl x y [] → KE G q (d + 8) zk_X7_openOperand 4 [(0, vr 100), (1, vi o2), (2, vi k)] [] y (ri F) X := by
    intro n
    induction n with
    | zero =>
      intro o2 k y sy hM hF o0 o1 hzy kp hk hn hRy hDy hdy hPy hCy
      have b2 := hM.1.1.2.2.1
      omega
    | succ n ih =>
      intro o2 k y sy hM hF o0 o1 hzy kp hk hn hRy hDy hdy hPy hCy
      have b1 := hM.1.1.2.1
      have b2 := hM.1.1.2.2.1
      have un := nn_is b1
      have h0y : fm sR x0 y := fm_tr h0 (fm_w hM.2.2.2 (fun c k q => sSum_R q))
      have rs : dAk K o sy (nn y) L = none → ∀ {P : Option gv → gd → Prop} {v : Int32} (hv9 : ¬ v = 0 := by decide), KE G q (d + 7) zk_X7_refuse 0 [(0, vr 100), (1, vi v)] [] y P X := fun hw _ _ hv9 => kp_refuse hq _ (RB_at hM.1.1) h0y (hx (hdy.trans hw)) hv9
      have ek : (k + 1).toInt = k.toInt + 1 := t_add (by rw [k1]; omega) (by rw [k1]; omega)
      have hoy : o = true ↔ y.1 100 5 = 0 := by rw [hM.2.2.2 100 5 (by unfold sSum; omega)]; exact ho
      have hKi : kc (y.1 23 (y.1 100 4).toNatClampNeg) = K (nn y) := hRy.1.1 _ hRy.2.1
      obtain ⟨a, r, v, s', es, hr⟩ := HD_top hM.2.1 (by omega) hDy
      have p133 : ∀ (o3 : Int32) (z : gd) (sz : gH), SM x z → FR z → z.1 100 4 = y.1 100 4 → ¬ y.1 23 (y.1 100 4).toNatClampNeg = 0 → ¬ y.1 23 (y.1 100 4).toNatClampNeg = 1 → 0 ≤ o3.toInt → o3.toInt ≤ k.toInt + 1 → (hz z : Int) = hz x + o3.toInt → RIw K V sN e E x z [] → HD z (z.1 100 17).toNatClampNeg sz → (nn y < 700 → dAk K o sy (nn y) L = dAk K o sz (nn y + 1) L) → HP K z (z.1 100 17).toNatClampNeg sz → CPl x z [] → KE G q (d + 8) zk_X7_openOperand 133 [(0, vr 100), (1, vi o3), (2, vi k)] [] z (ri F) X := by
        intro o3 z sz hMz hFz e4 hs hs1 q1 q2 q3 hRz hDz hdz hPz hCz
        have hs2 : z.1 23 (z.1 100 4).toNatClampNeg = y.1 23 (y.1 100 4).toNatClampNeg := by
          rw [e4, hMz.2.2.2 23 _ (by unfold sSum; omega), ← hM.2.2.2 23 _ (by unfold sSum; omega)]
        have n1 : nx z = nx y := by unfold nx; rw [e4]
        have n2 : nn z = nn y := by unfold nn; rw [e4]
        have kk0 : ¬ K (nn z) = 0 := by
          rw [n2, ← hKi]
          exact fun z => hs (kc_i (c := 0) (z.trans (by decide)) (by decide))
        have kk3 : ¬ K (nn z) = 3 := by
          rw [n2, ← hKi]
          exact fun z => hs1 (kc_i1 z)
        refine kg_X7_openOperand_133 hq _ _ (kf_pass hq (fm_tr h0 (fm_w hMz.2.2.2 (fun c k q => sSum_R q))) (fun c7 => hx (hdy.trans ?_)) hMz.1 (by rw [hs2]; exact hs) (FR_12 hFz) (fun c7 w f e1 S fr la _ => ?_))
        · rw [es]; exact dA_7 (by omega)
        · obtain ⟨g1, g2⟩ := SM_pass hMz f S la
          have nw := nn_up (y := z) (z := w) (by omega) e1
          have uw : w.1 42 (nn z) = 0 := by rw [f 42 _ (by omega)]; exact hFz
          refine ih o3 (k + 1) w sz g1 fr q1 (by omega) (by rw [g2]; exact q3) (by omega) (by omega) (by omega) (RI_tok hRz (by omega) (by omega) kk0 kk3 la e1 uw) ?_ ?_ (by rw [f 100 17 (by omega)]; exact HP_eq (fun k _ => f _ _ (by omega)) hPz) (CPl_st hCz (f _ _ (by omega)) (fun k => ⟨f _ _ (by omega), f _ _ (by omega)⟩))
          · rw [f 100 17 (by omega)]
            exact HD_eq (fun k _ => ⟨f _ _ (by omega), f _ _ (by omega)⟩) hDz
          · rw [nw, n2, hdy]; exact hdz (by omega)
      have dd := dh_is hM.2.1
      have p33 : ∀ s : Int32, (s = 0 ∧ ¬ y.1 23 (y.1 100 4).toNatClampNeg = 59 ∧ ¬ y.1 23 (y.1 100 4).toNatClampNeg = 18 ∨ s = 1 ∧ (y.1 23 (y.1 100 4).toNatClampNeg = 59 ∨ y.1 23 (y.1 100 4).toNatClampNeg = 18)) → KE G q (d + 8) zk_X7_openOperand 33 [(0, vr 100), (1, vi o2), (2, vi k), (3, vi (y.1 23 (y.1 100 4).toNatClampNeg))] [vi s] y (ri F) X := by
        intro s hs02
        have hs01 : s = 0 ∨ s = 1 := hs02.imp (fun q => q.1) (fun q => q.1)
        have pre : s = 1 → K (nn y) = 29 ∨ K (nn y) = 58 := fun q => by
          rcases hs02 with ⟨c, -⟩ | ⟨-, c | c⟩
          · rw [q] at c; exact absurd c (by decide)
          · exact Or.inl (by rw [← hKi, c]; decide)
          · exact Or.inr (by rw [← hKi, c]; decide)
        refine kg_X7_openOperand_33 hq _ _ _ _ (kf_beginsSum hq _ o hoy (fun r9 hr9 => ⟨fun c => ?_, fun c => rs ?_⟩))
        rotate_left
        · rw [es]
          exact dA_no (fun z => hr9.mpr ((pbg_k hKi).mp z) c)
        have hbs := hr9.mp c
        have hsort : ¬ y.1 23 (y.1 100 4).toNatClampNeg = 0 ∧ ¬ y.1 23 (y.1 100 4).toNatClampNeg = 1 := by
          rcases hbs with e | e | e | e | e | ⟨e, -⟩ <;> rw [e] <;> decide
        have p73 : ((dh y).toInt + s.toInt ≤ 16) → KE G q (d + 8) zk_X7_openOperand 73 [(0, vr 100), (1, vi o2), (2, vi k), (3, vi (y.1 23 (y.1 100 4).toNatClampNeg)), (4, vi s)] [] y (ri F) X := by
          intro hd
          have hs0 : 0 ≤ s.toInt := by rcases hs01 with rfl | rfl <;> decide
          have e1 : (dh y + 1).toInt = (dh y).toInt + 1 := t_add (by rw [k1]; omega) (by rw [k1]; omega)
          obtain ⟨f9, ef9⟩ : ∃ f9, r = f9 + 1 := ⟨r - 1, by omega⟩
          have ht : (dh y).toInt + (f9 + 1 : Nat) = 17 := by omega
          have top : ∀ (z : gd) (s9 : Int32) (a9 : Nat) (v9 : Nat × Nat × Nat), (z.1 100 17).toInt = (y.1 100 17).toInt + 1 → z.1 116 (y.1 100 17).toNatClampNeg = s9 → z.1 117 (y.1 100 17).toNatClampNeg = dh y + 1 → (∀ k, k < (y.1 100 17).toNatClampNeg → z.1 116 k = y.1 116 k ∧ z.1 117 k = y.1 117 k) → (s9.toInt = a9 ∨ (s9.toInt = 6 ∧ a9 = 5)) → a9 ≤ 5 → (v9.1 = 50 ∨ v9.1 = 51) → HD z (z.1 100 17).toNatClampNeg ((a9, f9, v9) :: sy) := by
            intro z s9 a9 v9 t1 t2 t3 t4 t5 t6 t7
            have a0 := hM.2.1.1.1
            have nz : (z.1 100 17).toNatClampNeg = (y.1 100 17).toNatClampNeg + 1 := by rw [t_cl, t_cl]; omega
            rw [nz]
            have ud := t_cl (dh y + 1)
            have hzn : hz y ≤ (y.1 100 17).toNatClampNeg := zc_le _
            exact ⟨a9, f9, v9, sy, rfl, Or.inl (by rw [t3]; omega), by rw [t2]; exact t5, ⟨t6, fun q => absurd q (by omega)⟩, t7, HD_eq t4 hDy⟩
          have topP : ∀ (z : gd) (s9 : Int32) (a9 : Nat) (v9 : Nat × Nat × Nat), (z.1 100 17).toInt = (y.1 100 17).toInt + 1 → z.1 115 (y.1 100 17).toNatClampNeg = s9 → (∀ k, k < (y.1 100 17).toNatClampNeg → z.1 115 k = y.1 115 k) → (¬ a9 = 0 → s9 = oP K v9) → HP K z (z.1 100 17).toNatClampNeg ((a9, f9, v9) :: sy) := by
            intro z s9 a9 v9 t1 t2 t3 t4
            have a0 := hM.2.1.1.1
            have nz : (z.1 100 17).toNatClampNeg = (y.1 100 17).toNatClampNeg + 1 := by rw [t_cl, t_cl]; omega
            rw [nz]
            exact ⟨fun q => by rw [t2]; exact t4 q, HP_eq t3 hPy⟩
          have p104 : ∀ v8 : Int32, (¬ v8 = 2 ∧ ¬ v8 = 6) → v8 = oP K (50, nn y, 0) → s = 1 → KE G q (d + 8) zk_X7_openOperand 104 [(0, vr 100), (1, vi o2), (2, vi k)] [vi v8, vr 100] y (ri F) X := by
            intro v8 hv hv9 hs1
            refine kg_X7_openOperand_104 hq _ _ _ (kp_depthHere hq hM.2.1 (kf_hold hq _ _ _ hM.2.1 hv (by decide) (by omega) (by omega) (fun i hi => ?_) (fun z fz Hz zz t1 t2 t3 t4 t5 t6 => ?_)))
            · have := dd.2.2.2 i hi; omega
            · obtain ⟨g1, g2, g3⟩ := SM_hold hM fz Hz
              refine p133 o2 z _ g1 (g2 hF) g3 hsort.1 hsort.2 o0 (by omega) (by rw [zz, if_neg (by decide)]; exact hzy) (RI_st hRy g3 (fun j => fz _ _ (by omega)) (fun c k q1 q2 => fz _ _ (by omega))) (top z _ 5 (50, nn y, 0) t1 t2 t3 t4 (Or.inr ⟨rfl, rfl⟩) (by decide) (Or.inl rfl)) (fun h7 => ?_) (topP z _ 5 (50, nn y, 0) t1 t5 t6 (fun _ => hv9)) (CPl_st hCy (fz _ _ (by omega)) (fun k => ⟨fz _ _ (by omega), fz _ _ (by omega)⟩))
              rw [es, ef9]
              exact dA_pre (pre hs1) h7
          have p87 : (s = 0 → y.1 23 (y.1 100 4).toNatClampNeg = 21) → KE G q (d + 8) zk_X7_openOperand 87 [(0, vr 100), (1, vi o2), (2, vi k), (3, vi (y.1 23 (y.1 100 4).toNatClampNeg)), (4, vi s)] [] y (ri F) X := by
            intro h21
            refine kg_X7_openOperand_87 hq _ _ _ _ ⟨fun cs => kp_depthHere hq hM.2.1 (kf_hold hq _ _ _ hM.2.1 (by decide) (by decide) (by omega) (by omega) (fun i hi => ?_) (fun z fz Hz zz t1 t2 t3 t4 t5 t6 => ?_)), fun cs => ⟨fun c59 => p104 _ (by decide) ?_ (hs01.resolve_left cs), fun c59 => p104 _ (by decide) ?_ (hs01.resolve_left cs)⟩⟩
            · have := dd.2.2.2 i hi; omega
            · obtain ⟨g1, g2, g3⟩ := SM_hold hM fz Hz
              have eo : (o2 + 1).toInt = o2.toInt + 1 := t_add (by rw [k1]; omega) (by rw [k1]; omega)
              refine p133 (o2 + 1) z _ g1 (g2 hF) g3 hsort.1 hsort.2 (by omega) (by omega) ?_ (RI_st hRy g3 (fun j => fz _ _ (by omega)) (fun c k q1 q2 => fz _ _ (by omega))) (top z _ 0 (50, 0, 0) t1 t2 t3 t4 (Or.inl rfl) (by decide) (Or.inl rfl)) (fun h7 => ?_) (topP z _ 0 (50, 0, 0) t1 t5 t6 (fun q => absurd rfl q)) (CPl_st hCy (fz _ _ (by omega)) (fun k => ⟨fz _ _ (by omega), fz _ _ (by omega)⟩))
              · rw [zz, if_pos rfl, eo]
                push_cast
                omega
              · rw [es, ef9]
                exact dA_par (by rw [← hKi, h21 cs]; decide) h7
            · show (4 : Int32) = if K (nn y) = 29 then 5 else 4
              rw [if_neg (fun q => c59 (kc_i (c := 59) (by rw [hKi, q]; decide) (by decide)))]
            · show (5 : Int32) = if K (nn y) = 29 then 5 else 4
              rw [if_pos (by rw [← hKi, c59]; decide)]
          refine kg_X7_openOperand_73 hq _ _ _ _ ⟨fun cs => p87 (fun q => absurd q cs), fun cs => ⟨fun c21 => p87 (fun _ => c21), fun c21 => ri_i (h o2 y hM hF o0 (by omega) hzy (fun i hi => ?_) ?_ hRy a f9 v s' (by rw [← ef9, ← es]; exact hDy) (by rw [← ef9, ← es]; exact hdy) (by rw [← ef9, ← es]; exact hPy) hCy)⟩⟩
          · have := dd.2.2.2 i hi
            omega
          · rcases hs02 with ⟨-, n59, n18⟩ | ⟨e1, -⟩
            · rcases hbs with e | e | e | e | e | e
              · exact Or.inr (Or.inl e)
              · exact Or.inl e
              · exact absurd e c21
              · exact absurd e n59
              · exact absurd e n18
              · exact Or.inr (Or.inr e)
            · rw [e1] at cs; exact absurd cs (by decide)
        have p62 : ∀ v8 : Int32, v8 = s → KE G q (d + 8) zk_X7_openOperand 62 [(0, vr 100), (1, vi o2), (2, vi k), (3, vi (y.1 23 (y.1 100 4).toNatClampNeg)), (4, vi s)] [vi v8, vi (dh y)] y (ri F) X := by
          rintro v8 rfl
          have hv8 : v8.toInt ≤ 1 ∧ 0 ≤ v8.toInt := by rcases hs01 with rfl | rfl <;> decide
          have es8 : (dh y + v8).toInt = (dh y).toInt + v8.toInt := t_add (by omega) (by omega)
          refine kg_X7_openOperand_62 hq _ _ _ _ _ _ ⟨fun c2 => p73 ?_, fun c2 => rs ?_⟩
          · rw [t_le, es8, k16] at c2
            exact c2
          · rw [t_le, es8, k16] at c2
            rw [es]
            rcases hs01 with e9 | e9
            · rw [e9, k0] at c2
              have r0 : r = 0 := by omega
              rw [r0]; exact dA_0
            · rw [e9, k1] at c2
              by_cases r0 : r = 0
              · rw [r0]; exact dA_0
              · have r1 : r = 1 := by omega
                rw [r1]; exact dA_pre0 (pre e9)
        refine kg_X7_openOperand_48 hq _ _ _ _ (kp_depthHere hq hM.2.1 ⟨fun c3 => p62 _ c3.symm, fun c3 => p62 _ ?_⟩)
        rcases hs01 with e | e
        · exact absurd e c3
        · exact e.symm
      refine kg_X7_openOperand_4 hq _ _ ⟨fun c => ?_, fun c => kp_sort hq hM.1.1 ⟨fun c59 => p33 _ (Or.inr ⟨rfl, Or.inl c59⟩), fun n59 => ⟨fun n18 => p33 _ (Or.inl ⟨rfl, n59, n18⟩), fun c18 => p33 _ (Or.inr ⟨rfl, Or.inr c18⟩)⟩⟩⟩
      exfalso; rw [t_lt, k700] at c; omega
  exact kg_X7_openOperand_0 hq (loop 701 _ _ x st (SM_rf hS hH) hf (by decide) (by decide) (by rw [k0]; omega) (by decide) (by rw [k0]; omega) (by omega) hR hst rfl hhp CPl_rf)
end KOF
end
section
/-! the class: an operand is read -/
section KPF
variable {G : kG} {q : kP} {d : Nat} {x x0 y z : gd} {F : Int32 → gd → Prop} {Fv : gd → Prop} {X : String → gd → Prop} {P : Option gv → gd → Prop} {m : Int} {K V : Nat → Int32} {sN : Nat → Nat → Bool} {e : Nat} {E : gV} {M N : gU} {o : Bool}
theorem dull_k {k a b : Nat} (h : ∀ u ∈ [3, 6, 7, 12, 23, 24, 25, 26, 27, 65, 66, 67, 70, 31, 32, 33, 34], ¬ k = u) : dull (k, a, b) := h
theorem stl_k {k a b : Nat} (h : ¬ k = 20 ∧ ¬ k = 21 ∧ ¬ k = 22) : still [(k, a, b)] := still_one h
theorem RI_app (h0 : 0 ≤ nx y) (hM : still M) (h : RIw K V sN e E x y M) (l : La y z) (g : RIw K V sN e E y z N) : RIw K V sN e E x z (M ++ N) := ⟨g.1, g.2.1, UR_app h0 h.2.2 l (by rw [exs_still hM]; exact g.2.2)⟩
theorem RI_0 (h : RIw K V sN e E x y M) : RIw K V sN e E y y [] := ⟨h.1, h.2.1, UR_0 rfl⟩
/-- a local is known, or not -/
theorem kfi_of {t : Nat} (h : ∀ (p : Nat) (k : Nat × Nat), p < E.1.length - (0 : Int32).toNatClampNeg → E.1[p]? = some k → ¬ sN k.1 t = true) : kfi sN E.1 t = none := kfi_none (fun p k hk => h p k (by
  obtain ⟨hp, -⟩ := List.getElem?_eq_some_iff.mp hk
  have : (0 : Int32).toNatClampNeg = 0 := rfl
  omega) hk)
theorem kf_readOperand (hq : kV q) (h0 : fm sR x0 x) (L : gU) (f : Nat) (hx : pO (pE K o f) K o (nn x) L = none → RX x0 X) (hS : SU x) (hH : HI x) (hf : FR x) (hK : x.1 23 (x.1 100 4).toNatClampNeg = 3 ∨ x.1 23 (x.1 100 4).toNatClampNeg = 62 ∨ (x.1 23 (x.1 100 4).toNatClampNeg = 2 ∧ o = false ∧ KN x ∧ KV' K e x E)) (hR : RIw K V sN e E x x []) (h : ∀ y, SM x y → FR y → hz y = hz x → y.1 100 17 = x.1 100 17 → (∀ k, y.1 116 k = x.1 116 k ∧ y.1 117 k = x.1 117 k) → nx y = nx x + 1 → ∀ M, RIw K V sN e E x y M → still M → pO (pE K o f) K o (nn x) L = some (nn y, L ++ M) → CPl x y (sPs sN V K E M) → (∀ k, y.1 115 k = x.1 115 k) → Fv y) : KE G q (d + 8) zk_X7_readOperand 0 [(0, vr 100)] [] x (rv Fv) X := by
  have hs : ¬ x.1 23 (x.1 100 4).toNatClampNeg = 0 ∧ ¬ x.1 23 (x.1 100 4).toNatClampNeg = 1 := by
    rcases hK with e | e | ⟨e, -⟩ <;> rw [e] <;> decide
  have hlt := RB_lt hS.1 hs.1
  have htk : tk x (x.1 100 4) := ⟨hS.1.2.1, hlt⟩
  have hKi : kc (x.1 23 (x.1 100 4).toNatClampNeg) = K (nn x) := hR.1.1 _ hR.2.1
  have kk0 : ¬ K (nn x) = 0 := by
    rw [← hKi]
    exact fun z => hs.1 (kc_i (c := 0) (z.trans (by decide)) (by decide))
  have kk3 : ¬ K (nn x) = 3 := by
    rw [← hKi]
    exact fun z => hs.2 (kc_i1 z)
  have b1 := hS.1.2.1
  have un := nn_is b1
  have fin : ∀ (z w : gd) (u : Int32) (M : gU), ¬ u = 12 → fm (fun c k => c = 42 ∧ k = (x.1 100 4).toNatClampNeg) x z → z.1 42 (x.1 100 4).toNatClampNeg = u → SU z → ∀ p a : Int32, AP z w p a → CPl z w [(p, a)] → sPs sN V K E M = [(p, a)] → ((p = 2 → (0 ≤ a.toInt ∧ a.toInt < 24) ∨ z.1 42 (x.1 100 4).toNatClampNeg = 3) ∧ ¬ p = 6) → (∀ (U : Nat → Int32) (n : Nat), U (nn x) = u → nn x < n → HAs sN U n M E) → (¬ u = 0 → HBs sN M E (nn x) u) → still M → (nn x < 700 → pO (pE K o f) K o (nn x) L = some (nn x + 1, L ++ M)) → KE G q (d + 8) zk_X7_readOperand 93 [(0, vr 100)] [] w (rv Fv) X := by
    intro z w u M hu12 fz eu hSz p a hA hCA hsp hp26 mA mB hst hpO
    obtain ⟨hp2, hp6⟩ := hp26
    have e4 : w.1 100 4 = x.1 100 4 := by rw [hA.1 _ _ (by omega), fz _ _ (by omega)]
    have Sw : SV w (z.1 60 3).toInt := AP_SV (Int.le_refl _) hSz hA
    have us : w.1 42 (w.1 100 4).toNatClampNeg = u := by rw [e4, hA.1 42 _ (by omega)]; exact eu
    have f0 : fm sSum x w := fm_tr (fm_w fz (fun c k q => by unfold sSum; omega)) (fm_w hA.1 (fun c k q => by unfold sSum; omega))
    have e5 : nx w = nx x := by unfold nx; rw [e4]
    refine kg_X7_readOperand_93 hq (kf_pass hq (fm_tr h0 (fm_w f0 (fun c k q => sSum_R q))) (fun c7 => hx ?_) Sw (by rw [e4, f0 23 _ (by unfold sSum; omega)]; exact hs.1) (by rw [us]; exact hu12) (fun c7 y f n1 S fr la _ => ?_))
    · unfold pO
      rw [if_pos (by omega)]
    have fx : fm sSum x y := fm_tr f0 (fm_w f (fun c k q => by unfold sSum; omega))
    have SUy : SU y := by
      refine ⟨S.1, S.2.1, S.2.2.1, fun i hi => ?_⟩
      rw [f 60 3 (by omega)] at hi
      rcases hA.2.2.2.2 i hi with e | ⟨e1, e2⟩
      · exact S.2.2.2 i e
      · unfold PQ
        rw [f 62 i (by omega), f 63 i (by omega), e1, e2]
        refine ⟨fun c => ?_, fun c => absurd c hp6⟩
        rcases hp2 c with g | g
        · exact Or.inl g
        · refine Or.inr ⟨(x.1 100 4).toNatClampNeg, ?_, Or.inl ?_⟩
          · have b1 := hS.1.2.1
            rw [n1, e5, t_cl]; unfold nx at *; omega
          · rw [f 42 _ (by omega), hA.1 42 _ (by omega)]; exact g
    obtain ⟨g1, g2⟩ := HI_eq (z := y) hH (by rw [f _ _ (by omega), hA.1 _ _ (by omega), fz _ _ (by omega)]) (fun c k q1 q2 => by rw [f _ _ (by omega), hA.1 _ _ (by omega), fz _ _ (by omega)])
    have laxy : La x y := ⟨fun c k q1 q2 => fx c k (by unfold sSum; omega), by omega, fun j hj => by rw [f 42 j (by omega), hA.1 42 j (by omega), fz 42 j (by rw [t_cl]; have b1 := hS.1.2.1; unfold nx at *; omega)]⟩
    have ny := nn_up (y := x) (z := y) b1 (by omega)
    have uy : y.1 42 (nn x) = u := by rw [f 42 _ (by omega), hA.1 42 _ (by omega)]; exact eu
    refine rv_i (h y ⟨SUy, g1, laxy, fx⟩ fr g2 (by rw [f _ _ (by omega), hA.1 _ _ (by omega), fz _ _ (by omega)]) (fun k => ⟨by rw [f _ _ (by omega), hA.1 _ _ (by omega), fz _ _ (by omega)], by rw [f _ _ (by omega), hA.1 _ _ (by omega), fz _ _ (by omega)]⟩) (by omega) M ⟨KA_fm hR.1 laxy.1, by rw [ny]; exact KA_on hR.1 hR.2.1 (by omega) kk0 kk3, mA _ _ uy (by omega), fun j h1 h2 h3 => ?_⟩ hst (by rw [ny]; exact hpO (by omega)) ?_ (fun k => by rw [f _ _ (by omega), hA.1 _ _ (by omega), fz _ _ (by omega)]))
    rotate_left
    · rw [hsp]
      have c1 : CPl x z [] := CPl_st CPl_rf (fz _ _ (by omega)) (fun k => ⟨fz _ _ (by omega), fz _ _ (by omega)⟩)
      exact CPl_st (CPl_app c1 hCA) (f _ _ (by omega)) (fun k => ⟨f _ _ (by omega), f _ _ (by omega)⟩)
    have ej : j = nn x := by omega
    rw [ej, uy] at h3 ⊢
    exact mB h3
  have pO2 : x.1 23 (x.1 100 4).toNatClampNeg = 3 → nn x < 700 → pO (pE K o f) K o (nn x) L = some (nn x + 1, L ++ [(52, nn x, 0)]) := fun c h7 => by
    have : K (nn x) = 2 := by rw [← hKi, c]; decide
    unfold pO
    rw [if_neg (by omega), if_pos this]
  have pO62 : x.1 23 (x.1 100 4).toNatClampNeg = 62 → nn x < 700 → pO (pE K o f) K o (nn x) L = some (nn x + 1, L ++ [(53, nn x, 0)]) := fun c h7 => by
    have : K (nn x) = 32 := by rw [← hKi, c]; decide
    unfold pO
    rw [if_neg (by omega), if_neg (by rw [this]; decide), if_pos this]
  have dl : ∀ {v : Nat × Nat × Nat} {u : Int32}, dull v → u = 0 → (∀ (U : Nat → Int32) (n : Nat), U (nn x) = u → nn x < n → HAs sN U n [v] E) ∧ (¬ u = 0 → HBs sN [v] E (nn x) u) := fun hv hu => ⟨fun U n _ _ => HAs_one.mpr (HA_dull hv), fun z => absurd hu z⟩
  have p83 : x.1 23 (x.1 100 4).toNatClampNeg = 2 → o = false → ∀ l s : Int32, (l = -1 ∧ s = 3 ∧ kfi sN E.1 (nn x) = none ∨ (0 ≤ l.toInt ∧ l.toInt < 24) ∧ s = 0 ∧ ¬ kfi sN E.1 (nn x) = none) → l = (match kfi sN E.1 (nn x) with | some p => Int32.ofNat p | none => -1) → KE G q (d + 8) zk_X7_readOperand 83 [(0, vr 100), (1, vi l)] [vi s, vi (x.1 100 4), vr 42] x (rv Fv) X := by
    intro c2 co l s hls hl9
    refine kg_X7_readOperand_83 hq _ _ _ ⟨RB_at hS.1, fun z ez => ?_⟩
    have fz : fm (fun c k => c = 42 ∧ k = (x.1 100 4).toNatClampNeg) x z := by rw [ez]; exact fm_si (fm_rf _ _) ⟨rfl, rfl⟩
    have eu : z.1 42 (x.1 100 4).toNatClampNeg = s := by rw [ez]; (simp only [si_get, sfl_get, Nat.reduceEqDiff, eq_self, and_false, false_and, and_true, true_and, if_true, if_false, reduceIte, reduceCtorEq])
    have e4 : z.1 100 4 = x.1 100 4 := fz _ _ (by omega)
    have e7 : z.1 20 7 = x.1 20 7 := fz _ _ (by omega)
    have b1 := hS.1.2.1
    have eN : ((x.1 100 4).toNatClampNeg : Int) = nx x := by rw [t_cl]; unfold nx at *; omega
    have la : La x z := ⟨fun c k q1 q2 => fz c k (by omega), by unfold nx; rw [e4]; exact Int.le_refl _, fun j hj => fz 42 j (by omega)⟩
    have Sz : SU z := by
      obtain ⟨⟨hT, b1, b2, b3⟩, ⟨u1, u2⟩, hp, hP⟩ := hS
      unfold SU SV US RB mt
      have q3 : z.1 60 3 = x.1 60 3 := fz _ _ (by omega)
      have nn : nx z = nx x := by unfold nx; rw [e4]
      rw [e7, q3, nn]
      refine ⟨⟨kT_fm hT la.1, b1, b2, b3⟩, ⟨fun j h1 h2 => ?_, fun j h1 h2 => ?_⟩, hp, fun i hi => La_PQ la (fz _ _ (by omega)) (fz _ _ (by omega)) (hP i hi)⟩
      · rw [fz 42 j (by omega)]; exact u1 j h1 h2
      · rw [fz 42 j (by omega)] at h2; rw [fz 42 _ (by omega)]; exact u2 j h1 h2
    refine kf_addPart hq _ _ Sz.2.2.1 (fun w hA hCA => fin z w s [(3, nn x, 0)] ?_ fz eu Sz 2 l hA hCA (by rw [hl9]; rfl) ⟨fun _ => ?_, by decide⟩ (fun U n hU hn => HAs_one.mpr (HA_3.mpr ⟨hn, fun hk => ?_⟩)) (fun z => HBs_one.mpr (Or.inl ⟨rfl, ?_, rfl, ?_⟩)) (stl_k (by decide)) (fun h7 => ?_))
    · rcases hls with ⟨-, rfl, -⟩ | ⟨-, rfl, -⟩ <;> decide
    · rcases hls with ⟨-, e, -⟩ | ⟨e, -⟩
      · exact Or.inr (by rw [eu, e])
      · exact Or.inl e
    · rcases hls with ⟨-, e, -⟩ | ⟨-, -, e⟩
      · rw [hU, e]
      · exact absurd hk e
    · rcases hls with ⟨-, e, -⟩ | ⟨-, e, -⟩
      · exact e
      · exact absurd e z
    · rcases hls with ⟨-, -, e⟩ | ⟨-, e, -⟩
      · exact e
      · exact absurd e z
    · have k1 : K (nn x) = 1 := by rw [← hKi, c2]; decide
      unfold pO
      rw [if_neg (by omega), if_neg (by rw [k1]; decide), if_neg (by rw [k1]; decide), if_neg (by rw [k1]; decide), if_pos k1, if_neg (by rw [co]; decide)]
  have k0 : (0 : Int32).toInt = 0 := rfl
  have p0 : x.1 23 (x.1 100 4).toNatClampNeg = 2 → o = false → KN x → KV' K e x E → KT G q (d + 7) zk_X7_knownFrom 0 [(0, vr 100), (1, vi 0), (2, vi (x.1 100 4))] [] x (ri (fun r8 x7 => ((¬ (r8 = (-1 : Int32)) → KE G q (d + 8) zk_X7_readOperand 83 [(0, vr 100), (1, vi r8)] [vi 0, vi (x7.1 100 4), vr 42] x7 (rv Fv) X) ∧ (r8 = (-1 : Int32) → KE G q (d + 8) zk_X7_readOperand 83 [(0, vr 100), (1, vi r8)] [vi 3, vi (x7.1 100 4), vr 42] x7 (rv Fv) X)))) := by
    intro c2 co hN hE
    have k8 := hN.1.2
    have e9 := hE.1
    refine kf_knownFrom hq hS.1.1 hN hR.1 hE _ _ (by decide) htk hR.2.1 (by rw [show K (x.1 100 4).toNatClampNeg = K (nn x) from rfl, ← hKi, c2]; decide) (fun r hr => ⟨fun c => p83 c2 co _ _ (Or.inr ?_) ?_, fun c => p83 c2 co _ _ (Or.inl ⟨c, rfl, ?_⟩) ?_⟩)
    · rcases hr with ⟨e, -⟩ | ⟨n, e1, e2, e3, e4, -⟩
      · exact absurd e c
      · exact ⟨⟨by omega, by omega⟩, rfl, by rw [show nn x = (x.1 100 4).toNatClampNeg from rfl, e4]; simp⟩
    · rcases hr with ⟨e, -⟩ | ⟨n, e1, e2, e3, e4, -⟩
      · exact absurd e c
      · rw [show nn x = (x.1 100 4).toNatClampNeg from rfl, e4]
        exact i32_of e1
    · rcases hr with ⟨-, e⟩ | ⟨n, e1, e2, e3, e4, -⟩
      · exact kfi_of e
      · exfalso
        rw [c, tm1] at e1
        omega
    · rcases hr with ⟨e0, e⟩ | ⟨n, e1, e2, e3, e4, -⟩
      · rw [show kfi sN E.1 (nn x) = none from kfi_of e]; exact e0
      · exfalso
        rw [c, tm1] at e1
        omega
  refine kg_X7_readOperand_0 hq (kp_sort hq hS.1 ⟨fun c3 => kp_sort hq hS.1 ⟨fun c62 => ?_, fun c62 => kf_addPart hq _ _ hS.2.2.1 (fun w hA hCA => fin x w 0 [(53, nn x, 0)] (by decide) (fm_rf _ _) hf hS 3 0 hA hCA rfl ⟨fun c => absurd c (by decide), by decide⟩ (dl (dull_k (by decide)) rfl).1 (dl (dull_k (by decide)) rfl).2 (stl_k (by decide)) (pO62 c62))⟩, fun c3 => ⟨RB_at hS.1, kf_addPart hq _ _ hS.2.2.1 (fun w hA hCA => fin x w 0 [(52, nn x, 0)] (by decide) (fm_rf _ _) hf hS 1 _ hA hCA (by rw [show x.1 27 (x.1 100 4).toNatClampNeg = V (nn x) from hR.1.2.1 _ hR.2.1 (by rw [← hKi, c3]; decide)]; rfl) ⟨fun c => absurd c (by decide), by decide⟩ (dl (dull_k (by decide)) rfl).1 (dl (dull_k (by decide)) rfl).2 (stl_k (by decide)) (pO2 c3))⟩⟩)
  rcases hK with e | e | ⟨e1, e2, e3, e4⟩
  · exact absurd e c3
  · exact absurd e c62
  · exact p0 e1 e2 e3 e4
end KPF
end
section
/-! the class: a cell in a claim -/
section KCF2
variable {G : kG} {q : kP} {d : Nat} {x x0 y z : gd} {F : Int32 → gd → Prop} {Fv : gd → Prop} {X : String → gd → Prop} {P : Option gv → gd → Prop} {m : Int} {K V : Nat → Int32} {sN : Nat → Nat → Bool} {e : Nat} {E : gV} {M N : gU} {o : Bool}
theorem exV_k {k a b : Nat} (h : ¬ k = 20 ∧ ¬ k = 21 ∧ ¬ k = 22) : exV E (k, a, b) = E := exV_still h
theorem UR_row (N8 : nn y = nn x + 4) (v0 : y.1 42 (nn x) = 7) (v1 : y.1 42 (nn x + 1) = 0) (v2 : y.1 42 (nn x + 2) = 12) (v3 : y.1 42 (nn x + 3) = 0) : UR sN E x y [(7, nn x, 0), (12, nn x + 2, nn x)] := by
  have x7 : exV E (7, nn x, 0) = E := exV_k (by decide)
  refine ⟨⟨HA_7.mpr ⟨by omega, Or.inl v0⟩, by rw [x7]; exact HAs_one.mpr (HA_12.mpr ⟨by omega, v2, rfl⟩)⟩, fun j h1 h2 h3 => ?_⟩
  have hj : j = nn x ∨ j = nn x + 1 ∨ j = nn x + 2 ∨ j = nn x + 3 := by omega
  rcases hj with ej | ej | ej | ej
  · rw [ej, v0]
    exact Or.inl (Or.inr (Or.inr (Or.inl ⟨rfl, rfl, rfl⟩)))
  · rw [ej] at h3; exact absurd v1 h3
  · rw [ej, v2]
    exact Or.inr (HBs_one.mpr (Or.inr (Or.inr (Or.inr (Or.inl ⟨rfl, rfl, rfl, rfl⟩)))))
  · rw [ej] at h3; exact absurd v3 h3
theorem kf_claimRow {y3 : gd} (hq : kV q) (z3 : fm sR x0 y3) (S3 : SV y3 m) (r3 : FR y3) (N3 : nn y3 = nn x + 1) (b1 : 0 ≤ nx x) (hA : KA K V sN e x) (La3 : La x y3) (on1 : nn x + 1 ≤ e) (hK1 : K (nn x + 1) = 65) (u3 : y3.1 42 (nn x) = 7) (hx : ¬ (nn x + 1 < 700 ∧ (K (nn x + 2) = 2 ∧ nn x + 2 < 700) ∧ K (nn x + 3) = 66 ∧ nn x + 3 < 700) → RX x0 X)
    (h : ∀ y8, (nn x + 1 < 700 ∧ (K (nn x + 2) = 2 ∧ nn x + 2 < 700) ∧ K (nn x + 3) = 66 ∧ nn x + 3 < 700) → SV y8 m → FR y8 → La x y8 → fm (fun c k => c = 42 ∨ (c = 100 ∧ k = 4)) y3 y8 → nn y8 = nn x + 4 → RIw K V sN e E x y8 [(7, nn x, 0), (12, nn x + 2, nn x)] → y8.1 23 (nn x + 2) = 3 → y8.1 42 (nn x) = 7 → y8.1 42 (nn x + 2) = 12 → Fv y8) :
    KE G q (d + 7) zk_X7_pass 0 [(0, vr 100)] [] y3 (rv (fun x5 => KE G q (d + 7) zk_X7_needFor 0 [(0, vr 100), (1, vi 3), (2, vi 12)] [] x5 (ri (fun r7 x6 => KE G q (d + 7) zk_X7_need 0 [(0, vr 100), (1, vi 26)] [] x6 (rv Fv) X)) X)) X := by
  have hA3 : KA K V sN e y3 := KA_fm hA La3.1
  have b3 := S3.1.2.1
  have c3 := nn_is b3
  have m3 : (y3.1 100 4).toNatClampNeg = nn x + 1 := N3
  have q1 : kc (y3.1 23 (nn x + 1)) = 65 := by rw [hA3.1 _ on1]; exact hK1
  have q1n : ¬ y3.1 23 (y3.1 100 4).toNatClampNeg = 0 := by
    rw [m3]; intro z; rw [z] at q1; exact absurd q1 (by decide)
  refine kf_pass hq z3 (fun c9 => hx (by omega)) S3 q1n (FR_12 r3) (fun c9 y5 f5 n5 S5 r5 l5 z5 => ?_)
  have i1 : nn x + 1 < 700 := by omega
  have N5 : nn y5 = nn x + 2 := by have := nn_up (y := y3) (z := y5) b3 n5; omega
  have m5 : (y5.1 100 4).toNatClampNeg = nn x + 2 := N5
  have on2 : nn x + 2 ≤ e := KA_on hA on1 i1 (by rw [hK1]; decide) (by rw [hK1]; decide)
  have hA5 : KA K V sN e y5 := KA_fm hA3 l5.1
  have b5 := S5.1.2.1
  have c5 := nn_is b5
  have k3 : y5.1 23 (nn x + 2) = 3 ↔ K (nn x + 2) = 2 := KA_k hA5 on2 3 (by decide)
  have u5 : ∀ j, y5.1 42 j = y3.1 42 j := fun j => f5 _ _ (fun q => absurd q.1 (by decide))
  clear c9 n5 c3 b3
  refine kf_needFor hq z5 3 12 (fun c10 => hx ?_) S5 (by decide) (fun _ => ⟨by omega, ?_⟩) (fun cw c10 y6 f6 u6 n6 S6 r6 l6 z6 _ => ?_)
  · rintro ⟨-, ⟨d1, d2⟩, -⟩
    rcases c10 with c10 | c10
    · rw [m5] at c10
      exact c10 (k3.mpr d1)
    · omega
  · rw [m5, Nat.add_sub_cancel, u5]
    exact u3
  rw [m5] at cw u6 f6
  have hK2 : K (nn x + 2) = 2 := k3.mp cw
  have i2 : nn x + 2 < 700 := by omega
  have N6 : nn y6 = nn x + 3 := by have := nn_up (y := y5) (z := y6) b5 n6; omega
  have m6 : (y6.1 100 4).toNatClampNeg = nn x + 3 := N6
  have on3 : nn x + 3 ≤ e := KA_on hA on2 i2 (by rw [hK2]; decide) (by rw [hK2]; decide)
  have hA6 : KA K V sN e y6 := KA_fm hA5 l6.1
  have b6 := S6.1.2.1
  have c6 := nn_is b6
  have k26 : y6.1 23 (nn x + 3) = 26 ↔ K (nn x + 3) = 66 := KA_k hA6 on3 26 (by decide)
  have e6 : ∀ j, ¬ j = nn x + 2 → y6.1 42 j = y5.1 42 j := fun j hj => f6 _ _ (fun q => q.elim (fun q => hj q.2) (fun q => absurd q.1 (by decide)))
  have t6 : y6.1 23 (nn x + 2) = 3 := by rw [f6 _ _ (fun q => q.elim (fun q => absurd q.1 (by decide)) (fun q => absurd q.1 (by decide)))]; exact cw
  clear n6 c5 c10
  refine kf_need hq z6 26 (fun c11 => hx ?_) S6 (by decide) r6 (fun cw3 c11 y8 f8 n8 S8 r8 l8 z8 => ?_)
  · rintro ⟨-, -, d1, d2⟩
    rcases c11 with c11 | c11
    · rw [m6] at c11
      exact c11 (k26.mpr d1)
    · omega
  rw [m6] at cw3
  have hK3 : K (nn x + 3) = 66 := k26.mp cw3
  have i3 : nn x + 3 < 700 := by omega
  have N8 : nn y8 = nn x + 4 := by have := nn_up (y := y6) (z := y8) b6 n8; omega
  have on4 : nn x + 4 ≤ e := KA_on hA on3 i3 (by rw [hK3]; decide) (by rw [hK3]; decide)
  have La8 : La x y8 := La_tr (La_tr (La_tr La3 l5) l6) l8
  have e8 : ∀ j, y8.1 42 j = y6.1 42 j := fun j => f8 _ _ (fun q => absurd q.1 (by decide))
  have v0 : y8.1 42 (nn x) = 7 := by rw [e8, e6 _ (by omega), u5]; exact u3
  have v1 : y8.1 42 (nn x + 1) = 0 := by
    rw [e8, e6 _ (by omega), u5, ← m3]
    exact r3
  have v2 : y8.1 42 (nn x + 2) = 12 := by rw [e8]; exact u6
  have v3 : y8.1 42 (nn x + 3) = 0 := by
    rw [e8, ← m6]
    exact r6
  refine h y8 ⟨i1, ⟨hK2, i2⟩, hK3, i3⟩ S8 r8 La8 ?_ N8 ⟨KA_fm hA La8.1, by rw [N8]; exact on4, UR_row N8 v0 v1 v2 v3⟩ ?_ v0 v2
  · exact fm_tr (fm_tr (fm_w f5 (fun c k q => Or.inr q)) (fm_w f6 (fun c k q => q.imp (fun q => q.1) id))) (fm_w f8 (fun c k q => Or.inr q))
  · rw [f8 _ _ (fun q => absurd q.1 (by decide))]; exact t6
theorem kf_claimedCell (hq : kV q) (h0 : fm sR x0 x) (L : gU) (f : Nat) (ho : o = true) (hx : pO (pE K o f) K o (nn x) L = none → RX x0 X) (hS : SU x) (hH : HI x) (hs : x.1 23 (x.1 100 4).toNatClampNeg = 2) (hR : RIw K V sN e E x x []) (h : ∀ y, SM x y → FR y → hz y = hz x → y.1 100 17 = x.1 100 17 → (∀ k, y.1 116 k = x.1 116 k ∧ y.1 117 k = x.1 117 k) → nx x < nx y → ∀ M, RIw K V sN e E x y M → still M → pO (pE K o f) K o (nn x) L = some (nn y, L ++ M) → (E.2.1 = [] → CPl x y (sPs sN V K E M)) → (∀ k, y.1 115 k = x.1 115 k) → Fv y) : KE G q (d + 8) zk_X7_claimedCell 0 [(0, vr 100)] [] x (rv Fv) X := by
  have b1 := hS.1.2.1
  have eN : ((x.1 100 4).toNatClampNeg : Int) = nx x := by rw [t_cl]; unfold nx at *; omega
  have un := nn_is b1
  have nx0 : (x.1 100 4).toNatClampNeg = nn x := rfl
  have hKi : K (nn x) = 1 := by rw [← hR.1.1 _ hR.2.1, show x.1 23 (nn x) = 2 from hs]; decide
  have pO7 : 700 ≤ nn x → pO (pE K o f) K o (nn x) L = none := fun c => by unfold pO; rw [if_pos c]
  have pOe : nn x < 700 → pO (pE K o f) K o (nn x) L = if K (nn x + 1) = 65 then (if nn x + 1 < 700 ∧ (K (nn x + 2) = 2 ∧ nn x + 2 < 700) ∧ K (nn x + 3) = 66 ∧ nn x + 3 < 700 then some (nn x + 4, L ++ [(7, nn x, 0), (12, nn x + 2, nn x)]) else none) else some (nn x + 1, L ++ [(6, nn x, 0)]) := fun c => by
    unfold pO
    rw [if_neg (by omega), if_neg (by rw [hKi]; decide), if_neg (by rw [hKi]; decide), if_neg (by rw [hKi]; decide), if_pos hKi, if_pos ho]
  have on1 : nn x < 700 → nn x + 1 ≤ e := fun c => KA_on hR.1 hR.2.1 c (by rw [hKi]; decide) (by rw [hKi]; decide)
  have e6 : Int32.ofNat (nn x) = x.1 100 4 := (i32_of (by have := un; unfold nx at this b1; omega)).symm
  have fin : ∀ (w y : gd) (M : gU), AP x w 6 (x.1 100 4) → CPl x w [(6, x.1 100 4)] → (E.2.1 = [] → sPs sN V K E M = [(6, Int32.ofNat (nn x))]) → SV y (x.1 60 3).toInt → fm (fun c k => c = 42 ∨ (c = 100 ∧ k = 4)) w y → La x y → FR y → nx x < nx y → (y.1 42 (x.1 100 4).toNatClampNeg = 6 ∨ (y.1 42 (x.1 100 4).toNatClampNeg = 7 ∧ nx x + 2 < nx y ∧ y.1 42 ((x.1 100 4).toNatClampNeg + 2) = 12 ∧ y.1 23 ((x.1 100 4).toNatClampNeg + 2) = 3)) → RIw K V sN e E x y M → still M → pO (pE K o f) K o (nn x) L = some (nn y, L ++ M) → Fv y := by
    intro w y M hA hCA hsp Sy fy la fr hn hp hRy hM hpO
    have fx : fm sSum x y := fm_tr (fm_w hA.1 (fun c k q => by unfold sSum; omega)) (fm_w fy (fun c k q => by unfold sSum; omega))
    have SUy : SU y := by
      refine ⟨Sy.1, Sy.2.1, Sy.2.2.1, fun i hi => ?_⟩
      rw [fy 60 3 (by omega)] at hi
      rcases hA.2.2.2.2 i hi with e | ⟨e1, e2⟩
      · exact Sy.2.2.2 i e
      · unfold PQ
        rw [fy 62 i (by omega), fy 63 i (by omega), e1, e2]
        refine ⟨fun c => absurd c (by decide), fun _ => ⟨(x.1 100 4).toNatClampNeg, eN.symm, by omega, ?_⟩⟩
        rcases hp with g | ⟨g1, g2, g3, g4⟩
        · exact Or.inl g
        · exact Or.inr ⟨g1, by omega, g3, g4⟩
    obtain ⟨g1, g2⟩ := HI_eq (z := y) hH (by rw [fy _ _ (by omega), hA.1 _ _ (by omega)]) (fun c k q1 q2 => by rw [fy _ _ (by omega), hA.1 _ _ (by omega)])
    exact h y ⟨SUy, g1, la, fx⟩ fr g2 (by rw [fy _ _ (by omega), hA.1 _ _ (by omega)]) (fun k => ⟨by rw [fy _ _ (by omega), hA.1 _ _ (by omega)], by rw [fy _ _ (by omega), hA.1 _ _ (by omega)]⟩) hn M hRy hM hpO (fun hb9 => by rw [hsp hb9, e6]; exact CPl_st hCA (fy _ _ (by omega)) (fun k => ⟨fy _ _ (by omega), fy _ _ (by omega)⟩)) (fun k => by rw [fy _ _ (by omega), hA.1 _ _ (by omega)])
  have p50 : ∀ (l s : Int32) (w : gd), AP x w 6 (x.1 100 4) → CPl x w [(6, x.1 100 4)] → (l = 0 ∧ s = 6 ∧ ¬ x.1 23 ((x.1 100 4).toNatClampNeg + 1) = 25 ∨ ¬ l = 0 ∧ s = 7 ∧ x.1 23 ((x.1 100 4).toNatClampNeg + 1) = 25) → KE G q (d + 8) zk_X7_claimedCell 50 [(0, vr 100), (1, vi l)] [vi s, vi (w.1 100 4), vr 42] w (rv Fv) X := by
    intro l s w hA hCA hls
    have w4 : w.1 100 4 = x.1 100 4 := hA.1 _ _ (by omega)
    rw [w4]
    refine kg_X7_claimedCell_50 hq _ _ _ ⟨RB_at hS.1, fun x2 e2 => ?_⟩
    have f2 : fm (fun c k => c = 42 ∧ k = (x.1 100 4).toNatClampNeg) w x2 := by rw [e2]; exact fm_si (fm_rf _ _) ⟨rfl, rfl⟩
    have u2 : x2.1 42 (x.1 100 4).toNatClampNeg = s := by rw [e2]; (simp only [si_get, sfl_get, Nat.reduceEqDiff, eq_self, and_false, false_and, and_true, true_and, if_true, if_false, reduceIte, reduceCtorEq])
    have q4 : x2.1 100 4 = x.1 100 4 := by rw [f2 _ _ (by omega)]; exact w4
    have Sw : SV w (x.1 60 3).toInt := AP_SV (Int.le_refl _) hS hA
    have nw : nx w = nx x := by unfold nx; rw [w4]
    have la2 : La w x2 := ⟨fun c k q1 q2 => f2 c k (by omega), by unfold nx; rw [f2 100 4 (by omega)]; exact Int.le_refl _, fun j hj => f2 42 j (by omega)⟩
    have S2 : SV x2 (x.1 60 3).toInt := by
      obtain ⟨⟨hT, b1, b2, b3⟩, ⟨u1, u2⟩, hp, hP⟩ := Sw
      have nn : nx x2 = nx w := by unfold nx; rw [f2 100 4 (by omega)]
      unfold SV US RB mt
      rw [f2 20 7 (by omega), f2 60 3 (by omega), nn]
      refine ⟨⟨kT_fm hT la2.1, b1, b2, b3⟩, ⟨fun j h1 h2 => ?_, fun j h1 h2 => ?_⟩, hp, fun i hi => La_PQ la2 (f2 _ _ (by omega)) (f2 _ _ (by omega)) (hP i hi)⟩
      · rw [f2 42 j (by omega)]; exact u1 j h1 h2
      · rw [f2 42 j (by omega)] at h2; rw [f2 42 _ (by omega)]; exact u2 j h1 h2
    have t2 : ∀ k, x2.1 23 k = x.1 23 k := fun k => by rw [f2 _ _ (by omega), hA.1 _ _ (by omega)]
    have fx2 : fm sSum x x2 := fm_tr (fm_w hA.1 (fun c k q => by unfold sSum; omega)) (fm_w f2 (fun c k q => by unfold sSum; omega))
    have n2 : nx x2 = nx x := by unfold nx; rw [q4]
    refine kf_pass hq (fm_tr h0 (fm_w fx2 (fun c k q => sSum_R q))) (fun c7 => hx (pO7 (by omega))) S2 (by rw [q4, t2, hs]; decide) ?_ (fun c7 y3 f3 n3 S3 r3 l3 z3 => ?_)
    · rw [q4, u2]
      rcases hls with ⟨-, rfl, -⟩ | ⟨-, rfl, -⟩ <;> decide
    have i7 : nn x < 700 := by omega
    have hpe := pOe i7
    have La3 : La x y3 := La_tr (La_tr (AP_La hA) la2) l3
    have u3 : y3.1 42 (x.1 100 4).toNatClampNeg = s := by rw [f3 _ _ (by omega)]; exact u2
    have N3 : nn y3 = nn x + 1 := nn_up (y := x) b1 (by omega)
    have m3 : (y3.1 100 4).toNatClampNeg = nn x + 1 := N3
    have k25 : x.1 23 (nn x + 1) = 25 ↔ K (nn x + 1) = 65 := KA_k hR.1 (on1 i7) 25 (by decide)
    refine ⟨fun c => rv_i ?_, fun c => ?_⟩
    · obtain ⟨-, es, e25⟩ : l = 0 ∧ s = 6 ∧ ¬ x.1 23 ((x.1 100 4).toNatClampNeg + 1) = 25 := by
        rcases hls with e | ⟨e, -⟩
        · exact e
        · exact absurd c e
      rw [if_neg (fun z => e25 (k25.mpr z))] at hpe
      have hsp : E.2.1 = [] → sPs sN V K E [(6, nn x, 0)] = [(6, Int32.ofNat (nn x))] := fun hE0 => by
        show [(6, nn x, 0)].filterMap (cPt sN V K E) = _
        have e9 : cPt sN V K E (6, nn x, 0) = some (6, Int32.ofNat (nn x)) := if_pos hE0
        simp [e9]
      refine fin w y3 [(6, nn x, 0)] hA hCA hsp S3 (fm_tr (fm_w f2 (fun c k q => Or.inl q.1)) (fm_w f3 (fun c k q => Or.inr q))) La3 r3 (by omega) (Or.inl (by rw [u3, es])) ⟨KA_fm hR.1 La3.1, by rw [N3]; exact on1 i7, HAs_one.mpr (HA_6.mpr ⟨by omega, by rw [show y3.1 42 (nn x) = s from u3, es]⟩), fun j h1 h2 h3 => ?_⟩ (stl_k (by decide)) (by rw [N3]; exact hpe)
      have ej : j = nn x := by omega
      rw [ej]
      exact HBs_one.mpr (Or.inr (Or.inl ⟨rfl, by rw [show y3.1 42 (nn x) = s from u3, es], rfl⟩))
    obtain ⟨es, e25⟩ : s = 7 ∧ x.1 23 ((x.1 100 4).toNatClampNeg + 1) = 25 := by
      rcases hls with ⟨e, -⟩ | ⟨-, e⟩
      · exact absurd e c
      · exact e
    have hK1 : K (nn x + 1) = 65 := k25.mp e25
    rw [if_pos hK1] at hpe
    refine kf_claimRow (E := E) hq z3 S3 r3 N3 b1 hR.1 La3 (on1 i7) hK1 (u3.trans es) (fun no => hx (by rw [hpe, if_neg no])) (fun y8 yes S8 r8 La8 f8 N8 hR8 c8 u8 u82 => rv_i ?_)
    rw [if_pos yes] at hpe
    have c8n := nn_is S8.1.2.1
    have hsp : E.2.1 = [] → sPs sN V K E [(7, nn x, 0), (12, nn x + 2, nn x)] = [(6, Int32.ofNat (nn x))] := fun hE0 => by
      show [(7, nn x, 0), (12, nn x + 2, nn x)].filterMap (cPt sN V K E) = _
      have e9 : cPt sN V K E (7, nn x, 0) = some (6, Int32.ofNat (nn x)) := if_pos hE0
      have e10 : cPt sN V K E (12, nn x + 2, nn x) = none := rfl
      simp [e9, e10]
    exact fin w y8 [(7, nn x, 0), (12, nn x + 2, nn x)] hA hCA hsp S8 (fm_tr (fm_tr (fm_w f2 (fun c k q => Or.inl q.1)) (fm_w f3 (fun c k q => Or.inr q))) f8) La8 r8 (by omega) (Or.inr ⟨u8, by omega, u82, c8⟩) hR8 (still_app (L := [(7, nn x, 0)]) (M := [(12, nn x + 2, nn x)]) (stl_k (by decide)) (stl_k (by decide))) (by rw [N8]; exact hpe)
  have p14 : ∀ s : Int32, (s = 0 ∧ ¬ x.1 23 ((x.1 100 4).toNatClampNeg + 1) = 25 ∨ s = 1 ∧ x.1 23 ((x.1 100 4).toNatClampNeg + 1) = 25) → KE G q (d + 8) zk_X7_claimedCell 14 [(0, vr 100)] [vi s] x (rv Fv) X := by
    intro s hs1
    refine kg_X7_claimedCell_14 hq _ (kf_addPart hq _ _ hS.2.2.1 (fun w hA hCA => ⟨fun c => p50 _ _ w hA hCA (Or.inl ⟨c, rfl, ?_⟩), fun c => p50 _ _ w hA hCA (Or.inr ⟨c, rfl, ?_⟩)⟩))
    · rcases hs1 with ⟨-, e⟩ | ⟨e, -⟩
      · exact e
      · rw [e] at c; exact absurd c (by decide)
    · rcases hs1 with ⟨e, -⟩ | ⟨-, e⟩
      · exact absurd e c
      · exact e
  exact kg_X7_claimedCell_0 hq (kp_sortBehind hq hS.1 ⟨fun c => p14 _ (Or.inl ⟨rfl, c⟩), fun c => p14 _ (Or.inr ⟨rfl, c⟩)⟩)
end KCF2
end
section
/-! the class: a sum is read as the grammar says -/
theorem dAk_1 {K : Nat → Int32} {o : Bool} {f i : Nat} {v : Nat × Nat × Nat} {L : gU} : dAk K o [(0, f, v)] i L = pE K o f 0 i L := by
  show (pE K o f 0 i L).bind (fun q => some (q.1, q.2)) = _
  cases pE K o f 0 i L with
  | none => rfl
  | some q => rfl
theorem pst_03 {k : Int32} (h : ¬ pst k = 0) : ¬ k = 0 ∧ ¬ k = 3 := ⟨fun z => h (by rw [z]; decide), fun z => h (by rw [z]; decide)⟩
theorem opE_still {M : gU} (h : opE M) : still M := fun v hv => by
  rcases h v hv with e | e <;> rw [e] <;> decide
section KSG
variable {G : kG} {q : kP} {d : Nat} {x x0 y z : gd} {F : Int32 → gd → Prop} {Fv : gd → Prop} {X : String → gd → Prop} {P : Option gv → gd → Prop} {m : Int} {K V : Nat → Int32} {sN : Nat → Nat → Bool} {e : Nat} {E : gV} {M N : gU} {o : Bool}
theorem RI_op (h : RIw K V sN e E x y M) (hN : opE N) : RIw K V sN e E x y (M ++ N) := ⟨h.1, h.2.1, UR_op h.2.2 hN⟩
/-- the parts of a sum under way: what is held, what is written (in a claim: where no block is open) -/
def SXg (sN : Nat → Nat → Bool) (V K : Nat → Int32) (E : gV) (H : Prop) (x y : gd) (sy : gH) (M : gU) : Prop := HP K y (y.1 100 17).toNatClampNeg sy ∧ (H → CPl x y (sPs sN V K E M))
theorem SX_rel {H : Prop} {sy s2 : gH} (h : SXg sN V K E H x y sy M) (hN : opE N) (hp : HP K z (z.1 100 17).toNatClampNeg s2) (hc : CPl y z (oPs K N)) : SXg sN V K E H x z s2 (M ++ N) :=
  ⟨hp, fun q => by rw [sPs_app, sPs_op hN]; exact CPl_app (h.2 q) hc⟩
theorem SX_st {H : Prop} {sy : gH} (h : SXg sN V K E H x y sy M) (e17 : z.1 100 17 = y.1 100 17) (e115 : ∀ k, z.1 115 k = y.1 115 k) (e3 : z.1 60 3 = y.1 60 3) (e6 : ∀ k, z.1 62 k = y.1 62 k ∧ z.1 63 k = y.1 63 k) : SXg sN V K E H x z sy M :=
  ⟨by rw [e17]; exact HP_eq (fun k _ => e115 k) h.1, fun q => CPl_st (h.2 q) e3 e6⟩
theorem kf_sum (hq : kV q) (h0 : fm sR x0 x) (D : Int32) (L : gU) (hx : pX K o (17 - D.toNatClampNeg) (nn x) L = none → RX x0 X) (hS : SU x) (hf : FR x) (hK : ¬ x.1 100 5 = 0 → KN x ∧ KV' K e x E) (ho : o = true ↔ x.1 100 5 = 0) (hR : RIw K V sN e E x x []) (hD : 1 ≤ D.toInt) (hD2 : D.toInt ≤ 18) (h : ∀ r y, SU y → FR y → La x y → fm sSum x y → nx x < nx y → ∀ M, RIw K V sN e E x y M → still M → pX K o (17 - D.toNatClampNeg) (nn x) L = some (nn y, L ++ M) → ((o = true → E.2.1 = []) → CPl x y (sPs sN V K E M)) → r = x.1 60 3 → F r y) : KE G q (d + 9) zk_X7_sum 0 [(0, vr 100), (1, vi D)] [] x (ri F) X := by
  have k700 : (700 : Int32).toInt = 700 := rfl
  have k1 : (1 : Int32).toInt = 1 := rfl
  have k0 : (0 : Int32).toInt = 0 := rfl
  have hn0 := hS.1.2.1
  obtain ⟨H, hH⟩ : ∃ H : Prop, H ↔ (o = true → E.2.1 = []) := ⟨_, Iff.rfl⟩
  have h0y : ∀ {y : gd}, SM x y → fm sR x0 y := fun hM => fm_tr h0 (fm_w hM.2.2.2 (fun c k q => sSum_R q))
  obtain ⟨W, eW⟩ : ∃ W, W = pE K o (17 - D.toNatClampNeg) 0 (nn x) L := ⟨_, rfl⟩
  have hxW : W = none → RX x0 X := fun z => hx (by unfold pX; rw [← eW, z]; rfl)
  have p162 : ∀ (l2 : Int32) (y : gd) (sy : gH) (M : gU), SM x y → FR y → nx x < nx y → hz y = 1 → HD y (y.1 100 17).toNatClampNeg sy → RIw K V sN e E x y M → still M → pst (K (nn y)) = 0 → W = dW K o sy (nn y) (L ++ M) → SXg sN V K E H x y sy M → l2 = x.1 60 3 → KE G q (d + 9) zk_X7_sum 162 [(0, vr 100), (2, vi l2)] [] y (ri F) X := by
    intro l2 y sy M hM hF hn hz1 hDy hRy hMs hp hW hsx hl2
    refine kg_X7_sum_162 hq _ (kf_release hq _ (by decide) (by decide) K o (nn y) sy (L ++ M) hDy hsx.1 (by rw [hp]; decide) (by omega) hM.1 hM.2.1 (fun z fz Sz Hz zz _ _ hsa a r v s' N hDz ha hN hdz hPz hCz _ => kf_addPart hq _ _ Sz.2.2.1 (fun w hA hCA => ri_i ?_)))
    obtain ⟨g1, g2, g3⟩ := SM_rel hM fz Sz Hz
    have Sw : SU w := AP_SU Sz hA (fun c => absurd c (by decide)) (by decide)
    have w4 : w.1 100 4 = z.1 100 4 := hA.1 _ _ (by omega)
    have a0 : a = 0 := by rw [k1] at ha; omega
    have se : s' = [] := by
      have e1 := HD_zs hDz
      have e2 : zc z (z.1 100 17).toNatClampNeg = 1 := by show hz z = 1; rw [zz]; exact hz1
      rw [e2] at e1
      have e3 : (1 : Nat) = zs s' + (if a = 0 then 1 else 0) := e1
      rw [if_pos a0] at e3
      cases hn9 : (z.1 100 17).toNatClampNeg with
      | zero => rw [hn9] at hDz; exact absurd hDz (by show ¬ (a, r, v) :: s' = []; simp)
      | succ n =>
        rw [hn9] at hDz
        obtain ⟨a9, r9, v9, s9, q1, q2, q3, q4, q5, q6⟩ := hDz
        have q1 : s' = s9 := (List.cons.inj q1).2
        rw [← q1] at q6
        cases n with
        | zero => exact q6
        | succ n => have := HD_b q6; omega
    have nz : nn z = nn y := by unfold nn; rw [g3]
    have nw : nn w = nn y := by rw [← nz]; unfold nn; rw [w4]
    have uz : ∀ j, w.1 42 j = y.1 42 j := fun j => by rw [hA.1 42 j (by omega), fz 42 j (by omega)]
    have lw : La x w := La_tr g1.2.2.1 (AP_La hA)
    refine h l2 w Sw ?_ lw (fm_tr g1.2.2.2 (fm_w hA.1 (fun c k q => by unfold sSum; omega))) ?_ (M ++ N ++ [(54, 0, 0)]) ?_ (still_app (still_app hMs (opE_still hN)) (stl_k (by decide))) ?_ (fun q => ?_) hl2
    rotate_right
    · rw [sPs_app]
      exact CPl_app ((SX_rel hsx hN hPz hCz).2 (hH.mpr q)) hCA
    · have := g2 hF
      unfold FR at this ⊢
      rw [w4, hA.1 42 _ (by omega)]; exact this
    · unfold nx at hn ⊢
      rw [w4, g3]; exact hn
    · have r1 : RIw K V sN e E x w M := RI_st hRy (by rw [w4, g3]) uz (fun c k q1 q2 => by rw [hA.1 _ _ (by omega), fz _ _ (by omega)])
      have r2 := RI_op r1 hN
      exact ⟨r2.1, r2.2.1, UR_dull r2.2.2 (dull_k (by decide))⟩
    · unfold pX
      rw [← eW, hW, hdz, a0, se, dW_end (by omega), nw]
      show some (nn y, L ++ M ++ N ++ [(54, 0, 0)]) = _
      rw [List.append_assoc L, List.append_assoc L]
  have p153 : ∀ (l2 p : Int32) (y : gd) (sy : gH) (M : gU), SM x y → FR y → nx x < nx y → 0 ≤ p.toInt → (hz y : Int) = p.toInt + 1 → HD y (y.1 100 17).toNatClampNeg sy → RIw K V sN e E x y M → still M → pst (K (nn y)) = 0 → W = dW K o sy (nn y) (L ++ M) → (p.toInt ≤ 0 ∨ ¬ (K (nn y) = 62 ∧ nn y < 700)) → SXg sN V K E H x y sy M → l2 = x.1 60 3 → KE G q (d + 9) zk_X7_sum 153 [(0, vr 100), (2, vi l2), (3, vi p)] [] y (ri F) X := by
    intro l2 p y sy M hM hF hn p0 hzy hDy hRy hMs hp hW hor hsx hl2
    refine kg_X7_sum_153 hq _ _ ⟨fun c => p162 l2 y sy M hM hF hn ?_ hDy hRy hMs hp hW hsx hl2, fun c => kp_refuse hq _ (RB_at hM.1.1) (h0y hM) (hxW ?_)⟩
    · rw [t_le, k0] at c; omega
    · rw [t_le, k0] at c
      rw [hW]
      refine dW_stuck hp (hor.resolve_left c) ?_
      rw [← HD_zs hDy]
      show 2 ≤ hz y
      omega
  have loop : ∀ (n : Nat) (l2 p k : Int32) (y : gd) (sy : gH) (M : gU), SM x y → FR y → 0 ≤ p.toInt → (hz y : Int) = p.toInt + 1 → 0 ≤ k.toInt → nx x + k.toInt ≤ nx y → 700 - nx y < n → HD y (y.1 100 17).toNatClampNeg sy → RIw K V sN e E x y M → still M → W = dAk K o sy (nn y) (L ++ M) → SXg sN V K E H x y sy M → l2 = x.1 60 3 → KE G q (d + 9) zk_X7_sum 25 [(0, vr 100), (2, vi l2), (3, vi p), (4, vi k)] [] y (ri F) X := by
    intro n
    induction n with
    | zero =>
      intro l2 p k y sy M hM hF p0 hzy kp hk hn hDy hRy hMs hW hsx hl2
      have b2 := hM.1.1.2.2.1
      omega
    | succ n ih =>
      intro l2 p k y sy M hM hF p0 hzy kp hk hn hDy hRy hMs hW hsx hl2
      have b2 := hM.1.1.2.2.1
      have p104 : ∀ (p : Int32) (z : gd) (sz : gH) (Mz : gU), SM x z → FR z → 0 ≤ p.toInt → (hz z : Int) = p.toInt + 1 → DL z → nx y < nx z → HD z (z.1 100 17).toNatClampNeg sz → RIw K V sN e E x z Mz → still Mz → W = dW K o sz (nn z) (L ++ Mz) → (p.toInt ≤ 0 ∨ ¬ K (nn z) = 62) → SXg sN V K E H x z sz Mz → KE G q (d + 9) zk_X7_sum 104 [(0, vr 100), (2, vi l2), (3, vi p), (4, vi k)] [] z (ri F) X := by
        intro p z sz Mz hMz hFz p0 hzz hDz hnz hSz hRz hMzs hWz hor hsz
        have hKz : kc (z.1 23 (z.1 100 4).toNatClampNeg) = K (nn z) := hRz.1.1 _ hRz.2.1
        refine kg_X7_sum_104 hq _ _ _ (kp_sort hq hMz.1.1 (kf_strengthOf hq _ _ hKz (fun r hrp hr => ⟨fun c => ?_, fun c => p153 _ _ z sz Mz hMz hFz (by omega) p0 hzz hSz hRz hMzs (by rw [c, k0] at hrp; omega) hWz (hor.imp id (fun q z => q z.1)) hsz hl2⟩)))
        obtain ⟨⟨r1, r5⟩, s2, s6, s0⟩ := hr c
        refine kf_release hq _ r1 r5 K o (nn z) sz (L ++ Mz) hSz hsz.1 (by omega) (by omega) hMz.1 hMz.2.1 (fun w fw Sw Hw zw hle _ hsa a r' v s' N hDw ha hN hdw hPw hCw h115w => ?_)
        have hsw := SX_rel hsz hN hPw hCw
        obtain ⟨g1, g2, g3⟩ := SM_rel hMz fw Sw Hw
        have t23 : ∀ j, w.1 23 j = z.1 23 j := fun j => fw _ _ (by omega)
        have u42 : ∀ j, w.1 42 j = z.1 42 j := fun j => fw _ _ (by omega)
        have hRw : RIw K V sN e E x w (Mz ++ N) := RI_op (RI_st hRz g3 u42 (fun c k q1 q2 => fw _ _ (by omega))) hN
        have nw : nn w = nn z := by unfold nn; rw [g3]
        refine kp_sort hq Sw.1 (kp_depthHere hq Hw ?_)
        rw [g3, t23]
        have dd := dh_is Hw
        have hDw2 : (dh w).toInt ≤ 16 := by
          unfold dh
          split
          · decide
          · rename_i c9
            have a0 := Hw.1.1
            have a1 := Hw.1.2
            rw [t_le, k0] at c9
            have e1 : (w.1 100 17 - 1).toInt = (w.1 100 17).toInt - 1 := t_sub (by rw [k1]; omega) (by rw [k1]; omega)
            rw [fw 117 _ (by omega)]
            refine hDz _ ?_
            rw [t_cl, e1]; omega
        obtain ⟨a', r'', v', s'', es, hr17⟩ := HD_top Hw (by omega) hDw
        have er : r' = r'' := by
          have := (List.cons.inj es).1
          exact (Prod.mk.inj (Prod.mk.inj this).2).1
        obtain ⟨f9, ef9⟩ : ∃ f9, r' = f9 + 1 := ⟨r' - 1, by omega⟩
        have e1 : (dh w + 1).toInt = (dh w).toInt + 1 := t_add (by rw [k1]; omega) (by rw [k1]; omega)
        have hzw1 : 1 ≤ hz w := by omega
        refine kf_hold hq _ _ _ Hw ⟨s2, s6⟩ (by omega) (by omega) (by omega) (fun i hi => ?_) (fun v9 fv Hv zv t1 t2 t3 t4 t5 t6 => ?_)
        · have := dd.2.2.2 i hi; omega
        obtain ⟨j1, j2, j3⟩ := SM_hold g1 fv Hv
        have v23 : ¬ v9.1 23 (v9.1 100 4).toNatClampNeg = 0 := by rw [j3, g3, fv _ _ (by omega), t23]; exact s0
        have hRv : RIw K V sN e E x v9 (Mz ++ N) := RI_st hRw j3 (fun j => fv _ _ (by omega)) (fun c k q1 q2 => fv _ _ (by omega))
        have nv9 : nn v9 = nn z := by rw [← nw]; unfold nn; rw [j3]
        have nv : nx v9 = nx z := by unfold nx; rw [j3, g3]
        have bz := hMz.1.1.2.1
        have cz := nn_is bz
        have hD9 : HD v9 (v9.1 100 17).toNatClampNeg ((pst (K (nn z)), f9, 51, nn z, 0) :: (a, f9 + 1, v) :: s') := by
          have a0 := Hw.1.1
          have hzn : hz w ≤ (w.1 100 17).toNatClampNeg := zc_le _
          have n9 : (v9.1 100 17).toNatClampNeg = (w.1 100 17).toNatClampNeg + 1 := by rw [t_cl, t_cl]; omega
          have ud := t_cl (dh w + 1)
          rw [n9]
          refine ⟨pst (K (nn z)), f9, (51, nn z, 0), (a, f9 + 1, v) :: s', rfl, Or.inl ?_, Or.inl ?_, ⟨by omega, fun q => absurd q (by omega)⟩, Or.inr rfl, ?_⟩
          · rw [t3]; omega
          · rw [t2]; exact hrp
          · rw [← ef9]; exact HD_eq t4 hDw
        have pne : ¬ pst (K (nn z)) = 0 := by omega
        have hP9 : HP K v9 (v9.1 100 17).toNatClampNeg ((pst (K (nn z)), f9, 51, nn z, 0) :: (a, f9 + 1, v) :: s') := by
          have a0 := Hw.1.1
          have n9 : (v9.1 100 17).toNatClampNeg = (w.1 100 17).toNatClampNeg + 1 := by rw [t_cl, t_cl]; omega
          rw [n9]
          refine ⟨fun _ => ?_, ?_⟩
          · rw [t5]
            show _ = if (51 : Nat) = 50 then _ else kcv (K (nn z))
            rw [if_neg (by decide)]
            exact (kcv_is hKz pne).symm
          · rw [← ef9]; exact HP_eq t6 hsw.1
        have alt : a < pst (K (nn z)) := by omega
        refine kf_pass hq (h0y j1) (fun c7 => hxW ?_) j1.1 v23 (FR_12 (j2 (g2 hFz))) (fun c7 t ft nt St rt lt _ => ?_)
        · rw [hWz, hdw]
          exact dW_op7 alt (by omega)
        obtain ⟨m1, m2⟩ := SM_pass j1 ft St lt
        have ek : (k + 1).toInt = k.toInt + 1 := t_add (by rw [k1]; omega) (by rw [k1]; omega)
        have nt9 : nn t = nn z + 1 := by have := nn_up (y := v9) (z := t) (by omega) nt; omega
        have ut : t.1 42 (nn v9) = 0 := by rw [ft 42 _ (by omega)]; exact j2 (g2 hFz)
        refine ih _ p (k + 1) t _ (Mz ++ N) m1 rt p0 (by rw [m2, zv, if_neg c, zw]; exact hzz) (by omega) (by omega) (by omega) (by rw [ft 100 17 (by omega)]; exact HD_eq (fun k _ => ⟨ft _ _ (by omega), ft _ _ (by omega)⟩) hD9) (RI_tok hRv (by omega) (by omega) (by rw [nv9]; exact (pst_03 pne).1) (by rw [nv9]; exact (pst_03 pne).2) lt nt ut) (still_app hMzs (opE_still hN)) ?_ ?_ ?_
        · rw [hWz, hdw, ef9, dW_op alt (by omega), nt9, List.append_assoc]
        · refine ⟨?_, fun q9 => CPl_st (CPl_st (hsw.2 q9) (fv _ _ (by omega)) (fun k => ⟨fv _ _ (by omega), fv _ _ (by omega)⟩)) (ft _ _ (by omega)) (fun k => ⟨ft _ _ (by omega), ft _ _ (by omega)⟩)⟩
          rw [ft 100 17 (by omega)]; exact HP_eq (fun k _ => ft _ _ (by omega)) hP9
        · exact hl2
      have p66 : ∀ (j : Nat) (p : Int32) (z : gd) (sz : gH) (Mz : gU), SM x z → FR z → 0 ≤ p.toInt → p.toInt ≤ j → (hz z : Int) = p.toInt + 1 → DL z → nx y < nx z → HD z (z.1 100 17).toNatClampNeg sz → RIw K V sN e E x z Mz → still Mz → W = dW K o sz (nn z) (L ++ Mz) → SXg sN V K E H x z sz Mz → KE G q (d + 9) zk_X7_sum 66 [(0, vr 100), (2, vi l2), (3, vi p), (4, vi k)] [] z (ri F) X := by
        intro j
        induction j with
        | zero =>
          intro p z sz Mz hMz hFz p0 pj hzz hDz hnz hSz hRz hMzs hWz hsz
          refine kg_X7_sum_66 hq _ _ _ ⟨fun c => p104 p z sz Mz hMz hFz p0 hzz hDz hnz hSz hRz hMzs hWz (Or.inl (by omega)) hsz, fun c => ?_⟩
          exfalso; rw [t_le, k0] at c; omega
        | succ j ihj =>
          intro p z sz Mz hMz hFz p0 pj hzz hDz hnz hSz hRz hMzs hWz hsz
          have hKz : kc (z.1 23 (z.1 100 4).toNatClampNeg) = K (nn z) := hRz.1.1 _ hRz.2.1
          have k22 : z.1 23 (z.1 100 4).toNatClampNeg = 22 ↔ K (nn z) = 62 := KA_k hRz.1 hRz.2.1 22 (by decide)
          refine kg_X7_sum_66 hq _ _ _ ⟨fun c => p104 p z sz Mz hMz hFz p0 hzz hDz hnz hSz hRz hMzs hWz (Or.inl (by rw [t_le, k0] at c; exact c)) hsz, fun c => kp_sort hq hMz.1.1 ⟨fun c2 => p104 p z sz Mz hMz hFz p0 hzz hDz hnz hSz hRz hMzs hWz (Or.inr (fun q => c2 (k22.mpr q))) hsz, fun c2 => ?_⟩⟩
          rw [t_le, k0] at c
          have hK62 : K (nn z) = 62 := k22.mp c2
          have pz : pst (K (nn z)) = 0 := by rw [hK62]; decide
          have bz := hMz.1.1.2.1
          have cz := nn_is bz
          refine kf_pass hq (h0y hMz) (fun c7 => hxW ?_) hMz.1 (by rw [c2]; decide) (FR_12 hFz) (fun c7 t ft nt St rt lt _ => ?_)
          · rw [hWz]
            refine dW_stuck pz (fun q => absurd q.2 (by omega)) ?_
            rw [← HD_zs hSz]
            show 2 ≤ hz z
            omega
          obtain ⟨m1, m2⟩ := SM_pass hMz ft St lt
          have nt9 : nn t = nn z + 1 := nn_up bz nt
          have ut : t.1 42 (nn z) = 0 := by rw [ft 42 _ (by omega)]; exact hFz
          have hRt : RIw K V sN e E x t Mz := RI_tok hRz bz c7 (by rw [hK62]; decide) (by rw [hK62]; decide) lt nt ut
          have hSt : HD t (t.1 100 17).toNatClampNeg sz := by rw [ft 100 17 (by omega)]; exact HD_eq (fun k _ => ⟨ft _ _ (by omega), ft _ _ (by omega)⟩) hSz
          have hst9 : SXg sN V K E H x t sz Mz := SX_st hsz (ft _ _ (by omega)) (fun k => ft _ _ (by omega)) (ft _ _ (by omega)) (fun k => ⟨ft _ _ (by omega), ft _ _ (by omega)⟩)
          refine kf_release hq _ (by decide) (by decide) K o (nn z) sz (L ++ Mz) hSt hst9.1 (by rw [pz]; decide) (by omega) m1.1 m1.2.1 (fun w fw Sw Hw zw hle htop hsa a r' v9 s' N hDw ha hN hdw hPw hCw h115w => ?_)
          have hsw := SX_rel hst9 hN hPw hCw
          intro v ev
          obtain ⟨g1, g2, g3⟩ := SM_rel m1 fw Sw Hw
          obtain ⟨⟨a0, a1⟩, a2, a3⟩ := id Hw
          have hw1 : 1 ≤ (w.1 100 17).toInt := by
            have : hz w ≤ (w.1 100 17).toNatClampNeg := zc_le _
            rw [t_cl] at this
            rw [zw, m2] at this
            omega
          have az : a = 0 := by rw [k1] at ha; omega
          have e1 : (w.1 100 17 - 1).toInt = (w.1 100 17).toInt - 1 := t_sub (by rw [k1]; omega) (by rw [k1]; omega)
          have v17 : v.1 100 17 = w.1 100 17 - 1 := by rw [ev]; (simp only [si_get, sfl_get, Nat.reduceEqDiff, eq_self, and_false, false_and, and_true, true_and, if_true, if_false, reduceIte, reduceCtorEq])
          have fv : fm (fun c k => (c = 100 ∧ k = 17) ∨ (115 ≤ c ∧ c ≤ 117)) w v := by rw [ev]; exact fm_si (fm_rf _ _) (Or.inl ⟨rfl, rfl⟩)
          have fv2 : fm (fun c k => c = 100 ∧ k = 17) w v := by rw [ev]; exact fm_si (fm_rf _ _) ⟨rfl, rfl⟩
          have Hv : HI v := by
            unfold HI
            rw [v17, e1]
            refine ⟨by omega, fun i hi => ?_, fun i j hij hj => ?_⟩
            · rw [fv2 115 i (by omega), fv2 116 i (by omega), fv2 117 i (by omega)]; exact a2 i (by omega)
            · rw [fv2 117 i (by omega), fv2 117 j (by omega)]; exact a3 i j hij (by omega)
          have n5 : (w.1 100 17).toNatClampNeg = (v.1 100 17).toNatClampNeg + 1 := by rw [v17, t_cl, t_cl, e1]; omega
          have hDv : HD v (v.1 100 17).toNatClampNeg s' := by
            rw [n5] at hDw
            obtain ⟨a9, r9, v8, s9, q1, q2, q3, q4, q5, q6⟩ := hDw
            have q1 : s' = s9 := (List.cons.inj q1).2
            rw [q1]
            exact HD_eq (fun k _ => ⟨fv2 _ _ (by omega), fv2 _ _ (by omega)⟩) q6
          have zv : hz v + 1 = hz w := by
            have z1 := HD_zs hDv
            have z2 := HD_zs hDw
            have z3 : zs ((a, r', v9) :: s') = zs s' + (if a = 0 then 1 else 0) := rfl
            rw [if_pos az] at z3
            unfold hz
            omega
          obtain ⟨j1, j2, j3⟩ := SM_hold g1 fv Hv
          have rp := t_rg p
          have ep : (p + (-1)).toInt = p.toInt - 1 := by rw [t_add (by rw [tm1]; omega) (by rw [tm1]; omega), tm1]; rfl
          clear rp
          obtain ⟨p2, ep2⟩ : ∃ p2, p2 = p + (-1) := ⟨_, rfl⟩
          rw [← ep2] at ep ⊢
          have nv : nx v = nx t := by unfold nx; rw [j3, g3]
          have nv9 : nn v = nn z + 1 := by rw [← nt9]; unfold nn; rw [j3, g3]
          have b1 : 0 ≤ p2.toInt := by rw [ep]; omega
          have b2 : p2.toInt ≤ (j : Int) := by rw [ep]; omega
          have hz9 : (hz v : Int) = p2.toInt + 1 := by rw [ep]; rw [zw, m2] at zv; omega
          have hRv : RIw K V sN e E x v (Mz ++ N) := RI_op (RI_st (RI_st hRt g3 (fun j => fw _ _ (by omega)) (fun c k q1 q2 => fw _ _ (by omega))) j3 (fun j => fv _ _ (by omega)) (fun c k q1 q2 => fv _ _ (by omega))) hN
          refine ihj p2 v s' (Mz ++ N) j1 (j2 (g2 rt)) b1 b2 hz9 ?_ (by omega) hDv hRv (still_app hMzs (opE_still hN)) ?_ ?_
          · intro i hi
            rw [v17, e1] at hi
            rw [fv2 117 i (by omega), fw 117 i (by omega), ft 117 i (by omega)]
            refine hDz i ?_
            rw [ft 100 17 (by omega)] at hle
            omega
          · rw [hWz, hdw, az]
            cases s' with
            | nil =>
              exfalso
              have z1 := HD_zs hDv
              have : zs ([] : gH) = 0 := rfl
              unfold hz at hz9
              omega
            | cons y1 s1 =>
              rw [dW_par pz, if_pos ⟨hK62, by omega⟩, nv9, List.append_assoc]
          · refine ⟨?_, fun q9 => CPl_st (hsw.2 q9) (fv2 _ _ (by omega)) (fun k => ⟨fv2 _ _ (by omega), fv2 _ _ (by omega)⟩)⟩
            have h9 := hsw.1
            rw [n5] at h9
            exact HP_eq (fun k _ => fv2 _ _ (by omega)) h9.2
      have hoy : o = true ↔ y.1 100 5 = 0 := by rw [hM.2.2.2 100 5 (by unfold sSum; omega)]; exact ho
      refine kg_X7_sum_25 hq _ _ _ ⟨fun c => ?_, fun c => kf_openOperand hq (h0y hM) sy (L ++ M) (fun z => hxW (hW.trans z)) hM.1 hM.2.1 hF hoy (RI_0 hRy) (by omega) hDy hsx.1 (fun r z hMz hFz r0 r7 hzz hDz hsz hRz a f9 v s' hSz hdz hPz hCz => kp_sort hq hMz.1.1 ?_)⟩
      · exfalso; rw [t_lt, k700] at c; omega
      have hMxz := SM_tr hM hMz
      have by0 := hM.1.1.2.1
      have hRxz : RIw K V sN e E x z M := by
        have := RI_app by0 hMs hRy hMz.2.2.1 hRz
        rw [List.append_nil] at this
        exact this
      have hWz := hW.trans hdz
      have hKz : kc (z.1 23 (z.1 100 4).toNatClampNeg) = K (nn z) := hRxz.1.1 _ hRxz.2.1
      have hzle : hz y ≤ 18 := by
        have : hz y ≤ (y.1 100 17).toNatClampNeg := zc_le _
        have a1 := hM.2.1.1.2
        rw [t_cl] at this; omega
      have epr : (p + r).toInt = p.toInt + r.toInt := t_add (by omega) (by omega)
      have hoz : o = true ↔ z.1 100 5 = 0 := by rw [hMxz.2.2.2 100 5 (by unfold sSum; omega)]; exact ho
      have hKNz : ¬ z.1 100 5 = 0 → KN z ∧ KV' K e z E := fun q9 => by
        obtain ⟨c1, c2⟩ := hK (by rw [← hMxz.2.2.2 100 5 (by unfold sSum; omega)]; exact q9)
        exact ⟨KN_fm c1 (hMxz.2.2.2 _ _ (by unfold sSum; omega)) (hMxz.2.2.2 _ _ (by unfold sSum; omega)) (fun k => hMxz.2.2.2 _ _ (by unfold sSum; omega)), KV_fm c2 (hMxz.2.2.2 _ _ (by unfold sSum; omega)) (fun k => hMxz.2.2.2 _ _ (by unfold sSum; omega))⟩
      have bz := hMz.1.1.2.1
      have hsxz : SXg sN V K E H x z ((a, f9 + 1, v) :: s') M := by
        refine ⟨hPz, fun q9 => ?_⟩
        have := CPl_app (hsx.2 q9) hCz
        rw [List.append_nil] at this
        exact this
      have pre : ¬ (K (nn z) = 29 ∨ K (nn z) = 58) ∧ pbg o (K (nn z)) := by
        refine ⟨fun q => ?_, (pbg_k hKz).mpr ?_⟩
        · rw [← hKz] at q
          rcases hsz with e | e | ⟨e, -⟩ <;> (rw [e] at q; exact absurd q (by decide))
        · rcases hsz with e | e | e
          · exact Or.inr (Or.inl e)
          · exact Or.inl e
          · exact Or.inr (Or.inr (Or.inr (Or.inr (Or.inr e))))
      have hx3 : pO (pE K o f9) K o (nn z) (L ++ M) = none → RX x0 X := fun q => hxW (hWz.trans (dA_leaf0 pre.1 q))
      have aft : ∀ w, SM z w → FR w → hz w = hz z → w.1 100 17 = z.1 100 17 → (∀ k, w.1 116 k = z.1 116 k ∧ w.1 117 k = z.1 117 k) → nx z < nx w → ∀ N, RIw K V sN e E z w N → still N → pO (pE K o f9) K o (nn z) (L ++ M) = some (nn w, L ++ M ++ N) → (H → CPl z w (sPs sN V K E N)) → (∀ k, w.1 115 k = z.1 115 k) → KE G q (d + 9) zk_X7_sum 66 [(0, vr 100), (2, vi l2), (3, vi (p + r)), (4, vi k)] [] w (ri F) X := by
        intro w hMw hFw zw w17 w117 nw N hRw hN hpO hCw h115w
        have lz := hMz.2.2.1.2.1
        refine p66 (p + r).toInt.toNat (p + r) w ((a, f9 + 1, v) :: s') (M ++ N) (SM_tr hMxz hMw) hFw (by omega) (by omega) (by rw [zw, epr]; omega) (fun i hi => ?_) (by omega) (by rw [w17]; exact HD_eq (fun k _ => w117 k) hSz) (RI_app bz hMs hRxz hMw.2.2.1 hRw) (still_app hMs hN) ?_ ?_
        · rw [(w117 i).2]
          rw [w17] at hi
          exact hDz i hi
        · rw [hWz, dA_leaf pre.2 pre.1 hpO, List.append_assoc]
        · exact ⟨by rw [w17]; exact HP_eq (fun k _ => h115w k) hsxz.1, fun q9 => by rw [sPs_app]; exact CPl_app (hsxz.2 q9) (hCw q9)⟩
      have p62 : (¬ z.1 23 (z.1 100 4).toNatClampNeg = 2 ∨ ¬ z.1 100 5 = 0) → KE G q (d + 9) zk_X7_sum 62 [(0, vr 100), (2, vi l2), (3, vi (p + r)), (4, vi k)] [] z (ri F) X := fun ho9 => kg_X7_sum_62 hq _ _ _ (kf_readOperand hq (h0y hMxz) (L ++ M) f9 hx3 hMz.1 hMz.2.1 hFz (by
        rcases hsz with e | e | ⟨e, -⟩
        · rcases ho9 with g | g
          · exact absurd e g
          · refine Or.inr (Or.inr ⟨e, ?_, hKNz g⟩)
            cases o with
            | false => rfl
            | true => exact absurd (hoz.mp rfl) g
        · exact Or.inl e
        · exact Or.inr (Or.inl e)) (RI_0 hRxz) (fun w hMw hFw zw w17 w117 nw N hRw hN hpO hCw h115w => aft w hMw hFw zw w17 w117 (by omega) N hRw hN hpO (fun _ => hCw) h115w))
      exact ⟨fun c2 => p62 (Or.inl c2), fun c2 => ⟨fun c5 => p62 (Or.inr c5), fun c5 => kf_claimedCell hq (h0y hMxz) (L ++ M) f9 (hoz.mpr c5) hx3 hMz.1 hMz.2.1 c2 (RI_0 hRxz) (fun w hMw hFw zw w17 w117 nw N hRw hN hpO hCw h115w => aft w hMw hFw zw w17 w117 nw N hRw hN hpO (fun q9 => hCw (hH.mp q9 (hoz.mpr c5))) h115w)⟩⟩
  refine kg_X7_sum_0 hq _ (fun x1 e1 => ?_)
  have f1 : fm (fun c k => c = 100 ∧ k = 17) x x1 := by rw [e1]; exact fm_si (fm_rf _ _) ⟨rfl, rfl⟩
  have q17 : x1.1 100 17 = 0 := by rw [e1]; (simp only [si_get, sfl_get, Nat.reduceEqDiff, eq_self, and_false, false_and, and_true, true_and, if_true, if_false, reduceIte, reduceCtorEq])
  have H1 : HI x1 := by
    unfold HI
    rw [q17, k0]
    exact ⟨by omega, fun i hi => by omega, fun i j hij hj => by omega⟩
  have S1 : SU x1 := by
    obtain ⟨⟨hT, b1, b2, b3⟩, ⟨u1, u2⟩, hp, hP⟩ := hS
    have nn : nx x1 = nx x := by unfold nx; rw [f1 100 4 (by omega)]
    have la : La x x1 := ⟨fun c k q1 q2 => f1 c k (by omega), by omega, fun j _ => f1 42 j (by omega)⟩
    unfold SU SV US RB mt
    rw [f1 20 7 (by omega), f1 60 3 (by omega), nn]
    refine ⟨⟨kT_fm hT la.1, b1, b2, b3⟩, ⟨fun j h1 h2 => ?_, fun j h1 h2 => ?_⟩, hp, fun i hi => La_PQ la (f1 _ _ (by omega)) (f1 _ _ (by omega)) (hP i hi)⟩
    · rw [f1 42 j (by omega)]; exact u1 j h1 h2
    · rw [f1 42 j (by omega)] at h2; rw [f1 42 _ (by omega)]; exact u2 j h1 h2
  have M1 : SM x x1 := ⟨S1, H1, ⟨fun c k q1 q2 => f1 c k (by omega), by unfold nx; rw [f1 100 4 (by omega)]; exact Int.le_refl _, fun j _ => f1 42 j (by omega)⟩, fm_w f1 (fun c k q => by unfold sSum; omega)⟩
  have F1 : FR x1 := by unfold FR at hf ⊢; rw [f1 100 4 (by omega), f1 42 _ (by omega)]; exact hf
  have z1 : hz x1 = 0 := by unfold hz; rw [q17]; rfl
  have R1 : RIw K V sN e E x x1 [] := RI_st hR (f1 _ _ (by omega)) (fun j => f1 _ _ (by omega)) (fun c k q1 q2 => f1 _ _ (by omega))
  refine kf_hold hq _ _ _ H1 (by decide) (by decide) (by rw [q17, k0]; omega) hD2 (fun i hi => by rw [q17, k0] at hi; omega) (fun x2 f2 H2 z2 t1 t2 t3 t4 t5 t6 => ?_)
  obtain ⟨g1, g2, g3⟩ := SM_hold M1 f2 H2
  have n2 : nx x2 = nx x := by unfold nx; rw [g3, f1 100 4 (by omega)]
  have nn2 : nn x2 = nn x := by unfold nn; rw [g3, f1 100 4 (by omega)]
  have R2 : RIw K V sN e E x x2 [] := RI_st R1 g3 (fun j => f2 _ _ (by omega)) (fun c k q1 q2 => f2 _ _ (by omega))
  have hD2' : HD x2 (x2.1 100 17).toNatClampNeg [(0, 17 - D.toNatClampNeg, 50, 0, 0)] := by
    have c0 : (x1.1 100 17).toNatClampNeg = 0 := by rw [q17]; rfl
    rw [q17, k0] at t1
    have n9 : (x2.1 100 17).toNatClampNeg = 0 + 1 := by rw [t_cl, t1]; rfl
    rw [c0] at t2 t3
    rw [n9]
    refine ⟨0, 17 - D.toNatClampNeg, (50, 0, 0), [], rfl, ?_, Or.inl (by rw [t2]; rfl), ⟨by decide, fun _ => rfl⟩, Or.inl rfl, rfl⟩
    rw [t3]
    omega
  refine loop 701 _ _ _ x2 _ [] g1 (g2 F1) (by decide) (by rw [z2, z1, if_pos rfl, k0]; rfl) (by decide) (by rw [k0]; omega) (by omega) hD2' R2 still_nil (by rw [dAk_1, nn2, List.append_nil]; exact eW) ⟨?_, fun _ => CPl_st (CPl_st CPl_rf (f1 _ _ (by omega)) (fun k => ⟨f1 _ _ (by omega), f1 _ _ (by omega)⟩)) (f2 _ _ (by omega)) (fun k => ⟨f2 _ _ (by omega), f2 _ _ (by omega)⟩)⟩ rfl
  rw [q17, k0] at t1
  have n9 : (x2.1 100 17).toNatClampNeg = 0 + 1 := by rw [t_cl, t1]; rfl
  rw [n9]
  exact ⟨fun q => absurd rfl q, trivial⟩
end KSG
end
section
/-! the class: steps, open blocks -/
abbrev ssm (x : gd) : Int := (x.1 80 9).toInt
abbrev om (x : gd) : Int := (x.1 100 13).toInt
abbrev sop (x : gd) (i : Nat) : Int := (x.1 81 i).toInt
abbrev stg (x : gd) (i : Nat) : Int := (x.1 84 i).toInt
/-- a step's own -/
def SA (x : gd) (M : Int) (i : Nat) : Prop := (0 ≤ sop x i ∧ ¬ sop x i = 15) ∧ (0 ≤ (x.1 83 i).toInt ∧ (x.1 83 i).toInt ≤ 8) ∧ (sop x i ≤ 10 → ∃ t : Nat, (x.1 85 i).toInt = t ∧ (t : Int) < nx x ∧ (sop x i ≤ 4 → x.1 42 t = 6 ∨ x.1 42 t = 7 ∨ x.1 42 t = 8 ∨ x.1 42 t = 9) ∧ (5 ≤ sop x i → sop x i ≤ 8 → x.1 42 t = 4) ∧ (9 ≤ sop x i → x.1 42 t = 5)) ∧ ((sop x i = 0 ∨ (2 ≤ sop x i ∧ sop x i ≤ 4) ∨ sop x i = 16) → (0 ≤ stg x i ∧ stg x i < M) ∨ BU x)
/-- where a step jumps -/
def SC (x : gd) (i : Nat) : Prop := (sop x i = 17 ∨ sop x i = 20) → (stg x i = -1 ∧ ¬ x.1 100 5 = 0 ∧ ∃ k : Nat, (k : Int) < om x ∧ (x.1 112 k).toInt = i) ∨ (0 ≤ stg x i ∧ stg x i ≤ ssm x ∧ (x.1 100 5 = 0 → stg x i < ssm x) ∧ (sop x i = 20 → (i : Int) < stg x i ∨ sop x (stg x i).toNat = 17))
def SCs (x : gd) (E : Nat → Prop) : Prop := ∀ i : Nat, (i : Int) < ssm x → ¬ E i → SC x i
/-- an open block -/
def OP1 (x : gd) (k : Nat) : Prop := (k = 0 → x.1 111 k = 0 ∧ x.1 112 k = -1) ∧ (0 < k → (1 ≤ (x.1 111 k).toInt ∧ (x.1 111 k).toInt ≤ 5) ∧ ∃ s : Nat, (x.1 112 k).toInt = s ∧ (s : Int) < ssm x ∧ (x.1 111 k = 1 ∨ x.1 111 k = 3 → sop x s = 17) ∧ (x.1 111 k = 2 → sop x s = 5) ∧ (x.1 111 k = 4 ∨ x.1 111 k = 5 → sop x s = 20)) ∧ 0 ≤ (x.1 113 k).toInt ∧ (x.1 113 k).toInt ≤ (x.1 100 9).toInt
def OPs (x : gd) : Prop := (0 ≤ om x ∧ om x ≤ 18) ∧ (∀ k : Nat, (k : Int) < om x → OP1 x k) ∧ (∀ j k : Nat, j ≤ k → (k : Int) < om x → (x.1 113 j).toInt ≤ (x.1 113 k).toInt) ∧ (x.1 100 9).toInt ≤ (x.1 100 7).toInt ∧ (x.1 100 7).toInt ≤ 8
def CD (x : gd) : Prop := (0 ≤ (x.1 60 6).toInt ∧ (x.1 60 6).toInt ≤ 24) ∧ x.1 60 9 = x.1 40 8 ∧ x.1 60 10 = x.1 40 10 ∧ (0 ≤ (x.1 60 14).toInt ∧ (x.1 60 14).toInt ≤ 4) ∧ (0 ≤ (x.1 60 16).toInt ∧ (x.1 60 16).toInt ≤ 4) ∧ (0 ≤ (x.1 60 13).toInt ∧ (x.1 60 13).toInt ≤ 8) ∧ (¬ x.1 100 5 = 0 → (x.1 100 9).toInt ≤ (x.1 60 13).toInt)
/-- where threads begin, and that the last step stops -/
def TS (x : gd) : Prop := (∀ t : Nat, (t : Int) < (x.1 60 10).toInt → 0 ≤ (x.1 72 t).toInt ∧ (x.1 72 t).toInt ≤ ssm x ∧ (x.1 100 5 = 0 → (x.1 72 t).toInt < ssm x)) ∧ (x.1 100 5 = 0 → ssm x = 0 ∨ x.1 81 ((ssm x).toNat - 1) = 21)
def RI0 (x : gd) (M : Int) : Prop := (¬ x.1 100 5 = 0 → KN x ∧ OPs x) ∧ NM x ∧ CD x ∧ (0 ≤ ssm x ∧ (∀ i : Nat, (i : Int) < ssm x → SA x M i)) ∧ TS x
section KST
variable {G : kG} {q : kP} {d : Nat} {x x0 y z : gd} {F : Int32 → gd → Prop} {Fv : gd → Prop} {X : String → gd → Prop} {P : Option gv → gd → Prop} {m : Int}
theorem NM_fm (h : NM x) (f : ∀ c k, 40 ≤ c → c < 60 → c ≠ 42 → c ≠ 43 → y.1 c k = x.1 c k) (e7 : y.1 20 7 = x.1 20 7) (e6 : y.1 60 6 = x.1 60 6) : NM y := by
  unfold NM tk at h ⊢
  rw [f 40 6 (by omega) (by omega) (by omega) (by omega), f 40 8 (by omega) (by omega) (by omega) (by omega), f 40 10 (by omega) (by omega) (by omega) (by omega), e7, e6]
  refine ⟨h.1, h.2.1, h.2.2.1, fun i hi => ?_, fun i hi => ?_, fun i hi => ?_⟩
  · rw [f 44 i (by omega) (by omega) (by omega) (by omega), f 45 i (by omega) (by omega) (by omega) (by omega), f 46 i (by omega) (by omega) (by omega) (by omega)]; exact h.2.2.2.1 i hi
  · rw [f 48 i (by omega) (by omega) (by omega) (by omega)]; exact h.2.2.2.2.1 i hi
  · rw [f 50 i (by omega) (by omega) (by omega) (by omega)]; exact h.2.2.2.2.2 i hi
theorem SA_La {i : Nat} (la : La x y) (e1 : y.1 81 i = x.1 81 i) (e3 : y.1 83 i = x.1 83 i) (e5 : y.1 85 i = x.1 85 i) (e4 : y.1 84 i = x.1 84 i) {M M' : Int} (em : M ≤ M') (h : SA x M i) : SA y M' i := by
  unfold SA sop stg at h ⊢
  rw [e1, e3, e5, e4]
  have ln := la.2.1
  refine ⟨h.1, h.2.1, fun c => ?_, fun c => ?_⟩
  · obtain ⟨t, t1, t2, t3, t4, t5⟩ := h.2.2.1 c
    rw [← la.2.2 t t2] at t3 t4 t5
    exact ⟨t, t1, by omega, t3, t4, t5⟩
  · rcases h.2.2.2 c with g | g
    · exact Or.inl ⟨g.1, by omega⟩
    · exact Or.inr (La_BU la g)
theorem SC_eq {i : Nat} (e1 : ∀ j, y.1 81 j = x.1 81 j) (e4 : y.1 84 i = x.1 84 i) (em : y.1 80 9 = x.1 80 9) (eo : y.1 100 13 = x.1 100 13) (e5 : y.1 100 5 = x.1 100 5) (e2 : ∀ j, y.1 112 j = x.1 112 j) (h : SC x i) : SC y i := by
  unfold SC sop stg ssm om at h ⊢
  rw [e1, e4, em, eo, e5, e1]
  intro c
  rcases h c with ⟨g1, g2, k, g3, g4⟩ | g
  · exact Or.inl ⟨g1, g2, k, g3, by rw [e2]; exact g4⟩
  · exact Or.inr g
theorem OP1_eq {k : Nat} (e1 : ∀ j, y.1 81 j = x.1 81 j) (em : y.1 80 9 = x.1 80 9) (f : ∀ c j, 111 ≤ c → c ≤ 113 → y.1 c j = x.1 c j) (e9 : y.1 100 9 = x.1 100 9) (h : OP1 x k) : OP1 y k := by
  unfold OP1 sop ssm at h ⊢
  rw [f 111 k (by omega) (by omega), f 112 k (by omega) (by omega), f 113 k (by omega) (by omega), em, e9]
  refine ⟨h.1, fun c => ?_, h.2.2⟩
  obtain ⟨g1, s, g2, g3, g4⟩ := h.2.1 c
  exact ⟨g1, s, g2, g3, by rw [e1]; exact g4⟩
/-- reading on leaves all this -/
theorem RI0_La {M : Int} (h : RI0 x M) (la : La x y) (f : fm sSum x y) : RI0 y M := by
  obtain ⟨h1, h2, h3, ⟨h4, h6⟩, h7⟩ := h
  have g : ∀ c k, (c < 42 ∨ (42 < c ∧ c < 60) ∨ (63 < c ∧ c < 100) ∨ (100 < c ∧ c < 115)) → y.1 c k = x.1 c k := fun c k hc => f c k (by unfold sSum; omega)
  have g6 : ∀ k, ¬ k = 3 → y.1 60 k = x.1 60 k := fun k hk => f 60 k (by unfold sSum; omega)
  have g1 : ∀ k, ¬ k = 4 → ¬ k = 17 → y.1 100 k = x.1 100 k := fun k hk hl => f 100 k (by unfold sSum; omega)
  have ln := la.2.1
  have em : y.1 80 9 = x.1 80 9 := g _ _ (by omega)
  have es : ssm y = ssm x := by unfold ssm; rw [em]
  refine ⟨fun c => ?_, NM_fm h2 (fun c k q1 q2 q3 q4 => g c k (by omega)) (g _ _ (by omega)) (g6 _ (by omega)), ?_, ⟨by omega, fun i hi => SA_La la (g _ _ (by omega)) (g _ _ (by omega)) (g _ _ (by omega)) (g _ _ (by omega)) (Int.le_refl _) (h6 i (by omega))⟩, ?_⟩
  · rw [g1 5 (by omega) (by omega)] at c
    obtain ⟨k1, o1, o2, o3, o4⟩ := h1 c
    refine ⟨KN_fm k1 (g1 _ (by omega) (by omega)) (g _ _ (by omega)) (fun k => g _ _ (by omega)), ?_⟩
    unfold OPs om
    rw [g1 13 (by omega) (by omega), g1 9 (by omega) (by omega), g1 7 (by omega) (by omega)]
    refine ⟨o1, fun k hk => OP1_eq (fun j => g _ _ (by omega)) em (fun c j q1 q2 => g _ _ (by omega)) (g1 9 (by omega) (by omega)) (o2 k hk), fun j k hj hk => ?_, o4⟩
    rw [g 113 j (by omega), g 113 k (by omega)]; exact o3 j k hj hk
  · unfold CD at h3 ⊢
    rw [g6 6 (by omega), g6 9 (by omega), g6 10 (by omega), g6 14 (by omega), g6 16 (by omega), g6 13 (by omega), g1 5 (by omega) (by omega), g1 9 (by omega) (by omega), g 40 8 (by omega), g 40 10 (by omega)]
    exact h3
  · unfold TS at h7 ⊢
    rw [g6 10 (by omega), es, g1 5 (by omega) (by omega), g 81 _ (by omega)]
    refine ⟨fun t ht => ?_, h7.2⟩
    rw [g 72 t (by omega)]; exact h7.1 t ht
theorem SCs_La {E : Nat → Prop} (h : SCs x E) (f : fm sSum x y) : SCs y E := by
  intro i hi he
  have em : y.1 80 9 = x.1 80 9 := f _ _ (by unfold sSum; omega)
  refine SC_eq (fun j => f _ _ (by unfold sSum; omega)) (f _ _ (by unfold sSum; omega)) em (f _ _ (by unfold sSum; omega)) (f _ _ (by unfold sSum; omega)) (fun j => f _ _ (by unfold sSum; omega)) (h i ?_ he)
  unfold ssm at hi ⊢
  rw [← em]; exact hi
/-- one step more: all but what is put behind -/
def AD (x y : gd) (o l k : Int32) : Prop := fm (fun c k => (81 ≤ c ∧ c ≤ 89 ∧ k = (x.1 80 9).toNatClampNeg) ∨ (c = 80 ∧ k = 9)) x y ∧ ssm y = ssm x + 1 ∧ y.1 81 (x.1 80 9).toNatClampNeg = o ∧ y.1 83 (x.1 80 9).toNatClampNeg = k ∧ y.1 84 (x.1 80 9).toNatClampNeg = -1
end KST
end
section
/-! the class: a step is added, with all its fields -/
section KADF
variable {G : kG} {q : kP} {d : Nat} {x x0 y z : gd} {F : Int32 → gd → Prop}
theorem kf_add (hq : kV q) (o l k : Int32) (h0 : 0 ≤ ssm x) (h1 : ssm x < 400) (h : ∀ y, AD x y o l k → vp_in (x.1 80 9) 400 → (y.1 85 (x.1 80 9).toNatClampNeg = -1 ∧ y.1 87 (x.1 80 9).toNatClampNeg = -1 ∧ y.1 88 (x.1 80 9).toNatClampNeg = -1 ∧ y.1 89 (x.1 80 9).toNatClampNeg = -1) → F (x.1 80 9) y) : KT G q d zk_X8_add 0 [(0, vr 80), (1, vi o), (2, vi l), (3, vi k)] [] x (ri F) := by
  have k4 : (Int32.ofNat 400).toInt = 400 := rfl
  have vin : vp_in (x.1 80 9) 400 := by rw [vp_in_iff]; unfold ssm at *; omega
  refine kg_X8_add_0 hq _ _ _ ⟨fun c => ?_, fun _ => kg_X8_add_26 hq _ _ _ _ ⟨vin, fun x2 e2 => ⟨vin, fun x4 e4 => ⟨vin, fun x6 e6 => ⟨vin, fun x8 e8 => ⟨vin, fun x10 e10 => ⟨vin, fun x12 e12 => ⟨vin, fun x14 e14 => ⟨vin, fun x16 e16 => ⟨vin, fun x18 e18 y ey => ri_i (h y ⟨?_, ?_, ?_, ?_, ?_⟩ vin ⟨?_, ?_, ?_, ?_⟩)⟩⟩⟩⟩⟩⟩⟩⟩⟩⟩
  · exfalso; rw [t_le, k4] at c; unfold ssm at *; omega
  · rw [ey, e18, e16, e14, e12, e10, e8, e6, e4, e2]
    exact fm_si (fm_si (fm_si (fm_si (fm_si (fm_si (fm_si (fm_si (fm_si (fm_si (fm_rf _ _) (Or.inl ⟨by omega, by omega, rfl⟩)) (Or.inl ⟨by omega, by omega, rfl⟩)) (Or.inl ⟨by omega, by omega, rfl⟩)) (Or.inl ⟨by omega, by omega, rfl⟩)) (Or.inl ⟨by omega, by omega, rfl⟩)) (Or.inl ⟨by omega, by omega, rfl⟩)) (Or.inl ⟨by omega, by omega, rfl⟩)) (Or.inl ⟨by omega, by omega, rfl⟩)) (Or.inl ⟨by omega, by omega, rfl⟩)) (Or.inr ⟨rfl, rfl⟩)
  · have : y.1 80 9 = x.1 80 9 + 1 := by rw [ey]; (simp only [si_get, sfl_get, Nat.reduceEqDiff, eq_self, and_false, false_and, and_true, true_and, if_true, if_false, reduceIte, reduceCtorEq])
    unfold ssm at *
    rw [this, t_add (by show _ ≤ _ + (1 : Int); omega) (by show _ + (1 : Int) ≤ _; omega)]; rfl
  · rw [ey, e18, e16, e14, e12, e10, e8, e6, e4, e2]; (simp only [si_get, sfl_get, Nat.reduceEqDiff, eq_self, and_false, false_and, and_true, true_and, if_true, if_false, reduceIte, reduceCtorEq])
  · rw [ey, e18, e16, e14, e12, e10, e8, e6, e4, e2]; (simp only [si_get, sfl_get, Nat.reduceEqDiff, eq_self, and_false, false_and, and_true, true_and, if_true, if_false, reduceIte, reduceCtorEq])
  · rw [ey, e18, e16, e14, e12, e10, e8, e6, e4, e2]; (simp only [si_get, sfl_get, Nat.reduceEqDiff, eq_self, and_false, false_and, and_true, true_and, if_true, if_false, reduceIte, reduceCtorEq])
  · rw [ey, e18, e16, e14, e12, e10, e8, e6, e4, e2]; (simp only [si_get, sfl_get, Nat.reduceEqDiff, eq_self, and_false, false_and, and_true, true_and, if_true, if_false, reduceIte, reduceCtorEq])
  · rw [ey, e18, e16, e14, e12, e10, e8, e6, e4, e2]; (simp only [si_get, sfl_get, Nat.reduceEqDiff, eq_self, and_false, false_and, and_true, true_and, if_true, if_false, reduceIte, reduceCtorEq])
  · rw [ey, e18, e16, e14, e12, e10, e8, e6, e4, e2]; (simp only [si_get, sfl_get, Nat.reduceEqDiff, eq_self, and_false, false_and, and_true, true_and, if_true, if_false, reduceIte, reduceCtorEq])
  · rw [ey, e18, e16, e14, e12, e10, e8, e6, e4, e2]; (simp only [si_get, sfl_get, Nat.reduceEqDiff, eq_self, and_false, false_and, and_true, true_and, if_true, if_false, reduceIte, reduceCtorEq])
end KADF
end
section
/-! the class: statements -/
/-- the innermost block is no else-if -/
def TIk (x : gd) : Prop := ∀ k : Nat, (k : Int) + 1 = om x → ¬ x.1 111 k = 5
/-- on an else-if stand if, else or else-if alone -/
def R5 (x : gd) : Prop := ∀ k : Nat, (k : Int) + 1 < om x → x.1 111 k = 5 → x.1 111 (k + 1) = 3 ∨ x.1 111 (k + 1) = 4 ∨ x.1 111 (k + 1) = 5
def TRk (x : gd) (E : Nat → Prop) : Prop := (¬ E 1000000 → TIk x) ∧ R5 x
/-- reading within a thread -/
def BB (x0 x : gd) (M : Int) (E : Nat → Prop) : Prop := SU x ∧ FR x ∧ RI0 x M ∧ SCs x E ∧ ¬ x.1 100 5 = 0 ∧ fm sR x0 x ∧ TRk x E
def GS (x y : gd) : Prop := La x y ∧ fm sSum x y
section KSM
variable {G : kG} {q : kP} {d : Nat} {x x0 y z : gd} {F : Int32 → gd → Prop} {Fv : gd → Prop} {X : String → gd → Prop} {P : Option gv → gd → Prop} {M : Int} {E : Nat → Prop}
theorem GS_rf : GS x x := ⟨La_rf, fm_rf _ _⟩
theorem GS_tr (a : GS x y) (b : GS y z) : GS x z := ⟨La_tr a.1 b.1, fm_tr a.2 b.2⟩
theorem GS_at (a : GS x y) (c k : Nat) (h : ¬ sSum c k) : y.1 c k = x.1 c k := a.2 c k h
theorem GS_sm (a : GS x y) : ssm y = ssm x := by unfold ssm; rw [a.2 80 9 (by unfold sSum; omega)]
theorem GS_om (a : GS x y) : om y = om x := by unfold om; rw [a.2 100 13 (by unfold sSum; omega)]
theorem TI_eq (h : TIk x) (e : y.1 100 13 = x.1 100 13) (f : ∀ k, y.1 111 k = x.1 111 k) : TIk y := fun k hk => by rw [f k]; exact h k (by unfold om at *; rw [e] at hk; exact hk)
theorem TR_eq {E E' : Nat → Prop} (h : TRk x E) (hE : E 1000000 → E' 1000000) (e : y.1 100 13 = x.1 100 13) (f : ∀ k, y.1 111 k = x.1 111 k) : TRk y E' := ⟨fun he => TI_eq (h.1 (fun c => he (hE c))) e f, fun k hk c => by
  rw [f] at c ⊢
  exact h.2 k (by unfold om at *; rw [e] at hk; exact hk) c⟩
theorem BB_on (hB : BB x0 x M E) (hS : SU y) (hF : FR y) (g : GS x y) : BB x0 y M E := ⟨hS, hF, RI0_La hB.2.2.1 g.1 g.2, SCs_La hB.2.2.2.1 g.2, by rw [g.2 100 5 (by unfold sSum; omega)]; exact hB.2.2.2.2.1, fm_tr hB.2.2.2.2.2.1 (fm_w g.2 (fun c k q => sSum_R q)), TR_eq hB.2.2.2.2.2.2 id (g.2 _ _ (by unfold sSum; omega)) (fun k => g.2 _ _ (by unfold sSum; omega))⟩
theorem kb_refuse (hq : kV q) (hx : RX x0 X) (hB : BB x0 x M E) (n : Int32) (hn : ¬ n = 0 := by decide) : KE G q (d + 6) zk_X7_refuse 0 [(0, vr 100), (1, vi n)] [] x P X := kp_refuse hq n (RB_at hB.1.1) hB.2.2.2.2.2.1 hx hn
theorem BB_om (hB : BB x0 x M E) : (0 ≤ om x ∧ om x ≤ 18) ∧ (om x ≤ 17 → (x.1 100 13 + 1).toInt = om x + 1) := by
  obtain ⟨-, o1, -⟩ := hB.2.2.1.1 hB.2.2.2.2.1
  refine ⟨o1, fun h => t_add (by show _ ≤ _ + (1 : Int); unfold om at *; omega) (by show _ + (1 : Int) ≤ _; unfold om at *; omega)⟩
theorem BB_N (hB : BB x0 x M E) : ((x.1 100 4).toNatClampNeg : Int) = nx x := by
  have := hB.1.1.2.1
  rw [t_cl]; unfold nx at *; omega
/-- a step more within a thread -/
theorem BB_add (hB : BB x0 x M E) {n : Nat} (hn : (n : Int) = ssm x) (f : fm (fun c k => (81 ≤ c ∧ c ≤ 89 ∧ k = n) ∨ (c = 80 ∧ k = 9)) x z) (es : ssm z = ssm x + 1) (hA : SA z M n) : BB x0 z M (fun i => E i ∨ i = n) := by
  obtain ⟨hS, hF, ⟨h1, h2, h3, ⟨h4, h6⟩, h7⟩, hC, h5, h0, hI⟩ := hB
  have g : ∀ c k, c < 80 ∨ 89 < c → z.1 c k = x.1 c k := fun c k hc => f c k (by omega)
  have gs : ∀ c k, k ≠ n → ¬ (c = 80 ∧ k = 9) → z.1 c k = x.1 c k := fun c k hk hc => f c k (by omega)
  have la : La x z := ⟨fun c k q1 q2 => g c k (by omega), by unfold nx; rw [g 100 4 (by omega)]; exact Int.le_refl _, fun j _ => g 42 j (by omega)⟩
  have nn : nx z = nx x := by unfold nx; rw [g 100 4 (by omega)]
  have z5 : z.1 100 5 = x.1 100 5 := g _ _ (by omega)
  have zo : z.1 100 13 = x.1 100 13 := g _ _ (by omega)
  refine ⟨?_, ?_, ⟨fun c => ?_, NM_fm h2 (fun c k q1 q2 q3 q4 => g c k (by omega)) (g _ _ (by omega)) (g _ _ (by omega)), ?_, ⟨by omega, fun i hi => ?_⟩, ?_⟩, fun i hi he => ?_, by rw [z5]; exact h5, fm_tr h0 (fm_w f (fun c k q => by unfold sR; omega)), TR_eq hI Or.inl zo (fun k => g _ _ (by omega))⟩
  · obtain ⟨⟨hT, b1, b2, b3⟩, ⟨u1, u2⟩, hp, hP⟩ := hS
    unfold SU SV US RB mt
    rw [g 20 7 (by omega), g 60 3 (by omega), nn]
    refine ⟨⟨kT_fm hT la.1, b1, b2, b3⟩, ⟨fun j h1 h2 => ?_, fun j h1 h2 => ?_⟩, hp, fun i hi => La_PQ la (g _ _ (by omega)) (g _ _ (by omega)) (hP i hi)⟩
    · rw [g 42 j (by omega)]; exact u1 j h1 h2
    · rw [g 42 j (by omega)] at h2; rw [g 42 _ (by omega)]; exact u2 j h1 h2
  · unfold FR at hF ⊢
    rw [g 100 4 (by omega), g 42 _ (by omega)]; exact hF
  · obtain ⟨k1, o1, o2, o3, o4⟩ := h1 h5
    refine ⟨KN_fm k1 (g _ _ (by omega)) (g _ _ (by omega)) (fun k => g _ _ (by omega)), ?_⟩
    unfold OPs om
    rw [zo, g 100 9 (by omega), g 100 7 (by omega)]
    refine ⟨o1, fun k hk => ?_, fun j k hj hk => ?_, o4⟩
    · have := o2 k hk
      unfold OP1 at this ⊢
      rw [g 111 k (by omega), g 112 k (by omega), g 113 k (by omega), g 100 9 (by omega)]
      refine ⟨this.1, fun c => ?_, this.2.2⟩
      obtain ⟨p1, s, p2, p3, p4⟩ := this.2.1 c
      refine ⟨p1, s, p2, by omega, ?_⟩
      unfold sop at p4 ⊢
      rw [gs 81 s (by omega) (by omega)]; exact p4
    · rw [g 113 j (by omega), g 113 k (by omega)]; exact o3 j k hj hk
  · unfold CD at h3 ⊢
    rw [g 60 6 (by omega), g 60 9 (by omega), g 60 10 (by omega), g 60 14 (by omega), g 60 16 (by omega), g 60 13 (by omega), z5, g 100 9 (by omega), g 40 8 (by omega), g 40 10 (by omega)]
    exact h3
  · by_cases hi2 : i = n
    · rw [hi2]; exact hA
    · exact SA_La la (gs _ _ hi2 (by omega)) (gs _ _ hi2 (by omega)) (gs _ _ hi2 (by omega)) (gs _ _ hi2 (by omega)) (Int.le_refl _) (h6 i (by omega))
  · unfold TS at h7 ⊢
    rw [g 60 10 (by omega), z5]
    refine ⟨fun t ht => ?_, fun c => absurd c h5⟩
    rw [g 72 t (by omega)]
    obtain ⟨p1, p2, p3⟩ := h7.1 t ht
    exact ⟨p1, by omega, fun c => absurd c h5⟩
  · have hin : i ≠ n := fun e => he (Or.inr e)
    have := hC i (by omega) (fun e => he (Or.inl e))
    unfold SC at this ⊢
    have e1 : sop z i = sop x i := by unfold sop; rw [gs 81 i hin (by omega)]
    have e4 : stg z i = stg x i := by unfold stg; rw [gs 84 i hin (by omega)]
    rw [e1, e4, z5]
    intro c
    rcases this c with ⟨p1, p2, k, p3, p4⟩ | ⟨p1, p2, p3, p4⟩
    · exact Or.inl ⟨p1, p2, k, by unfold om at p3 ⊢; rw [zo]; exact p3, by rw [g 112 k (by omega)]; exact p4⟩
    · refine Or.inr ⟨p1, by omega, fun c5 => absurd c5 h5, fun c20 => ?_⟩
      rcases p4 c20 with g1 | g1
      · exact Or.inl g1
      · by_cases hlt : (i : Int) < stg x i
        · exact Or.inl hlt
        · refine Or.inr ?_
          unfold sop at g1 ⊢
          rw [gs 81 _ (by omega) (by omega)]; exact g1
theorem SC_no {i : Nat} (h1 : ¬ sop z i = 17) (h2 : ¬ sop z i = 20) : SC z i := fun c => by
  rcases c with c | c
  · exact absurd c h1
  · exact absurd c h2
theorem BB_E {E' : Nat → Prop} (hB : BB x0 x M E) (ht : E 1000000 → E' 1000000) (h : ∀ i : Nat, (i : Int) < ssm x → E i → ¬ E' i → SC x i) : BB x0 x M E' := ⟨hB.1, hB.2.1, hB.2.2.1, fun i hi he => by
  by_cases h9 : E i
  · exact h i hi h9 he
  · exact hB.2.2.2.1 i hi h9, hB.2.2.2.2.1, hB.2.2.2.2.2.1, TR_eq hB.2.2.2.2.2.2 ht rfl (fun _ => rfl)⟩
theorem RI0_M {M' : Int} (h : M ≤ M') (hR : RI0 x M) : RI0 x M' := ⟨hR.1, hR.2.1, hR.2.2.1, ⟨hR.2.2.2.1.1, fun i hi => SA_La La_rf rfl rfl rfl rfl h (hR.2.2.2.1.2 i hi)⟩, hR.2.2.2.2⟩
theorem BB_M {M' : Int} (h : M ≤ M') (hB : BB x0 x M E) : BB x0 x M' E := ⟨hB.1, hB.2.1, RI0_M h hB.2.2.1, hB.2.2.2⟩
theorem BB_400 (hB : BB x0 x M E) (ha : 2 * ssm x ≤ nx x + 2) : 0 ≤ ssm x ∧ ssm x < 400 ∧ (((x.1 80 9).toNatClampNeg : Nat) : Int) = ssm x ∧ 0 ≤ (x.1 100 9).toInt ∧ (x.1 100 9).toInt ≤ 8 := by
  have h4 := hB.2.2.1.2.2.2.1.1
  have b2 := hB.1.1.2.2.1
  obtain ⟨k1, -⟩ := hB.2.2.1.1 hB.2.2.2.2.1
  exact ⟨h4, by omega, by rw [t_cl]; unfold ssm at *; omega, k1.1⟩
end KSM
end
section
/-! a sum's events, by the grammar -/
def sG (o : Bool) (L L' : gU) : Prop := ∃ N, L' = L ++ N ∧ sEv o N
section SGL
variable {K : Nat → Int32} {L L' L2 : gU} {o : Bool}
theorem sG_rf : sG o L L := ⟨[], by rw [List.append_nil], sEv_nil⟩
theorem sG_tr (h : sG o L L') (g : sG o L' L2) : sG o L L2 := by
  obtain ⟨N, e, h⟩ := h
  obtain ⟨N2, e2, g⟩ := g
  exact ⟨N ++ N2, by rw [e2, e, List.append_assoc], sEv_app h g⟩
theorem sG_k {k a b : Nat} (h : k = 50 ∨ k = 51 ∨ k = 52 ∨ k = 53 ∨ (o = false ∧ k = 3) ∨ (o = true ∧ (k = 6 ∨ k = 7 ∨ k = 12))) : sG o L (L ++ [(k, a, b)]) := ⟨_, rfl, sEv_one h⟩
theorem pt_sG {w : Int32} {q r : Nat × gU} (h : pt K w q = some r) : sG o q.2 r.2 := by
  obtain ⟨-, -, e⟩ := pt_is h
  rw [e]; exact sG_rf
abbrev sgo (o : Bool) (rE : Nat → Nat → gU → gOp) : Prop := ∀ s i L q, rE s i L = some q → sG o L q.2
theorem pW_sG {rE : Nat → Nat → gU → gOp} {th : Nat} (hr : sgo o rE) : ∀ (f j : Nat) (L : gU) (q : Nat × gU), pW rE K th f j L = some q → sG o L q.2 := by
  intro f
  induction f with
  | zero => intro j L q h; exact absurd h (by simp [pW])
  | succ f ih =>
    intro j L q h
    rw [pW] at h
    split at h
    · split at h
      · obtain ⟨z, hz, h2⟩ := Option.bind_eq_some_iff.mp h
        exact sG_tr (hr _ _ _ _ hz) (sG_tr (sG_k (Or.inr (Or.inl rfl))) (ih _ _ _ h2))
      · exact absurd h (by simp)
    · cases Option.some.inj h; exact sG_rf
theorem pO_sG {rE : Nat → Nat → gU → gOp} (hr : sgo o rE) {i : Nat} {q : Nat × gU} (h : pO rE K o i L = some q) : sG o L q.2 := by
  unfold pO at h
  split at h
  · exact absurd h (by simp)
  · split at h
    · cases Option.some.inj h; exact sG_k (Or.inr (Or.inr (Or.inl rfl)))
    · split at h
      · cases Option.some.inj h; exact sG_k (Or.inr (Or.inr (Or.inr (Or.inl rfl))))
      · split at h
        · obtain ⟨z, hz, h2⟩ := Option.bind_eq_some_iff.mp h
          exact sG_tr (hr _ _ _ _ hz) (pt_sG h2)
        · split at h
          · split at h
            · next ho =>
              split at h
              · split at h
                · cases Option.some.inj h
                  exact ⟨_, rfl, sEv_app (N := [_]) (M := [_]) (sEv_one (Or.inr (Or.inr (Or.inr (Or.inr (Or.inr ⟨ho, Or.inr (Or.inl rfl)⟩)))))) (sEv_one (Or.inr (Or.inr (Or.inr (Or.inr (Or.inr ⟨ho, Or.inr (Or.inr rfl)⟩))))))⟩
                · exact absurd h (by simp)
              · cases Option.some.inj h; exact sG_k (Or.inr (Or.inr (Or.inr (Or.inr (Or.inr ⟨ho, Or.inl rfl⟩)))))
            · next ho =>
              cases Option.some.inj h
              exact sG_k (Or.inr (Or.inr (Or.inr (Or.inr (Or.inl ⟨by cases o with | false => rfl | true => exact absurd rfl ho, rfl⟩)))))
          · exact absurd h (by simp)
theorem pE_sG : ∀ f : Nat, sgo o (pE K o f) := by
  intro f
  induction f with
  | zero => intro s i L q h; exact absurd h (by simp [pE])
  | succ f ih =>
    intro s i L q h
    rw [pE] at h
    split at h
    · obtain ⟨z, hz, h2⟩ := Option.bind_eq_some_iff.mp h
      refine sG_tr ?_ (pW_sG ih _ _ _ _ h2)
      split at hz
      · split at hz
        · obtain ⟨y, hy, h3⟩ := Option.bind_eq_some_iff.mp hz
          cases Option.some.inj h3
          exact sG_tr (ih _ _ _ _ hy) (sG_k (Or.inl rfl))
        · exact absurd hz (by simp)
      · exact pO_sG ih hz
    · exact absurd h (by simp)
/-- a whole sum: its events, then its end -/
theorem pX_sE {f i j : Nat} {N : gU} (h : pX K o f i L = some (j, L ++ N)) : ∃ N', N = N' ++ [(54, 0, 0)] ∧ sEv o N' := by
  obtain ⟨z, hz, h2⟩ := Option.bind_eq_some_iff.mp h
  obtain ⟨N', e, hs⟩ := pE_sG f _ _ _ _ hz
  unfold pan at h2
  have h2 := Option.some.inj h2
  have e2 : z.2 ++ [(54, 0, 0)] = L ++ N := congrArg Prod.snd h2
  rw [e, List.append_assoc] at e2
  exact ⟨N', (List.append_cancel_left e2).symm, hs⟩
end SGL
end
section
/-! the class's code as the events say it, while it is read: names stand as their tokens -/
/-- a local's name alone is a sum -/
def alP (sN : Nat → Nat → Bool) (E : gV) (i : Nat) : List (Int32 × Int32) := match kfi sN E.1 i with
  | some p => [(2, Int32.ofNat p), (0, 0)]
  | none => []
def tPv (sN : Nat → Nat → Bool) (V K : Nat → Int32) (E : gV) (v : Nat × Nat × Nat) : List (Int32 × Int32) := if v.1 = 24 then alP sN E v.2.1 else if v.1 = 27 then alP sN E v.2.2 else (cPt sN V K E v).toList
/-- the parts of events in a row -/
def tPs (sN : Nat → Nat → Bool) (V K : Nat → Int32) : gU → gV → List (Int32 × Int32)
  | [], _ => []
  | v :: M, E => tPv sN V K E v ++ tPs sN V K M (exV E v)
/-- a sum's parts and its end stand in P from r on -/
def SUc (P : List (Int32 × Int32)) (r : Int32) (Q : List (Int32 × Int32)) : Prop := ∃ n : Nat, r.toInt = (min n 800 : Nat) ∧ ∀ i q, (Q ++ [(0, 0)])[i]? = some q → P[n + i]? = some q
def cSu (sN : Nat → Nat → Bool) (V K : Nat → Int32) (P : List (Int32 × Int32)) (ks : gK) (v : Int32) : Option gU → Prop
  | none => v = -1
  | some N => SUc P v (sPs sN V K (ks, [0], 0) N)
def tgI (v : Int32) (o : Option Nat) : Prop := match o with
  | none => v = -1
  | some n => v.toInt = (n : Nat)
def obI (V : Nat → Int32) (v : Int32) (op : Nat) (o : Option Nat) : Prop := match o with
  | none => v = -1
  | some t => if op = 13 then v = V t else v.toInt = (t : Nat)
/-- one step: op 81, known 83, target 84, object 85, index 87, first 88, second 89 -/
def kS (sN : Nat → Nat → Bool) (V K : Nat → Int32) (x : gd) (P : List (Int32 × Int32)) (j : Nat) (st : gSt) : Prop :=
  x.1 81 j = Int32.ofNat st.1 ∧ (x.1 83 j).toInt = st.2.2.1.1.length ∧
  ((st.1 = 0 ∨ (2 ≤ st.1 ∧ st.1 ≤ 4) ∨ st.1 = 16 ∨ st.1 = 17 ∨ st.1 = 20) → tgI (x.1 84 j) st.2.2.2.1) ∧ (st.1 = 8 → (x.1 84 j = 1 ↔ st.2.2.2.2.2.1 = true)) ∧
  (¬ st.1 = 16 → obI V (x.1 85 j) st.1 st.2.2.2.2.1) ∧
  cSu sN V K P st.2.2.1.1 (x.1 87 j) st.2.2.2.2.2.2.1 ∧ cSu sN V K P st.2.2.1.1 (x.1 88 j) st.2.2.2.2.2.2.2.1 ∧ cSu sN V K P st.2.2.1.1 (x.1 89 j) st.2.2.2.2.2.2.2.2
def SRk (sN : Nat → Nat → Bool) (V K : Nat → Int32) (x : gd) (P : List (Int32 × Int32)) (S : List gSt) : Prop := (x.1 80 9).toInt = S.length ∧ ∀ j st, S[j]? = some st → kS sN V K x P j st
/-- the steps of the open statements (a thread's block has none) -/
def SKk (x : gd) : Nat → List Nat → Prop
  | 0, k => k = []
  | n + 1, k => (x.1 111 n = 0 ∧ SKk x n k) ∨ (¬ x.1 111 n = 0 ∧ ∃ j k', k = j :: k' ∧ (x.1 112 n).toInt = (j : Nat) ∧ SKk x n k')
def CCp (sN : Nat → Nat → Bool) (V K : Nat → Int32) (x : gd) (c : gCd) (d : Nat × Int32 × List (Int32 × Bool)) (P : List (Int32 × Int32)) : Prop :=
  PR x P ∧ SRk sN V K x P c.2.1 ∧ ((¬ x.1 100 5 = 0 → SKk x (x.1 100 13).toNatClampNeg c.2.2.1) ∧ (x.1 100 5 = 0 → c.2.2.1 = [])) ∧
  ((x.1 60 10).toInt = c.2.2.2.2.1.length ∧ ∀ (t : Nat) (q : Nat × Nat), c.2.2.2.2.1[t]? = some q → (x.1 72 t).toInt = q.1 ∧ x.1 73 t = Int32.ofNat q.2) ∧
  ((x.1 60 6).toInt = d.2.2.length ∧ ∀ j q, d.2.2[j]? = some q → x.1 68 j = q.1 ∧ x.1 69 j = if q.2 = true then 1 else 0) ∧
  ((x.1 60 14).toInt = (clF 35 c.2.2.2.2.2).length ∧ ∀ k N, (clF 35 c.2.2.2.2.2)[k]? = some N → SUc P (x.1 76 k) (sPs sN V K E0v N)) ∧
  ((x.1 60 16).toInt = (clF 36 c.2.2.2.2.2).length ∧ ∀ k N, (clF 36 c.2.2.2.2.2)[k]? = some N → SUc P (x.1 78 k) (sPs sN V K E0v N))
/-- what reading a piece does to the code: from x to y by the events M (no statement is under way before it, none behind it) -/
def CG (sN : Nat → Nat → Bool) (V K : Nat → Int32) (E : gV) (x y : gd) (M : gU) : Prop := ∀ c d P, eqE c.1 E → c.2.2.2.1 = rg0 → CCp sN V K x c d P → CCp sN V K y (cds sN K M c) (ces K V M d) (P ++ tPs sN V K M E) ∧ eqE (cds sN K M c).1 (exs M E) ∧ (cds sN K M c).2.2.2.1 = rg0
/-- the cells on which it rests -/
def ccS (c k : Nat) : Prop := (c = 60 ∧ k ≠ 13) ∨ (61 ≤ c ∧ c < 90) ∨ (c = 100 ∧ (k = 5 ∨ k = 13)) ∨ c = 111 ∨ c = 112
section KCO
variable {sN : Nat → Nat → Bool} {V K : Nat → Int32} {E : gV} {x y z : gd} {M N : gU} {c : gCd} {d : Nat × Int32 × List (Int32 × Bool)} {P Q : List (Int32 × Int32)} {S : List gSt}
theorem tPs_app : ∀ {M : gU} {E : gV}, tPs sN V K (M ++ N) E = tPs sN V K M E ++ tPs sN V K N (exs M E) := by
  intro M
  induction M with
  | nil => intro E; rfl
  | cons v M ih =>
    intro E
    show tPv sN V K E v ++ tPs sN V K (M ++ N) (exV E v) = (tPv sN V K E v ++ tPs sN V K M (exV E v)) ++ tPs sN V K N (exs M (exV E v))
    rw [ih, List.append_assoc]
theorem tPs_still : ∀ {M : gU}, still M → (∀ v ∈ M, ¬ v.1 = 24 ∧ ¬ v.1 = 27) → tPs sN V K M E = sPs sN V K E M := by
  intro M
  induction M with
  | nil => intro _ _; rfl
  | cons v M ih =>
    intro h g
    show tPv sN V K E v ++ tPs sN V K M (exV E v) = (v :: M).filterMap (cPt sN V K E)
    have e : tPv sN V K E v = (cPt sN V K E v).toList := by
      unfold tPv
      rw [if_neg (g v List.mem_cons_self).1, if_neg (g v List.mem_cons_self).2]
    rw [e, exV_still (h v List.mem_cons_self), ih (fun w hw => h w (List.mem_cons_of_mem _ hw)) (fun w hw => g w (List.mem_cons_of_mem _ hw)), List.filterMap_cons]
    cases cPt sN V K E v <;> rfl
theorem SUc_mono {r : Int32} (h : SUc P r Q) (P' : List (Int32 × Int32)) : SUc (P ++ P') r Q := by
  obtain ⟨n, h1, h2⟩ := h
  refine ⟨n, h1, fun i q hq => ?_⟩
  have a := h2 i q hq
  rw [List.getElem?_append_left (gt_lt a)]
  exact a
theorem cSu_mono {ks : gK} {v : Int32} {o : Option gU} (h : cSu sN V K P ks v o) (P' : List (Int32 × Int32)) : cSu sN V K (P ++ P') ks v o := by
  cases o with
  | none => exact h
  | some N => exact SUc_mono h P'
theorem kS_mono {j : Nat} {st : gSt} (h : kS sN V K x P j st) (P' : List (Int32 × Int32)) : kS sN V K x (P ++ P') j st := by
  obtain ⟨h1, h2, h3, h4, h5, h6, h7, h8⟩ := h
  exact ⟨h1, h2, h3, h4, h5, cSu_mono h6 P', cSu_mono h7 P', cSu_mono h8 P'⟩
theorem kS_eq {j : Nat} {st : gSt} (e : ∀ k, 81 ≤ k → k < 90 → y.1 k j = x.1 k j) (h : kS sN V K x P j st) : kS sN V K y P j st := by
  unfold kS
  rw [e 81 (by decide) (by decide), e 83 (by decide) (by decide), e 84 (by decide) (by decide), e 85 (by decide) (by decide), e 87 (by decide) (by decide), e 88 (by decide) (by decide), e 89 (by decide) (by decide)]
  exact h
theorem SKk_eq : ∀ {n : Nat} {k : List Nat}, (∀ i, i < n → y.1 111 i = x.1 111 i ∧ y.1 112 i = x.1 112 i) → SKk x n k → SKk y n k := by
  intro n
  induction n with
  | zero => intro k _ h; exact h
  | succ n ih =>
    intro k e h
    obtain ⟨e1, e2⟩ := e n (Nat.lt_succ_self _)
    have e' : ∀ i, i < n → y.1 111 i = x.1 111 i ∧ y.1 112 i = x.1 112 i := fun i hi => e i (Nat.lt_succ_of_lt hi)
    rcases h with ⟨h1, h2⟩ | ⟨h1, j, k', h2, h3, h4⟩
    · exact Or.inl ⟨by rw [e1]; exact h1, ih e' h2⟩
    · exact Or.inr ⟨by rw [e1]; exact h1, j, k', h2, by rw [e2]; exact h3, ih e' h4⟩
theorem CCp_eq (e : ∀ c k, ccS c k → y.1 c k = x.1 c k) (h : CCp sN V K x c d P) : CCp sN V K y c d P := by
  obtain ⟨⟨p1, p2⟩, ⟨s1, s2⟩, ⟨k1, k2⟩, ⟨b1, b2⟩, ⟨c1, c2⟩, ⟨a1, a2⟩, ⟨f1, f2⟩⟩ := h
  have g : ∀ c k, 61 ≤ c → c < 90 → y.1 c k = x.1 c k := fun c k q1 q2 => e c k (Or.inr (Or.inl ⟨q1, q2⟩))
  have g6 : ∀ k, k ≠ 13 → y.1 60 k = x.1 60 k := fun k q => e 60 k (Or.inl ⟨rfl, q⟩)
  have e5 : y.1 100 5 = x.1 100 5 := e _ _ (Or.inr (Or.inr (Or.inl ⟨rfl, Or.inl rfl⟩)))
  have e13 : y.1 100 13 = x.1 100 13 := e _ _ (Or.inr (Or.inr (Or.inl ⟨rfl, Or.inr rfl⟩)))
  refine ⟨⟨by rw [g6 3 (by decide)]; exact p1, fun i q hi hq => by rw [g 62 i (by decide) (by decide), g 63 i (by decide) (by decide)]; exact p2 i q hi hq⟩, ⟨by rw [g 80 9 (by decide) (by decide)]; exact s1, fun j st hj => kS_eq (fun k q1 q2 => g k j (by omega) q2) (s2 j st hj)⟩, ⟨fun q => ?_, fun q => k2 (by rw [← e5]; exact q)⟩, ⟨by rw [g6 10 (by decide)]; exact b1, fun t q hq => by rw [g 72 t (by decide) (by decide), g 73 t (by decide) (by decide)]; exact b2 t q hq⟩, ⟨by rw [g6 6 (by decide)]; exact c1, fun j q hq => by rw [g 68 j (by decide) (by decide), g 69 j (by decide) (by decide)]; exact c2 j q hq⟩, ⟨by rw [g6 14 (by decide)]; exact a1, fun k N hN => by rw [g 76 k (by decide) (by decide)]; exact a2 k N hN⟩, ⟨by rw [g6 16 (by decide)]; exact f1, fun k N hN => by rw [g 78 k (by decide) (by decide)]; exact f2 k N hN⟩⟩
  rw [e13]
  exact SKk_eq (fun i _ => ⟨e _ _ (Or.inr (Or.inr (Or.inr (Or.inl rfl)))), e _ _ (Or.inr (Or.inr (Or.inr (Or.inr rfl))))⟩) (k1 (by rw [← e5]; exact q))
theorem CG_app (h : CG sN V K E x y M) (g : CG sN V K (exs M E) y z N) : CG sN V K E x z (M ++ N) := fun c d P he hr hc => by
  obtain ⟨h1, h2, h3⟩ := h c d P he hr hc
  obtain ⟨g1, g2, g3⟩ := g _ _ _ h2 h3 h1
  rw [cds_app, ces_app, tPs_app, exs_app, ← List.append_assoc]
  exact ⟨g1, g2, g3⟩
theorem CG_st (h : CG sN V K E x y M) (e : ∀ c k, ccS c k → z.1 c k = y.1 c k) : CG sN V K E x z M := fun c d P he hr hc => ⟨CCp_eq e (h c d P he hr hc).1, (h c d P he hr hc).2⟩
theorem CG_pre (e : ∀ c k, ccS c k → y.1 c k = x.1 c k) (h : CG sN V K E y z M) : CG sN V K E x z M := fun c d P he hr hc => h c d P he hr (CCp_eq e hc)
/-- one step is added -/
def stK (x y : gd) (o kn tg ob ix e f : Int32) : Prop := (∀ c k, ccS c k → ¬ (81 ≤ c ∧ c ≤ 89 ∧ k = (x.1 80 9).toNatClampNeg) → ¬ (c = 80 ∧ k = 9) → y.1 c k = x.1 c k) ∧ (y.1 80 9).toInt = (x.1 80 9).toInt + 1 ∧ y.1 81 (x.1 80 9).toNatClampNeg = o ∧ y.1 83 (x.1 80 9).toNatClampNeg = kn ∧ y.1 84 (x.1 80 9).toNatClampNeg = tg ∧ y.1 85 (x.1 80 9).toNatClampNeg = ob ∧ y.1 87 (x.1 80 9).toNatClampNeg = ix ∧ y.1 88 (x.1 80 9).toNatClampNeg = e ∧ y.1 89 (x.1 80 9).toNatClampNeg = f
theorem CCp_add {o kn tg ob ix e f : Int32} {st : gSt} {Ec : gV} {k : List Nat} {r r' : gRg} {w : List (Nat × Nat) × List (Nat × gU)} (h : CCp sN V K x (Ec, S, k, r, w) d P) (a : stK x y o kn tg ob ix e f) (h1 : o = Int32.ofNat st.1) (h2 : kn.toInt = st.2.2.1.1.length) (h3 : (st.1 = 0 ∨ (2 ≤ st.1 ∧ st.1 ≤ 4) ∨ st.1 = 16 ∨ st.1 = 17 ∨ st.1 = 20) → tgI tg st.2.2.2.1) (h4 : st.1 = 8 → (tg = 1 ↔ st.2.2.2.2.2.1 = true)) (h5 : ¬ st.1 = 16 → obI V ob st.1 st.2.2.2.2.1) (h6 : cSu sN V K P st.2.2.1.1 ix st.2.2.2.2.2.2.1) (h7 : cSu sN V K P st.2.2.1.1 e st.2.2.2.2.2.2.2.1) (h8 : cSu sN V K P st.2.2.1.1 f st.2.2.2.2.2.2.2.2) : CCp sN V K y (Ec, S ++ [st], k, r', w) d P := by
  obtain ⟨⟨p1, p2⟩, ⟨s1, s2⟩, ⟨k1, k2⟩, ⟨b1, b2⟩, ⟨c1, c2⟩, ⟨a1, a2⟩, ⟨f1, f2⟩⟩ := h
  have s1 : (x.1 80 9).toInt = S.length := s1
  obtain ⟨fr, g9, v81, v83, v84, v85, v87, v88, v89⟩ := a
  have en : (x.1 80 9).toNatClampNeg = S.length := by rw [t_cl, s1]; omega
  rw [en] at fr v81 v83 v84 v85 v87 v88 v89
  have g : ∀ c k, 61 ≤ c → c < 80 → y.1 c k = x.1 c k := fun c k q1 q2 => fr c k (Or.inr (Or.inl ⟨q1, by omega⟩)) (by omega) (by omega)
  have g6 : ∀ k, k ≠ 13 → y.1 60 k = x.1 60 k := fun k q => fr 60 k (Or.inl ⟨rfl, q⟩) (by omega) (by omega)
  have e5 : y.1 100 5 = x.1 100 5 := fr _ _ (Or.inr (Or.inr (Or.inl ⟨rfl, Or.inl rfl⟩))) (by omega) (by omega)
  have e13 : y.1 100 13 = x.1 100 13 := fr _ _ (Or.inr (Or.inr (Or.inl ⟨rfl, Or.inr rfl⟩))) (by omega) (by omega)
  refine ⟨⟨by rw [g6 3 (by decide)]; exact p1, fun i q hi hq => by rw [g 62 i (by decide) (by decide), g 63 i (by decide) (by decide)]; exact p2 i q hi hq⟩, ⟨by rw [g9, s1]; show _ = (((S ++ [st]).length : Nat) : Int); rw [List.length_append]; rfl, sn_get (fun j r9 hr9 => ?_) ?_⟩, ⟨fun q => ?_, fun q => k2 (by rw [← e5]; exact q)⟩, ⟨by rw [g6 10 (by decide)]; exact b1, fun t q hq => by rw [g 72 t (by decide) (by decide), g 73 t (by decide) (by decide)]; exact b2 t q hq⟩, ⟨by rw [g6 6 (by decide)]; exact c1, fun j q hq => by rw [g 68 j (by decide) (by decide), g 69 j (by decide) (by decide)]; exact c2 j q hq⟩, ⟨by rw [g6 14 (by decide)]; exact a1, fun k N hN => by rw [g 76 k (by decide) (by decide)]; exact a2 k N hN⟩, ⟨by rw [g6 16 (by decide)]; exact f1, fun k N hN => by rw [g 78 k (by decide) (by decide)]; exact f2 k N hN⟩⟩
  · have hj := gt_lt hr9
    exact kS_eq (fun k q1 q2 => fr k j (Or.inr (Or.inl ⟨by omega, q2⟩)) (by omega) (by omega)) (s2 j r9 hr9)
  · unfold kS
    rw [v81, v83, v84, v85, v87, v88, v89]
    exact ⟨h1, h2, h3, h4, h5, h6, h7, h8⟩
  · rw [e13]
    exact SKk_eq (fun i _ => ⟨fr _ _ (Or.inr (Or.inr (Or.inr (Or.inl rfl)))) (by omega) (by omega), fr _ _ (Or.inr (Or.inr (Or.inr (Or.inr rfl)))) (by omega) (by omega)⟩) (k1 (by rw [← e5]; exact q))
/-- a sum's parts are written, no more -/
theorem CCp_sum {Ec : gV} {k : List Nat} {r r' : gRg} {w : List (Nat × Nat) × List (Nat × gU)} (h : CCp sN V K x (Ec, S, k, r, w) d P) (a : CPl x y Q) (e : ∀ c k, ccS c k → ¬ (c = 60 ∧ k = 3) → ¬ c = 62 → ¬ c = 63 → y.1 c k = x.1 c k) : CCp sN V K y (Ec, S, k, r', w) d (P ++ Q) := by
  obtain ⟨p, ⟨s1, s2⟩, ⟨k1, k2⟩, ⟨b1, b2⟩, ⟨c1, c2⟩, ⟨a1, a2⟩, ⟨f1, f2⟩⟩ := h
  have g : ∀ c k, 64 ≤ c → c < 90 → y.1 c k = x.1 c k := fun c k q1 q2 => e c k (Or.inr (Or.inl ⟨by omega, q2⟩)) (by omega) (by omega) (by omega)
  have g6 : ∀ k, k ≠ 13 → k ≠ 3 → y.1 60 k = x.1 60 k := fun k q q2 => e 60 k (Or.inl ⟨rfl, q⟩) (by omega) (by omega) (by omega)
  have e5 : y.1 100 5 = x.1 100 5 := e _ _ (Or.inr (Or.inr (Or.inl ⟨rfl, Or.inl rfl⟩))) (by omega) (by omega) (by omega)
  have e13 : y.1 100 13 = x.1 100 13 := e _ _ (Or.inr (Or.inr (Or.inl ⟨rfl, Or.inr rfl⟩))) (by omega) (by omega) (by omega)
  refine ⟨a P p, ⟨by rw [g 80 9 (by decide) (by decide)]; exact s1, fun j st hj => kS_mono (kS_eq (fun k q1 q2 => g k j (by omega) q2) (s2 j st hj)) Q⟩, ⟨fun q => ?_, fun q => k2 (by rw [← e5]; exact q)⟩, ⟨by rw [g6 10 (by decide) (by decide)]; exact b1, fun t q hq => by rw [g 72 t (by decide) (by decide), g 73 t (by decide) (by decide)]; exact b2 t q hq⟩, ⟨by rw [g6 6 (by decide) (by decide)]; exact c1, fun j q hq => by rw [g 68 j (by decide) (by decide), g 69 j (by decide) (by decide)]; exact c2 j q hq⟩, ⟨by rw [g6 14 (by decide) (by decide)]; exact a1, fun k N hN => by rw [g 76 k (by decide) (by decide)]; exact SUc_mono (a2 k N hN) Q⟩, ⟨by rw [g6 16 (by decide) (by decide)]; exact f1, fun k N hN => by rw [g 78 k (by decide) (by decide)]; exact SUc_mono (f2 k N hN) Q⟩⟩
  rw [e13]
  exact SKk_eq (fun i _ => ⟨e _ _ (Or.inr (Or.inr (Or.inr (Or.inl rfl)))) (by omega) (by omega) (by omega), e _ _ (Or.inr (Or.inr (Or.inr (Or.inr rfl)))) (by omega) (by omega) (by omega)⟩) (k1 (by rw [← e5]; exact q))
/-- where a sum begins that is written next -/
theorem SUc_next {r : Int32} (hp : PR x P) (hr : r = x.1 60 3) (Q : List (Int32 × Int32)) : SUc (P ++ (Q ++ [(0, 0)])) r Q := by
  refine ⟨P.length, by rw [hr]; exact hp.1, fun i q hq => ?_⟩
  rw [List.getElem?_append_right (by omega), Nat.add_sub_cancel_left]
  exact hq
theorem sPs_54 : sPs sN V K E (N ++ [(54, 0, 0)]) = sPs sN V K E N ++ [(0, 0)] := by
  rw [sPs_app]
  rfl
/-- a thread's sum: only the names known count -/
theorem sPs_E {E' : gV} (h : sEv false N) (he : ∀ t, kfi sN E.1 t = kfi sN E'.1 t) : sPs sN V K E N = sPs sN V K E' N := by
  induction N with
  | nil => rfl
  | cons v N ih =>
    have e : cPt sN V K E v = cPt sN V K E' v := by
      unfold cPt
      rw [he]
      have hv := h v List.mem_cons_self
      by_cases c : v.1 = 6 ∨ v.1 = 7
      · exfalso
        rcases hv with q | q | q | q | q | q
        · omega
        · omega
        · omega
        · omega
        · have := q.2; omega
        · exact absurd q.1 (by decide)
      · rw [if_neg c, if_neg c]
    show (v :: N).filterMap _ = (v :: N).filterMap _
    rw [List.filterMap_cons, List.filterMap_cons, e]
    have := ih (fun w hw => h w (List.mem_cons_of_mem _ hw))
    unfold sPs at this
    rw [this]
end KCO
end
section
/-! the class: statements, and when they are refused -/
section KSMF
variable {G : kG} {q : kP} {d : Nat} {x x0 y z xs : gd} {F : Int32 → gd → Prop} {Fv : gd → Prop} {X : String → gd → Prop} {P : Option gv → gd → Prop} {M : Int} {E : Nat → Prop} {K V : Nat → Int32} {sN : Nat → Nat → Bool} {e : Nat} {Ev : gV} {Ml N : gU}
theorem KV_GS (g : GS x y) (h : KV' K e x Ev) : KV' K e y Ev := KV_fm h (g.2 _ _ (by unfold sSum; omega)) (fun k => g.2 _ _ (by unfold sSum; omega))
theorem sort_n0 (hA : KA K V sN e x) (hn : nn x ≤ e) (k0 : ¬ K (nn x) = 0) : ¬ x.1 23 (x.1 100 4).toNatClampNeg = 0 := fun z => k0 (by rw [← hA.1 _ hn, show x.1 23 (nn x) = 0 from z]; decide)
/-- a token with a use -/
theorem RI_use (h : RIw K V sN e Ev xs x Ml) (h0 : 0 ≤ nx x) (l : La x y) (hA : KA K V sN e y) (hn : nn y ≤ e) (e1 : nn y = nn x + 1) (mA : HAs sN (y.1 42) (nn y) N (exs Ml Ev)) (mB : ¬ y.1 42 (nn x) = 0 → HBs sN N (exs Ml Ev) (nn x) (y.1 42 (nn x))) : RIw K V sN e Ev xs y (Ml ++ N) := ⟨hA, hn, UR_app h0 h.2.2 l ⟨mA, fun j h1 h2 h3 => by
  have ej : j = nn x := by omega
  rw [ej] at h3 ⊢
  exact mB h3⟩⟩
/-- an event told behind what it is of -/
theorem UR_late {v : Nat × Nat × Nat} (h0 : 0 ≤ nx y) (hN : still N) (l : La y z) (g : UR sN Ev y z N) (hA : HAw sN (z.1 42) (nn z) Ev v) (hB : ∀ j, nn x ≤ j → j < nn y → ¬ y.1 42 j = 0 → HB sN Ev v j (y.1 42 j)) : UR sN Ev x z (N ++ [v]) := by
  obtain ⟨n1, n2⟩ := La_nn h0 l
  refine ⟨HAs_app.mpr ⟨g.1, HAs_one.mpr (by rw [exs_still hN]; exact hA)⟩, fun j h1 h2 h3 => HBs_app.mpr ?_⟩
  by_cases c : j < nn y
  · rw [n2 j c] at h3 ⊢
    exact Or.inr (HBs_one.mpr (by rw [exs_still hN]; exact hB j h1 c h3))
  · exact Or.inl (g.2 j (by omega) h2 h3)
theorem kd_pass (hq : kV q) (hx : 700 ≤ nn x → RX x0 X) (hB : BB x0 x M E) (hR : RIw K V sN e Ev xs x Ml) (k0 : ¬ K (nn x) = 0) (k3 : ¬ K (nn x) = 3) (h : nn x < 700 → ∀ y, BB x0 y M E → nx y = nx x + 1 → GS x y → nn y = nn x + 1 → RIw K V sN e Ev xs y Ml → y.1 42 (nn x) = 0 → (∀ c k, ccS c k → y.1 c k = x.1 c k) → Fv y) : KE G q (d + 7) zk_X7_pass 0 [(0, vr 100)] [] x (rv Fv) X := by
  have b0 := hB.1.1.2.1
  have c0 := nn_is b0
  refine kf_pass hq hB.2.2.2.2.2.1 (fun c => hx (by omega)) hB.1 (sort_n0 hR.1 hR.2.1 k0) (FR_12 hB.2.1) (fun c7 y f n S fr la _ => ?_)
  have g : GS x y := ⟨la, fm_w f (fun c k q => by unfold sSum; omega)⟩
  have ut : y.1 42 (nn x) = 0 := by rw [f 42 _ (by omega)]; exact hB.2.1
  refine h (by omega) y (BB_on hB ?_ fr g) n g (nn_up b0 n) (RI_tok hR b0 c7 k0 k3 la n ut) ut (fun c k q => f c k (by unfold ccS at q; omega))
  unfold SU
  rw [f 60 3 (by omega)]; exact S
theorem kd_need (hq : kV q) (w kw : Int32) (hkw : kc w = kw) (hkn : ¬ kw = -1 ∧ ¬ kw = 0 ∧ ¬ kw = 3) (hw : ¬ w = 0) (hx : ¬ (K (nn x) = kw ∧ nn x < 700) → RX x0 X) (hB : BB x0 x M E) (hR : RIw K V sN e Ev xs x Ml) (h : K (nn x) = kw → nn x < 700 → ∀ y, BB x0 y M E → nx y = nx x + 1 → GS x y → nn y = nn x + 1 → RIw K V sN e Ev xs y Ml → y.1 42 (nn x) = 0 → (∀ c k, ccS c k → y.1 c k = x.1 c k) → Fv y) : KE G q (d + 7) zk_X7_need 0 [(0, vr 100), (1, vi w)] [] x (rv Fv) X := by
  have b0 := hB.1.1.2.1
  have c0 := nn_is b0
  have ki : x.1 23 (x.1 100 4).toNatClampNeg = w ↔ K (nn x) = kw := by
    rw [← hkw]
    exact KA_k hR.1 hR.2.1 w (by rw [hkw]; exact hkn.1)
  refine kf_need hq hB.2.2.2.2.2.1 w (fun c => hx (fun z => c.elim (fun c => c (ki.mpr z.1)) (fun c => absurd z.2 (by omega)))) hB.1 hw hB.2.1 (fun cw c7 y f n S fr la _ => ?_)
  have kk := ki.mp cw
  have g : GS x y := ⟨la, fm_w f (fun c k q => by unfold sSum; omega)⟩
  have ut : y.1 42 (nn x) = 0 := by rw [f 42 _ (by omega)]; exact hB.2.1
  refine h kk (by omega) y (BB_on hB ?_ fr g) n g (nn_up b0 n) (RI_tok hR b0 c7 (by rw [kk]; exact hkn.2.1) (by rw [kk]; exact hkn.2.2) la n ut) ut (fun c k q => f c k (by unfold ccS at q; omega))
  unfold SU
  rw [f 60 3 (by omega)]; exact S
theorem kd_needFor (hq : kV q) (w u kw : Int32) (hkw : kc w = kw) (hkn : ¬ kw = -1 ∧ ¬ kw = 0 ∧ ¬ kw = 3) (hw : ¬ w = 0) (hu : ¬ u = 12) (hx : ¬ (K (nn x) = kw ∧ nn x < 700) → RX x0 X) (hB : BB x0 x M E) (hA : KA K V sN e x) (hn : nn x ≤ e) (h : K (nn x) = kw → nn x < 700 → ∀ y, BB x0 y M E → nx y = nx x + 1 → GS x y → nn y = nn x + 1 → KA K V sN e y → nn y ≤ e → y.1 42 (nn x) = u → tk y (x.1 100 4) → (∀ c k, ccS c k → y.1 c k = x.1 c k) → F (x.1 100 4) y) : KE G q (d + 7) zk_X7_needFor 0 [(0, vr 100), (1, vi w), (2, vi u)] [] x (ri F) X := by
  have b0 := hB.1.1.2.1
  have c0 := nn_is b0
  have ki : x.1 23 (x.1 100 4).toNatClampNeg = w ↔ K (nn x) = kw := by
    rw [← hkw]
    exact KA_k hA hn w (by rw [hkw]; exact hkn.1)
  refine kf_needFor hq hB.2.2.2.2.2.1 w u (fun c => hx (fun z => c.elim (fun c => c (ki.mpr z.1)) (fun c => absurd z.2 (by omega)))) hB.1 hw (fun q => absurd q hu) (fun cw c7 y f eu n S fr la _ ht => ?_)
  have kk := ki.mp cw
  have g : GS x y := ⟨la, fm_w f (fun c k q => by unfold sSum; omega)⟩
  have en := nn_up b0 n
  refine h kk (by omega) y (BB_on hB ?_ fr g) n g en (KA_fm hA la.1) (by rw [en]; exact KA_on hA hn (by omega) (by rw [kk]; exact hkn.2.1) (by rw [kk]; exact hkn.2.2)) eu ht (fun c k q => f c k (by unfold ccS at q; omega))
  unfold SU
  rw [f 60 3 (by omega)]; exact S
theorem kd_sum (hq : kV q) (D : Int32) (L : gU) (hx : pX K false (17 - D.toNatClampNeg) (nn x) L = none → RX x0 X) (hB : BB x0 x M E) (hA : KA K V sN e x) (hn : nn x ≤ e) (hE : KV' K e x Ev) (hD : 1 ≤ D.toInt) (hD2 : D.toInt ≤ 18) (h : ∀ r y, BB x0 y M E → nx x < nx y → GS x y → ∀ N, RIw K V sN e Ev x y N → still N → pX K false (17 - D.toNatClampNeg) (nn x) L = some (nn y, L ++ N) → CPl x y (sPs sN V K Ev N) → r = x.1 60 3 → F r y) : KE G q (d + 9) zk_X7_sum 0 [(0, vr 100), (1, vi D)] [] x (ri F) X :=
  kf_sum hq hB.2.2.2.2.2.1 D L hx hB.1 hB.2.1 (fun c => ⟨(hB.2.2.1.1 c).1, hE⟩) ⟨fun q => absurd q (by decide), fun q => absurd q hB.2.2.2.2.1⟩ ⟨hA, hn, UR_0 rfl⟩ hD hD2 (fun r y S fr la f n N hR hN hp hcp hr => h r y (BB_on hB S fr ⟨la, f⟩) n ⟨la, f⟩ N hR hN hp (hcp (fun q => absurd q (by decide))) hr)
theorem kd_refuse (hq : kV q) (hx : RX x0 X) (hB : BB x0 x M E) (n : Int32) (hn : ¬ n = 0 := by decide) : KE G q (d + 6) zk_X7_refuse 0 [(0, vr 100), (1, vi n)] [] x P X := kp_refuse hq n (RB_at hB.1.1) hB.2.2.2.2.2.1 hx hn
/-- what is told, and the counts -/
def Tc (c k : Nat) : Prop := c = 40 ∨ (44 ≤ c ∧ c ≤ 51) ∨ (c = 60 ∧ k ≠ 3 ∧ k ≠ 13)
def TBe (x y : gd) : Prop := ∀ c k, Tc c k → y.1 c k = x.1 c k
def Lb (x y : gd) : Prop := La x y ∧ TBe x y
theorem TBe_tr (h : TBe x y) (g : TBe y z) : TBe x z := fun c k q => (g c k q).trans (h c k q)
theorem Lb_tr (h : Lb x y) (g : Lb y z) : Lb x z := ⟨La_tr h.1 g.1, TBe_tr h.2 g.2⟩
theorem TBe_GS (g : GS x y) : TBe x y := fun c k q => GS_at g c k (by unfold Tc at q; unfold sSum; omega)
theorem Lb_GS (g : GS x y) : Lb x y := ⟨g.1, TBe_GS g⟩
theorem Lb_fm {S : Nat → Nat → Prop} (f : fm S x y) (hS : ∀ c k, S c k → ¬ ((20 ≤ c ∧ c < 40) ∨ c = 42 ∨ (c = 100 ∧ k = 4) ∨ Tc c k)) : Lb x y := ⟨⟨fun c k q1 q2 => f c k (fun z => hS c k z (Or.inl ⟨q1, q2⟩)), by unfold nx; rw [f 100 4 (fun z => hS _ _ z (Or.inr (Or.inr (Or.inl ⟨rfl, rfl⟩))))]; exact Int.le_refl _, fun j _ => f 42 j (fun z => hS _ _ z (Or.inr (Or.inl rfl)))⟩, fun c k q => f c k (fun z => hS c k z (Or.inr (Or.inr (Or.inr q))))⟩
/-- what is open stays, and the lets -/
def OPe (x y : gd) : Prop := Lb x y ∧ (∀ c k, 111 ≤ c → c ≤ 113 → y.1 c k = x.1 c k) ∧ y.1 100 7 = x.1 100 7
theorem OPe_GS (g : GS x y) : OPe x y := ⟨Lb_GS g, fun c k q1 q2 => GS_at g _ _ (by unfold sSum; omega), GS_at g _ _ (by unfold sSum; omega)⟩
theorem OPe_tr (h : OPe x y) (g : OPe y z) : OPe x z := ⟨Lb_tr h.1 g.1, fun c k q1 q2 => (g.2.1 c k q1 q2).trans (h.2.1 c k q1 q2), g.2.2.trans h.2.2⟩
theorem OPe_st {n : Nat} (f : fm (fun c k => (81 ≤ c ∧ c ≤ 89 ∧ k = n) ∨ (c = 80 ∧ k = 9)) x y) : OPe x y := ⟨Lb_fm f (fun c k q => by unfold Tc; omega), fun c k q1 q2 => f _ _ (by omega), f _ _ (by omega)⟩
end KSMF
end
section
/-! the class: what statements without a block add to the code -/
section KPC
variable {sN : Nat → Nat → Bool} {V K : Nat → Int32} {Ev : gV} {x y z w : gd} {N : gU} {v : Nat × Nat × Nat} {e i j : Nat} {o ob s tg kn ix e9 f9 : Int32}
theorem sEv_still {o : Bool} (h : sEv o N) : still N := fun v hv => by
  have := h v hv
  omega
theorem sEv_ce {o : Bool} (h : sEv o N) {d : Nat × Int32 × List (Int32 × Bool)} : ces K V N d = d := ces_no (fun v hv q => by
  have := h v hv
  omega)
theorem tPs_x {o : Bool} {E : gV} (h : sEv o N) : tPs sN V K (N ++ [(54, 0, 0)]) E = sPs sN V K E (N ++ [(54, 0, 0)]) := by
  refine tPs_still (still_54 (sEv_still h)) (fun v hv => ?_)
  rcases List.mem_append.mp hv with q | q
  · have := h v q
    omega
  · rw [List.mem_singleton.mp q]; exact ⟨by show ¬ 54 = 24; decide, by show ¬ 54 = 27; decide⟩
theorem opP_c (k : Int32) : opP k = 11 ∨ opP k = 12 ∨ opP k = 19 := by
  unfold opP
  split
  · exact Or.inl rfl
  · split
    · exact Or.inr (Or.inl rfl)
    · exact Or.inr (Or.inr rfl)
theorem opS_c (k : Int32) : opS k = 18 ∨ opS k = 14 := by
  unfold opS
  split
  · exact Or.inl rfl
  · exact Or.inr rfl
theorem opW_c (k : Int32) : 5 ≤ opW k ∧ opW k ≤ 10 := by
  unfold opW
  split
  · decide
  · split
    · decide
    · split
      · decide
      · split
        · decide
        · split <;> decide
/-- nothing was written yet, or one sum -/
def PCd (sN : Nat → Nat → Bool) (V K : Nat → Int32) (Ev : gV) (x y : gd) (s : Int32) (N : gU) : Prop := (N = [] ∧ s = -1 ∧ ∀ c k, ccS c k → y.1 c k = x.1 c k) ∨ ∃ N' y0, N = N' ++ [(54, 0, 0)] ∧ sEv false N' ∧ (∀ c k, ccS c k → y0.1 c k = x.1 c k) ∧ CPl y0 y (sPs sN V K Ev N) ∧ (∀ c k, ccS c k → ¬ (c = 60 ∧ k = 3) → ¬ c = 62 → ¬ c = 63 → y.1 c k = y0.1 c k) ∧ s = y0.1 60 3
theorem CG_pl (hE : KV' K e y Ev) (hEv : ¬ Ev.2.1 = []) (hpc : PCd sN V K Ev x y s N) (a : stK y z o (y.1 100 9) (-1) ob (-1) s (-1)) (hv : (v = (68, i, 0) ∧ ob = -1 ∧ N = [] ∧ o = Int32.ofNat (opP (K i))) ∨ (v = (69, i, 0) ∧ ob = -1 ∧ ¬ N = [] ∧ o = Int32.ofNat (opS (K i))) ∨ (v = (70, i, j) ∧ ob = V j ∧ ¬ N = [] ∧ o = 13)) : CG sN V K Ev x z (N ++ [v]) := by
  intro c d P he hr hc
  obtain ⟨Ec, S, k, r, w⟩ := c
  have hr : r = rg0 := hr
  subst hr
  have he : eqE Ec Ev := he
  have kl : (y.1 100 9).toInt = (Ec.1.length : Nat) := by rw [hE.1, eqE_len he]
  have hEc : ¬ Ec.2.1 = [] := by rw [he.2]; exact hEv
  rcases hpc with ⟨eN, es, fr⟩ | ⟨N', y0, eN, hs', fr, hcp, fr2, es⟩
  · have hv : v = (68, i, 0) ∧ ob = -1 ∧ o = Int32.ofNat (opP (K i)) := by
      rcases hv with ⟨a1, a2, _, a4⟩ | ⟨_, _, a3, _⟩ | ⟨_, _, a3, _⟩
      · exact ⟨a1, a2, a4⟩
      · exact absurd eN a3
      · exact absurd eN a3
    obtain ⟨v1, v2, v3⟩ := hv
    rw [eN, v1, List.nil_append, cds_one, cd_68]
    have op := opP_c (K i)
    have q := CCp_add (st := (opP (K i), i, knw Ec, none, none, false, none, none, none)) (r' := rg0) (CCp_eq fr hc) a v3 kl (fun q => by exfalso; have q : opP (K i) = 0 ∨ (2 ≤ opP (K i) ∧ opP (K i) ≤ 4) ∨ opP (K i) = 16 ∨ opP (K i) = 17 ∨ opP (K i) = 20 := q; omega) (fun q => by exfalso; have q : opP (K i) = 8 := q; omega) (fun _ => v2) rfl es rfl
    refine ⟨?_, ?_, rfl⟩
    · show CCp sN V K z _ d (P ++ [])
      rw [List.append_nil]
      exact q
    · rw [exs_still (stl_k (by decide))]
      exact he
  · have hN : ¬ N = [] := fun q => by rw [q] at eN; simp at eN
    have hst : still N := by rw [eN]; exact still_54 (sEv_still hs')
    have ks : sPs sN V K Ev N' = sPs sN V K (Ec.1, [0], 0) N' := sPs_E hs' (fun t => kfi_len he.1.symm)
    have h0 := CCp_eq fr hc
    have h1 := CCp_sum (r' := rg0) h0 hcp fr2
    have su : SUc (P ++ sPs sN V K Ev N) s (sPs sN V K (Ec.1, [0], 0) N') := by
      rw [eN, sPs_54, ← ks]
      exact SUc_next h0.1 es _
    have hv2 : (v = (69, i, 0) ∧ ob = -1 ∧ o = Int32.ofNat (opS (K i))) ∨ (v = (70, i, j) ∧ ob = V j ∧ o = 13) := by
      rcases hv with ⟨_, _, a3, _⟩ | ⟨a1, a2, _, a4⟩ | ⟨a1, a2, _, a4⟩
      · exact absurd a3 hN
      · exact Or.inl ⟨a1, a2, a4⟩
      · exact Or.inr ⟨a1, a2, a4⟩
    rcases hv2 with ⟨v1, v2, v3⟩ | ⟨v1, v2, v3⟩
    · have op := opS_c (K i)
      have q := CCp_add (st := (opS (K i), i, knw Ec, none, none, false, none, some N', none)) (r' := rg0) h1 a v3 kl (fun q => by exfalso; have q : opS (K i) = 0 ∨ (2 ≤ opS (K i) ∧ opS (K i) ≤ 4) ∨ opS (K i) = 16 ∨ opS (K i) = 17 ∨ opS (K i) = 20 := q; omega) (fun q => by exfalso; have q : opS (K i) = 8 := q; omega) (fun _ => v2) rfl su rfl
      have ec : cds sN K (N ++ [v]) (Ec, S, k, rg0, w) = (Ec, S ++ [(opS (K i), i, knw Ec, none, none, false, none, some N', none)], k, rg0, w) := by
        rw [eN, v1, cds_app, cds_x hs' hEc, cds_one, cd_69]; rfl
      have ee : ces K V (N ++ [v]) d = d := by
        rw [eN, v1, ces_app, ces_app, sEv_ce hs']; rfl
      have ep : tPs sN V K (N ++ [v]) Ev = sPs sN V K Ev N := by
        rw [tPs_app, eN, tPs_x hs', v1]
        exact List.append_nil _
      rw [ec, ee, ep]
      exact ⟨q, by rw [exs_still (still_app hst (by rw [v1]; exact stl_k (by decide)))]; exact he, rfl⟩
    · have q := CCp_add (st := (13, i, knw Ec, none, some j, false, none, some N', none)) (r' := rg0) h1 a v3 kl (fun q => by exfalso; have q : (13 : Nat) = 0 ∨ (2 ≤ 13 ∧ 13 ≤ 4) ∨ (13 : Nat) = 16 ∨ (13 : Nat) = 17 ∨ (13 : Nat) = 20 := q; omega) (fun q => by exfalso; have q : (13 : Nat) = 8 := q; omega) (fun _ => v2) rfl su rfl
      have ec : cds sN K (N ++ [v]) (Ec, S, k, rg0, w) = (Ec, S ++ [(13, i, knw Ec, none, some j, false, none, some N', none)], k, rg0, w) := by
        rw [eN, v1, cds_app, cds_x hs' hEc, cds_one, cd_70]; rfl
      have ee : ces K V (N ++ [v]) d = d := by
        rw [eN, v1, ces_app, ces_app, sEv_ce hs']; rfl
      have ep : tPs sN V K (N ++ [v]) Ev = sPs sN V K Ev N := by
        rw [tPs_app, eN, tPs_x hs', v1]
        exact List.append_nil _
      rw [ec, ee, ep]
      exact ⟨q, by rw [exs_still (still_app hst (by rw [v1]; exact stl_k (by decide)))]; exact he, rfl⟩
theorem stK_84 (a : stK y z o kn tg ob ix e9 f9) {v8 : Int32} (ew : w = si z 84 (y.1 80 9).toNatClampNeg v8) : stK y w o kn v8 ob ix e9 f9 := by
  obtain ⟨a1, a2, a3, a4, a5, a6, a7, a8, a9⟩ := a
  have o9 : ∀ (c k : Nat), ¬ (c = 84 ∧ k = (y.1 80 9).toNatClampNeg) → w.1 c k = z.1 c k := fun c k q => by rw [ew, si_get, if_neg q]
  refine ⟨fun c k q q1 q2 => ?_, by rw [o9 80 9 (by omega)]; exact a2, by rw [o9 81 _ (by omega)]; exact a3, by rw [o9 83 _ (by omega)]; exact a4, by rw [ew, si_get, if_pos ⟨rfl, rfl⟩], by rw [o9 85 _ (by omega)]; exact a6, by rw [o9 87 _ (by omega)]; exact a7, by rw [o9 88 _ (by omega)]; exact a8, by rw [o9 89 _ (by omega)]; exact a9⟩
  rw [o9 c k (by omega)]
  exact a1 c k q q1 q2
/-- take, give, wait, wake, start, join -/
theorem CG_nm (hE : KV' K e y Ev) (fr : ∀ c k, ccS c k → y.1 c k = x.1 c k) (a : stK y z o (y.1 100 9) tg ob (-1) (-1) (-1)) (hv : v = (66, i, j) ∨ v = (67, i, j)) (ho : o = Int32.ofNat (opW (K i))) (hob : ob.toInt = (j : Nat)) (htg : tg = 1 ↔ K i = 40) : CG sN V K Ev x z [v] := by
  intro c d P he hr hc
  obtain ⟨Ec, S, k, r, w⟩ := c
  have hr : r = rg0 := hr
  subst hr
  have he : eqE Ec Ev := he
  have kl : (y.1 100 9).toInt = (Ec.1.length : Nat) := by rw [hE.1, eqE_len he]
  have op := opW_c (K i)
  have q := CCp_add (st := (opW (K i), i, knw Ec, none, some j, decide (K i = 40), none, none, none)) (r' := rg0) (CCp_eq fr hc) a ho kl (fun q => by exfalso; have q : opW (K i) = 0 ∨ (2 ≤ opW (K i) ∧ opW (K i) ≤ 4) ∨ opW (K i) = 16 ∨ opW (K i) = 17 ∨ opW (K i) = 20 := q; omega) (fun _ => by rw [htg]; exact decide_eq_true_iff.symm) (fun _ => by
    show if opW (K i) = 13 then ob = V j else ob.toInt = (j : Nat)
    rw [if_neg (by omega)]; exact hob) rfl rfl rfl
  have ec : cds sN K [v] (Ec, S, k, rg0, w) = (Ec, S ++ [(opW (K i), i, knw Ec, none, some j, decide (K i = 40), none, none, none)], k, rg0, w) := by
    rcases hv with e | e
    · rw [e, cds_one, cd_66]
    · rw [e, cds_one, cd_67]
  have ee : ces K V [v] d = d := by rcases hv with e | e <;> (rw [e]; rfl)
  have ep : tPs sN V K [v] Ev = [] := by rcases hv with e | e <;> (rw [e]; rfl)
  have ex : exs [v] Ev = Ev := by rcases hv with e | e <;> (rw [e]; exact exs_still (stl_k (by decide)))
  rw [ec, ee, ep, ex, List.append_nil]
  exact ⟨q, he, rfl⟩
end KPC
end
section
/-! the class: the statements without a block that set nothing -/
section KPL
variable {G : kG} {q : kP} {d : Nat} {x x0 y z xs : gd} {F : Int32 → gd → Prop} {Fv : gd → Prop} {X : String → gd → Prop} {P : Option gv → gd → Prop} {M : Int} {E : Nat → Prop} {K V : Nat → Int32} {sN : Nat → Nat → Bool} {e : Nat} {Ev : gV} {Ml N : gU}
theorem HA_66 {U : Nat → Int32} {n a b : Nat} : HAw sN U n Ev (66, a, b) ↔ b < n ∧ U b = 4 := by unfold HAw; simp
theorem HA_67 {U : Nat → Int32} {n a b : Nat} : HAw sN U n Ev (67, a, b) ↔ b < n ∧ U b = 5 := by unfold HAw; simp
theorem HA_70 {U : Nat → Int32} {n a b : Nat} : HAw sN U n Ev (70, a, b) ↔ b < n ∧ U b = 13 := by unfold HAw; simp
theorem HB_66 {a b : Nat} : HB sN Ev (66, a, b) b 4 := by unfold HB; simp
theorem HB_67 {a b : Nat} : HB sN Ev (67, a, b) b 5 := by unfold HB; simp
theorem HB_70 {a b : Nat} : HB sN Ev (70, a, b) b 13 := by unfold HB; simp
theorem pS1_68 {f c i : Nat} {L : gU} (h : K i = 20 ∨ K i = 31 ∨ K i = 19) : pS1 K f c i L = pup c (68, i, 0) (pt K 67 (i + 1, L)) := by
  have n26 : ¬ K i = 26 := by rcases h with e | e | e <;> rw [e] <;> decide
  have n1 : ¬ K i = 1 := by rcases h with e | e | e <;> rw [e] <;> decide
  unfold pS1
  rw [if_neg n26, if_neg n1, if_pos h]
theorem pS1_69 {f c i : Nat} {L : gU} (h : K i = 13 ∨ K i = 14) : pS1 K f c i L = pup c (69, i, 0) ((pX K false f (i + 1) L).bind (pt K 67)) := by
  have n26 : ¬ K i = 26 := by rcases h with e | e <;> rw [e] <;> decide
  have n1 : ¬ K i = 1 := by rcases h with e | e <;> rw [e] <;> decide
  have n20 : ¬ (K i = 20 ∨ K i = 31 ∨ K i = 19) := by rcases h with e | e <;> rw [e] <;> decide
  unfold pS1
  rw [if_neg n26, if_neg n1, if_neg n20, if_pos h]
theorem pS1_70 {f c i : Nat} {L : gU} (h : K i = 15) : pS1 K f c i L = if (K (i + 1) = 2 ∧ i + 1 < 700) ∧ K (i + 2) = 68 ∧ i + 2 < 700 then pup c (70, i, i + 1) ((pX K false f (i + 3) L).bind (pt K 67)) else none := by
  have n26 : ¬ K i = 26 := by rw [h]; decide
  have n1 : ¬ K i = 1 := by rw [h]; decide
  have n20 : ¬ (K i = 20 ∨ K i = 31 ∨ K i = 19) := by rw [h]; decide
  have n13 : ¬ (K i = 13 ∨ K i = 14) := by rw [h]; decide
  unfold pS1
  rw [if_neg n26, if_neg n1, if_neg n20, if_neg n13, if_pos h]
theorem pS1_66 {f c i : Nat} {L : gU} (h : K i = 36 ∨ K i = 22 ∨ K i = 38 ∨ K i = 39 ∨ K i = 40) : pS1 K f c i L = if K (i + 1) = 1 ∧ i + 1 < 700 then pup c (66, i, i + 1) (pt K 67 (i + 2, L)) else none := by
  have n26 : ¬ K i = 26 := by rcases h with e | e | e | e | e <;> rw [e] <;> decide
  have n1 : ¬ K i = 1 := by rcases h with e | e | e | e | e <;> rw [e] <;> decide
  have n20 : ¬ (K i = 20 ∨ K i = 31 ∨ K i = 19) := by rcases h with e | e | e | e | e <;> rw [e] <;> decide
  have n13 : ¬ (K i = 13 ∨ K i = 14) := by rcases h with e | e | e | e | e <;> rw [e] <;> decide
  have n15 : ¬ K i = 15 := by rcases h with e | e | e | e | e <;> rw [e] <;> decide
  unfold pS1
  rw [if_neg n26, if_neg n1, if_neg n20, if_neg n13, if_neg n15, if_pos h]
theorem pS1_67 {f c i : Nat} {L : gU} (h : K i = 33 ∨ K i = 25) : pS1 K f c i L = if K (i + 1) = 1 ∧ i + 1 < 700 then pup c (67, i, i + 1) (pt K 67 (i + 2, L)) else none := by
  have n26 : ¬ K i = 26 := by rcases h with e | e <;> rw [e] <;> decide
  have n1 : ¬ K i = 1 := by rcases h with e | e <;> rw [e] <;> decide
  have n20 : ¬ (K i = 20 ∨ K i = 31 ∨ K i = 19) := by rcases h with e | e <;> rw [e] <;> decide
  have n13 : ¬ (K i = 13 ∨ K i = 14) := by rcases h with e | e <;> rw [e] <;> decide
  have n15 : ¬ K i = 15 := by rcases h with e | e <;> rw [e] <;> decide
  have n36 : ¬ (K i = 36 ∨ K i = 22 ∨ K i = 38 ∨ K i = 39 ∨ K i = 40) := by rcases h with e | e <;> rw [e] <;> decide
  unfold pS1
  rw [if_neg n26, if_neg n1, if_neg n20, if_neg n13, if_neg n15, if_neg n36, if_pos h]
/-- what a statement of one word does, by its token -/
def opQ (k : Int32) : Nat := if k = 13 ∨ k = 14 then opS k else if k = 20 ∨ k = 31 ∨ k = 19 then opP k else if k = 15 then 13 else opW k
theorem kd_nameStep (hq : kV q) (hx : ¬ (K (nn x) = 1 ∧ nn x < 700) → RX x0 X) (hA : KA K V sN e x) (hn : nn x ≤ e) (hB : BB x0 x M E) (ha : 2 * ssm x ≤ nx x + 1) (o l : Int32) (ho : 5 ≤ o.toInt) (ho2 : o.toInt ≤ 10) (h : ∀ y, BB x0 y M E → nx y = nx x + 1 → ssm y = ssm x + 1 → om y = om x → sop y (x.1 80 9).toNatClampNeg = o.toInt → vp_in (x.1 80 9) 400 → y.1 60 13 = x.1 60 13 → K (nn x) = 1 → nn x < 700 → nn y = nn x + 1 → KA K V sN e y → nn y ≤ e → La x y → ((o.toInt ≤ 8 ∧ y.1 42 (nn x) = 4) ∨ (9 ≤ o.toInt ∧ y.1 42 (nn x) = 5)) → y.1 100 9 = x.1 100 9 → (∀ k, y.1 109 k = x.1 109 k) → OPe x y → stK x y o (x.1 100 9) (-1) (x.1 100 4) (-1) (-1) (-1) → F (x.1 80 9) y) : KE G q (d + 8) zk_X7_nameStep 0 [(0, vr 100), (1, vi o), (2, vi l)] [] x (ri F) X := by
  have p19 : ∀ u : Int32, ((u = 4 ∧ o.toInt ≤ 8) ∨ (u = 5 ∧ 9 ≤ o.toInt)) → KE G q (d + 8) zk_X7_nameStep 19 [(0, vr 100), (1, vi o), (2, vi l)] [vi u, vi 2, vr 100] x (ri F) X := by
    intro u hu
    refine kg_X7_nameStep_19 hq _ _ _ _ (kd_needFor hq 2 u 1 (by decide) (by decide) (by decide) (by rcases hu with ⟨rfl, -⟩ | ⟨rfl, -⟩ <;> decide) hx hB hA hn (fun kk c7 y hBy ny gy en hAy hny eu ht hcy => ?_))
    have eu : y.1 42 (x.1 100 4).toNatClampNeg = u := eu
    have esm := GS_sm gy
    obtain ⟨a1, a2, a3, a4, a5⟩ := BB_400 hBy (by omega)
    have m80 : y.1 80 9 = x.1 80 9 := GS_at gy _ _ (by unfold sSum; omega)
    refine kf_add hq _ _ _ a1 a2 (fun w hA vin hF9 => ⟨vin, fun z ez => ri_i ?_⟩)
    rw [m80] at ez vin hF9 ⊢
    rw [m80] at a3
    obtain ⟨f1, f2, f3, f4, f5⟩ := hA
    rw [m80] at f1 f3 f4 f5
    have fz : fm (fun c k => (81 ≤ c ∧ c ≤ 89 ∧ k = (x.1 80 9).toNatClampNeg) ∨ (c = 80 ∧ k = 9)) y z := by rw [ez]; exact fm_si f1 (Or.inl ⟨by omega, by omega, rfl⟩)
    have es : ssm z = ssm y + 1 := by
      have : z.1 80 9 = w.1 80 9 := by rw [ez]; (simp only [si_get, sfl_get, Nat.reduceEqDiff, eq_self, and_false, false_and, and_true, true_and, if_true, if_false, reduceIte, reduceCtorEq])
      unfold ssm at *; rw [this]; exact f2
    have z81 : z.1 81 (x.1 80 9).toNatClampNeg = o := by rw [ez]; (simp only [si_get, sfl_get, Nat.reduceEqDiff, eq_self, and_false, false_and, and_true, true_and, if_true, if_false, reduceIte, reduceCtorEq]); exact f3
    have z83 : z.1 83 (x.1 80 9).toNatClampNeg = y.1 100 9 := by rw [ez]; (simp only [si_get, sfl_get, Nat.reduceEqDiff, eq_self, and_false, false_and, and_true, true_and, if_true, if_false, reduceIte, reduceCtorEq]); exact f4
    have z85 : z.1 85 (x.1 80 9).toNatClampNeg = x.1 100 4 := by rw [ez]; (simp only [si_get, sfl_get, Nat.reduceEqDiff, eq_self, and_false, false_and, and_true, true_and, if_true, if_false, reduceIte, reduceCtorEq])
    have eN := BB_N hB
    have hSA : SA z M (x.1 80 9).toNatClampNeg := by
      unfold SA sop stg
      rw [z81, z83, z85]
      refine ⟨by omega, ⟨a4, a5⟩, fun _ => ⟨(x.1 100 4).toNatClampNeg, eN.symm, ?_, fun c => by omega, fun c1 c2 => ?_, fun c => ?_⟩, fun c => by omega⟩
      · unfold nx
        rw [fz 100 4 (by omega)]
        unfold nx at *
        omega
      · rw [fz 42 _ (by omega), eu]
        rcases hu with ⟨e, -⟩ | ⟨-, e⟩
        · exact e
        · omega
      · rw [fz 42 _ (by omega), eu]
        rcases hu with ⟨-, e⟩ | ⟨e, -⟩
        · omega
        · exact e
    have lyz : La y z := ⟨fun c k q1 q2 => fz c k (by omega), by unfold nx; rw [fz 100 4 (by omega)]; exact Int.le_refl _, fun j _ => fz 42 j (by omega)⟩
    have nz9 : nn z = nn y := by unfold nn; rw [fz 100 4 (by omega)]
    have hBz := BB_add hBy (n := (x.1 80 9).toNatClampNeg) (by omega) fz es hSA
    refine h z (BB_E hBz (fun e => e.elim id (fun e => by omega)) (fun i hi he hne => ?_)) ?_ (by omega) ?_ (by unfold sop; rw [z81]) vin (by rw [fz 60 13 (by omega), GS_at gy 60 13 (by unfold sSum; omega)]) kk c7 ?_ (KA_fm hAy lyz.1) ?_ (La_tr gy.1 lyz) ?_ (by rw [fz 100 9 (by omega), GS_at gy 100 9 (by unfold sSum; omega)]) (fun k => by rw [fz 109 k (by omega), GS_at gy 109 k (by unfold sSum; omega)]) (OPe_tr (OPe_GS gy) (OPe_st fz)) ⟨fun c k q q1 q2 => (fz c k (fun w => w.elim q1 q2)).trans (hcy c k q), ?_, z81, by rw [z83]; exact GS_at gy 100 9 (by unfold sSum; omega), by rw [ez]; (simp only [si_get, sfl_get, Nat.reduceEqDiff, eq_self, and_false, false_and, and_true, true_and, if_true, if_false, reduceIte, reduceCtorEq]); exact f5, z85, by rw [ez]; (simp only [si_get, sfl_get, Nat.reduceEqDiff, eq_self, and_false, false_and, and_true, true_and, if_true, if_false, reduceIte, reduceCtorEq]); exact hF9.2.1, by rw [ez]; (simp only [si_get, sfl_get, Nat.reduceEqDiff, eq_self, and_false, false_and, and_true, true_and, if_true, if_false, reduceIte, reduceCtorEq]); exact hF9.2.2.1, by rw [ez]; (simp only [si_get, sfl_get, Nat.reduceEqDiff, eq_self, and_false, false_and, and_true, true_and, if_true, if_false, reduceIte, reduceCtorEq]); exact hF9.2.2.2⟩
    · rcases he with he | he
      · exact absurd he hne
      · rw [he]
        refine SC_no ?_ ?_ <;> (unfold sop; rw [z81]; omega)
    · unfold nx at *
      rw [fz 100 4 (by omega)]; exact ny
    · have := GS_om gy
      unfold om at *
      rw [fz 100 13 (by omega)]; exact this
    · rw [nz9]; exact en
    · rw [nz9]; exact hny
    · have e9 : z.1 42 (nn x) = u := by rw [fz 42 _ (by omega)]; exact eu
      rcases hu with ⟨e, e2⟩ | ⟨e, e2⟩
      · exact Or.inl ⟨e2, e9.trans e⟩
      · exact Or.inr ⟨e2, e9.trans e⟩
    · show ssm z = ssm x + 1
      omega
  have k9 : (9 : Int32).toInt = 9 := rfl
  have k10 : (10 : Int32).toInt = 10 := rfl
  refine kg_X7_nameStep_0 hq _ _ ⟨fun c => p19 _ (Or.inr ⟨rfl, by rw [c]; decide⟩), fun c => ⟨fun c2 => p19 _ (Or.inl ⟨rfl, ?_⟩), fun c2 => p19 _ (Or.inr ⟨rfl, by rw [c2]; decide⟩)⟩⟩
  rw [t_eq, k9] at c
  rw [t_eq, k10] at c2
  omega
theorem kd_plain (hq : kV q) (f c9 : Nat) (L : gU) (hx : (pS1 K f c9 (nn x) L = none ∨ 700 ≤ nn x) → RX x0 X) (hf : (f : Int) + om x = 16) (hA : KA K V sN e x) (hn : nn x ≤ e) (hE : KV' K e x Ev) (hB : BB x0 x M (fun _ => False)) (ha : 2 * ssm x + om x ≤ nx x) (ho : om x ≤ 17) (o l : Int32) (h5 : 5 ≤ o.toInt) (h6 : ¬ o.toInt = 15 ∧ ¬ o.toInt = 16 ∧ ¬ o.toInt = 17 ∧ ¬ o.toInt = 20) (hEv : ¬ Ev.2.1 = []) (hop : o = Int32.ofNat (opQ (K (nn x)))) (hko : (o.toInt ≤ 8 ∧ (K (nn x) = 36 ∨ K (nn x) = 22 ∨ K (nn x) = 38 ∨ K (nn x) = 39 ∨ K (nn x) = 40)) ∨ (9 ≤ o.toInt ∧ o.toInt ≤ 10 ∧ (K (nn x) = 33 ∨ K (nn x) = 25)) ∨ (o = 13 ∧ K (nn x) = 15) ∨ ((o = 14 ∨ o = 18) ∧ (K (nn x) = 13 ∨ K (nn x) = 14)) ∨ ((o = 11 ∨ o = 12 ∨ o = 19) ∧ (K (nn x) = 20 ∨ K (nn x) = 31 ∨ K (nn x) = 19))) (h : ∀ y, BB x0 y M (fun _ => False) → nx x < nx y → om y = om x → 2 * ssm y + om y ≤ nx y → y.1 60 13 = x.1 60 13 → KV' K e y Ev → OPe x y → ∀ N, RIw K V sN e Ev x y N → still N → pS1 K f c9 (nn x) L = some (c9, nn y, L ++ N) → CG sN V K Ev x y N → Fv y) : KE G q (d + 11) zk_X7_plainStatement 0 [(0, vr 100), (1, vi o), (2, vi l)] [] x (rv Fv) X := by
  have k5 : (5 : Int32).toInt = 5 := rfl
  have k10 : (10 : Int32).toInt = 10 := rfl
  have o0 := (BB_om hB).1.1
  have b0 := hB.1.1.2.1
  have c0 := nn_is b0
  obtain ⟨W, eW⟩ : ∃ W, W = pS1 K f c9 (nn x) L := ⟨_, rfl⟩
  rw [← eW] at hx h
  have hx1 : W = none → RX x0 X := fun z => hx (Or.inl z)
  have p180 : ∀ (y : gd) (N : gU) (v : Nat × Nat × Nat), RIw K V sN e Ev x y (N ++ [v]) → still (N ++ [v]) → W = pup c9 v (pt K 67 (nn y, L ++ N)) → KV' K e y Ev → BB x0 y M (fun _ => False) → nx x < nx y → (om y = om x ∧ y.1 60 13 = x.1 60 13 ∧ OPe x y) → 2 * ssm y + om y ≤ nx y + 1 → CG sN V K Ev x y (N ++ [v]) → KE G q (d + 11) zk_X7_plainStatement 180 [(0, vr 100)] [] y (rv Fv) X := fun y N v hRy hst hW hEy hBy n1 n2 n3 hCG => kg_X7_plainStatement_180 hq (kd_need hq 27 67 (by decide) (by decide) (by decide) (fun no => hx1 (by rw [hW]; unfold pt; rw [if_neg no]; rfl)) hBy hRy (fun kk c7 z hBz nz gz en hRz _ hcz => rv_i (h z hBz (by omega) (by rw [GS_om gz]; exact n2.1) (by rw [GS_om gz, GS_sm gz]; omega) (by rw [GS_at gz 60 13 (by unfold sSum; omega)]; exact n2.2.1) (KV_GS gz hEy) (OPe_tr n2.2.2 (OPe_GS gz)) (N ++ [v]) hRz hst (by
    rw [hW]; unfold pt; rw [if_pos ⟨kk, c7⟩, en]
    show some (c9, nn y + 1, L ++ N ++ [v]) = _
    rw [List.append_assoc]) (CG_st hCG hcz))))
  have p139 : ∀ (y : gd) (l5 s : Int32) (N : gU) (v : Nat × Nat × Nat), RIw K V sN e Ev x y (N ++ [v]) → still (N ++ [v]) → W = pup c9 v (pt K 67 (nn y, L ++ N)) → KV' K e y Ev → 10 < o.toInt → BB x0 y M (fun _ => False) → nx x < nx y → (om y = om x ∧ y.1 60 13 = x.1 60 13 ∧ OPe x y) → ssm y = ssm x → PCd sN V K Ev x y s N → ((v = (68, nn x, 0) ∧ l5 = -1 ∧ N = [] ∧ o = Int32.ofNat (opP (K (nn x)))) ∨ (v = (69, nn x, 0) ∧ l5 = -1 ∧ ¬ N = [] ∧ o = Int32.ofNat (opS (K (nn x)))) ∨ (v = (70, nn x, nn x + 1) ∧ l5 = V (nn x + 1) ∧ ¬ N = [] ∧ o = 13)) → KE G q (d + 11) zk_X7_plainStatement 139 [(0, vr 100), (1, vi o), (2, vi l), (5, vi l5)] [vi s] y (rv Fv) X := by
    intro y l5 s N v9 hRy hst hW hEy h10 hBy n1 n2 n3 hpc hvk
    obtain ⟨a1, a2, a3, a4, a5⟩ := BB_400 hBy (by omega)
    refine kg_X7_plainStatement_139 hq _ _ _ _ (kf_add hq _ _ _ a1 a2 (fun w hA vin hF9 => ⟨vin, fun z ez => ⟨vin, fun v ev => ?_⟩⟩))
    obtain ⟨f1, f2, f3, f4, f5⟩ := hA
    have fz : fm (fun c k => (81 ≤ c ∧ c ≤ 89 ∧ k = (y.1 80 9).toNatClampNeg) ∨ (c = 80 ∧ k = 9)) y v := by rw [ev, ez]; exact fm_si (fm_si f1 (Or.inl ⟨by omega, by omega, rfl⟩)) (Or.inl ⟨by omega, by omega, rfl⟩)
    have es : ssm v = ssm y + 1 := by
      have : v.1 80 9 = w.1 80 9 := by rw [ev, ez]; (simp only [si_get, sfl_get, Nat.reduceEqDiff, eq_self, and_false, false_and, and_true, true_and, if_true, if_false, reduceIte, reduceCtorEq])
      unfold ssm at *; rw [this]; exact f2
    have z81 : v.1 81 (y.1 80 9).toNatClampNeg = o := by rw [ev, ez]; (simp only [si_get, sfl_get, Nat.reduceEqDiff, eq_self, and_false, false_and, and_true, true_and, if_true, if_false, reduceIte, reduceCtorEq]); exact f3
    have z83 : v.1 83 (y.1 80 9).toNatClampNeg = y.1 100 9 := by rw [ev, ez]; (simp only [si_get, sfl_get, Nat.reduceEqDiff, eq_self, and_false, false_and, and_true, true_and, if_true, if_false, reduceIte, reduceCtorEq]); exact f4
    have hSA : SA v M (y.1 80 9).toNatClampNeg := by
      unfold SA sop stg
      rw [z81, z83]
      exact ⟨by omega, ⟨a4, a5⟩, fun c => by omega, fun c => by omega⟩
    have hBv := BB_add hBy (n := (y.1 80 9).toNatClampNeg) (by omega) fz es hSA
    have e4 : nx v = nx y := by unfold nx; rw [fz 100 4 (by omega)]
    have e13 : om v = om y := by unfold om; rw [fz 100 13 (by omega)]
    have nv9 : nn v = nn y := by unfold nn; rw [fz 100 4 (by omega)]
    refine p180 v N v9 (RI_st hRy (fz _ _ (by omega)) (fun j => fz _ _ (by omega)) (fun c k q1 q2 => fz _ _ (by omega))) hst (by rw [nv9]; exact hW) (KV_fm hEy (fz _ _ (by omega)) (fun k => fz _ _ (by omega))) (BB_E hBv (fun e => e.elim id (fun e => by omega)) (fun i hi he hne => ?_)) (by omega) ⟨by omega, by rw [fz 60 13 (by omega)]; exact n2.2.1, OPe_tr n2.2.2 (OPe_st fz)⟩ (by omega) (CG_pl (i := nn x) (j := nn x + 1) hEy hEv hpc ⟨fun c k q q1 q2 => fz c k (fun w => w.elim q1 q2), es, z81, z83, by rw [ev, ez]; (simp only [si_get, sfl_get, Nat.reduceEqDiff, eq_self, and_false, false_and, and_true, true_and, if_true, if_false, reduceIte, reduceCtorEq]); exact f5, by rw [ev, ez]; (simp only [si_get, sfl_get, Nat.reduceEqDiff, eq_self, and_false, false_and, and_true, true_and, if_true, if_false, reduceIte, reduceCtorEq]), by rw [ev, ez]; (simp only [si_get, sfl_get, Nat.reduceEqDiff, eq_self, and_false, false_and, and_true, true_and, if_true, if_false, reduceIte, reduceCtorEq]); exact hF9.2.1, by rw [ev, ez]; (simp only [si_get, sfl_get, Nat.reduceEqDiff, eq_self, and_false, false_and, and_true, true_and, if_true, if_false, reduceIte, reduceCtorEq]), by rw [ev, ez]; (simp only [si_get, sfl_get, Nat.reduceEqDiff, eq_self, and_false, false_and, and_true, true_and, if_true, if_false, reduceIte, reduceCtorEq]); exact hF9.2.2.2⟩ hvk)
    rcases he with he | he
    · exact absurd he hne
    · rw [he]
      refine SC_no ?_ ?_ <;> (unfold sop; rw [z81]; omega)
  have p118 : ∀ (y : gd) (l5 s : Int32) (v : Nat × Nat × Nat), KA K V sN e y → nn y ≤ e → (∀ j, nn x ≤ j → j < nn y → ¬ y.1 42 j = 0 → HB sN Ev v j (y.1 42 j)) → (∀ z, La y z → HAw sN (z.1 42) (nn z) Ev v) → still [v] → KV' K e y Ev → ((s = 0 ∧ W = pup c9 v (pt K 67 (nn y, L))) ∨ (s = 1 ∧ W = pup c9 v ((pX K false f (nn y) L).bind (pt K 67)))) → 10 < o.toInt → BB x0 y M (fun _ => False) → nx x < nx y → (om y = om x ∧ y.1 60 13 = x.1 60 13 ∧ OPe x y) → ssm y = ssm x → (∀ c k, ccS c k → y.1 c k = x.1 c k) → ((v = (68, nn x, 0) ∧ l5 = -1 ∧ s = 0 ∧ o = Int32.ofNat (opP (K (nn x)))) ∨ (v = (69, nn x, 0) ∧ l5 = -1 ∧ s = 1 ∧ o = Int32.ofNat (opS (K (nn x)))) ∨ (v = (70, nn x, nn x + 1) ∧ l5 = V (nn x + 1) ∧ s = 1 ∧ o = 13)) → KE G q (d + 11) zk_X7_plainStatement 118 [(0, vr 100), (1, vi o), (2, vi l), (5, vi l5)] [vi s] y (rv Fv) X := by
    intro y l5 s v hG1 hG2 hG3 hG4 hv hEy hWs h10 hBy n1 n2 n3 hcy hvk
    obtain ⟨o1, o2⟩ := BB_om hBy
    have by0 := hBy.1.1.2.1
    have eD : 17 - (y.1 100 13 + 1).toNatClampNeg = f := by
      have u := t_cl (y.1 100 13 + 1)
      rw [o2 (by omega)] at u
      omega
    refine kg_X7_plainStatement_118 hq _ _ _ _ ⟨fun c0 => p139 y _ _ [] v ⟨hG1, hG2, UR_late (y := y) by0 still_nil La_rf (UR_0 rfl) (hG4 y La_rf) hG3⟩ hv (by
      rcases hWs with ⟨-, e⟩ | ⟨e, -⟩
      · rw [List.append_nil]; exact e
      · rw [e] at c0; exact absurd c0 (by decide)) hEy h10 hBy n1 n2 n3 (Or.inl ⟨rfl, rfl, hcy⟩) (by
      rcases hvk with ⟨a1, a2, _, a4⟩ | ⟨_, _, a3, _⟩ | ⟨_, _, a3, _⟩
      · exact Or.inl ⟨a1, a2, rfl, a4⟩
      · rw [a3] at c0; exact absurd c0 (by decide)
      · rw [a3] at c0; exact absurd c0 (by decide)), fun c0 => kd_sum hq _ L (fun q9 => hx1 ?_) hBy hG1 hG2 hEy (by rw [o2 (by omega)]; omega) (by rw [o2 (by omega)]; omega) (fun r z hBz nz gz N hRz hN hpX hcp hr => p139 z _ _ N v ⟨hRz.1, hRz.2.1, UR_late by0 hN gz.1 hRz.2.2 (hG4 z gz.1) hG3⟩ (still_app hN hv) ?_ (KV_GS gz hEy) h10 hBz (by omega) ⟨by rw [GS_om gz]; exact n2.1, by rw [GS_at gz 60 13 (by unfold sSum; omega)]; exact n2.2.1, OPe_tr n2.2.2 (OPe_GS gz)⟩ (by rw [GS_sm gz]; exact n3) ?_ ?_)⟩
    · rw [eD] at q9
      rcases hWs with ⟨e, -⟩ | ⟨-, e⟩
      · exact absurd e c0
      · rw [e, q9]; rfl
    · rw [eD] at hpX
      rcases hWs with ⟨e, -⟩ | ⟨-, e⟩
      · exact absurd e c0
      · rw [e, hpX]; rfl
    · obtain ⟨N', eN, hs'⟩ := pX_sE hpX
      exact Or.inr ⟨N', y, eN, hs', hcy, hcp, fun c k q q1 q2 q3 => GS_at gz c k (by unfold ccS at q; unfold sSum; omega), hr⟩
    · obtain ⟨N', eN, hs'⟩ := pX_sE hpX
      have hne : ¬ N = [] := fun q => by rw [q] at eN; simp at eN
      rcases hvk with ⟨_, _, a3, _⟩ | ⟨a1, a2, _, a4⟩ | ⟨a1, a2, _, a4⟩
      · exact absurd a3 c0
      · exact Or.inr (Or.inl ⟨a1, a2, hne, a4⟩)
      · exact Or.inr (Or.inr ⟨a1, a2, hne, a4⟩)
  have p95 : ∀ (y : gd) (l5 : Int32) (v : Nat × Nat × Nat), KA K V sN e y → nn y ≤ e → (∀ j, nn x ≤ j → j < nn y → ¬ y.1 42 j = 0 → HB sN Ev v j (y.1 42 j)) → (∀ z, La y z → HAw sN (z.1 42) (nn z) Ev v) → still [v] → KV' K e y Ev → ((¬ (o = 13 ∨ o = 14 ∨ o = 18) ∧ W = pup c9 v (pt K 67 (nn y, L))) ∨ ((o = 13 ∨ o = 14 ∨ o = 18) ∧ W = pup c9 v ((pX K false f (nn y) L).bind (pt K 67)))) → 10 < o.toInt → BB x0 y M (fun _ => False) → nx x < nx y → (om y = om x ∧ y.1 60 13 = x.1 60 13 ∧ OPe x y) → ssm y = ssm x → (∀ c k, ccS c k → y.1 c k = x.1 c k) → ((v = (68, nn x, 0) ∧ l5 = -1 ∧ ¬ (o = 13 ∨ o = 14 ∨ o = 18) ∧ o = Int32.ofNat (opP (K (nn x)))) ∨ (v = (69, nn x, 0) ∧ l5 = -1 ∧ (o = 13 ∨ o = 14 ∨ o = 18) ∧ o = Int32.ofNat (opS (K (nn x)))) ∨ (v = (70, nn x, nn x + 1) ∧ l5 = V (nn x + 1) ∧ (o = 13 ∨ o = 14 ∨ o = 18) ∧ o = 13)) → KE G q (d + 11) zk_X7_plainStatement 95 [(0, vr 100), (1, vi o), (2, vi l), (5, vi l5)] [] y (rv Fv) X := by
    intro y l5 v hG1 hG2 hG3 hG4 hv hEy hWs h10 hBy n1 n2 n3 hcy hvk
    have yes : (o = 13 ∨ o = 14 ∨ o = 18) → KE G q (d + 11) zk_X7_plainStatement 118 [(0, vr 100), (1, vi o), (2, vi l), (5, vi l5)] [vi 1] y (rv Fv) X := fun c => p118 y _ _ v hG1 hG2 hG3 hG4 hv hEy (by
      rcases hWs with ⟨e, -⟩ | ⟨-, e⟩
      · exact absurd c e
      · exact Or.inr ⟨rfl, e⟩) h10 hBy n1 n2 n3 hcy (by
      rcases hvk with ⟨_, _, a3, _⟩ | ⟨a1, a2, _, a4⟩ | ⟨a1, a2, _, a4⟩
      · exact absurd c a3
      · exact Or.inr (Or.inl ⟨a1, a2, rfl, a4⟩)
      · exact Or.inr (Or.inr ⟨a1, a2, rfl, a4⟩))
    exact kg_X7_plainStatement_95 hq _ _ _ ⟨fun c => yes (Or.inl c), fun c1 => ⟨fun c => yes (Or.inr (Or.inl c)), fun c2 => ⟨fun c3 => p118 y _ _ v hG1 hG2 hG3 hG4 hv hEy (by
      rcases hWs with ⟨-, e⟩ | ⟨e, -⟩
      · exact Or.inl ⟨rfl, e⟩
      · exact absurd e (fun z => z.elim c1 (fun z => z.elim c2 c3))) h10 hBy n1 n2 n3 hcy (by
      rcases hvk with ⟨a1, a2, _, a4⟩ | ⟨_, _, a3, _⟩ | ⟨_, _, a3, _⟩
      · exact Or.inl ⟨a1, a2, rfl, a4⟩
      · exact absurd a3 (fun z => z.elim c1 (fun z => z.elim c2 c3))
      · exact absurd a3 (fun z => z.elim c1 (fun z => z.elim c2 c3))), fun c => yes (Or.inr (Or.inr c))⟩⟩⟩
  have p63 : ∀ y, nn y = nn x + 1 → y.1 42 (nn x) = 0 → KA K V sN e y → nn y ≤ e → KV' K e y Ev → 10 < o.toInt → BB x0 y M (fun _ => False) → nx x < nx y → (om y = om x ∧ y.1 60 13 = x.1 60 13 ∧ OPe x y) → ssm y = ssm x → (∀ c k, ccS c k → y.1 c k = x.1 c k) → KE G q (d + 11) zk_X7_plainStatement 63 [(0, vr 100), (1, vi o), (2, vi l)] [] y (rv Fv) X := by
    intro y en u0 hAy hny hEy h10 hBy n1 n2 n3 hcy
    have by0 := hBy.1.1.2.1
    have one : ∀ v : Nat × Nat × Nat, ∀ j, nn x ≤ j → j < nn y → ¬ y.1 42 j = 0 → HB sN Ev v j (y.1 42 j) := fun v j h1 h2 h3 => by
      have ej : j = nn x := by omega
      rw [ej] at h3
      exact absurd u0 h3
    refine kg_X7_plainStatement_63 hq _ _ ⟨fun c => ?_, fun c => ?_⟩
    · have hk : ((o = 14 ∨ o = 18) ∧ (K (nn x) = 13 ∨ K (nn x) = 14)) ∨ ((o = 11 ∨ o = 12 ∨ o = 19) ∧ (K (nn x) = 20 ∨ K (nn x) = 31 ∨ K (nn x) = 19)) := by
        rcases hko with ⟨e, -⟩ | ⟨-, e, -⟩ | ⟨e, -⟩ | e | e
        · omega
        · omega
        · exact absurd e c
        · exact Or.inl e
        · exact Or.inr e
      rcases hk with ⟨ho9, hk⟩ | ⟨ho9, hk⟩
      · exact p95 y _ (69, nn x, 0) hAy hny (one _) (fun z _ => HA_dull (dull_k (by decide))) (stl_k (by decide)) hEy (Or.inr ⟨Or.inr ho9, by rw [eW, pS1_69 hk, en]⟩) h10 hBy n1 n2 n3 hcy (Or.inr (Or.inl ⟨rfl, rfl, Or.inr ho9, by rw [hop]; unfold opQ; rw [if_pos hk]⟩))
      · exact p95 y _ (68, nn x, 0) hAy hny (one _) (fun z _ => HA_dull (dull_k (by decide))) (stl_k (by decide)) hEy (Or.inl ⟨by rcases ho9 with e | e | e <;> rw [e] <;> decide, by rw [eW, pS1_68 hk, en]⟩) h10 hBy n1 n2 n3 hcy (Or.inl ⟨rfl, rfl, by rcases ho9 with e | e | e <;> rw [e] <;> decide, by rw [hop]; unfold opQ; rw [if_neg (by rcases hk with e | e | e <;> rw [e] <;> decide), if_pos hk]⟩)
    · have hk : K (nn x) = 15 := by
        rcases hko with ⟨e, -⟩ | ⟨-, e, -⟩ | ⟨-, e⟩ | ⟨e, -⟩ | ⟨e, -⟩
        · omega
        · omega
        · exact e
        · rw [c] at e; exact absurd e (by decide)
        · rw [c] at e; exact absurd e (by decide)
      have hW := pS1_70 (f := f) (c := c9) (L := L) hk
      rw [← eW] at hW
      refine kd_needFor hq 3 13 2 (by decide) (by decide) (by decide) (by decide) (fun no => hx1 (by rw [hW, if_neg (fun z => no (by rw [en]; exact z.1))])) hBy hAy hny (fun kk c7 z hBz nz gz en2 hAz hnz eu ht hcz => ⟨RB_at hBy.1.1, ?_⟩)
      rw [en] at kk c7 eu
      have en2 : nn z = nn x + 2 := by omega
      refine kd_need (xs := z) (Ml := []) (Ev := Ev) hq 28 68 (by decide) (by decide) (by decide) (fun no => hx1 (by rw [hW, if_neg (fun z => no (by rw [en2]; exact z.2))])) hBz ⟨hAz, hnz, UR_0 rfl⟩ (fun kk2 c72 w hBw nw gw en3 hRw u2 hcw => ?_)
      rw [en2] at kk2 c72 u2
      have en3 : nn w = nn x + 3 := by omega
      rw [if_pos ⟨⟨kk, c7⟩, kk2, c72⟩] at hW
      have bz0 := hBz.1.1.2.1
      have bw0 := hBw.1.1.2.1
      obtain ⟨-, la1⟩ := La_nn by0 gz.1
      obtain ⟨-, la2⟩ := La_nn bz0 gw.1
      have w0 : w.1 42 (nn x) = 0 := by rw [la2 _ (by omega), la1 _ (by omega)]; exact u0
      have w1 : w.1 42 (nn x + 1) = 13 := by rw [la2 _ (by omega)]; exact eu
      refine p95 w _ (70, nn x, nn x + 1) hRw.1 hRw.2.1 (fun j h1 h2 h3 => ?_) (fun v lv => ?_) (stl_k (by decide)) (KV_GS gw (KV_GS gz hEy)) (Or.inr ⟨Or.inl c, by rw [hW, en3]⟩) h10 hBw (by omega) ⟨by rw [GS_om gw, GS_om gz]; exact n2.1, by rw [GS_at gw 60 13 (by unfold sSum; omega), GS_at gz 60 13 (by unfold sSum; omega)]; exact n2.2.1, OPe_tr (OPe_tr n2.2.2 (OPe_GS gz)) (OPe_GS gw)⟩ (by rw [GS_sm gw, GS_sm gz]; exact n3) (fun c k q => (hcw c k q).trans ((hcz c k q).trans (hcy c k q))) (Or.inr (Or.inr ⟨rfl, ?_, Or.inl c, c⟩))
      · have hj : j = nn x ∨ j = nn x + 1 ∨ j = nn x + 2 := by omega
        rcases hj with ej | ej | ej
        · rw [ej] at h3; exact absurd w0 h3
        · rw [ej, w1]; exact HB_70
        · rw [ej] at h3; exact absurd u2 h3
      · obtain ⟨lw1, lw2⟩ := La_nn bw0 lv
        exact HA_70.mpr ⟨by omega, by rw [lw2 _ (by omega)]; exact w1⟩
      · have m9 : (y.1 100 4).toNatClampNeg = nn x + 1 := en
        rw [m9]
        exact hAz.2.1 _ (by omega) kk
  have kk0 : ¬ K (nn x) = 0 ∧ ¬ K (nn x) = 3 := by
    rcases hko with ⟨-, e | e | e | e | e⟩ | ⟨-, -, e | e⟩ | ⟨-, e⟩ | ⟨-, e | e⟩ | ⟨-, e | e | e⟩ <;> rw [e] <;> decide
  have p14 : ∀ s : Int32, ((s = 0 ∧ ¬ K (nn x) = 40) ∨ (s = 1 ∧ K (nn x) = 40)) → KE G q (d + 11) zk_X7_plainStatement 14 [(0, vr 100), (1, vi o), (2, vi l)] [vi s] x (rv Fv) X := by
    intro s hs40
    refine kg_X7_plainStatement_14 hq _ _ _ (kd_pass (xs := x) (Ml := []) (Ev := Ev) hq (fun c7 => hx (Or.inr c7)) hB ⟨hA, hn, UR_0 rfl⟩ kk0.1 kk0.2 (fun c7 y hBy ny gy en hRy u0 hcy => ?_))
    have e1 := GS_sm gy
    have e2 := GS_om gy
    have e3 : y.1 60 13 = x.1 60 13 := GS_at gy _ _ (by unfold sSum; omega)
    refine ⟨fun c => ?_, fun c => ⟨fun c2 => p63 y en u0 hRy.1 hRy.2.1 (KV_GS gy hE) (by rw [t_lt, k10] at c2; exact c2) hBy (by omega) ⟨e2, e3, OPe_GS gy⟩ e1 hcy, fun c2 => ?_⟩⟩
    · exfalso; rw [t_lt, k5] at c; omega
    rw [t_lt, k10] at c2
    obtain ⟨v, hvv, hW⟩ : ∃ v : Nat × Nat × Nat, ((o.toInt ≤ 8 ∧ v = (66, nn x, nn x + 1)) ∨ (9 ≤ o.toInt ∧ v = (67, nn x, nn x + 1))) ∧ W = if K (nn x + 1) = 1 ∧ nn x + 1 < 700 then pup c9 v (pt K 67 (nn x + 2, L)) else none := by
      rcases hko with ⟨e, hk⟩ | ⟨e, -, hk⟩ | ⟨e, -⟩ | ⟨e, -⟩ | ⟨e, -⟩
      · exact ⟨_, Or.inl ⟨e, rfl⟩, by rw [eW, pS1_66 hk]⟩
      · exact ⟨_, Or.inr ⟨e, rfl⟩, by rw [eW, pS1_67 hk]⟩
      · rw [e] at c2; exact absurd (show (10 : Int) < (13 : Int32).toInt by decide) c2
      · rcases e with e | e <;> (rw [e] at c2; exact absurd (by decide) c2)
      · rcases e with e | e | e <;> (rw [e] at c2; exact absurd (by decide) c2)
    have by0 := hBy.1.1.2.1
    refine kd_nameStep hq (fun no => hx1 (by rw [hW, if_neg (fun z => no (by rw [en]; exact z))])) hRy.1 hRy.2.1 hBy (by omega) o l h5 (by omega) (fun z hBz nz sz oz opz vin z13 kk c72 enz hAz hnz laz huz z9 z109 opz9 hsk => ?_)
    rw [en] at kk c72 huz enz
    rw [if_pos ⟨kk, c72⟩] at hW
    obtain ⟨-, la1⟩ := La_nn by0 laz
    have w0 : z.1 42 (nn x) = 0 := by rw [la1 _ (by omega)]; exact u0
    have hRz : RIw K V sN e Ev x z ([] ++ [v]) := by
      refine ⟨hAz, hnz, HAs_one.mpr ?_, fun j h1 h2 h3 => HBs_one.mpr ?_⟩
      · rcases hvv with ⟨e1, e⟩ | ⟨e1, e⟩ <;> rcases huz with ⟨e2, e3⟩ | ⟨e2, e3⟩
        · rw [e]; exact HA_66.mpr ⟨by omega, e3⟩
        · omega
        · omega
        · rw [e]; exact HA_67.mpr ⟨by omega, e3⟩
      · have hj : j = nn x ∨ j = nn x + 1 := by omega
        rcases hj with ej | ej
        · rw [ej] at h3; exact absurd w0 h3
        · rw [ej]
          rcases hvv with ⟨e1, e⟩ | ⟨e1, e⟩ <;> rcases huz with ⟨e2, e3⟩ | ⟨e2, e3⟩
          · rw [e, e3]; exact HB_66
          · omega
          · omega
          · rw [e, e3]; exact HB_67
    have hvs : still ([] ++ [v]) := by
      rcases hvv with ⟨-, e⟩ | ⟨-, e⟩ <;> (rw [e]; exact stl_k (by decide))
    have hEz : KV' K e z Ev := KV_fm (KV_GS gy hE) z9 z109
    have fin : ∀ (v8 : Int32) (w : gd), (v8 = 1 ↔ K (nn x) = 40) → w = si z 84 (y.1 80 9).toNatClampNeg v8 → KE G q (d + 11) zk_X7_plainStatement 180 [(0, vr 100)] [] w (rv Fv) X := by
      intro v8 w hv8 ew
      have fw : fm (fun c k => c = 84 ∧ k = (y.1 80 9).toNatClampNeg) z w := by rw [ew]; exact fm_si (fm_rf _ _) ⟨rfl, rfl⟩
      have e4 : nx w = nx z := by unfold nx; rw [fw 100 4 (by omega)]
      have e13 : om w = om z := by unfold om; rw [fw 100 13 (by omega)]
      have es : ssm w = ssm z := by unfold ssm; rw [fw 80 9 (by omega)]
      have la : La z w := ⟨fun c k q1 q2 => fw c k (by omega), by omega, fun j _ => fw 42 j (by omega)⟩
      have nw9 : nn w = nn x + 2 := by rw [← enz]; unfold nn; rw [fw 100 4 (by omega)]
      refine p180 w [] v (RI_st hRz (fw _ _ (by omega)) (fun j => fw _ _ (by omega)) (fun c k q1 q2 => fw _ _ (by omega))) hvs (by rw [hW, nw9, List.append_nil]) (KV_fm hEz (fw _ _ (by omega)) (fun k => fw _ _ (by omega))) ?_ (by omega) ⟨by omega, by rw [fw 60 13 (by omega), z13, e3], OPe_tr (OPe_tr (OPe_GS gy) opz9) (OPe_st (fm_w fw (fun c k q => Or.inl ⟨by omega, by omega, q.2⟩)))⟩ (by omega) (CG_nm (i := nn x) (j := nn x + 1) (KV_GS gy hE) hcy (stK_84 hsk ew) (hvv.imp (fun q => q.2) (fun q => q.2)) ?_ ?_ hv8)
      rotate_left
      · rw [hop]
        unfold opQ
        have hk9 : ¬ (K (nn x) = 13 ∨ K (nn x) = 14) ∧ ¬ (K (nn x) = 20 ∨ K (nn x) = 31 ∨ K (nn x) = 19) ∧ ¬ K (nn x) = 15 := by
          rcases hko with ⟨-, e | e | e | e | e⟩ | ⟨-, -, e | e⟩ | ⟨e, -⟩ | ⟨e, -⟩ | ⟨e, -⟩
          · rw [e]; decide
          · rw [e]; decide
          · rw [e]; decide
          · rw [e]; decide
          · rw [e]; decide
          · rw [e]; decide
          · rw [e]; decide
          · rw [e] at c2; exact absurd (by decide) c2
          · rcases e with e | e <;> (rw [e] at c2; exact absurd (by decide) c2)
          · rcases e with e | e | e <;> (rw [e] at c2; exact absurd (by decide) c2)
        rw [if_neg hk9.1, if_neg hk9.2.1, if_neg hk9.2.2]
      · have := nn_is by0
        unfold nx at this
        omega
      obtain ⟨hS, hF, ⟨r1, r2, r3, ⟨r4, r6⟩, r7⟩, hC, r5, r0, hI⟩ := hBz
      have z5 : w.1 100 5 = z.1 100 5 := fw _ _ (by omega)
      refine ⟨?_, ?_, ⟨fun c => ?_, NM_fm r2 (fun c k q1 q2 q3 q4 => fw c k (by omega)) (fw _ _ (by omega)) (fw _ _ (by omega)), ?_, ⟨by omega, fun i hi => ?_⟩, ?_⟩, fun i hi he => ?_, by rw [z5]; exact r5, fm_tr r0 (fm_w fw (fun c k q => by unfold sR; omega)), TR_eq hI id (fw _ _ (by omega)) (fun k => fw _ _ (by omega))⟩
      · obtain ⟨⟨hT, b1, b2, b3⟩, ⟨u1, u2⟩, hp, hP⟩ := hS
        unfold SU SV US RB mt
        rw [fw 20 7 (by omega), fw 60 3 (by omega), e4]
        refine ⟨⟨kT_fm hT la.1, b1, b2, b3⟩, ⟨fun j h1 h2 => ?_, fun j h1 h2 => ?_⟩, hp, fun i hi => La_PQ la (fw _ _ (by omega)) (fw _ _ (by omega)) (hP i hi)⟩
        · rw [fw 42 j (by omega)]; exact u1 j h1 h2
        · rw [fw 42 j (by omega)] at h2; rw [fw 42 _ (by omega)]; exact u2 j h1 h2
      · unfold FR at hF ⊢
        rw [fw 100 4 (by omega), fw 42 _ (by omega)]; exact hF
      · obtain ⟨k1, o1, o2, o3, o4⟩ := r1 r5
        refine ⟨KN_fm k1 (fw _ _ (by omega)) (fw _ _ (by omega)) (fun k => fw _ _ (by omega)), ?_⟩
        unfold OPs
        rw [e13, fw 100 9 (by omega), fw 100 7 (by omega)]
        refine ⟨o1, fun k hk => OP1_eq (fun j => fw _ _ (by omega)) (fw _ _ (by omega)) (fun c j q1 q2 => fw _ _ (by omega)) (fw _ _ (by omega)) (o2 k hk), fun j k hj hk => ?_, o4⟩
        rw [fw 113 j (by omega), fw 113 k (by omega)]; exact o3 j k hj hk
      · unfold CD at r3 ⊢
        rw [fw 60 6 (by omega), fw 60 9 (by omega), fw 60 10 (by omega), fw 60 14 (by omega), fw 60 16 (by omega), fw 60 13 (by omega), z5, fw 100 9 (by omega), fw 40 8 (by omega), fw 40 10 (by omega)]
        exact r3
      · by_cases hi2 : i = (y.1 80 9).toNatClampNeg
        · have g := r6 i (by omega)
          rw [hi2] at g ⊢
          unfold SA at g ⊢
          have ep : sop w (y.1 80 9).toNatClampNeg = sop z (y.1 80 9).toNatClampNeg := by unfold sop; rw [fw 81 _ (by omega)]
          rw [ep, opz, fw 83 _ (by omega), fw 85 _ (by omega), e4]
          rw [opz] at g
          refine ⟨g.1, g.2.1, fun c => ?_, fun c => by omega⟩
          obtain ⟨t, t1, t2, t3⟩ := g.2.2.1 c
          refine ⟨t, t1, t2, ?_⟩
          rw [fw 42 t (by omega)]; exact t3
        · exact SA_La la (fw _ _ (by omega)) (fw _ _ (by omega)) (fw _ _ (by omega)) (fw _ _ (by omega)) (Int.le_refl _) (r6 i (by omega))
      · unfold TS at r7 ⊢
        rw [fw 60 10 (by omega), z5, es]
        refine ⟨fun t ht => ?_, fun c => absurd c r5⟩
        rw [fw 72 t (by omega)]; exact r7.1 t ht
      · by_cases hi2 : i = (y.1 80 9).toNatClampNeg
        · rw [hi2]
          refine SC_no ?_ ?_ <;> (unfold sop at *; rw [fw 81 _ (by omega), opz]; omega)
        · exact SC_eq (fun j => fw _ _ (by omega)) (fw _ _ (by omega)) (fw _ _ (by omega)) (fw _ _ (by omega)) z5 (fun j => fw _ _ (by omega)) (hC i (by omega) he)
    exact ⟨fun s0 => ⟨vin, fun w ew => fin _ w ⟨fun q => absurd q (by decide), fun q => by
      rcases hs40 with ⟨-, e⟩ | ⟨e, -⟩
      · exact absurd q e
      · rw [e] at s0; exact absurd s0 (by decide)⟩ ew⟩, fun s0 => ⟨vin, fun w ew => fin _ w ⟨fun _ => by
      rcases hs40 with ⟨e, -⟩ | ⟨-, e⟩
      · exact absurd e s0
      · exact e, fun _ => rfl⟩ ew⟩⟩
  exact kg_X7_plainStatement_0 hq _ _ (kp_sort hq hB.1.1 ⟨fun c => p14 _ (Or.inl ⟨rfl, fun q => c ((KA_k hA hn 70 (by decide)).mpr q)⟩), fun c => p14 _ (Or.inr ⟨rfl, (KA_k hA hn 70 (by decide)).mp c⟩)⟩)
end KPL
end
section
/-! the class: what is set -/
abbrev E0 : Nat → Prop := fun _ => False
section KSR
variable {G : kG} {q : kP} {d : Nat} {x x0 y z : gd} {F : Int32 → gd → Prop} {Fv : gd → Prop} {X : String → gd → Prop} {P : Option gv → gd → Prop} {M : Int} {E : Nat → Prop}
/-- changes that no invariant sees, and of uses that are nothing yet -/
theorem BB_use (hB : BB x0 x M E) {t : Nat} (ht : (t : Int) < nx x) (h0 : x.1 42 t = 0) (hv : ¬ z.1 42 t = 12) (f : fm (fun c k => c = 43 ∨ (86 ≤ c ∧ c ≤ 89) ∨ (c = 42 ∧ k = t)) x z) : BB x0 z M E := by
  obtain ⟨hS, hF, ⟨r1, r2, r3, ⟨r4, r6⟩, r7⟩, hC, r5, r0, hI⟩ := hB
  have e4 : nx z = nx x := by unfold nx; rw [f 100 4 (by omega)]
  have es : ssm z = ssm x := by unfold ssm; rw [f 80 9 (by omega)]
  have eo : om z = om x := by unfold om; rw [f 100 13 (by omega)]
  have z5 : z.1 100 5 = x.1 100 5 := f _ _ (by omega)
  have bu : BU x → BU z := by
    rintro ⟨j, j1, j2⟩
    have hj : j ≠ t := fun e => by rw [e, h0] at j2; revert j2; decide
    exact ⟨j, by omega, by rw [f 42 j (by omega)]; exact j2⟩
  have tt : ∀ (j : Nat) (u : Int32), ¬ u = 0 → x.1 42 j = u → z.1 42 j = u := by
    intro j u hu e
    have hj : j ≠ t := fun e2 => by rw [e2, h0] at e; exact hu e.symm
    rw [f 42 j (by omega)]; exact e
  refine ⟨?_, ?_, ⟨fun c => ?_, NM_fm r2 (fun c k q1 q2 q3 q4 => f c k (by omega)) (f _ _ (by omega)) (f _ _ (by omega)), ?_, ⟨by omega, fun i hi => ?_⟩, ?_⟩, fun i hi he => ?_, by rw [z5]; exact r5, fm_tr r0 (fm_w f (fun c k q => by unfold sR; omega)), TR_eq hI id (f _ _ (by omega)) (fun k => f _ _ (by omega))⟩
  · obtain ⟨⟨hT, b1, b2, b3⟩, ⟨u1, u2⟩, hp, hP⟩ := hS
    unfold SU SV US RB mt
    rw [f 20 7 (by omega), f 60 3 (by omega), e4]
    refine ⟨⟨kT_fm hT (fun c k q1 q2 => f c k (by omega)), b1, b2, b3⟩, ⟨fun j h1 h2 => ?_, fun j h1 h2 => ?_⟩, hp, fun i hi => ?_⟩
    · rw [f 42 j (by omega)]; exact u1 j h1 h2
    · have hj : j ≠ t := fun e => by rw [e] at h2; exact hv h2
      rw [f 42 j (by omega)] at h2
      obtain ⟨p1, p2⟩ := u2 j h1 h2
      exact ⟨p1, tt _ _ (by decide) p2⟩
    · have := hP i hi
      unfold PQ at this ⊢
      rw [f 62 i (by omega), f 63 i (by omega), e4]
      refine ⟨fun c => (this.1 c).imp id bu, fun c => ?_⟩
      obtain ⟨s, s1, s2, s3⟩ := this.2 c
      refine ⟨s, s1, s2, ?_⟩
      rcases s3 with s3 | ⟨s3, s4, s5, s6⟩
      · exact Or.inl (tt _ _ (by decide) s3)
      · exact Or.inr ⟨tt _ _ (by decide) s3, s4, tt _ _ (by decide) s5, by rw [f 23 _ (by omega)]; exact s6⟩
  · unfold FR at hF ⊢
    have b1 := hS.1.2.1
    rw [f 100 4 (by omega), f 42 _ (by
      have : (((x.1 100 4).toNatClampNeg : Nat) : Int) = nx x := by rw [t_cl]; unfold nx at *; omega
      omega)]
    exact hF
  · obtain ⟨k1, o1, o2, o3, o4⟩ := r1 r5
    refine ⟨KN_fm k1 (f _ _ (by omega)) (f _ _ (by omega)) (fun k => f _ _ (by omega)), ?_⟩
    unfold OPs
    rw [eo, f 100 9 (by omega), f 100 7 (by omega)]
    refine ⟨o1, fun k hk => OP1_eq (fun j => f _ _ (by omega)) (f _ _ (by omega)) (fun c j q1 q2 => f _ _ (by omega)) (f _ _ (by omega)) (o2 k hk), fun j k hj hk => ?_, o4⟩
    rw [f 113 j (by omega), f 113 k (by omega)]; exact o3 j k hj hk
  · unfold CD at r3 ⊢
    rw [f 60 6 (by omega), f 60 9 (by omega), f 60 10 (by omega), f 60 14 (by omega), f 60 16 (by omega), f 60 13 (by omega), z5, f 100 9 (by omega), f 40 8 (by omega), f 40 10 (by omega)]
    exact r3
  · have := r6 i (by omega)
    unfold SA sop stg at this ⊢
    rw [f 81 i (by omega), f 83 i (by omega), f 84 i (by omega), f 85 i (by omega), e4]
    refine ⟨this.1, this.2.1, fun c => ?_, fun c => (this.2.2.2 c).imp id bu⟩
    obtain ⟨s, s1, s2, s3, s4, s5⟩ := this.2.2.1 c
    refine ⟨s, s1, s2, fun c1 => ?_, fun c1 c2 => tt _ _ (by decide) (s4 c1 c2), fun c1 => tt _ _ (by decide) (s5 c1)⟩
    rcases s3 c1 with e | e | e | e
    · exact Or.inl (tt _ _ (by decide) e)
    · exact Or.inr (Or.inl (tt _ _ (by decide) e))
    · exact Or.inr (Or.inr (Or.inl (tt _ _ (by decide) e)))
    · exact Or.inr (Or.inr (Or.inr (tt _ _ (by decide) e)))
  · unfold TS at r7 ⊢
    rw [f 60 10 (by omega), z5, es]
    refine ⟨fun t ht => ?_, fun c => absurd c r5⟩
    rw [f 72 t (by omega)]; exact r7.1 t ht
  · exact SC_eq (fun j => f _ _ (by omega)) (f _ _ (by omega)) (f _ _ (by omega)) (f _ _ (by omega)) z5 (fun j => f _ _ (by omega)) (hC i (by omega) he)
/-- a cell's name -/
def PLc (y : gd) (a : Int32) : Prop := ∃ t : Nat, a.toInt = t ∧ (t : Int) < nx y ∧ (y.1 42 t = 6 ∨ y.1 42 t = 7 ∨ y.1 42 t = 8 ∨ y.1 42 t = 9)
theorem PLc_La {a : Int32} (la : La x y) (h : PLc x a) : PLc y a := by
  obtain ⟨t, t1, t2, t3⟩ := h
  have := la.2.1
  exact ⟨t, t1, by omega, by rw [la.2.2 t t2]; exact t3⟩
end KSR
end
section
/-! the class: what is set, its code while it is under way -/
def rgT (t : Option Nat) (tk : Nat) : gRg := match t with
  | none => ([], [], 0, false, none, tk)
  | some _ => rg0
def tkB (t : Option Nat) (tk : Nat) : Nat := match t with
  | none => tk
  | some t0 => t0
/-- the events N, from x to y: no step yet, the sums Su written (where, what), a place told -/
def PD (sN : Nat → Nat → Bool) (V K : Nat → Int32) (Ev : gV) (x y : gd) (t : Option Nat) (N : gU) (Su : List (Int32 × gU)) (pl : Nat) (ro : Bool) : Prop := still N ∧ (∀ d, ces K V N d = d) ∧ (∀ q ∈ Su, sEv false q.2) ∧ (∀ (Ec : gV) (S : List gSt) (k : List Nat) (w : List (Nat × Nat) × List (Nat × gU)) (tk : Nat), ¬ Ec.2.1 = [] → cds sN K N (Ec, S, k, rgT t tk, w) = (Ec, S, k, ([], Su.map Prod.snd, pl, ro, t, tkB t tk), w)) ∧ ∀ c d P, eqE c.1 Ev → CCp sN V K x c d P → CCp sN V K y c d (P ++ tPs sN V K N Ev) ∧ ∀ q ∈ Su, SUc (P ++ tPs sN V K N Ev) q.1 (sPs sN V K Ev q.2)
/-- all of it, with its step -/
def CGs (sN : Nat → Nat → Bool) (V K : Nat → Int32) (Ev : gV) (x z : gd) (t : Option Nat) (N : gU) : Prop := ∀ tk c d P, eqE c.1 Ev → c.2.2.2.1 = rgT t tk → CCp sN V K x c d P → CCp sN V K z (cds sN K N c) (ces K V N d) (P ++ tPs sN V K N Ev) ∧ eqE (cds sN K N c).1 (exs N Ev) ∧ (cds sN K N c).2.2.2.1 = rg0
/-- where it goes: a local by its number, or a cell by its name's token -/
def TGc (sN : Nat → Nat → Bool) (Ev : gV) (t : Option Nat) (a b : Int32) : Prop := (toL sN Ev.1 t = none ∧ a = -1 ∧ ∃ t0, t = some t0 ∧ b.toInt = (t0 : Nat)) ∨ ∃ p, toL sN Ev.1 t = some p ∧ ¬ a = -1 ∧ a.toInt = (p : Nat)
def inS (Su : List (Int32 × gU)) (v : Int32) (o : Option gU) : Prop := match o with
  | none => v = -1
  | some N => (v, N) ∈ Su
/-- behind a place: its index's sum, and the sums Q -/
def PDp (sN : Nat → Nat → Bool) (V K : Nat → Int32) (Ev : gV) (x y : gd) (t : Option Nat) (N : gU) (b2 i2 : Int32) (Q : List (Int32 × gU)) : Prop := ∃ pl ro Si, b2.toInt = ((pl : Nat) : Int) ∧ ((ro = false ∧ i2 = -1 ∧ Si = []) ∨ (ro = true ∧ ∃ N1, Si = [(i2, N1)])) ∧ PD sN V K Ev x y t N (Si ++ Q) pl ro
section KPD
variable {sN : Nat → Nat → Bool} {V K : Nat → Int32} {Ev : gV} {x y z w : gd} {N N' : gU} {v : Nat × Nat × Nat} {e i j pl : Nat} {o a b ob b2 i2 f2 e2 ix e9 f9 r : Int32} {t : Option Nat} {Su Q : List (Int32 × gU)} {ro : Bool}
theorem PD_0 (fr : ∀ c k, ccS c k → y.1 c k = x.1 c k) (hN : N = pme t ∨ N = pma t) : PD sN V K Ev x y t N [] 0 false := by
  have go : ∀ N0 : gU, tPs sN V K N0 Ev = [] → ∀ c d P, eqE c.1 Ev → CCp sN V K x c d P → CCp sN V K y c d (P ++ tPs sN V K N0 Ev) ∧ ∀ q ∈ ([] : List (Int32 × gU)), SUc (P ++ tPs sN V K N0 Ev) q.1 (sPs sN V K Ev q.2) := fun N0 e c d P he hc => by
    rw [e, List.append_nil]
    exact ⟨CCp_eq fr hc, fun q hq => by cases hq⟩
  cases t with
  | none =>
    have e : N = [] := by rcases hN with e | e <;> exact e
    rw [e]
    exact ⟨still_nil, fun d => rfl, fun q hq => (by cases hq), fun Ec S k w tk _ => rfl, go [] rfl⟩
  | some t0 =>
    rcases hN with e | e
    · have e : N = [(26, t0, 0)] := e
      rw [e]
      exact ⟨stl_k (by decide), fun d => rfl, fun q hq => (by cases hq), fun Ec S k w tk _ => rfl, go _ rfl⟩
    · have e : N = [(25, t0, 0)] := e
      rw [e]
      exact ⟨stl_k (by decide), fun d => rfl, fun q hq => (by cases hq), fun Ec S k w tk _ => rfl, go _ rfl⟩
theorem PD_fr (h : PD sN V K Ev x y t N Su pl ro) (fr : ∀ c k, ccS c k → z.1 c k = y.1 c k) : PD sN V K Ev x z t N Su pl ro := ⟨h.1, h.2.1, h.2.2.1, h.2.2.2.1, fun c d P he hc => ⟨CCp_eq fr (h.2.2.2.2 c d P he hc).1, (h.2.2.2.2 c d P he hc).2⟩⟩
theorem PD_6 (h : PD sN V K Ev x y t N Su pl ro) (hEv : ¬ Ev.2.1 = []) : PD sN V K Ev x y t (N ++ [(6, i, 0)]) Su i false := by
  obtain ⟨h1, h2, h3, h4, h5⟩ := h
  have ep : tPs sN V K (N ++ [(6, i, 0)]) Ev = tPs sN V K N Ev := by
    rw [tPs_app, exs_still h1]
    have : tPs sN V K [(6, i, 0)] Ev = [] := by
      show (if Ev.2.1 = [] then some ((6 : Int32), Int32.ofNat i) else none).toList ++ [] = []
      rw [if_neg hEv]; rfl
    rw [this, List.append_nil]
  refine ⟨still_app h1 (stl_k (by decide)), fun d => by rw [ces_app, h2]; rfl, h3, fun Ec S k w tk hE => ?_, fun c d P he hc => by rw [ep]; exact h5 c d P he hc⟩
  rw [cds_app, h4 _ _ _ _ _ hE, cds_one, cd_6 hE]
theorem PD_7 (h : PD sN V K Ev x y t N Su pl ro) (hEv : ¬ Ev.2.1 = []) : PD sN V K Ev x y t (N ++ [(7, i, 0)]) Su i true := by
  obtain ⟨h1, h2, h3, h4, h5⟩ := h
  have ep : tPs sN V K (N ++ [(7, i, 0)]) Ev = tPs sN V K N Ev := by
    rw [tPs_app, exs_still h1]
    have : tPs sN V K [(7, i, 0)] Ev = [] := by
      show (if Ev.2.1 = [] then some ((6 : Int32), Int32.ofNat i) else none).toList ++ [] = []
      rw [if_neg hEv]; rfl
    rw [this, List.append_nil]
  refine ⟨still_app h1 (stl_k (by decide)), fun d => by rw [ces_app, h2]; rfl, h3, fun Ec S k w tk hE => ?_, fun c d P he hc => by rw [ep]; exact h5 c d P he hc⟩
  rw [cds_app, h4 _ _ _ _ _ hE, cds_one, cd_7 hE]
/-- one more sum is written -/
theorem PD_x (h : PD sN V K Ev x y t N Su pl ro) (hs : sEv false N') (hp : CPl y z (sPs sN V K Ev (N' ++ [(54, 0, 0)]))) (fr : ∀ c k, ccS c k → ¬ (c = 60 ∧ k = 3) → ¬ c = 62 → ¬ c = 63 → z.1 c k = y.1 c k) (hr : r = y.1 60 3) : PD sN V K Ev x z t (N ++ (N' ++ [(54, 0, 0)])) (Su ++ [(r, N')]) pl ro := by
  obtain ⟨h1, h2, h3, h4, h5⟩ := h
  have ep : tPs sN V K (N ++ (N' ++ [(54, 0, 0)])) Ev = tPs sN V K N Ev ++ sPs sN V K Ev (N' ++ [(54, 0, 0)]) := by
    rw [tPs_app, exs_still h1, tPs_x hs]
  refine ⟨still_app h1 (still_54 (sEv_still hs)), fun d => by rw [ces_app, h2, ces_app, sEv_ce hs]; rfl, fun q hq => ?_, fun Ec S k w tk hE => ?_, fun c d P he hc => ?_⟩
  · rcases List.mem_append.mp hq with q1 | q1
    · exact h3 q q1
    · rw [List.mem_singleton.mp q1]; exact hs
  · rw [cds_app, h4 _ _ _ _ _ hE, cds_x hs hE, List.map_append]; rfl
  · obtain ⟨g1, g2⟩ := h5 c d P he hc
    obtain ⟨Ec, S, k, rr, ww⟩ := c
    rw [ep, ← List.append_assoc]
    refine ⟨CCp_sum (r' := rr) g1 hp fr, fun q hq => ?_⟩
    rcases List.mem_append.mp hq with q1 | q1
    · exact SUc_mono (g2 q q1) _
    · rw [List.mem_singleton.mp q1, sPs_54]
      exact SUc_next g1.1 hr _
theorem toL_eq {E E' : gV} (h : eqE E E') : toL sN E.1 t = toL sN E'.1 t := by
  cases t with
  | none => exact congrArg some (eqE_len h)
  | some t0 => exact kfi_len h.1
/-- the step -/
theorem PD_endt {op : Nat} {tf : Nat → Nat} {to obj : Option Nat} {fl : Bool} {ixs es fs : Option gU} (h : PD sN V K Ev x y t N Su pl ro) (hEv : ¬ Ev.2.1 = []) (hE : KV' K e y Ev) (ha : stK y z o (y.1 100 9) a ob ix e9 f9) (hcd : ∀ (Ec : gV) S k w tk, eqE Ec Ev → cdV sN K (Ec, S, k, ([], Su.map Prod.snd, pl, ro, t, tk), w) v = (Ec, S ++ [(op, tf tk, knw Ec, to, obj, fl, ixs, es, fs)], k, rg0, w)) (ho : o = Int32.ofNat op) (h8 : ¬ op = 8) (h13 : ¬ op = 13) (hto : (op = 0 ∨ (2 ≤ op ∧ op ≤ 4) ∨ op = 16 ∨ op = 17 ∨ op = 20) → tgI a to) (hob : ¬ op = 16 → tgI ob obj) (hix : inS Su ix ixs) (hes : inS Su e9 es) (hfs : inS Su f9 fs) (hv1 : still [v]) (hv2 : ∀ d, ces K V [v] d = d) (hv3 : tPs sN V K [v] Ev = []) : CGs sN V K Ev x z t (N ++ [v]) := by
  obtain ⟨h1, h2, h3, h4, h5⟩ := h
  intro tk c d P he hr hc
  obtain ⟨Ec, S, k, rr, ww⟩ := c
  have hr : rr = rgT t tk := hr
  have he : eqE Ec Ev := he
  obtain ⟨g1, g2⟩ := h5 _ d P he hc
  have hEc : ¬ Ec.2.1 = [] := by rw [he.2]; exact hEv
  have kl : (y.1 100 9).toInt = (Ec.1.length : Nat) := by rw [hE.1, eqE_len he]
  have su : ∀ (v9 : Int32) (o9 : Option gU), inS Su v9 o9 → cSu sN V K (P ++ tPs sN V K N Ev) Ec.1 v9 o9 := by
    intro v9 o9 hi
    cases o9 with
    | none => exact hi
    | some N9 =>
      have hi : (v9, N9) ∈ Su := hi
      have q1 := g2 _ hi
      have q2 : sPs sN V K Ev N9 = sPs sN V K (Ec.1, [0], 0) N9 := sPs_E (h3 _ hi) (fun t => kfi_len he.1.symm)
      show SUc _ _ (sPs sN V K (Ec.1, [0], 0) N9)
      rw [← q2]
      exact q1
  have q := CCp_add (st := (op, tf (tkB t tk), knw Ec, to, obj, fl, ixs, es, fs)) (r' := rg0) g1 ha ho kl hto (fun q => absurd q h8) (fun q => by
    have q : ¬ op = 16 := q
    have hob := hob q
    cases obj with
    | none => exact hob
    | some n =>
      show if op = 13 then ob = V n else ob.toInt = (n : Nat)
      rw [if_neg h13]
      exact hob) (su _ _ hix) (su _ _ hes) (su _ _ hfs)
  have ec : cds sN K (N ++ [v]) (Ec, S, k, rr, ww) = (Ec, S ++ [(op, tf (tkB t tk), knw Ec, to, obj, fl, ixs, es, fs)], k, rg0, ww) := by
    rw [hr, cds_app, h4 _ _ _ _ _ hEc, cds_one, hcd _ _ _ _ _ he]
  have ee : ces K V (N ++ [v]) d = d := by rw [ces_app, h2, hv2]
  have ep : tPs sN V K (N ++ [v]) Ev = tPs sN V K N Ev := by rw [tPs_app, exs_still h1, hv3, List.append_nil]
  rw [ec, ee, ep, exs_still (still_app h1 hv1)]
  exact ⟨q, he, rfl⟩
theorem PD_end {op : Nat} {to obj : Option Nat} {fl : Bool} {ixs es fs : Option gU} (h : PD sN V K Ev x y t N Su pl ro) (hEv : ¬ Ev.2.1 = []) (hE : KV' K e y Ev) (ha : stK y z o (y.1 100 9) a ob ix e9 f9) (hcd : ∀ (Ec : gV) S k w tk, eqE Ec Ev → cdV sN K (Ec, S, k, ([], Su.map Prod.snd, pl, ro, t, tk), w) v = (Ec, S ++ [(op, tk, knw Ec, to, obj, fl, ixs, es, fs)], k, rg0, w)) (ho : o = Int32.ofNat op) (h8 : ¬ op = 8) (h13 : ¬ op = 13) (hto : (op = 0 ∨ (2 ≤ op ∧ op ≤ 4) ∨ op = 16 ∨ op = 17 ∨ op = 20) → tgI a to) (hob : ¬ op = 16 → tgI ob obj) (hix : inS Su ix ixs) (hes : inS Su e9 es) (hfs : inS Su f9 fs) (hv1 : still [v]) (hv2 : ∀ d, ces K V [v] d = d) (hv3 : tPs sN V K [v] Ev = []) : CGs sN V K Ev x z t (N ++ [v]) := PD_endt (tf := fun n => n) h hEv hE ha hcd ho h8 h13 hto hob hix hes hfs hv1 hv2 hv3
theorem TGc_a (h : TGc sN Ev t a b) : tgI a (toL sN Ev.1 t) := by
  rcases h with ⟨e1, e2, -⟩ | ⟨p, e1, -, e2⟩
  · rw [e1]; exact e2
  · rw [e1]; exact e2
theorem opX_c (k : Int32) : 2 ≤ opX k ∧ opX k ≤ 4 := by
  unfold opX
  split
  · decide
  · split <;> decide
/-- reading -/
theorem PD_75 (h : PDp sN V K Ev x y t N b2 i2 []) (hEv : ¬ Ev.2.1 = []) (hE : KV' K e y Ev) (hT : TGc sN Ev t a b) (ha : stK y z 0 (y.1 100 9) a b2 i2 (-1) (-1)) : CGs sN V K Ev x z t (N ++ [(75, i, 0)]) := by
  obtain ⟨pl, ro, Si, eb, hS, h⟩ := h
  rw [List.append_nil] at h
  refine PD_end (op := 0) (to := toL sN Ev.1 t) (obj := some pl) (fl := ro) (ixs := if ro = true then some ((Si.map Prod.snd).getD 0 []) else none) (es := none) (fs := none) h hEv hE ha (fun Ec S k w tk he => ?_) rfl (by decide) (by decide) (fun _ => TGc_a hT) (fun _ => eb) ?_ rfl rfl (stl_k (by decide)) (fun d => rfl) rfl
  · rw [cd_75, toL_eq he]
  · rcases hS with ⟨e1, e2, e3⟩ | ⟨e1, N1, e3⟩
    · rw [e1]; exact e2
    · rw [e1, e3]
      exact List.mem_singleton.mpr rfl
/-- exchange, add -/
theorem PD_74 {N2 : gU} (h : PDp sN V K Ev x y t N b2 i2 [(f2, N2)]) (hEv : ¬ Ev.2.1 = []) (hE : KV' K e y Ev) (hT : TGc sN Ev t a b) (hK : ¬ K i = 16) (ho : o = Int32.ofNat (opX (K i))) (ha : stK y z o (y.1 100 9) a b2 i2 f2 (-1)) : CGs sN V K Ev x z t (N ++ [(74, i, 0)]) := by
  obtain ⟨pl, ro, Si, eb, hS, h⟩ := h
  have op := opX_c (K i)
  rcases hS with ⟨e1, e2, e3⟩ | ⟨e1, N1, e3⟩
  · rw [e1, e3] at h
    refine PD_end (op := opX (K i)) (to := toL sN Ev.1 t) (obj := some pl) (fl := false) (ixs := none) (es := some N2) (fs := none) h hEv hE ha (fun Ec S k w tk he => ?_) ho (by omega) (by omega) (fun _ => TGc_a hT) (fun _ => eb) e2 (List.mem_singleton.mpr rfl) rfl (stl_k (by decide)) (fun d => rfl) rfl
    rw [cd_74, ← toL_eq he]
    unfold cXc
    rw [if_neg (show ¬ false = true by decide), if_neg hK]
    rfl
  · rw [e1, e3] at h
    refine PD_end (op := opX (K i)) (to := toL sN Ev.1 t) (obj := some pl) (fl := true) (ixs := some N1) (es := some N2) (fs := none) h hEv hE ha (fun Ec S k w tk he => ?_) ho (by omega) (by omega) (fun _ => TGc_a hT) (fun _ => eb) List.mem_cons_self (List.mem_cons_of_mem _ (List.mem_singleton.mpr rfl)) rfl (stl_k (by decide)) (fun d => rfl) rfl
    rw [cd_74, ← toL_eq he]
    unfold cXc
    rw [if_pos rfl, if_neg hK]
    rfl
theorem PD_74c {N2 N3 : gU} (h : PDp sN V K Ev x y t N b2 i2 [(f2, N2), (e2, N3)]) (hEv : ¬ Ev.2.1 = []) (hE : KV' K e y Ev) (hT : TGc sN Ev t a b) (hK : K i = 16) (ha : stK y z 4 (y.1 100 9) a b2 i2 f2 e2) : CGs sN V K Ev x z t (N ++ [(74, i, 0)]) := by
  obtain ⟨pl, ro, Si, eb, hS, h⟩ := h
  rcases hS with ⟨e1, e3, e4⟩ | ⟨e1, N1, e4⟩
  · rw [e1, e4] at h
    refine PD_end (op := 4) (to := toL sN Ev.1 t) (obj := some pl) (fl := false) (ixs := none) (es := some N2) (fs := some N3) h hEv hE ha (fun Ec S k w tk he => ?_) rfl (by omega) (by omega) (fun _ => TGc_a hT) (fun _ => eb) e3 List.mem_cons_self (List.mem_cons_of_mem _ (List.mem_singleton.mpr rfl)) (stl_k (by decide)) (fun d => rfl) rfl
    rw [cd_74, ← toL_eq he]
    unfold cXc
    rw [if_neg (show ¬ false = true by decide), if_pos hK, hK]
    rfl
  · rw [e1, e4] at h
    refine PD_end (op := 4) (to := toL sN Ev.1 t) (obj := some pl) (fl := true) (ixs := some N1) (es := some N2) (fs := some N3) h hEv hE ha (fun Ec S k w tk he => ?_) rfl (by omega) (by omega) (fun _ => TGc_a hT) (fun _ => eb) List.mem_cons_self (List.mem_cons_of_mem _ List.mem_cons_self) (List.mem_cons_of_mem _ (List.mem_cons_of_mem _ (List.mem_singleton.mpr rfl))) (stl_k (by decide)) (fun d => rfl) rfl
    rw [cd_74, ← toL_eq he]
    unfold cXc
    rw [if_pos rfl, if_pos hK, hK]
    rfl
/-- a sum is set -/
theorem cSe_c {Ec : gV} {S : List gSt} {k : List Nat} {rr : gRg} {w : List (Nat × Nat) × List (Nat × gU)} {tk : Nat} {M : gU} (he : eqE Ec Ev) : cSe sN (Ec, S, k, rr, w) t tk M = (Ec, S ++ [((if toL sN Ev.1 t = none then 1 else 16 : Nat), tk, knw Ec, toL sN Ev.1 t, (if toL sN Ev.1 t = none then t else none), false, none, some M, none)], k, rg0, w) := by
  show (match toL sN Ec.1 t with | some p => cEm (Ec, S, k, rr, w) (16, tk, knw Ec, some p, none, false, none, some M, none) | none => cEm (Ec, S, k, rr, w) (1, tk, knw Ec, none, t, false, none, some M, none)) = _
  rw [toL_eq he]
  cases toL sN Ev.1 t <;> rfl
theorem PD_se {fl : Bool} (h : PD sN V K Ev x y t N Su pl ro) (hEv : ¬ Ev.2.1 = []) (hE : KV' K e y Ev) (hT : TGc sN Ev t a b) {N2 : gU} (hSu : (f2, N2) ∈ Su) (ha : stK y z (if a = -1 then 1 else 16) (y.1 100 9) a b (-1) f2 (-1)) (hcd : ∀ (Ec : gV) S k w tk, cdV sN K (Ec, S, k, ([], Su.map Prod.snd, pl, ro, t, tk), w) v = cSe sN (Ec, S, k, ([], Su.map Prod.snd, pl, ro, t, tk), w) t tk N2) (hv1 : still [v]) (hv2 : ∀ d, ces K V [v] d = d) (hv3 : tPs sN V K [v] Ev = []) : CGs sN V K Ev x z t (N ++ [v]) := by
  refine PD_end (op := if toL sN Ev.1 t = none then 1 else 16) (to := toL sN Ev.1 t) (obj := if toL sN Ev.1 t = none then t else none) (fl := false) (ixs := none) (es := some N2) (fs := none) h hEv hE ha (fun Ec S k w tk he => by rw [hcd, cSe_c he]) ?_ ?_ ?_ (fun _ => TGc_a hT) (fun q => ?_) rfl hSu rfl hv1 hv2 hv3
  · rcases hT with ⟨e1, e2, -⟩ | ⟨p, e1, e2, -⟩
    · rw [e1, if_pos rfl, if_pos e2]; rfl
    · rw [if_neg e2, e1]; rfl
  · split <;> decide
  · split <;> decide
  · rcases hT with ⟨e1, e2, t0, e3, e4⟩ | ⟨p, e1, e2, -⟩
    · rw [e1, if_pos rfl, e3]; exact e4
    · rw [e1, if_neg (by simp)] at q; exact absurd rfl q
theorem PD_76 {N2 : gU} (h : PD sN V K Ev x y t N [(f2, N2)] pl ro) (hEv : ¬ Ev.2.1 = []) (hE : KV' K e y Ev) (hT : TGc sN Ev t a b) (ha : stK y z (if a = -1 then 1 else 16) (y.1 100 9) a b (-1) f2 (-1)) : CGs sN V K Ev x z t (N ++ [(76, i, 0)]) :=
  PD_se (fl := false) h hEv hE hT (List.mem_singleton.mpr rfl) ha (fun Ec S k w tk => cd_76) (stl_k (by decide)) (fun d => rfl) rfl
/-- a row's cell is set -/
theorem PD_78 {N1 N2 : gU} (h : PD sN V K Ev x y none N [(ix, N1), (f2, N2)] pl true) (hEv : ¬ Ev.2.1 = []) (hE : KV' K e y Ev) (eb : b2.toInt = (pl : Nat)) (ha : stK y z 1 (y.1 100 9) a b2 ix f2 (-1)) : CG sN V K Ev x z (N ++ [(78, i, 0)]) := fun c d P he hr hc => PD_endt (tf := fun _ => i) (op := 1) (to := none) (obj := some pl) (fl := true) (ixs := some N1) (es := some N2) (fs := none) h hEv hE ha (fun Ec S k w tk he => cd_78) rfl (by decide) (by decide) (fun q => absurd q (by decide)) (fun _ => eb) List.mem_cons_self (List.mem_cons_of_mem _ (List.mem_singleton.mpr rfl)) rfl (stl_k (by decide)) (fun d => rfl) rfl 0 c d P he hr hc
/-- a name alone -/
theorem cds_al {Ec : gV} {S : List gSt} {k : List Nat} {w : List (Nat × Nat) × List (Nat × gU)} {tk : Nat} : cds sN K [pal t i] (Ec, S, k, rgT t tk, w) = cAl sN (Ec, S, k, rgT t tk, w) t (tkB t tk) i := by
  cases t with
  | none => rfl
  | some t0 => rfl
theorem tPs_al : tPs sN V K [pal t i] Ev = alP sN Ev i := by
  cases t with
  | none => exact List.append_nil _
  | some t0 => exact List.append_nil _
theorem ces_al {d : Nat × Int32 × List (Int32 × Bool)} : ces K V [pal t i] d = d := by
  cases t with
  | none => rfl
  | some t0 => rfl
theorem stl_al : still [pal t i] := by
  cases t with
  | none => exact stl_k (by decide)
  | some t0 => exact stl_k (by decide)
/-- of a cell -/
theorem PD_al (fr : ∀ c k, ccS c k → y.1 c k = x.1 c k) (hE : KV' K e y Ev) (hT : TGc sN Ev t a b) (hk : kfi sN Ev.1 i = none) (hoi : ob.toInt = (i : Nat)) (ha : stK y z 0 (y.1 100 9) a ob (-1) (-1) (-1)) : CGs sN V K Ev x z t [pal t i] := by
  intro tk c d P he hr hc
  obtain ⟨Ec, S, k, rr, ww⟩ := c
  have hr : rr = rgT t tk := hr
  have he : eqE Ec Ev := he
  have kl : (y.1 100 9).toInt = (Ec.1.length : Nat) := by rw [hE.1, eqE_len he]
  have q := CCp_add (st := (0, tkB t tk, knw Ec, toL sN Ev.1 t, some i, false, none, none, none)) (r' := rg0) (CCp_eq fr hc) ha rfl kl (fun _ => TGc_a hT) (fun q => absurd q (show ¬ 0 = 8 by decide)) (fun _ => hoi) rfl rfl rfl
  have ec : cds sN K [pal t i] (Ec, S, k, rr, ww) = (Ec, S ++ [(0, tkB t tk, knw Ec, toL sN Ev.1 t, some i, false, none, none, none)], k, rg0, ww) := by
    rw [hr, cds_al]
    show (match kfi sN Ec.1 i with | some _ => cSe sN (Ec, S, k, rgT t tk, ww) t (tkB t tk) [(3, i, 0)] | none => cEm (Ec, S, k, rgT t tk, ww) (0, tkB t tk, knw Ec, toL sN Ec.1 t, some i, false, none, none, none)) = _
    rw [kfi_len he.1, hk, toL_eq he]
    rfl
  have ep : tPs sN V K [pal t i] Ev = [] := by
    rw [tPs_al]; unfold alP; rw [hk]
  rw [ec, ces_al, ep, exs_still stl_al, List.append_nil]
  exact ⟨q, he, rfl⟩
/-- of a local: a sum -/
theorem PD_als (h : PD sN V K Ev x y t (pma t ++ ([(3, i, 0)] ++ [(54, 0, 0)])) [(f2, [(3, i, 0)])] 0 false) (hEv : ¬ Ev.2.1 = []) (hE : KV' K e y Ev) (hT : TGc sN Ev t a b) (hk : ¬ kfi sN Ev.1 i = none) (ha : stK y z (if a = -1 then 1 else 16) (y.1 100 9) a b (-1) f2 (-1)) : CGs sN V K Ev x z t [pal t i] := by
  have q := PD_76 (i := 0) h hEv hE hT ha
  obtain ⟨p, hp⟩ : ∃ p, kfi sN Ev.1 i = some p := by
    cases h9 : kfi sN Ev.1 i with
    | none => exact absurd h9 hk
    | some p => exact ⟨p, rfl⟩
  have hs : sEv false [(3, i, 0)] := sEv_one (Or.inr (Or.inr (Or.inr (Or.inr (Or.inl ⟨rfl, rfl⟩)))))
  intro tk c d P he hr hc
  obtain ⟨q1, q2, q3⟩ := q tk c d P he hr hc
  obtain ⟨Ec, S, k, rr, ww⟩ := c
  have hr : rr = rgT t tk := hr
  have he : eqE Ec Ev := he
  have hEc : ¬ Ec.2.1 = [] := by rw [he.2]; exact hEv
  have ec : cds sN K [pal t i] (Ec, S, k, rr, ww) = cds sN K (pma t ++ ([(3, i, 0)] ++ [(54, 0, 0)]) ++ [(76, 0, 0)]) (Ec, S, k, rr, ww) := by
    rw [hr, cds_al, cds_app, h.2.2.2.1 _ _ _ _ _ hEc, cds_one, cd_76]
    show (match kfi sN Ec.1 i with | some _ => cSe sN (Ec, S, k, rgT t tk, ww) t (tkB t tk) [(3, i, 0)] | none => cEm (Ec, S, k, rgT t tk, ww) (0, tkB t tk, knw Ec, toL sN Ec.1 t, some i, false, none, none, none)) = _
    rw [kfi_len he.1, hp]
    show cSe sN (Ec, S, k, rgT t tk, ww) t (tkB t tk) [(3, i, 0)] = _
    rw [cSe_c he, cSe_c he]
    rfl
  have ee : ces K V (pma t ++ ([(3, i, 0)] ++ [(54, 0, 0)]) ++ [(76, 0, 0)]) d = d := by
    rw [ces_app, h.2.1]; rfl
  have pm : tPs sN V K (pma t) Ev = [] ∧ still (pma t) := by
    cases t with
    | none => exact ⟨rfl, still_nil⟩
    | some t0 => exact ⟨rfl, stl_k (by decide)⟩
  have ep : tPs sN V K (pma t ++ ([(3, i, 0)] ++ [(54, 0, 0)]) ++ [(76, 0, 0)]) Ev = alP sN Ev i := by
    have e1 : tPs sN V K [(76, 0, 0)] Ev = [] := rfl
    rw [tPs_app, exs_still h.1, e1, List.append_nil, tPs_app, exs_still pm.2, pm.1, List.nil_append, tPs_x hs]
    show (some ((2 : Int32), match kfi sN Ev.1 i with | some p => Int32.ofNat p | none => -1)).toList ++ [(0, 0)] = _
    unfold alP
    rw [hp]
    rfl
  have ex : exs (pma t ++ ([(3, i, 0)] ++ [(54, 0, 0)]) ++ [(76, 0, 0)]) Ev = Ev := exs_still (still_app h.1 (stl_k (by decide)))
  rw [ee, ep] at q1
  rw [ex] at q2
  rw [ec, ces_al, tPs_al, exs_still stl_al]
  exact ⟨q1, q2, q3⟩
end KPD
section KPE
variable {G : kG} {q : kP} {d : Nat} {x x0 y z xs : gd} {F : Int32 → gd → Prop} {Fv : gd → Prop} {X : String → gd → Prop} {M : Int} {E : Nat → Prop}
/-- the step is added, with all its fields -/
theorem kf_233 (hq : kV q) (hB : BB x0 y M E0) (ha : 2 * ssm y ≤ nx y + 2) (o l a b i2 e1 f1 : Int32) (ho : o = 0 ∨ o = 1 ∨ o = 2 ∨ o = 3 ∨ o = 4 ∨ o = 16) (hb : o.toInt ≤ 4 → PLc y b) (ht : ¬ o = 1 → (0 ≤ a.toInt ∧ a.toInt < M) ∨ BU y) (h : ∀ z, BB x0 z M E0 → nx z = nx y → om z = om y → ssm z = ssm y + 1 → (∀ c k, c < 80 ∨ 89 < c → z.1 c k = y.1 c k) → stK y z o (y.1 100 9) a b i2 f1 e1 → Fv z) : KE G q (d + 7) zk_X7_source 233 [(0, vr 100), (1, vi l), (2, vi a), (6, vi b), (7, vi i2), (8, vi e1), (9, vi f1)] [vi o, vr 80] y (rv Fv) X := by
  obtain ⟨a1, a2, a3, a4, a5⟩ := BB_400 hB ha
  refine kg_X7_source_233 hq _ _ _ _ _ _ _ (kf_add hq _ _ _ a1 a2 (fun w hA vin hF9 => ⟨vin, fun x4 e4 => ⟨vin, fun x6 e6 => ⟨vin, fun x8 e8 => ⟨vin, fun x10 e10 => ⟨vin, fun z ez => rv_i ?_⟩⟩⟩⟩⟩))
  obtain ⟨g1, f2, f3, f4, f5⟩ := hA
  have fz : fm (fun c k => (81 ≤ c ∧ c ≤ 89 ∧ k = (y.1 80 9).toNatClampNeg) ∨ (c = 80 ∧ k = 9)) y z := by
    rw [ez, e10, e8, e6, e4]
    exact fm_si (fm_si (fm_si (fm_si (fm_si g1 (Or.inl ⟨by omega, by omega, rfl⟩)) (Or.inl ⟨by omega, by omega, rfl⟩)) (Or.inl ⟨by omega, by omega, rfl⟩)) (Or.inl ⟨by omega, by omega, rfl⟩)) (Or.inl ⟨by omega, by omega, rfl⟩)
  have es : ssm z = ssm y + 1 := by
    have : z.1 80 9 = w.1 80 9 := by rw [ez, e10, e8, e6, e4]; (simp only [si_get, sfl_get, Nat.reduceEqDiff, eq_self, and_false, false_and, and_true, true_and, if_true, if_false, reduceIte, reduceCtorEq])
    unfold ssm at *; rw [this]; exact f2
  have z81 : z.1 81 (y.1 80 9).toNatClampNeg = o := by rw [ez, e10, e8, e6, e4]; (simp only [si_get, sfl_get, Nat.reduceEqDiff, eq_self, and_false, false_and, and_true, true_and, if_true, if_false, reduceIte, reduceCtorEq]); exact f3
  have z83 : z.1 83 (y.1 80 9).toNatClampNeg = y.1 100 9 := by rw [ez, e10, e8, e6, e4]; (simp only [si_get, sfl_get, Nat.reduceEqDiff, eq_self, and_false, false_and, and_true, true_and, if_true, if_false, reduceIte, reduceCtorEq]); exact f4
  have z84 : z.1 84 (y.1 80 9).toNatClampNeg = a := by rw [ez, e10, e8, e6, e4]; (simp only [si_get, sfl_get, Nat.reduceEqDiff, eq_self, and_false, false_and, and_true, true_and, if_true, if_false, reduceIte, reduceCtorEq])
  have z85 : z.1 85 (y.1 80 9).toNatClampNeg = b := by rw [ez, e10, e8, e6, e4]; (simp only [si_get, sfl_get, Nat.reduceEqDiff, eq_self, and_false, false_and, and_true, true_and, if_true, if_false, reduceIte, reduceCtorEq])
  have e9 : nx z = nx y := by unfold nx; rw [fz 100 4 (by omega)]
  have e13 : om z = om y := by unfold om; rw [fz 100 13 (by omega)]
  have hoi : (0 ≤ o.toInt ∧ ¬ o.toInt = 15) ∧ ¬ o.toInt = 17 ∧ ¬ o.toInt = 20 ∧ (o.toInt ≤ 10 → o.toInt ≤ 4) := by rcases ho with rfl | rfl | rfl | rfl | rfl | rfl <;> decide
  have hSA : SA z M (y.1 80 9).toNatClampNeg := by
    unfold SA sop stg
    rw [z81, z83, z84, z85]
    refine ⟨hoi.1, ⟨a4, a5⟩, fun c => ?_, fun c => ?_⟩
    · obtain ⟨t, t1, t2, t3⟩ := hb (hoi.2.2.2 c)
      have := hoi.2.2.2 c
      exact ⟨t, t1, by omega, fun _ => by rw [fz 42 t (by omega)]; exact t3, fun c1 c2 => by omega, fun c1 => by omega⟩
    · have k1 : (1 : Int32).toInt = 1 := rfl
      rcases ht (fun e => by rw [e, k1] at c; omega) with g | g
      · exact Or.inl g
      · exact Or.inr (La_BU ⟨fun c k q1 q2 => fz c k (by omega), by omega, fun j _ => fz 42 j (by omega)⟩ g)
  have hBz := BB_add hB (n := (y.1 80 9).toNatClampNeg) (by omega) fz es hSA
  refine h z (BB_E hBz (fun e => e.elim id (fun e => by omega)) (fun i hi he hne => ?_)) e9 e13 es (fun c k hc => fz c k (by omega)) ⟨fun c k q q1 q2 => fz c k (fun w => w.elim q1 q2), es, z81, z83, z84, z85, by rw [ez, e10, e8, e6, e4]; (simp only [si_get, sfl_get, Nat.reduceEqDiff, eq_self, and_false, false_and, and_true, true_and, if_true, if_false, reduceIte, reduceCtorEq]), by rw [ez, e10, e8, e6, e4]; (simp only [si_get, sfl_get, Nat.reduceEqDiff, eq_self, and_false, false_and, and_true, true_and, if_true, if_false, reduceIte, reduceCtorEq]), by rw [ez, e10, e8, e6, e4]; (simp only [si_get, sfl_get, Nat.reduceEqDiff, eq_self, and_false, false_and, and_true, true_and, if_true, if_false, reduceIte, reduceCtorEq])⟩
  rcases he with he | he
  · exact absurd he hne
  · rw [he]
    refine SC_no ?_ ?_ <;> (unfold sop; rw [z81]; omega)
end KPE
end
section
/-! the class: what is set, as the grammar says -/
theorem pX_7 {K : Nat → Int32} {o : Bool} {f i : Nat} {L : gU} (h : 700 ≤ i) : pX K o f i L = none := by
  unfold pX
  rw [← dAk_1 (v := (50, 0, 0)), dA_7 h]
  rfl
theorem pR_7 {K : Nat → Int32} {f i : Nat} {t : Option Nat} {L : gU} (h : 700 ≤ i) : pR K f t i L = none := by
  unfold pR
  by_cases c1 : K i = 35 ∨ K i = 10 ∨ K i = 16
  · rw [if_pos c1, if_neg (by omega)]
  rw [if_neg c1, if_neg (fun q => absurd q.2.1 (by omega))]
  by_cases c2 : K i = 1 ∧ K (i + 1) = 67
  · rw [if_pos c2, if_neg (fun q => absurd q.1 (by omega))]
  rw [if_neg c2, pX_7 h]
  rfl
/-- a name alone is a sum -/
theorem pX_name {K : Nat → Int32} {f i : Nat} {L : gU} (h : K i = 1) (h2 : K (i + 1) = 67) (hi : i < 700) : pX K false (f + 1) i L = some (i + 1, L ++ [(3, i, 0)] ++ [(54, 0, 0)]) := by
  have e : pO (pE K false f) K false i L = some (i + 1, L ++ [(3, i, 0)]) := by
    unfold pO
    rw [if_neg (by omega), if_neg (by rw [h]; decide), if_neg (by rw [h]; decide), if_neg (by rw [h]; decide), if_pos h, if_neg (by decide)]
  unfold pX
  rw [← dAk_1 (v := (50, 0, 0)), dA_leaf (Or.inr (Or.inr (Or.inl h))) (by rw [h]; decide) e, dW_end (by show pst (K (i + 1)) ≤ 0; rw [h2]; decide)]
  rfl
theorem pX_f0 {K : Nat → Int32} {o : Bool} {i : Nat} {L : gU} : pX K o 0 i L = none := rfl
section KSRF
variable {G : kG} {q : kP} {d : Nat} {x x0 y z xs : gd} {F : Int32 → gd → Prop} {Fv : gd → Prop} {X : String → gd → Prop} {P : Option gv → gd → Prop} {M : Int} {E : Nat → Prop} {K V : Nat → Int32} {sN : Nat → Nat → Bool} {e : Nat} {Ev : gV} {Ml N : gU}
/-- what stands behind = -/
def SOP (K : Nat → Int32) (sN : Nat → Nat → Bool) (Ev : gV) (i : Nat) (r : Int32) : Prop := (r = 2 ∧ K i = 35) ∨ (r = 3 ∧ K i = 10) ∨ (r = 4 ∧ K i = 16) ∨ (r = 0 ∧ K i = 1 ∧ (i < 700 → K (i + 1) = 65 ∨ (K (i + 1) = 67 ∧ kfi sN Ev.1 i = none))) ∨ (r = 16 ∧ ¬ (K i = 35 ∨ K i = 10 ∨ K i = 16) ∧ (K i = 1 → i < 700 → ¬ K (i + 1) = 65 ∧ (K (i + 1) = 67 → ¬ kfi sN Ev.1 i = none)))
theorem kd_sourceOp (hq : kV q) (hB : BB x0 x M E) (hA : KA K V sN e x) (hn : nn x ≤ e) (hE : KV' K e x Ev) (h : ∀ r : Int32, SOP K sN Ev (nn x) r → F r x) : KT G q (d + 2) zk_X7_sourceOp 0 [(0, vr 100)] [] x (ri F) := by
  have hK := (hB.2.2.1.1 hB.2.2.2.2.1).1
  have kk : ∀ c : Int32, ¬ kc c = -1 → (x.1 23 (x.1 100 4).toNatClampNeg = c ↔ K (nn x) = kc c) := fun c hc => KA_k hA hn c hc
  have k65 := kk 65 (by decide)
  have k40 := kk 40 (by decide)
  have k46 := kk 46 (by decide)
  have k2 := kk 2 (by decide)
  have behind : K (nn x) = 1 → nn x < 700 → ∀ c : Int32, ¬ kc c = -1 → (x.1 23 ((x.1 100 4).toNatClampNeg + 1) = c ↔ K (nn x + 1) = kc c) := fun h1 h7 c hc => KA_k hA (KA_on hA hn h7 (by rw [h1]; decide) (by rw [h1]; decide)) c hc
  have p81 : K (nn x) = 1 → ∀ s : Int32, ((¬ s = 0 ∧ (nn x < 700 → K (nn x + 1) = 67 ∧ kfi sN Ev.1 (nn x) = none)) ∨ (s = 0 ∧ (nn x < 700 → K (nn x + 1) = 67 → ¬ kfi sN Ev.1 (nn x) = none))) → KT G q (d + 2) zk_X7_sourceOp 81 [(0, vr 100)] [vi s] x (ri F) := by
    intro c s hs
    have n35 : ¬ (K (nn x) = 35 ∨ K (nn x) = 10 ∨ K (nn x) = 16) := by rw [c]; decide
    refine kg_X7_sourceOp_81 hq _ ⟨fun c0 => ri_i (h _ (Or.inr (Or.inr (Or.inr (Or.inl ⟨rfl, c, fun h7 => ?_⟩))))), fun c0 => kp_sortBehind hq hB.1.1 ⟨fun c25 => ri_i (h _ (Or.inr (Or.inr (Or.inr (Or.inr ⟨rfl, n35, fun _ h7 => ⟨fun z => ?_, fun z => ?_⟩⟩))))), fun c25 => ri_i (h _ (Or.inr (Or.inr (Or.inr (Or.inl ⟨rfl, c, fun h7 => Or.inl ?_⟩)))))⟩⟩
    · rcases hs with ⟨-, e⟩ | ⟨e, -⟩
      · exact Or.inr (e h7)
      · exact absurd e c0
    · exact c25 ((behind c h7 25 (by decide)).mpr z)
    · rcases hs with ⟨e, -⟩ | ⟨-, e⟩
      · exact absurd c0 e
      · exact e h7 z
    · exact (behind c h7 25 (by decide)).mp c25
  refine kg_X7_sourceOp_0 hq (kp_sort hq hB.1.1 ⟨fun c => ri_i (h _ (Or.inl ⟨rfl, k65.mp c⟩)), fun c => ri_i (h _ (Or.inr (Or.inl ⟨rfl, k40.mp c⟩))), fun c => ri_i (h _ (Or.inr (Or.inr (Or.inl ⟨rfl, k46.mp c⟩)))), fun c => ?_, fun c => ri_i (h _ (Or.inr (Or.inr (Or.inr (Or.inr ⟨rfl, ?_, fun z => ?_⟩)))))⟩)
  · have c1 : K (nn x) = 1 := k2.mp c
    refine kp_sortBehind hq hB.1.1 ⟨fun c27 => p81 c1 _ (Or.inr ⟨rfl, fun h7 z => absurd ((behind c1 h7 27 (by decide)).mpr z) c27⟩), fun c27 => kf_knownFrom hq hB.1.1.1 hK hA hE _ _ (by decide) ⟨hB.1.1.2.1, RB_lt hB.1.1 (by rw [c]; decide)⟩ hn c1 (fun r hr => ⟨fun c9 => p81 c1 _ (Or.inr ⟨rfl, fun h7 z => ?_⟩), fun c9 => p81 c1 _ (Or.inl ⟨by decide, fun h7 => ⟨(behind c1 h7 27 (by decide)).mp c27, ?_⟩⟩)⟩)⟩
    · rcases hr with ⟨e, -⟩ | ⟨n, e1, e2, e3, e4, -⟩
      · exact absurd e c9
      · rw [show nn x = (x.1 100 4).toNatClampNeg from rfl, e4]; simp
    · rcases hr with ⟨-, e⟩ | ⟨n, e1, e2, e3, e4, -⟩
      · exact kfi_of e
      · exfalso
        rw [c9, tm1] at e1
        omega
  · rintro (z | z | z)
    · exact c 65 (by decide) (k65.mpr z)
    · exact c 40 (by decide) (k40.mpr z)
    · exact c 46 (by decide) (k46.mpr z)
  · exact absurd (k2.mpr z) (c 2 (by decide))
end KSRF
end
section
/-! the class: what is set, from the first sum on -/
def SFin (K V : Nat → Int32) (sN : Nat → Nat → Bool) (e : Nat) (Ev : gV) (x : gd) (t : Option Nat) (L : gU) (W : gOp) (y : gd) : Prop := KV' K e y Ev ∧ ∃ N, RIw K V sN e Ev x y N ∧ still N ∧ (∀ t0, t = some t0 → kfi sN Ev.1 t0 = none → HBs sN N Ev t0 6) ∧ W = some (nn y, L ++ N) ∧ CGs sN V K Ev x y t N
/-- all but the step o -/
def SFp (K V : Nat → Int32) (sN : Nat → Nat → Bool) (e : Nat) (Ev : gV) (x : gd) (t : Option Nat) (L : gU) (W : gOp) (o a b2 i2 e2 f2 : Int32) (y : gd) : Prop := KV' K e y Ev ∧ ∃ N, RIw K V sN e Ev x y N ∧ still N ∧ (∀ t0, t = some t0 → kfi sN Ev.1 t0 = none → HBs sN N Ev t0 6) ∧ W = some (nn y, L ++ N) ∧ ∀ z, stK y z o (y.1 100 9) a b2 i2 f2 e2 → CGs sN V K Ev x z t N
def sOp (o a : Int32) : Int32 := if o = 16 ∧ a = -1 then 1 else o
/-- before the second sum -/
def S189 (K V : Nat → Int32) (sN : Nat → Nat → Bool) (e : Nat) (Ev : gV) (x : gd) (t : Option Nat) (L : gU) (W : gOp) (f : Nat) (o a b2 i2 e2 f2 : Int32) (y : gd) : Prop := (¬ o = 4 ∧ SFp K V sN e Ev x t L W (sOp o a) a b2 i2 e2 f2 y) ∨ (o = 4 ∧ KV' K e y Ev ∧ ∃ N, RIw K V sN e Ev x y N ∧ still N ∧ (∀ t0, t = some t0 → kfi sN Ev.1 t0 = none → HBs sN N Ev t0 6) ∧ W = ((pt K 68 (nn y, L ++ N)).bind (pXq K f)).bind (pan (74, nn x, 0)) ∧ K (nn x) = 16 ∧ ∃ N2, PDp sN V K Ev x y t N b2 i2 [(f2, N2)])
/-- before the first -/
def S174 (K V : Nat → Int32) (sN : Nat → Nat → Bool) (e : Nat) (Ev : gV) (x : gd) (t : Option Nat) (L : gU) (W : gOp) (f : Nat) (o a b2 i2 e2 : Int32) (y : gd) : Prop := (o = 0 ∧ SFp K V sN e Ev x t L W (sOp o a) a b2 i2 e2 (-1) y) ∨ (¬ o = 0 ∧ KA K V sN e y ∧ nn y ≤ e ∧ KV' K e y Ev ∧ ∃ L1, (pX K false f (nn y) L1 = none → W = none) ∧ ∀ w N2 r, GS y w → RIw K V sN e Ev y w N2 → still N2 → KV' K e w Ev → pX K false f (nn y) L1 = some (nn w, L1 ++ N2) → CPl y w (sPs sN V K Ev N2) → r = y.1 60 3 → S189 K V sN e Ev x t L W f o a b2 i2 e2 r w)
/-- behind the place -/
def S163 (K V : Nat → Int32) (sN : Nat → Nat → Bool) (e : Nat) (Ev : gV) (x : gd) (t : Option Nat) (L : gU) (W : gOp) (f : Nat) (o a b2 i2 e2 : Int32) (y : gd) : Prop := (o = 0 ∧ SFp K V sN e Ev x t L W (sOp o a) a b2 i2 e2 (-1) y) ∨ (¬ o = 0 ∧ (o = 4 ↔ K (nn x) = 16) ∧ KV' K e y Ev ∧ ∃ N, RIw K V sN e Ev x y N ∧ still N ∧ (∀ t0, t = some t0 → kfi sN Ev.1 t0 = none → HBs sN N Ev t0 6) ∧ W = ((pt K 68 (nn y, L ++ N)).bind (pXq K f)).bind (fun q => (if K (nn x) = 16 then (pt K 68 q).bind (pXq K f) else some q).bind (pan (74, nn x, 0))) ∧ o = Int32.ofNat (opX (K (nn x))) ∧ e2 = -1 ∧ PDp sN V K Ev x y t N b2 i2 [])
section KSRG
variable {G : kG} {q : kP} {d : Nat} {x x0 y z xs : gd} {F : Int32 → gd → Prop} {Fv : gd → Prop} {X : String → gd → Prop} {P : Option gv → gd → Prop} {M : Int} {E : Nat → Prop} {K V : Nat → Int32} {sN : Nat → Nat → Bool} {e : Nat} {Ev : gV} {Ml N : gU} {t : Option Nat} {L : gU} {W : gOp} {f : Nat}
theorem OPe_89 (f : ∀ c k, c < 80 ∨ 89 < c → y.1 c k = x.1 c k) : OPe x y := ⟨⟨⟨fun c k q1 q2 => f c k (by omega), by unfold nx; rw [f 100 4 (by omega)]; exact Int.le_refl _, fun j _ => f 42 j (by omega)⟩, fun c k q => f c k (by unfold Tc at q; omega)⟩, fun c k q1 q2 => f c k (by omega), f 100 7 (by omega)⟩
theorem SF_st {o a b2 i2 e2 f2 : Int32} (h : SFp K V sN e Ev x t L W o a b2 i2 e2 f2 y) (hk : stK y z o (y.1 100 9) a b2 i2 f2 e2) (e4 : z.1 100 4 = y.1 100 4) (eu : ∀ j, z.1 42 j = y.1 42 j) (g : ∀ c k, 20 ≤ c → c < 40 → z.1 c k = y.1 c k) (e9 : z.1 100 9 = y.1 100 9) (e109 : ∀ k, z.1 109 k = y.1 109 k) : SFin K V sN e Ev x t L W z := by
  obtain ⟨h1, N, h2, h3, h4, h5, h6⟩ := h
  have en : nn z = nn y := by unfold nn; rw [e4]
  exact ⟨KV_fm h1 e9 e109, N, RI_st h2 e4 eu g, h3, h4, by rw [en]; exact h5, h6 z hk⟩
theorem GS_su (g : GS y z) : ∀ c k, ccS c k → ¬ (c = 60 ∧ k = 3) → ¬ c = 62 → ¬ c = 63 → z.1 c k = y.1 c k := fun c k q q1 q2 q3 => GS_at g c k (by unfold ccS at q; unfold sSum; omega)
/-- a sum that was read -/
theorem PD_xp {N N2 L1 : gU} {Su : List (Int32 × gU)} {pl i j : Nat} {ro : Bool} {r : Int32} (h : PD sN V K Ev x y t N Su pl ro) (hpX : pX K false f i L1 = some (j, L1 ++ N2)) (hp : CPl y z (sPs sN V K Ev N2)) (g : GS y z) (hr : r = y.1 60 3) : ∃ N', N2 = N' ++ [(54, 0, 0)] ∧ PD sN V K Ev x z t (N ++ N2) (Su ++ [(r, N')]) pl ro := by
  obtain ⟨N', e1, e2⟩ := pX_sE hpX
  refine ⟨N', e1, ?_⟩
  rw [e1] at hp ⊢
  exact PD_x h e2 hp (GS_su g) hr
theorem PDp_xp {N N2 L1 : gU} {Q : List (Int32 × gU)} {i j : Nat} {r b2 i2 : Int32} (h : PDp sN V K Ev x y t N b2 i2 Q) (hpX : pX K false f i L1 = some (j, L1 ++ N2)) (hp : CPl y z (sPs sN V K Ev N2)) (g : GS y z) (hr : r = y.1 60 3) : ∃ N', PDp sN V K Ev x z t (N ++ N2) b2 i2 (Q ++ [(r, N')]) := by
  obtain ⟨pl, ro, Si, h1, h2, h3⟩ := h
  obtain ⟨N', _, h4⟩ := PD_xp h3 hpX hp g hr
  exact ⟨N', pl, ro, Si, h1, h2, by rw [← List.append_assoc]; exact h4⟩
theorem PDp_fr {N : gU} {Q : List (Int32 × gU)} {b2 i2 : Int32} (h : PDp sN V K Ev x y t N b2 i2 Q) (fr : ∀ c k, ccS c k → z.1 c k = y.1 c k) : PDp sN V K Ev x z t N b2 i2 Q := by
  obtain ⟨pl, ro, Si, h1, h2, h3⟩ := h
  exact ⟨pl, ro, Si, h1, h2, PD_fr h3 fr⟩
theorem pt_yes {w : Int32} {j : Nat} (h : K j = w) (h7 : j < 700) : pt K w (j, L) = some (j + 1, L) := by unfold pt; rw [if_pos ⟨h, h7⟩]
theorem pt_no {w : Int32} {j : Nat} (h : ¬ (K j = w ∧ j < 700)) : pt K w (j, L) = none := by unfold pt; rw [if_neg h]
theorem kd_src174 (hq : kV q) (hx : W = none → RX x0 X) (hB : BB x0 x M E0) (hf : (f : Int) + om x = 16) (ha : 2 * ssm x ≤ nx x + 1) (l a b : Int32) (hl : (a = -1 ∧ PLc x b) ∨ (¬ a = -1 ∧ 0 ≤ a.toInt ∧ a.toInt < M)) (hEv : ¬ Ev.2.1 = []) (hTc : TGc sN Ev t a b) (h : ∀ y, BB x0 y M E0 → nx x < nx y → om y = om x → ssm y = ssm x + 1 → (y.1 100 9 = x.1 100 9 ∧ y.1 100 7 = x.1 100 7 ∧ y.1 60 13 = x.1 60 13 ∧ (∀ k, y.1 20 k = x.1 20 k) ∧ OPe x y) → La x y → SFin K V sN e Ev x t L W y → Fv y) (D : Int32) (eD : D.toInt = om x + 1) :
    ∀ (y : gd) (o b2 i2 e2 : Int32), S174 K V sN e Ev x t L W f o a b2 i2 e2 y → GS x y → BB x0 y M E0 → (o = 0 → nx x < nx y) → (o = 0 ∨ o = 2 ∨ o = 3 ∨ o = 4 ∨ o = 16) → (¬ o = 16 → PLc y b2) → (o = 16 → b2 = b) → (¬ a = -1 ∨ o = 16 ∨ BU y) → KE G q (d + 10) zk_X7_source 174 [(0, vr 100), (1, vi l), (2, vi a), (4, vi D), (5, vi o), (6, vi b2), (7, vi i2), (8, vi e2)] [] y (rv Fv) X := by
  have o1 := (BB_om hB).1
  have eF : 17 - D.toNatClampNeg = f := by
    have u := t_cl D
    omega
  have tail : ∀ (y : gd) (o b2 i2 e2 f2 : Int32), SFp K V sN e Ev x t L W o a b2 i2 e2 f2 y → GS x y → BB x0 y M E0 → nx x < nx y → (o = 0 ∨ o = 1 ∨ o = 2 ∨ o = 3 ∨ o = 4 ∨ o = 16) → (o.toInt ≤ 4 → PLc y b2) → (¬ o = 1 → (0 ≤ a.toInt ∧ a.toInt < M) ∨ BU y) → KE G q (d + 10) zk_X7_source 233 [(0, vr 100), (1, vi l), (2, vi a), (6, vi b2), (7, vi i2), (8, vi e2), (9, vi f2)] [vi o, vr 80] y (rv Fv) X := by
    intro y o b2 i2 e2 f2 hFy gy hBy ny h1 h2 h3
    have e1 := GS_sm gy
    exact kf_233 hq hBy (by omega) o l a b2 i2 e2 f2 h1 h2 h3 (fun z hBz nz oz sz fz hst => h z hBz (by omega) (by rw [oz, GS_om gy]) (by omega) ⟨by rw [fz _ _ (by omega), GS_at gy _ _ (by unfold sSum; omega)], by rw [fz _ _ (by omega), GS_at gy _ _ (by unfold sSum; omega)], by rw [fz _ _ (by omega), GS_at gy _ _ (by unfold sSum; omega)], fun k => by rw [fz _ _ (by omega), GS_at gy _ _ (by unfold sSum; omega)], OPe_tr (OPe_GS gy) (OPe_89 fz)⟩ (La_tr gy.1 ⟨fun c k q1 q2 => fz _ _ (by omega), by omega, fun j _ => fz _ _ (by omega)⟩) (SF_st hFy hst (fz _ _ (by omega)) (fun j => fz _ _ (by omega)) (fun c k q1 q2 => fz _ _ (by omega)) (fz _ _ (by omega)) (fun k => fz _ _ (by omega))))
  have p211 : ∀ (y : gd) (o b2 i2 e2 f2 : Int32), SFp K V sN e Ev x t L W (sOp o a) a b2 i2 e2 f2 y → GS x y → BB x0 y M E0 → nx x < nx y → (o = 0 ∨ o = 2 ∨ o = 3 ∨ o = 4 ∨ o = 16) → (¬ o = 16 → PLc y b2) → (o = 16 → b2 = b) → (¬ a = -1 ∨ o = 16 ∨ BU y) → KE G q (d + 10) zk_X7_source 211 [(0, vr 100), (1, vi l), (2, vi a), (5, vi o), (6, vi b2), (7, vi i2), (8, vi e2), (9, vi f2)] [] y (rv Fv) X := by
    intro y o b2 i2 e2 f2 hFy gy hBy ny h1 h2 h3 h4
    have hat : ¬ a = -1 → (0 ≤ a.toInt ∧ a.toInt < M) := fun na => by
      rcases hl with ⟨e, -⟩ | ⟨-, e⟩
      · exact absurd e na
      · exact e
    refine kg_X7_source_211 hq _ _ _ _ _ _ _ ⟨fun c => tail y o b2 i2 e2 f2 (by unfold sOp at hFy; rw [if_neg (fun q => c q.1)] at hFy; exact hFy) gy hBy ny ?_ (fun _ => h2 c) (fun _ => ?_), fun c => ⟨fun c2 => tail y o b2 i2 e2 f2 (by unfold sOp at hFy; rw [if_neg (fun q => c2 q.2)] at hFy; exact hFy) gy hBy ny ?_ (fun c3 => ?_) (fun _ => Or.inl (hat c2)), fun c2 => tail y 1 b2 i2 e2 f2 (by unfold sOp at hFy; rw [if_pos ⟨c, c2⟩] at hFy; exact hFy) gy hBy ny (by decide) (fun _ => ?_) (fun q => absurd rfl q)⟩⟩
    · rcases h1 with e | e | e | e | e
      · exact Or.inl e
      · exact Or.inr (Or.inr (Or.inl e))
      · exact Or.inr (Or.inr (Or.inr (Or.inl e)))
      · exact Or.inr (Or.inr (Or.inr (Or.inr (Or.inl e))))
      · exact absurd e c
    · rcases h4 with e | e | e
      · exact Or.inl (hat e)
      · exact absurd e c
      · exact Or.inr e
    · exact Or.inr (Or.inr (Or.inr (Or.inr (Or.inr c))))
    · rw [c] at c3; exact absurd c3 (by decide)
    · rw [h3 c]
      rcases hl with ⟨-, e⟩ | ⟨e, -⟩
      · exact PLc_La gy.1 e
      · exact absurd c2 e
  have p189 : ∀ (y : gd) (o b2 i2 e2 f2 : Int32), S189 K V sN e Ev x t L W f o a b2 i2 e2 f2 y → GS x y → BB x0 y M E0 → nx x < nx y → (o = 0 ∨ o = 2 ∨ o = 3 ∨ o = 4 ∨ o = 16) → (¬ o = 16 → PLc y b2) → (o = 16 → b2 = b) → (¬ a = -1 ∨ o = 16 ∨ BU y) → KE G q (d + 10) zk_X7_source 189 [(0, vr 100), (1, vi l), (2, vi a), (4, vi D), (5, vi o), (6, vi b2), (7, vi i2), (8, vi e2)] [vi f2] y (rv Fv) X := by
    intro y o b2 i2 e2 f2 hSy gy hBy ny h1 h2 h3 h4
    refine kg_X7_source_189 hq _ _ _ _ _ _ _ _ ⟨fun c => p211 y o b2 i2 e2 f2 ?_ gy hBy ny h1 h2 h3 h4, fun c => ?_⟩
    · rcases hSy with ⟨-, e⟩ | ⟨e, -⟩
      · exact e
      · exact absurd e c
    obtain ⟨hEy, N, hRy, hN, h6, hW, hK16, N20, hPy⟩ : KV' K e y Ev ∧ ∃ N, RIw K V sN e Ev x y N ∧ still N ∧ (∀ t0, t = some t0 → kfi sN Ev.1 t0 = none → HBs sN N Ev t0 6) ∧ W = ((pt K 68 (nn y, L ++ N)).bind (pXq K f)).bind (pan (74, nn x, 0)) ∧ K (nn x) = 16 ∧ ∃ N2, PDp sN V K Ev x y t N b2 i2 [(f2, N2)] := by
      rcases hSy with ⟨e, -⟩ | ⟨-, e⟩
      · exact absurd c e
      · exact e
    refine kd_need hq 28 68 (by decide) (by decide) (by decide) (fun no => hx (by rw [hW, pt_no no]; rfl)) hBy hRy (fun kk c7 z hBz nz gz en hRz _ hcz => ?_)
    rw [pt_yes kk c7] at hW
    have hW2 : W = (pX K false f (nn z) (L ++ N)).bind (pan (74, nn x, 0)) := by rw [hW, en]; rfl
    have bz0 := hBz.1.1.2.1
    refine kd_sum hq D (L ++ N) (fun q9 => hx (by rw [eF] at q9; rw [hW2, q9]; rfl)) hBz hRz.1 hRz.2.1 (KV_GS gz hEy) (by omega) (by omega) (fun r w hBw nw gw N2 hRw hN2 hpX hcp hrr => ?_)
    rw [eF] at hpX
    obtain ⟨N30, hPw⟩ := PDp_xp (PDp_fr hPy hcz) hpX hcp gw hrr
    have gg := GS_tr gz gw
    have hFw : SFp K V sN e Ev x t L W (sOp o a) a b2 i2 r f2 w := by
      refine ⟨KV_GS gg hEy, N ++ N2 ++ [(74, nn x, 0)], ?_, still_app (still_app hN hN2) (stl_k (by decide)), fun t0 e1 e2 => HBs_app.mpr (Or.inl (HBs_app.mpr (Or.inl (h6 t0 e1 e2)))), ?_, fun z9 hz9 => ?_⟩
      · have r1 := RI_app bz0 hN hRz gw.1 hRw
        exact ⟨r1.1, r1.2.1, UR_dull r1.2.2 (dull_k (by decide))⟩
      · rw [hW2, hpX]
        show some (nn w, L ++ N ++ N2 ++ [(74, nn x, 0)]) = _
        rw [List.append_assoc L, List.append_assoc L]
      · refine PD_74c hPw hEv (KV_GS gg hEy) hTc hK16 ?_
        have e16 : sOp o a = 4 := by unfold sOp; rw [c, if_neg (fun q => absurd q.1 (by decide))]
        rw [e16] at hz9
        exact hz9
    exact p211 w o b2 i2 r f2 hFw (GS_tr gy gg) hBw (by omega) h1 (fun c => PLc_La gg.1 (h2 c)) h3 (h4.imp id (fun e => e.imp id (La_BU gg.1)))
  intro y o b2 i2 e2 hSy gy hBy ny h1 h2 h3 h4
  have ln := gy.1.2.1
  refine kg_X7_source_174 hq _ _ _ _ _ _ _ ⟨fun c => ?_, fun c => p189 y o b2 i2 e2 _ ?_ gy hBy (ny c) h1 h2 h3 h4⟩
  · obtain ⟨hA, hn, hEy, L1, hno, hyes⟩ : KA K V sN e y ∧ nn y ≤ e ∧ KV' K e y Ev ∧ ∃ L1, (pX K false f (nn y) L1 = none → W = none) ∧ ∀ w N2 r, GS y w → RIw K V sN e Ev y w N2 → still N2 → KV' K e w Ev → pX K false f (nn y) L1 = some (nn w, L1 ++ N2) → CPl y w (sPs sN V K Ev N2) → r = y.1 60 3 → S189 K V sN e Ev x t L W f o a b2 i2 e2 r w := by
      rcases hSy with ⟨e, -⟩ | ⟨-, e⟩
      · exact absurd e c
      · exact e
    exact kd_sum hq D L1 (fun q9 => hx (hno (by rw [eF] at q9; exact q9))) hBy hA hn hEy (by omega) (by omega) (fun r w hBw nw gw N2 hRw hN2 hpX hcp hrr => p189 w o b2 i2 e2 r (hyes w N2 r gw hRw hN2 (KV_GS gw hEy) (by rw [eF] at hpX; exact hpX) hcp hrr) (GS_tr gy gw) hBw (by omega) h1 (fun c => PLc_La gw.1 (h2 c)) h3 (h4.imp id (fun e => e.imp id (La_BU gw.1))))
  · rcases hSy with ⟨-, e⟩ | ⟨e, -⟩
    · exact Or.inl ⟨by rw [c]; decide, e⟩
    · exact absurd c e
theorem kd_src163 (hq : kV q) (hx : W = none → RX x0 X) (hB : BB x0 x M E0) (hf : (f : Int) + om x = 16) (ha : 2 * ssm x ≤ nx x + 1) (l a b : Int32) (hl : (a = -1 ∧ PLc x b) ∨ (¬ a = -1 ∧ 0 ≤ a.toInt ∧ a.toInt < M)) (hEv : ¬ Ev.2.1 = []) (hTc : TGc sN Ev t a b) (h : ∀ y, BB x0 y M E0 → nx x < nx y → om y = om x → ssm y = ssm x + 1 → (y.1 100 9 = x.1 100 9 ∧ y.1 100 7 = x.1 100 7 ∧ y.1 60 13 = x.1 60 13 ∧ (∀ k, y.1 20 k = x.1 20 k) ∧ OPe x y) → La x y → SFin K V sN e Ev x t L W y → Fv y) (D : Int32) (eD : D.toInt = om x + 1) :
    ∀ (y : gd) (o b2 i2 e2 : Int32), S163 K V sN e Ev x t L W f o a b2 i2 e2 y → GS x y → BB x0 y M E0 → nx x < nx y → ¬ o = 16 → (o = 0 ∨ o = 2 ∨ o = 3 ∨ o = 4 ∨ o = 16) → PLc y b2 → (¬ a = -1 ∨ o = 16 ∨ BU y) → KE G q (d + 10) zk_X7_source 163 [(0, vr 100), (1, vi l), (2, vi a), (4, vi D), (5, vi o), (6, vi b2), (7, vi i2), (8, vi e2)] [] y (rv Fv) X := by
  intro y o b2 i2 e2 hSy gy hBy ny h0 h1 h2 h4
  have p174 := kd_src174 (d := d) (G := G) hq hx hB hf ha l a b hl hEv hTc h D eD
  refine kg_X7_source_163 hq _ _ _ _ _ _ _ ⟨fun c => p174 y o b2 i2 e2 ?_ gy hBy (fun _ => ny) h1 (fun _ => h2) (fun q => absurd q h0) h4, fun c => ?_⟩
  · rcases hSy with e | ⟨e, -⟩
    · exact Or.inl e
    · exact absurd c e
  obtain ⟨h16, hEy, N, hRy, hN, h6, hW, hop, he2, hPy⟩ : (o = 4 ↔ K (nn x) = 16) ∧ KV' K e y Ev ∧ ∃ N, RIw K V sN e Ev x y N ∧ still N ∧ (∀ t0, t = some t0 → kfi sN Ev.1 t0 = none → HBs sN N Ev t0 6) ∧ W = ((pt K 68 (nn y, L ++ N)).bind (pXq K f)).bind (fun q => (if K (nn x) = 16 then (pt K 68 q).bind (pXq K f) else some q).bind (pan (74, nn x, 0))) ∧ o = Int32.ofNat (opX (K (nn x))) ∧ e2 = -1 ∧ PDp sN V K Ev x y t N b2 i2 [] := by
    rcases hSy with ⟨e, -⟩ | ⟨-, e⟩
    · exact absurd e c
    · exact e
  refine kd_need hq 28 68 (by decide) (by decide) (by decide) (fun no => hx (by rw [hW, pt_no no]; rfl)) hBy hRy (fun kk c7 z hBz nz gz en hRz _ hcz => ?_)
  rw [pt_yes kk c7] at hW
  have hW2 : W = (pX K false f (nn z) (L ++ N)).bind (fun q => (if K (nn x) = 16 then (pt K 68 q).bind (pXq K f) else some q).bind (pan (74, nn x, 0))) := by rw [hW, en]; rfl
  have bz0 := hBz.1.1.2.1
  refine p174 z o b2 i2 e2 (Or.inr ⟨c, hRz.1, hRz.2.1, KV_GS gz hEy, L ++ N, fun q9 => by rw [hW2, q9]; rfl, fun w N2 r gw hRw hN2 hEw hpX hcp hrr => ?_⟩) (GS_tr gy gz) hBz (fun _ => by omega) h1 (fun _ => PLc_La gz.1 h2) (fun q => absurd q h0) (h4.imp id (fun e => e.imp id (La_BU gz.1)))
  obtain ⟨N20, hPw⟩ := PDp_xp (PDp_fr hPy hcz) hpX hcp gw hrr
  rw [hpX] at hW2
  have r1 := RI_app bz0 hN hRz gw.1 hRw
  have h62 : ∀ t0, t = some t0 → kfi sN Ev.1 t0 = none → HBs sN (N ++ N2) Ev t0 6 := fun t0 e1 e2 => HBs_app.mpr (Or.inl (h6 t0 e1 e2))
  by_cases c4 : o = 4
  · refine Or.inr ⟨c4, hEw, N ++ N2, r1, still_app hN hN2, h62, ?_, h16.mp c4, N20, hPw⟩
    have hW3 : W = (if K (nn x) = 16 then (pt K 68 (nn w, L ++ N ++ N2)).bind (pXq K f) else some (nn w, L ++ N ++ N2)).bind (pan (74, nn x, 0)) := hW2
    rw [hW3, if_pos (h16.mp c4), List.append_assoc]
  · refine Or.inl ⟨c4, hEw, N ++ N2 ++ [(74, nn x, 0)], ⟨r1.1, r1.2.1, UR_dull r1.2.2 (dull_k (by decide))⟩, still_app (still_app hN hN2) (stl_k (by decide)), fun t0 e1 e2 => HBs_app.mpr (Or.inl (h62 t0 e1 e2)), ?_, fun z9 hz9 => PD_74 hPw hEv hEw hTc (fun q => c4 (h16.mpr q)) hop (by
      have e16 : sOp o a = o := by unfold sOp; rw [if_neg (fun q => h0 q.1)]
      rw [e16, he2] at hz9
      exact hz9)⟩
    have hW3 : W = (if K (nn x) = 16 then (pt K 68 (nn w, L ++ N ++ N2)).bind (pXq K f) else some (nn w, L ++ N ++ N2)).bind (pan (74, nn x, 0)) := hW2
    rw [hW3, if_neg (fun q => c4 (h16.mpr q))]
    show some (nn w, L ++ N ++ N2 ++ [(74, nn x, 0)]) = _
    rw [List.append_assoc L, List.append_assoc L]
end KSRG
end
section
/-! the class: a place -/
section KPLC
variable {G : kG} {q : kP} {d : Nat} {x x0 y z xs : gd} {F : Int32 → gd → Prop} {Fv : gd → Prop} {X : String → gd → Prop} {P : Option gv → gd → Prop} {M : Int} {E : Nat → Prop} {K V : Nat → Int32} {sN : Nat → Nat → Bool} {e : Nat} {Ev : gV} {Np : gU} {L : gU} {W : gOp} {f : Nat} {kont : Nat × gU → gOp} {tg : Option Nat}
theorem kd_place (hq : kV q) (hx : W = none → RX x0 X) (hWp : W = (pP K f (nn y) (L ++ Np)).bind kont) (hBy : BB x0 y M E0) (hA : KA K V sN e y) (hn : nn y ≤ e) (hEy : KV' K e y Ev) (D : Int32) (eF : 17 - D.toNatClampNeg = f) (hD1 : 1 ≤ D.toInt) (hD2 : D.toInt ≤ 18) (u s9 i2 : Int32) (hu12 : ¬ u = 12) (h25 : ¬ s9 = 0 ↔ y.1 23 ((y.1 100 4).toNatClampNeg + 1) = 25) (hN : still Np) (hEv : ¬ Ev.2.1 = []) (hi2 : i2 = -1) (hPD : PD sN V K Ev x y tg Np [] 0 false) (h4 : (y.1 100 4).toInt = ((nn y : Nat) : Int))
    (hm6 : s9 = 0 → ∀ z, La y z → nn z = nn y + 1 → KA K V sN e z → nn z ≤ e → z.1 42 (nn y) = u → RIw K V sN e Ev x z (Np ++ [(6, nn y, 0)]))
    (hm7 : ¬ s9 = 0 → ∀ z, La y z → nn z = nn y + 1 → KA K V sN e z → nn z ≤ e → z.1 42 (nn y) = u → RIw K V sN e Ev x z (Np ++ [(7, nn y, 0)]))
    (C : Int32 → Int32 → gd → Prop)
    (hC : ∀ (i9 : Int32) (w : gd) (N3 : gU), BB x0 w M E0 → GS y w → nx y < nx w → w.1 42 (nn y) = u → RIw K V sN e Ev x w (Np ++ N3) → still (Np ++ N3) → KV' K e w Ev → W = kont (nn w, L ++ (Np ++ N3)) → PDp sN V K Ev x w tg (Np ++ N3) (y.1 100 4) i9 [] → C (y.1 100 4) i9 w) :
    KE G q (d + 9) zk_X7_needFor 0 [(0, vr 100), (1, vi 2), (2, vi u)] [] y (ri (fun r4 x3 => ((s9 = (0 : Int32) → C r4 i2 x3) ∧ (¬ (s9 = (0 : Int32)) → KE G q (d + 9) zk_X7_pass 0 [(0, vr 100)] [] x3 (rv (fun x6 => KE G q (d + 9) zk_X7_sum 0 [(0, vr 100), (1, vi D)] [] x6 (ri (fun r8 x7 => KE G q (d + 9) zk_X7_need 0 [(0, vr 100), (1, vi 26)] [] x7 (rv (fun x9 => C r4 r8 x9)) X)) X)) X)))) X := by
  refine kd_needFor hq 2 u 1 (by decide) (by decide) (by decide) hu12 (fun no => hx (by rw [hWp]; unfold pP; rw [if_neg no]; rfl)) hBy hA hn (fun kk c7 z hBz nz gz en hAz hnz eu ht hcz => ?_)
  have on1 : nn y + 1 ≤ e := by omega
  have k25 : y.1 23 (nn y + 1) = 25 ↔ K (nn y + 1) = 65 := KA_k hA on1 25 (by decide)
  have hW1 : W = (if K (nn y + 1) = 65 then (if nn y + 1 < 700 then (pX K false f (nn y + 2) (L ++ Np ++ [(7, nn y, 0)])).bind (pt K 66) else none) else some (nn y + 1, L ++ Np ++ [(6, nn y, 0)])).bind kont := by
    rw [hWp]; unfold pP; rw [if_pos ⟨kk, c7⟩]
  refine ⟨fun c => ?_, fun c => ?_⟩
  · have n65 : ¬ K (nn y + 1) = 65 := fun q => (h25.mpr (k25.mpr q)) c
    rw [if_neg n65] at hW1
    refine hC i2 z [(6, nn y, 0)] hBz gz (by omega) eu (hm6 c z gz.1 en hAz hnz eu) (still_app hN (stl_k (by decide))) (KV_GS gz hEy) ?_ ⟨nn y, false, [], h4, Or.inl ⟨rfl, hi2, rfl⟩, PD_6 (PD_fr hPD hcz) hEv⟩
    rw [hW1, en, ← List.append_assoc]
    rfl
  have h65 : K (nn y + 1) = 65 := k25.mp (h25.mp c)
  rw [if_pos h65] at hW1
  have hRz := hm7 c z gz.1 en hAz hnz eu
  refine kd_pass hq (fun c9 => hx ?_) hBz hRz (by rw [en, h65]; decide) (by rw [en, h65]; decide) (fun c9 w hBw nw gw enw hRw uw hcw => ?_)
  · rw [hW1, if_neg (by omega)]; rfl
  rw [if_pos (by omega)] at hW1
  have en2 : nn w = nn y + 2 := by omega
  have hEw := KV_GS gw (KV_GS gz hEy)
  refine kd_sum hq D (L ++ Np ++ [(7, nn y, 0)]) (fun q9 => hx ?_) hBw hRw.1 hRw.2.1 hEw hD1 hD2 (fun r v hBv nv gv N2 hRv hN2 hpX hcp hrr => ?_)
  · rw [eF, en2] at q9
    rw [hW1, q9]; rfl
  rw [eF, en2] at hpX
  obtain ⟨N20, -, hPv⟩ := PD_xp (PD_7 (i := nn y) (PD_fr (PD_fr hPD hcz) hcw) hEv) hpX hcp gv hrr
  rw [hpX] at hW1
  have hW2 : W = (pt K 66 (nn v, L ++ Np ++ [(7, nn y, 0)] ++ N2)).bind kont := hW1
  have bw0 := hBw.1.1.2.1
  have hst : still (Np ++ [(7, nn y, 0)]) := still_app hN (stl_k (by decide))
  have hRxv := RI_app bw0 hst hRw gv.1 hRv
  refine kd_need hq 26 66 (by decide) (by decide) (by decide) (fun no => hx (by rw [hW2, pt_no no]; rfl)) hBv hRxv (fun kk2 c72 t hBt nt gt ent hRt _ hct => ?_)
  rw [pt_yes kk2 c72] at hW2
  have bz0 := hBz.1.1.2.1
  have bv0 := hBv.1.1.2.1
  have gg := GS_tr (GS_tr gw gv) gt
  obtain ⟨-, la⟩ := La_nn bz0 gg.1
  refine hC r t ([(7, nn y, 0)] ++ N2) hBt (GS_tr gz gg) (by omega) (by rw [la _ (by omega)]; exact eu) (by rw [← List.append_assoc]; exact hRt) (by rw [← List.append_assoc]; exact still_app hst hN2) (KV_GS gt (KV_GS gv hEw)) ?_ ⟨nn y, true, [(r, N20)], h4, Or.inr ⟨rfl, N20, rfl⟩, by rw [← List.append_assoc]; exact PD_fr hPv hct⟩
  rw [hW2, ent, ← List.append_assoc, ← List.append_assoc]
  rfl
end KPLC
end
section
/-! the class: what stands behind = -/
section KSO2
variable {sN : Nat → Nat → Bool} {U : Nat → Int32} {n : Nat} {Ev : gV} {a b j : Nat} {u : Int32}
theorem HA_24 : HAw sN U n Ev (24, a, b) ↔ a < n ∧ (kfi sN Ev.1 a = none → U a = 6) := by unfold HAw; simp
theorem HA_25 : HAw sN U n Ev (25, a, b) ↔ a < n ∧ (kfi sN Ev.1 a = none → U a = 6) := by unfold HAw; simp
theorem HA_26 : HAw sN U n Ev (26, a, b) ↔ (kfi sN Ev.1 a = none → ∃ j, j < n ∧ (U j = 9 ∨ U j = 10)) := by unfold HAw; simp
theorem HA_27 : HAw sN U n Ev (27, a, b) ↔ (b < n ∧ (kfi sN Ev.1 b = none → (kfi sN Ev.1 a = none → U b = 8) ∧ (¬ kfi sN Ev.1 a = none → U b = 6))) ∧ a < n ∧ (kfi sN Ev.1 a = none → U a = 6) := by unfold HAw; simp
theorem HB_6 : HB sN Ev (6, a, b) a 6 := by unfold HB; simp
theorem HB_7 : HB sN Ev (7, a, b) a 7 := by unfold HB; simp
theorem HB_24 (h : kfi sN Ev.1 a = none) : HB sN Ev (24, a, b) a 6 := by unfold HB; simp [h]
theorem HB_25 (h : kfi sN Ev.1 a = none) : HB sN Ev (25, a, b) a 6 := by unfold HB; simp [h]
theorem HB_26 (h : kfi sN Ev.1 a = none) (hu : u = 6 ∨ u = 9 ∨ u = 10) : HB sN Ev (26, a, b) j u := by unfold HB; simp [h, hu]
theorem HB_27a (h : kfi sN Ev.1 b = none) (g : kfi sN Ev.1 a = none) : HB sN Ev (27, a, b) j 8 := by unfold HB; simp [h, g]
theorem HB_27b (h : kfi sN Ev.1 b = none) (g : ¬ kfi sN Ev.1 a = none) : HB sN Ev (27, a, b) b 6 := Or.inr (Or.inr (Or.inr (Or.inr (Or.inr (Or.inr (Or.inr (Or.inr (Or.inl ⟨rfl, rfl, rfl, h, g⟩))))))))
theorem HB_27c (g : kfi sN Ev.1 a = none) : HB sN Ev (27, a, b) a 6 := Or.inr (Or.inr (Or.inr (Or.inr (Or.inr (Or.inr (Or.inr (Or.inr (Or.inr (Or.inl ⟨rfl, rfl, rfl, g⟩)))))))))
theorem pme_still {t : Option Nat} : still (pme t) := by
  cases t with
  | none => exact still_nil
  | some t => exact stl_k (by decide)
theorem pma_still {t : Option Nat} : still (pma t) := by
  cases t with
  | none => exact still_nil
  | some t => exact stl_k (by decide)
theorem pal_still {t : Option Nat} {i : Nat} : still [pal t i] := by
  cases t with
  | none => exact stl_k (by decide)
  | some t => exact stl_k (by decide)
theorem pme_6 {t : Option Nat} {M : gU} : ∀ t0, t = some t0 → kfi sN Ev.1 t0 = none → HBs sN (pme t ++ M) Ev t0 6 := fun t0 e h => by
  rw [e]
  exact HBs_app.mpr (Or.inl (HBs_one.mpr (HB_26 h (Or.inl rfl))))
theorem pma_6 {t : Option Nat} {M : gU} : ∀ t0, t = some t0 → kfi sN Ev.1 t0 = none → HBs sN (pma t ++ M) Ev t0 6 := fun t0 e h => by
  rw [e]
  exact HBs_app.mpr (Or.inl (HBs_one.mpr (HB_25 h)))
theorem pal_6 {t : Option Nat} {i : Nat} : ∀ t0, t = some t0 → kfi sN Ev.1 t0 = none → HBs sN [pal t i] Ev t0 6 := fun t0 e h => by
  rw [e]
  exact HBs_one.mpr (HB_27c h)
end KSO2
/-- where it goes: a local, or a cell by its name -/
def TGT (sN : Nat → Nat → Bool) (Ev : gV) (x : gd) (t : Option Nat) (a : Int32) : Prop := (t = none ∧ ¬ a = -1) ∨ ∃ t0, t = some t0 ∧ t0 < nn x ∧ ((a = -1 ∧ kfi sN Ev.1 t0 = none ∧ x.1 42 t0 = 6) ∨ (¬ a = -1 ∧ ¬ kfi sN Ev.1 t0 = none))
section KSO3
variable {G : kG} {q : kP} {d : Nat} {x x0 y z xs : gd} {F : Int32 → gd → Prop} {Fv : gd → Prop} {X : String → gd → Prop} {P : Option gv → gd → Prop} {M : Int} {E : Nat → Prop} {K V : Nat → Int32} {sN : Nat → Nat → Bool} {e : Nat} {Ev : gV} {L : gU} {f : Nat} {t : Option Nat} {a : Int32}
theorem TGT_me (h : TGT sN Ev x t a) {U : Nat → Int32} {n : Nat} (h2 : a = -1 → ∃ j, j < n ∧ (U j = 9 ∨ U j = 10)) : HAs sN U n (pme t) Ev := by
  rcases h with ⟨e, -⟩ | ⟨t0, e, -, h⟩
  · rw [e]; exact trivial
  · rw [e]
    refine HAs_one.mpr (HA_26.mpr (fun hk => ?_))
    rcases h with ⟨ea, -⟩ | ⟨-, ek⟩
    · exact h2 ea
    · exact absurd hk ek
theorem TGT_meB (h : TGT sN Ev x t a) (ha : a = -1) {j : Nat} {u : Int32} (hu : u = 6 ∨ u = 9 ∨ u = 10) : HBs sN (pme t) Ev j u := by
  rcases h with ⟨-, e⟩ | ⟨t0, e, -, h⟩
  · exact absurd ha e
  · rw [e]
    rcases h with ⟨-, ek, -⟩ | ⟨ea, -⟩
    · exact HBs_one.mpr (HB_26 ek hu)
    · exact absurd ha ea
theorem TGT_ma (h : TGT sN Ev x t a) (h0 : 0 ≤ nx x) (l : La x y) : HAs sN (y.1 42) (nn y) (pma t) Ev := by
  obtain ⟨n1, n2⟩ := La_nn h0 l
  rcases h with ⟨e, -⟩ | ⟨t0, e, h1, h⟩
  · rw [e]; exact trivial
  · rw [e]
    refine HAs_one.mpr (HA_25.mpr ⟨by omega, fun hk => ?_⟩)
    rcases h with ⟨-, -, e6⟩ | ⟨-, ek⟩
    · rw [n2 _ h1]; exact e6
    · exact absurd hk ek
/-- a name alone: a cell's (use u), or a local's (u = 0) -/
theorem TGT_al (h : TGT sN Ev x t a) (h0 : 0 ≤ nx x) (l : La x y) (en : nn y = nn x + 1) {u : Int32} (hu : y.1 42 (nn x) = u) (hc : (kfi sN Ev.1 (nn x) = none ∧ ((a = -1 ∧ u = 8) ∨ (¬ a = -1 ∧ u = 6))) ∨ (¬ kfi sN Ev.1 (nn x) = none ∧ u = 0)) : UR sN Ev x y [pal t (nn x)] := by
  obtain ⟨n1, n2⟩ := La_nn h0 l
  have one : ∀ j, nn x ≤ j → j < nn y → j = nn x := fun j h1 h2 => by omega
  rcases h with ⟨e, na⟩ | ⟨t0, e, h1, h⟩
  · rw [e]
    refine ⟨HAs_one.mpr (HA_24.mpr ⟨by omega, fun hk => ?_⟩), fun j j1 j2 j3 => HBs_one.mpr ?_⟩
    · rcases hc with ⟨-, ⟨ea, -⟩ | ⟨-, eu⟩⟩ | ⟨ek, -⟩
      · exact absurd ea na
      · rw [hu]; exact eu
      · exact absurd hk ek
    · rw [one j j1 j2, hu] at j3 ⊢
      rcases hc with ⟨ek, ⟨ea, -⟩ | ⟨-, eu⟩⟩ | ⟨-, eu⟩
      · exact absurd ea na
      · rw [eu]; exact HB_24 ek
      · exact absurd eu j3
  · rw [e]
    have kt : a = -1 ↔ kfi sN Ev.1 t0 = none := by
      rcases h with ⟨e1, e2, -⟩ | ⟨e1, e2⟩
      · exact ⟨fun _ => e2, fun _ => e1⟩
      · exact ⟨fun q => absurd q e1, fun q => absurd q e2⟩
    refine ⟨HAs_one.mpr (HA_27.mpr ⟨⟨by omega, fun hk => ⟨fun hk2 => ?_, fun hk2 => ?_⟩⟩, by omega, fun hk => ?_⟩), fun j j1 j2 j3 => HBs_one.mpr ?_⟩
    · rw [hu]
      rcases hc with ⟨-, ⟨-, eu⟩ | ⟨ea, -⟩⟩ | ⟨ek, -⟩
      · exact eu
      · exact absurd (kt.mpr hk2) ea
      · exact absurd hk ek
    · rw [hu]
      rcases hc with ⟨-, ⟨ea, -⟩ | ⟨-, eu⟩⟩ | ⟨ek, -⟩
      · exact absurd (kt.mp ea) hk2
      · exact eu
      · exact absurd hk ek
    · rcases h with ⟨-, -, e6⟩ | ⟨-, ek⟩
      · rw [n2 _ h1]; exact e6
      · exact absurd hk ek
    · rw [one j j1 j2, hu] at j3 ⊢
      rcases hc with ⟨ek, ⟨ea, eu⟩ | ⟨ea, eu⟩⟩ | ⟨-, eu⟩
      · rw [eu]; exact HB_27a ek (kt.mp ea)
      · rw [eu]; exact HB_27b ek (fun q => ea (kt.mpr q))
      · exact absurd eu j3
end KSO3
end
section
/-! the class: what stands behind = , the whole -/
section KSO4
variable {G : kG} {q : kP} {d : Nat} {x x0 y z xs : gd} {F : Int32 → gd → Prop} {Fv : gd → Prop} {X : String → gd → Prop} {P : Option gv → gd → Prop} {M : Int} {E : Nat → Prop} {K V : Nat → Int32} {sN : Nat → Nat → Bool} {e : Nat} {Ev : gV} {L : gU} {f : Nat} {t : Option Nat} {W : gOp}
theorem sOp_16 {a : Int32} : sOp 16 a = if a = -1 then 1 else 16 := by
  unfold sOp
  by_cases c : a = -1
  · rw [if_pos ⟨rfl, c⟩, if_pos c]
  · rw [if_neg (fun q => c q.2), if_neg c]
theorem kd_srcS (hq : kV q) (hx : W = none → RX x0 X) (eW : W = pR K f t (nn x) L) (hB : BB x0 x M E0) (hf : (f : Int) + om x = 16) (ha : 2 * ssm x ≤ nx x + 1) (l a b : Int32) (hl : (a = -1 ∧ PLc x b) ∨ (¬ a = -1 ∧ 0 ≤ a.toInt ∧ a.toInt < M)) (hEv : ¬ Ev.2.1 = []) (hTc : TGc sN Ev t a b) (hT : TGT sN Ev x t a) (hA : KA K V sN e x) (hn : nn x ≤ e) (hE : KV' K e x Ev) (h : ∀ y, BB x0 y M E0 → nx x < nx y → om y = om x → ssm y = ssm x + 1 → (y.1 100 9 = x.1 100 9 ∧ y.1 100 7 = x.1 100 7 ∧ y.1 60 13 = x.1 60 13 ∧ (∀ k, y.1 20 k = x.1 20 k) ∧ OPe x y) → La x y → SFin K V sN e Ev x t L W y → Fv y) (D : Int32) (eD : D.toInt = om x + 1) (i2 e2 : Int32) (hi2 : i2 = -1) (he2 : e2 = -1) (hS : ¬ (K (nn x) = 35 ∨ K (nn x) = 10 ∨ K (nn x) = 16)) (hS2 : K (nn x) = 1 → nn x < 700 → ¬ K (nn x + 1) = 65 ∧ (K (nn x + 1) = 67 → ¬ kfi sN Ev.1 (nn x) = none)) : KE G q (d + 10) zk_X7_source 68 [(0, vr 100), (1, vi l), (2, vi a), (4, vi D), (5, vi (16 : Int32)), (6, vi b), (7, vi i2), (8, vi e2)] [] x (rv Fv) X := by
  have b0 := hB.1.1.2.1
  have he2' := he2
  have p174 := kd_src174 (d := d) (G := G) hq hx hB hf ha l a b hl hEv hTc h D eD
  refine kg_X7_source_68 hq _ _ _ _ _ _ _ ⟨fun _ => p174 x 16 b i2 e2 (Or.inr ⟨by decide, hA, hn, hE, ?_⟩) GS_rf hB (fun q => absurd q (by decide)) (by decide) (fun q => absurd rfl q) (fun _ => rfl) (Or.inr (Or.inl rfl)), fun q => absurd rfl q⟩
  by_cases c : K (nn x) = 1 ∧ nn x < 700 ∧ K (nn x + 1) = 67
  · obtain ⟨c1, c7, c67⟩ := c
    have hk := (hS2 c1 c7).2 c67
    have hW : W = if nn x < 700 ∧ 1 ≤ f then some (nn x + 1, L ++ [pal t (nn x)]) else none := by
      rw [eW]; unfold pR
      rw [if_neg hS, if_neg (fun z => (hS2 c1 c7).1 z.2.2), if_pos ⟨c1, c67⟩]
    refine ⟨L, fun q9 => ?_, fun w N2 r gw hRw hN2 hEw hpX hcp hrr => ?_⟩
    · cases f with
      | zero => rw [hW, if_neg (fun z => absurd z.2 (by decide))]
      | succ f => rw [pX_name c1 c67 c7] at q9; exact absurd q9 (by simp)
    · cases f with
      | zero => exact absurd hpX (by rw [pX_f0]; simp)
      | succ f =>
        rw [pX_name c1 c67 c7] at hpX
        have e1 := Option.some.inj hpX
        have e2 : nn x + 1 = nn w := congrArg Prod.fst e1
        have e3 : L ++ [(3, nn x, 0)] ++ [(54, 0, 0)] = L ++ N2 := congrArg Prod.snd e1
        rw [List.append_assoc] at e3
        have e4 : N2 = [(3, nn x, 0)] ++ [(54, 0, 0)] := (List.append_cancel_left e3).symm
        have u0 : w.1 42 (nn x) = 0 := by
          by_cases c0 : w.1 42 (nn x) = 0
          · exact c0
          · exfalso
            have g := hRw.2.2.2 (nn x) (Nat.le_refl _) (by omega) c0
            rw [e4] at g
            rcases HBs_app.mp g with g | g
            · have g := HBs_one.mp g
              unfold HB at g
              simp at g
              exact hk g.2
            · have g := HBs_one.mp g
              unfold HB at g
              simp at g
        refine Or.inl ⟨by decide, hEw, [pal t (nn x)], ⟨hRw.1, hRw.2.1, TGT_al hT b0 gw.1 e2.symm u0 (Or.inr ⟨hk, rfl⟩)⟩, pal_still, pal_6, ?_, fun z9 hz9 => ?_⟩
        · rw [hW, if_pos ⟨c7, by omega⟩, e2]
        · rw [sOp_16, hi2, he2'] at hz9
          rw [e4] at hcp
          exact PD_als (PD_x (PD_0 (fun c k _ => rfl) (Or.inr rfl)) (sEv_one (Or.inr (Or.inr (Or.inr (Or.inr (Or.inl ⟨rfl, rfl⟩)))))) hcp (GS_su gw) hrr) hEv hEw hTc hk hz9
  · have hW : W = (pX K false f (nn x) (L ++ pma t)).bind (pan (76, nn x, 0)) := by
      by_cases c7 : nn x < 700
      · rw [eW]; unfold pR
        rw [if_neg hS, if_neg (fun z => (hS2 z.1 c7).1 z.2.2), if_neg (fun z => c ⟨z.1, c7, z.2⟩)]
      · rw [eW, pR_7 (by omega), pX_7 (by omega)]; rfl
    refine ⟨L ++ pma t, fun q9 => by rw [hW, q9]; rfl, fun w N2 r gw hRw hN2 hEw hpX hcp hrr => ?_⟩
    obtain ⟨N20, -, hPw⟩ := PD_xp (PD_0 (x := x) (y := x) (t := t) (fun c k _ => rfl) (Or.inr rfl)) hpX hcp gw hrr
    have hu : UR sN Ev x w (pma t ++ N2) := ⟨HAs_app.mpr ⟨TGT_ma hT b0 gw.1, by rw [exs_still pma_still]; exact hRw.2.2.1⟩, fun j h1 h2 h3 => HBs_app.mpr (Or.inr (by rw [exs_still pma_still]; exact hRw.2.2.2 j h1 h2 h3))⟩
    refine Or.inl ⟨by decide, hEw, pma t ++ N2 ++ [(76, nn x, 0)], ⟨hRw.1, hRw.2.1, UR_dull hu (dull_k (by decide))⟩, still_app (still_app pma_still hN2) (stl_k (by decide)), fun t0 e1 e2 => HBs_app.mpr (Or.inl (pma_6 t0 e1 e2)), ?_, fun z9 hz9 => PD_76 hPw hEv hEw hTc (by
      rw [sOp_16, hi2, he2] at hz9
      exact hz9)⟩
    rw [hW, hpX]
    show some (nn w, L ++ pma t ++ N2 ++ [(76, nn x, 0)]) = _
    rw [List.append_assoc L, List.append_assoc L]
theorem kd_srcX (hq : kV q) (hx : W = none → RX x0 X) (eW : W = pR K f t (nn x) L) (hB : BB x0 x M E0) (hf : (f : Int) + om x = 16) (ha : 2 * ssm x ≤ nx x + 1) (l a b : Int32) (hl : (a = -1 ∧ PLc x b) ∨ (¬ a = -1 ∧ 0 ≤ a.toInt ∧ a.toInt < M)) (hEv : ¬ Ev.2.1 = []) (hTc : TGc sN Ev t a b) (hT : TGT sN Ev x t a) (hA : KA K V sN e x) (hn : nn x ≤ e) (hE : KV' K e x Ev) (h : ∀ y, BB x0 y M E0 → nx x < nx y → om y = om x → ssm y = ssm x + 1 → (y.1 100 9 = x.1 100 9 ∧ y.1 100 7 = x.1 100 7 ∧ y.1 60 13 = x.1 60 13 ∧ (∀ k, y.1 20 k = x.1 20 k) ∧ OPe x y) → La x y → SFin K V sN e Ev x t L W y → Fv y) (D : Int32) (eD : D.toInt = om x + 1) (o i2 e2 : Int32) (hi2 : i2 = -1) (he2 : e2 = -1) (hcy : ∀ c k, ccS c k → y.1 c k = x.1 c k) (ho : (o = 2 ∧ K (nn x) = 35) ∨ (o = 3 ∧ K (nn x) = 10) ∨ (o = 4 ∧ K (nn x) = 16)) (gy : GS x y) (hBy : BB x0 y M E0) (hRy : RIw K V sN e Ev x y (pme t)) (eny : nn y = nn x + 1) (c7 : nn x < 700) (hbu : ¬ a = -1 ∨ BU y) : KE G q (d + 10) zk_X7_source 68 [(0, vr 100), (1, vi l), (2, vi a), (4, vi D), (5, vi o), (6, vi b), (7, vi i2), (8, vi e2)] [] y (rv Fv) X := by
  have o1 := (BB_om hB).1
  have by0 := hBy.1.1.2.1
  have bx0 := hB.1.1.2.1
  have cy := nn_is by0
  have cx := nn_is bx0
  have p163 := kd_src163 (d := d) (G := G) hq hx hB hf ha l a b hl hEv hTc h D eD
  have eF : 17 - D.toNatClampNeg = f := by
    have u := t_cl D
    omega
  have hex : K (nn x) = 35 ∨ K (nn x) = 10 ∨ K (nn x) = 16 := ho.imp (fun z => z.2) (fun z => z.imp (fun z => z.2) (fun z => z.2))
  have n0 : ¬ o = 0 ∧ ¬ o = 16 := by rcases ho with ⟨e, -⟩ | ⟨e, -⟩ | ⟨e, -⟩ <;> rw [e] <;> decide
  have o5 : o = 0 ∨ o = 2 ∨ o = 3 ∨ o = 4 ∨ o = 16 := Or.inr (by rcases ho with ⟨e, -⟩ | ⟨e, -⟩ | ⟨e, -⟩ <;> rw [e] <;> decide)
  have hop : o = Int32.ofNat (opX (K (nn x))) := by rcases ho with ⟨e, k⟩ | ⟨e, k⟩ | ⟨e, k⟩ <;> rw [e, k] <;> rfl
  have h16 : o = 4 ↔ K (nn x) = 16 := by rcases ho with ⟨e, k⟩ | ⟨e, k⟩ | ⟨e, k⟩ <;> rw [e, k] <;> decide
  have hWp : W = (pP K f (nn y) (L ++ pme t)).bind (fun q => ((pt K 68 q).bind (pXq K f)).bind (fun q => (if K (nn x) = 16 then (pt K 68 q).bind (pXq K f) else some q).bind (pan (74, nn x, 0)))) := by
    rw [eW, eny]; unfold pR
    rw [if_pos hex, if_pos c7, Option.bind_assoc, Option.bind_assoc]
    congr 1
    funext r
    rw [Option.bind_assoc]
  have p132 : ∀ s9 : Int32, (¬ s9 = 0 ↔ y.1 23 ((y.1 100 4).toNatClampNeg + 1) = 25) → KE G q (d + 10) zk_X7_source 132 [(0, vr 100), (1, vi l), (2, vi a), (4, vi D), (5, vi o), (7, vi i2), (8, vi e2), (9, vi s9)] [vi 0, vi s9, vi 2, vr 100] y (rv Fv) X := by
    intro s9 h25
    have go : ∀ u : Int32, ((s9 = 0 ∧ u = 6) ∨ (¬ s9 = 0 ∧ u = 7)) → KE G q (d + 9) zk_X7_needFor 0 [(0, vr 100), (1, vi 2), (2, vi u)] [] y (ri (fun r4 x3 => ((s9 = (0 : Int32) → KE G q (d + 10) zk_X7_source 163 [(0, vr 100), (1, vi l), (2, vi a), (4, vi D), (5, vi o), (6, vi r4), (7, vi i2), (8, vi e2)] [] x3 (rv Fv) X) ∧ (¬ (s9 = (0 : Int32)) → KE G q (d + 9) zk_X7_pass 0 [(0, vr 100)] [] x3 (rv (fun x6 => KE G q (d + 9) zk_X7_sum 0 [(0, vr 100), (1, vi D)] [] x6 (ri (fun r8 x7 => KE G q (d + 9) zk_X7_need 0 [(0, vr 100), (1, vi 26)] [] x7 (rv (fun x9 => KE G q (d + 10) zk_X7_source 163 [(0, vr 100), (1, vi l), (2, vi a), (4, vi D), (5, vi o), (6, vi r4), (7, vi r8), (8, vi e2)] [] x9 (rv Fv) X)) X)) X)) X)))) X := by
      intro u hu
      have hu2 : u = 6 ∨ u = 7 := hu.imp (fun z => z.2) (fun z => z.2)
      refine kd_place (x := x) hq hx hWp hBy hRy.1 hRy.2.1 (KV_GS gy hE) D eF (by omega) (by omega) u s9 i2 (by rcases hu2 with e | e <;> rw [e] <;> decide) h25 pme_still hEv hi2 (PD_0 hcy (Or.inl rfl)) cy.symm (fun c z lz en hAz hnz eu => ?_) (fun c z lz en hAz hnz eu => ?_) (fun r4 i9 w => KE G q (d + 10) zk_X7_source 163 [(0, vr 100), (1, vi l), (2, vi a), (4, vi D), (5, vi o), (6, vi r4), (7, vi i9), (8, vi e2)] [] w (rv Fv) X) (fun i9 w N3 hBw gw nw uw hRw hNw hEw hWw hPw => ?_)
      · have e6 : u = 6 := by
          rcases hu with ⟨-, e⟩ | ⟨e, -⟩
          · exact e
          · exact absurd c e
        rw [e6] at eu
        exact RI_use hRy by0 lz hAz hnz en (HAs_one.mpr (HA_6.mpr ⟨by omega, eu⟩)) (fun _ => HBs_one.mpr (by rw [eu]; exact HB_6))
      · have e7 : u = 7 := by
          rcases hu with ⟨e, -⟩ | ⟨-, e⟩
          · exact absurd e c
          · exact e
        rw [e7] at eu
        exact RI_use hRy by0 lz hAz hnz en (HAs_one.mpr (HA_7.mpr ⟨by omega, Or.inl eu⟩)) (fun _ => HBs_one.mpr (by rw [eu]; exact HB_7))
      · refine p163 w o _ i9 e2 (Or.inr ⟨n0.1, h16, hEw, pme t ++ N3, hRw, hNw, pme_6, hWw, hop, he2, hPw⟩) (GS_tr gy gw) hBw (by omega) n0.2 o5 ⟨nn y, by rw [cy], by omega, ?_⟩ (hbu.imp id (fun z => Or.inr (La_BU gw.1 z)))
        rw [uw]
        exact hu2.imp id Or.inl
    exact kg_X7_source_132 hq _ _ _ _ _ _ _ _ _ _ (kg_X7_useOfCell_0 hq _ _ ⟨fun c => ⟨fun _ => ri_i (go _ (Or.inl ⟨c, rfl⟩)), fun z => absurd rfl z⟩, fun c => ⟨fun _ => ri_i (go _ (Or.inr ⟨c, rfl⟩)), fun z => absurd rfl z⟩⟩)
  have p89 : ∀ s9 : Int32, (¬ s9 = 0 ↔ y.1 23 ((y.1 100 4).toNatClampNeg + 1) = 25) → KE G q (d + 10) zk_X7_source 89 [(0, vr 100), (1, vi l), (2, vi a), (4, vi D), (5, vi o), (7, vi i2), (8, vi e2)] [vi s9] y (rv Fv) X := fun s9 h25 => kg_X7_source_89 hq _ _ _ _ _ _ _ ⟨fun _ => kg_X7_source_113 hq _ _ _ _ _ _ _ ⟨fun _ => p132 s9 h25, fun z => absurd z n0.1⟩, fun z => absurd z n0.1⟩
  exact kg_X7_source_68 hq _ _ _ _ _ _ _ ⟨fun z => absurd z n0.2, fun _ => kp_sortBehind hq hBy.1.1 ⟨fun c => p89 0 ⟨fun z => absurd rfl z, fun z => absurd z c⟩, fun c => p89 1 ⟨fun _ => c, fun _ => by decide⟩⟩⟩
end KSO4
end
section
/-! the class: what stands behind = , reading a cell; and all of it -/
section KSO5
variable {G : kG} {q : kP} {d : Nat} {x x0 y z xs : gd} {F : Int32 → gd → Prop} {Fv : gd → Prop} {X : String → gd → Prop} {P : Option gv → gd → Prop} {M : Int} {E : Nat → Prop} {K V : Nat → Int32} {sN : Nat → Nat → Bool} {e : Nat} {Ev : gV} {L : gU} {f : Nat} {t : Option Nat} {W : gOp}
theorem kd_srcR (hq : kV q) (hx : W = none → RX x0 X) (eW : W = pR K f t (nn x) L) (hB : BB x0 x M E0) (hf : (f : Int) + om x = 16) (ha : 2 * ssm x ≤ nx x + 1) (l a b : Int32) (hl : (a = -1 ∧ PLc x b) ∨ (¬ a = -1 ∧ 0 ≤ a.toInt ∧ a.toInt < M)) (hEv : ¬ Ev.2.1 = []) (hTc : TGc sN Ev t a b) (hT : TGT sN Ev x t a) (hA : KA K V sN e x) (hn : nn x ≤ e) (hE : KV' K e x Ev) (h : ∀ y, BB x0 y M E0 → nx x < nx y → om y = om x → ssm y = ssm x + 1 → (y.1 100 9 = x.1 100 9 ∧ y.1 100 7 = x.1 100 7 ∧ y.1 60 13 = x.1 60 13 ∧ (∀ k, y.1 20 k = x.1 20 k) ∧ OPe x y) → La x y → SFin K V sN e Ev x t L W y → Fv y) (D : Int32) (eD : D.toInt = om x + 1) (i2 e2 : Int32) (hi2 : i2 = -1) (he2 : e2 = -1) (hk1 : K (nn x) = 1) (hk2 : nn x < 700 → K (nn x + 1) = 65 ∨ (K (nn x + 1) = 67 ∧ kfi sN Ev.1 (nn x) = none)) : KE G q (d + 10) zk_X7_source 68 [(0, vr 100), (1, vi l), (2, vi a), (4, vi D), (5, vi (0 : Int32)), (6, vi b), (7, vi i2), (8, vi e2)] [] x (rv Fv) X := by
  have o1 := (BB_om hB).1
  have bx0 := hB.1.1.2.1
  have cx := nn_is bx0
  have k16 : (16 : Int32).toInt = 16 := rfl
  have p163 := kd_src163 (d := d) (G := G) hq hx hB hf ha l a b hl hEv hTc h D eD
  have so0 : sOp 0 a = 0 := by unfold sOp; rw [if_neg (fun q => absurd q.1 (by decide))]
  have eF : 17 - D.toNatClampNeg = f := by
    have u := t_cl D
    omega
  have nex : ¬ (K (nn x) = 35 ∨ K (nn x) = 10 ∨ K (nn x) = 16) := by rw [hk1]; decide
  have on1 : nn x < 700 → nn x + 1 ≤ e := fun c => KA_on hA hn c (by rw [hk1]; decide) (by rw [hk1]; decide)
  have k25 : nn x < 700 → (x.1 23 (nn x + 1) = 25 ↔ K (nn x + 1) = 65) := fun c => KA_k hA (on1 c) 25 (by decide)
  have bu : ∀ (u : Int32) (w : gd), ((¬ a = -1 ∧ (u = 6 ∨ u = 7)) ∨ (a = -1 ∧ (u = 8 ∨ u = 9))) → nx x < nx w → w.1 42 (nn x) = u → ¬ a = -1 ∨ (0 : Int32) = 16 ∨ BU w := by
    intro u w hu hw eu
    rcases hu with ⟨e, -⟩ | ⟨-, e⟩
    · exact Or.inl e
    · refine Or.inr (Or.inr ⟨nn x, by omega, ?_⟩)
      rw [eu]
      rcases e with e | e
      · exact Or.inr (Or.inl e)
      · exact Or.inr (Or.inr (Or.inl e))
  have row : ∀ s9 s0 : Int32, ¬ s9 = 0 → x.1 23 ((x.1 100 4).toNatClampNeg + 1) = 25 → ((¬ a = -1 ∧ s0 = 0) ∨ (a = -1 ∧ s0 = 1)) → KE G q (d + 10) zk_X7_source 132 [(0, vr 100), (1, vi l), (2, vi a), (4, vi D), (5, vi 0), (7, vi i2), (8, vi e2), (9, vi s9)] [vi s0, vi s9, vi 2, vr 100] x (rv Fv) X := by
    intro s9 s0 hs9 h25 hs0
    have hWp : W = (pP K f (nn x) (L ++ pme t)).bind (pan (75, nn x, 0)) := by
      by_cases c7 : nn x < 700
      · rw [eW]; unfold pR
        rw [if_neg nex, if_pos ⟨hk1, c7, (k25 c7).mp h25⟩]
      · rw [eW, pR_7 (by omega)]; unfold pP
        rw [if_neg (fun z => c7 z.2)]; rfl
    have go : ∀ u : Int32, ((¬ a = -1 ∧ u = 7) ∨ (a = -1 ∧ u = 9)) → KE G q (d + 9) zk_X7_needFor 0 [(0, vr 100), (1, vi 2), (2, vi u)] [] x (ri (fun r4 x3 => ((s9 = (0 : Int32) → KE G q (d + 10) zk_X7_source 163 [(0, vr 100), (1, vi l), (2, vi a), (4, vi D), (5, vi 0), (6, vi r4), (7, vi i2), (8, vi e2)] [] x3 (rv Fv) X) ∧ (¬ (s9 = (0 : Int32)) → KE G q (d + 9) zk_X7_pass 0 [(0, vr 100)] [] x3 (rv (fun x6 => KE G q (d + 9) zk_X7_sum 0 [(0, vr 100), (1, vi D)] [] x6 (ri (fun r8 x7 => KE G q (d + 9) zk_X7_need 0 [(0, vr 100), (1, vi 26)] [] x7 (rv (fun x9 => KE G q (d + 10) zk_X7_source 163 [(0, vr 100), (1, vi l), (2, vi a), (4, vi D), (5, vi 0), (6, vi r4), (7, vi r8), (8, vi e2)] [] x9 (rv Fv) X)) X)) X)) X)))) X := by
      intro u hu
      have hu2 : u = 7 ∨ u = 9 := hu.imp (fun z => z.2) (fun z => z.2)
      refine kd_place (x := x) hq hx hWp hB hA hn hE D eF (by omega) (by omega) u s9 i2 (by rcases hu2 with e | e <;> rw [e] <;> decide) ⟨fun _ => h25, fun _ => hs9⟩ pme_still hEv hi2 (PD_0 (fun c k _ => rfl) (Or.inl rfl)) cx.symm (fun c => absurd c hs9) (fun c z lz en hAz hnz eu => ?_) (fun r4 i9 w => KE G q (d + 10) zk_X7_source 163 [(0, vr 100), (1, vi l), (2, vi a), (4, vi D), (5, vi 0), (6, vi r4), (7, vi i9), (8, vi e2)] [] w (rv Fv) X) (fun i9 w N3 hBw gw nw uw hRw hNw hEw hWw hPw => ?_)
      · refine ⟨hAz, hnz, HAs_app.mpr ⟨TGT_me hT (fun ea => ⟨nn x, by omega, Or.inl ?_⟩), HAs_one.mpr (HA_7.mpr ⟨by omega, by rw [eu]; exact hu2⟩)⟩, fun j h1 h2 h3 => HBs_app.mpr ?_⟩
        · rcases hu with ⟨e, -⟩ | ⟨-, e⟩
          · exact absurd ea e
          · rw [eu]; exact e
        · have ej : j = nn x := by omega
          rw [ej, eu]
          rcases hu with ⟨-, e⟩ | ⟨ea, e⟩
          · rw [e]; exact Or.inr (HBs_one.mpr HB_7)
          · rw [e]; exact Or.inl (TGT_meB hT ea (Or.inr (Or.inl rfl)))
      · have hF : SFp K V sN e Ev x t L W (sOp 0 a) a (x.1 100 4) i9 e2 (-1) w := by
          refine ⟨hEw, pme t ++ N3 ++ [(75, nn x, 0)], ⟨hRw.1, hRw.2.1, UR_dull hRw.2.2 (dull_k (by decide))⟩, still_app hNw (stl_k (by decide)), fun t0 e1 e2 => HBs_app.mpr (Or.inl (pme_6 t0 e1 e2)), ?_, fun z9 hz9 => PD_75 hPw hEv hEw hTc (by rw [so0, he2] at hz9; exact hz9)⟩
          rw [hWw]
          show some (nn w, L ++ (pme t ++ N3) ++ [(75, nn x, 0)]) = _
          rw [List.append_assoc L]
        refine p163 w 0 _ i9 e2 (Or.inl ⟨rfl, hF⟩) gw hBw nw (by decide) (by decide) ⟨nn x, by rw [cx], by omega, ?_⟩ (bu u w (hu.imp (fun z => ⟨z.1, Or.inr z.2⟩) (fun z => ⟨z.1, Or.inr z.2⟩)) nw uw)
        rw [uw]
        rcases hu2 with e | e
        · exact Or.inr (Or.inl e)
        · exact Or.inr (Or.inr (Or.inr e))
    refine kg_X7_source_132 hq _ _ _ _ _ _ _ _ _ _ (kg_X7_useOfCell_0 hq _ _ ⟨fun c => absurd c hs9, fun c => ⟨fun c0 => ri_i (go _ (Or.inl ⟨?_, rfl⟩)), fun c0 => ri_i (go _ (Or.inr ⟨?_, rfl⟩))⟩⟩)
    · rcases hs0 with ⟨e, -⟩ | ⟨-, e⟩
      · exact e
      · rw [e] at c0; exact absurd c0 (by decide)
    · rcases hs0 with ⟨-, e⟩ | ⟨e, -⟩
      · exact absurd e c0
      · exact e
  have alone : ∀ s0 : Int32, ¬ x.1 23 ((x.1 100 4).toNatClampNeg + 1) = 25 → 1 ≤ f → ((¬ a = -1 ∧ s0 = 0) ∨ (a = -1 ∧ s0 = 1)) → KE G q (d + 10) zk_X7_source 132 [(0, vr 100), (1, vi l), (2, vi a), (4, vi D), (5, vi 0), (7, vi i2), (8, vi e2), (9, vi 0)] [vi s0, vi 0, vi 2, vr 100] x (rv Fv) X := by
    intro s0 h25 hf1 hs0
    have go : ∀ u : Int32, ((a = -1 ∧ u = 8) ∨ (¬ a = -1 ∧ u = 6)) → KE G q (d + 9) zk_X7_needFor 0 [(0, vr 100), (1, vi 2), (2, vi u)] [] x (ri (fun r4 x3 => (((0 : Int32) = (0 : Int32) → KE G q (d + 10) zk_X7_source 163 [(0, vr 100), (1, vi l), (2, vi a), (4, vi D), (5, vi 0), (6, vi r4), (7, vi i2), (8, vi e2)] [] x3 (rv Fv) X) ∧ (¬ ((0 : Int32) = (0 : Int32)) → KE G q (d + 9) zk_X7_pass 0 [(0, vr 100)] [] x3 (rv (fun x6 => KE G q (d + 9) zk_X7_sum 0 [(0, vr 100), (1, vi D)] [] x6 (ri (fun r8 x7 => KE G q (d + 9) zk_X7_need 0 [(0, vr 100), (1, vi 26)] [] x7 (rv (fun x9 => KE G q (d + 10) zk_X7_source 163 [(0, vr 100), (1, vi l), (2, vi a), (4, vi D), (5, vi 0), (6, vi r4), (7, vi r8), (8, vi e2)] [] x9 (rv Fv) X)) X)) X)) X)))) X := by
      intro u hu
      have hu2 : u = 8 ∨ u = 6 := hu.imp (fun z => z.2) (fun z => z.2)
      refine kd_needFor hq 2 u 1 (by decide) (by decide) (by decide) (by rcases hu2 with e | e <;> rw [e] <;> decide) (fun no => hx (by rw [eW]; exact pR_7 (by
        by_cases c7 : nn x < 700
        · exact absurd ⟨hk1, c7⟩ no
        · omega))) hB hA hn (fun kk c7 z hBz nz gz en hAz hnz eu ht hcz => ⟨fun _ => ?_, fun q => absurd rfl q⟩)
      have n65 : ¬ K (nn x + 1) = 65 := fun z => h25 ((k25 c7).mpr z)
      obtain ⟨h67, hk⟩ := (hk2 c7).resolve_left n65
      have hF : SFp K V sN e Ev x t L W (sOp 0 a) a (x.1 100 4) i2 e2 (-1) z := by
        refine ⟨KV_GS gz hE, [pal t (nn x)], ⟨hAz, hnz, TGT_al hT bx0 gz.1 en eu (Or.inl ⟨hk, hu⟩)⟩, pal_still, pal_6, ?_, fun z9 hz9 => PD_al hcz (KV_GS gz hE) hTc hk cx.symm (by rw [so0, hi2, he2] at hz9; exact hz9)⟩
        rw [eW]; unfold pR
        rw [if_neg nex, if_neg (fun z => n65 z.2.2), if_pos ⟨hk1, h67⟩, if_pos ⟨c7, hf1⟩, en]
      refine p163 z 0 _ i2 e2 (Or.inl ⟨rfl, hF⟩) gz hBz (by omega) (by decide) (by decide) ⟨nn x, by rw [cx], by omega, ?_⟩ (bu u z (hu.symm.imp (fun z => ⟨z.1, Or.inl z.2⟩) (fun z => ⟨z.1, Or.inl z.2⟩)) (by omega) eu)
      rw [eu]
      rcases hu2 with e | e
      · exact Or.inr (Or.inr (Or.inl e))
      · exact Or.inl e
    refine kg_X7_source_132 hq _ _ _ _ _ _ _ _ _ _ (kg_X7_useOfCell_0 hq _ _ ⟨fun _ => ⟨fun c0 => ri_i (go _ (Or.inr ⟨?_, rfl⟩)), fun c0 => ri_i (go _ (Or.inl ⟨?_, rfl⟩))⟩, fun c => absurd rfl c⟩)
    · rcases hs0 with ⟨e, -⟩ | ⟨-, e⟩
      · exact e
      · rw [e] at c0; exact absurd c0 (by decide)
    · rcases hs0 with ⟨-, e⟩ | ⟨e, -⟩
      · exact absurd e c0
      · exact e
  refine kg_X7_source_68 hq _ _ _ _ _ _ _ ⟨fun z => absurd z (by decide), fun _ => kp_sortBehind hq hB.1.1 ⟨fun c => kg_X7_source_89 hq _ _ _ _ _ _ _ ⟨fun z => absurd rfl z, fun _ => ⟨fun z => absurd rfl z, fun _ => ⟨fun cD => kg_X7_source_113 hq _ _ _ _ _ _ _ ⟨fun z => absurd rfl z, fun _ => ⟨fun ca => alone 0 c ?_ (Or.inl ⟨ca, rfl⟩), fun ca => alone 1 c ?_ (Or.inr ⟨ca, rfl⟩)⟩⟩, fun cD => kd_refuse hq (hx ?_) hB _⟩⟩⟩, fun c => kg_X7_source_89 hq _ _ _ _ _ _ _ ⟨fun z => absurd rfl z, fun _ => ⟨fun _ => kg_X7_source_113 hq _ _ _ _ _ _ _ ⟨fun z => absurd rfl z, fun _ => ⟨fun ca => row 1 0 (by decide) c (Or.inl ⟨ca, rfl⟩), fun ca => row 1 1 (by decide) c (Or.inr ⟨ca, rfl⟩)⟩⟩, fun z => absurd z (by decide)⟩⟩⟩⟩
  · rw [t_le, k16] at cD; omega
  · rw [t_le, k16] at cD; omega
  · rw [t_le, k16] at cD
    by_cases c7 : nn x < 700
    · have n65 : ¬ K (nn x + 1) = 65 := fun z => c ((k25 c7).mpr z)
      obtain ⟨h67, hk⟩ := (hk2 c7).resolve_left n65
      rw [eW]; unfold pR
      rw [if_neg nex, if_neg (fun z => n65 z.2.2), if_pos ⟨hk1, h67⟩, if_neg (by omega)]
    · rw [eW]; exact pR_7 (by omega)
theorem kd_source (hq : kV q) (hx : W = none → RX x0 X) (eW : W = pR K f t (nn x) L) (hB : BB x0 x M E0) (hf : (f : Int) + om x = 16) (ha : 2 * ssm x ≤ nx x + 1) (l a b : Int32) (hl : (a = -1 ∧ PLc x b) ∨ (¬ a = -1 ∧ 0 ≤ a.toInt ∧ a.toInt < M)) (hEv : ¬ Ev.2.1 = []) (hTc : TGc sN Ev t a b) (hT : TGT sN Ev x t a) (hA : KA K V sN e x) (hn : nn x ≤ e) (hE : KV' K e x Ev) (h : ∀ y, BB x0 y M E0 → nx x < nx y → om y = om x → ssm y = ssm x + 1 → (y.1 100 9 = x.1 100 9 ∧ y.1 100 7 = x.1 100 7 ∧ y.1 60 13 = x.1 60 13 ∧ (∀ k, y.1 20 k = x.1 20 k) ∧ OPe x y) → La x y → SFin K V sN e Ev x t L W y → Fv y) : KE G q (d + 10) zk_X7_source 0 [(0, vr 100), (1, vi l), (2, vi a), (3, vi b)] [] x (rv Fv) X := by
  obtain ⟨o1, o2⟩ := BB_om hB
  have bx0 := hB.1.1.2.1
  have cx := nn_is bx0
  have eD := o2 (by omega)
  obtain ⟨D, hD⟩ : ∃ D, D = x.1 100 13 + 1 := ⟨_, rfl⟩
  rw [← hD] at eD
  have p41 : ∀ (o i2 e2 : Int32), i2 = -1 → e2 = -1 → ((o = 2 ∧ K (nn x) = 35) ∨ (o = 3 ∧ K (nn x) = 10) ∨ (o = 4 ∧ K (nn x) = 16)) → KE G q (d + 10) zk_X7_source 41 [(0, vr 100), (1, vi l), (2, vi a), (4, vi D), (5, vi o), (6, vi b), (7, vi i2), (8, vi e2)] [] x (rv Fv) X := by
    intro o i2 e2 hi2 he2 ho
    have hkk : ¬ K (nn x) = 0 ∧ ¬ K (nn x) = 3 := by rcases ho with ⟨-, k⟩ | ⟨-, k⟩ | ⟨-, k⟩ <;> rw [k] <;> decide
    have p63 : ∀ u : Int32, ((u = 0 ∧ ¬ a = -1) ∨ (u = 10 ∧ a = -1)) → KE G q (d + 10) zk_X7_source 63 [(0, vr 100), (1, vi l), (2, vi a), (4, vi D), (5, vi o), (6, vi b), (7, vi i2), (8, vi e2)] [vi u, vi (x.1 100 4), vr 42] x (rv Fv) X := by
      intro u hu
      refine kg_X7_source_63 hq _ _ _ _ _ _ _ _ _ ⟨RB_at hB.1.1, fun x2 ex2 => ?_⟩
      have f2 : fm (fun c k => c = 42 ∧ k = (x.1 100 4).toNatClampNeg) x x2 := by rw [ex2]; exact fm_si (fm_rf _ _) ⟨rfl, rfl⟩
      have u2 : x2.1 42 (x.1 100 4).toNatClampNeg = u := by rw [ex2]; (simp only [si_get, sfl_get, Nat.reduceEqDiff, eq_self, and_false, false_and, and_true, true_and, if_true, if_false, reduceIte, reduceCtorEq])
      have q4 : x2.1 100 4 = x.1 100 4 := f2 _ _ (by omega)
      have eN := BB_N hB
      have n2 : nx x2 = nx x := by unfold nx; rw [q4]
      have la2 : La x x2 := ⟨fun c k q1 q2 => f2 c k (by omega), by omega, fun j hj => f2 42 j (by omega)⟩
      have S2 : SU x2 := by
        obtain ⟨⟨hT, b1, b2, b3⟩, ⟨u1, u2⟩, hp, hP⟩ := hB.1
        unfold SU SV US RB mt
        rw [f2 20 7 (by omega), f2 60 3 (by omega), n2]
        refine ⟨⟨kT_fm hT la2.1, b1, b2, b3⟩, ⟨fun j h1 h2 => ?_, fun j h1 h2 => ?_⟩, hp, fun i hi => La_PQ la2 (f2 _ _ (by omega)) (f2 _ _ (by omega)) (hP i hi)⟩
        · rw [f2 42 j (by omega)]; exact u1 j h1 h2
        · rw [f2 42 j (by omega)] at h2; rw [f2 42 _ (by omega)]; exact u2 j h1 h2
      have z2 : fm sR x0 x2 := fm_tr hB.2.2.2.2.2.1 (fm_w f2 (fun c k q => by unfold sR; omega))
      refine kf_pass hq z2 (fun c7 => hx (by rw [eW]; exact pR_7 (by omega))) S2 (by rw [q4, f2 23 _ (by omega)]; exact sort_n0 hA hn hkk.1) (by rw [q4, u2]; rcases hu with ⟨rfl, -⟩ | ⟨rfl, -⟩ <;> decide) (fun c7 y f n S fr la _ => ?_)
      have g : GS x y := ⟨La_tr la2 la, fm_tr (fm_w f2 (fun c k q => by unfold sSum; omega)) (fm_w f (fun c k q => by unfold sSum; omega))⟩
      have SUy : SU y := by unfold SU; rw [f 60 3 (by omega)]; exact S
      have i7 : nn x < 700 := by omega
      have ny : nn y = nn x + 1 := nn_up bx0 (by omega)
      have uy : y.1 42 (nn x) = u := by rw [f 42 _ (by omega)]; exact u2
      refine kd_srcX hq hx eW hB hf ha l a b hl hEv hTc hT hA hn hE h D eD o i2 e2 hi2 he2 (fun c k q9 => (f c k (by unfold ccS at q9; omega)).trans (f2 c k (by unfold ccS at q9; omega))) ho g (BB_on hB SUy fr g) ⟨KA_fm hA g.1.1, by rw [ny]; exact KA_on hA hn i7 hkk.1 hkk.2, TGT_me hT (fun ea => ⟨nn x, by omega, Or.inr ?_⟩), fun j h1 h2 h3 => ?_⟩ ny i7 ?_
      · rcases hu with ⟨-, e⟩ | ⟨e, -⟩
        · exact absurd ea e
        · rw [uy]; exact e
      · have ej : j = nn x := by omega
        rw [ej, uy] at h3 ⊢
        rcases hu with ⟨e, -⟩ | ⟨e, ea⟩
        · exact absurd e h3
        · exact TGT_meB hT ea (Or.inr (Or.inr e))
      · rcases hu with ⟨-, e⟩ | ⟨e, -⟩
        · exact Or.inl e
        · refine Or.inr ⟨nn x, by omega, ?_⟩
          rw [uy, e]
          decide
    exact kg_X7_source_41 hq _ _ _ _ _ _ _ ⟨fun c => p63 _ (Or.inl ⟨rfl, c⟩), fun c => p63 _ (Or.inr ⟨rfl, c⟩)⟩
  refine kg_X7_source_0 hq _ _ _ (kd_sourceOp hq hB hA hn hE (fun r hr => ?_))
  rw [← hD]
  have ex : (r = 2 ∨ r = 3 ∨ r = 4) → ((r = 2 ∧ K (nn x) = 35) ∨ (r = 3 ∧ K (nn x) = 10) ∨ (r = 4 ∧ K (nn x) = 16)) := by
    intro c
    rcases hr with e | e | e | ⟨e, -⟩ | ⟨e, -⟩
    · exact Or.inl e
    · exact Or.inr (Or.inl e)
    · exact Or.inr (Or.inr e)
    · rw [e] at c; exact absurd c (by decide)
    · rw [e] at c; exact absurd c (by decide)
  refine ⟨fun c => p41 r _ _ rfl rfl (ex (Or.inl c)), fun c2 => ⟨fun c => p41 r _ _ rfl rfl (ex (Or.inr (Or.inl c))), fun c3 => ⟨fun c4 => ?_, fun c => p41 r _ _ rfl rfl (ex (Or.inr (Or.inr c)))⟩⟩⟩
  rcases hr with ⟨e, -⟩ | ⟨e, -⟩ | ⟨e, -⟩ | ⟨e, e1, e2⟩ | ⟨e, e1, e2⟩
  · exact absurd e c2
  · exact absurd e c3
  · exact absurd e c4
  · rw [e]; exact kd_srcR hq hx eW hB hf ha l a b hl hEv hTc hT hA hn hE h D eD _ _ rfl rfl e1 e2
  · rw [e]; exact kd_srcS hq hx eW hB hf ha l a b hl hEv hTc hT hA hn hE h D eD _ _ rfl rfl e1 e2
end KSO5
end
section
/-! the class: locals, blocks -/
section KBL
variable {G : kG} {q : kP} {d : Nat} {x x0 y z : gd} {F : Int32 → gd → Prop} {Fv : gd → Prop} {X : String → gd → Prop} {P : Option gv → gd → Prop} {M : Int} {E : Nat → Prop}
/-- known locals, lets and most locals change -/
theorem BB_kn (hB : BB x0 x M E) {M' : Int} (hM : M ≤ M') (f : fm (fun c k => (c = 100 ∧ (k = 7 ∨ k = 9)) ∨ c = 109 ∨ (c = 60 ∧ k = 13)) x z) (hK : KN z) (h1 : (x.1 100 9).toInt ≤ (z.1 100 9).toInt) (h2 : (z.1 100 9).toInt ≤ (z.1 100 7).toInt ∧ (z.1 100 7).toInt ≤ 8) (h3 : 0 ≤ (z.1 60 13).toInt ∧ (z.1 60 13).toInt ≤ 8) (h4 : (z.1 100 9).toInt ≤ (z.1 60 13).toInt) : BB x0 z M' E := by
  obtain ⟨hS, hF, ⟨r1, r2, r3, ⟨r4, r6⟩, r7⟩, hC, r5, r0, hI⟩ := hB
  have e4 : nx z = nx x := by unfold nx; rw [f 100 4 (by omega)]
  have es : ssm z = ssm x := by unfold ssm; rw [f 80 9 (by omega)]
  have eo : om z = om x := by unfold om; rw [f 100 13 (by omega)]
  have z5 : z.1 100 5 = x.1 100 5 := f _ _ (by omega)
  have la : La x z := ⟨fun c k q1 q2 => f c k (by omega), by omega, fun j _ => f 42 j (by omega)⟩
  refine ⟨?_, ?_, ⟨fun c => ⟨hK, ?_⟩, NM_fm r2 (fun c k q1 q2 q3 q4 => f c k (by omega)) (f _ _ (by omega)) (f _ _ (by omega)), ?_, ⟨by omega, fun i hi => SA_La la (f _ _ (by omega)) (f _ _ (by omega)) (f _ _ (by omega)) (f _ _ (by omega)) hM (r6 i (by omega))⟩, ?_⟩, fun i hi he => ?_, by rw [z5]; exact r5, fm_tr r0 (fm_w f (fun c k q => by unfold sR; omega)), TR_eq hI id (f _ _ (by omega)) (fun k => f _ _ (by omega))⟩
  · obtain ⟨⟨hT, b1, b2, b3⟩, ⟨u1, u2⟩, hp, hP⟩ := hS
    unfold SU SV US RB mt
    rw [f 20 7 (by omega), f 60 3 (by omega), e4]
    refine ⟨⟨kT_fm hT la.1, b1, b2, b3⟩, ⟨fun j h1 h2 => ?_, fun j h1 h2 => ?_⟩, hp, fun i hi => La_PQ la (f _ _ (by omega)) (f _ _ (by omega)) (hP i hi)⟩
    · rw [f 42 j (by omega)]; exact u1 j h1 h2
    · rw [f 42 j (by omega)] at h2; rw [f 42 _ (by omega)]; exact u2 j h1 h2
  · unfold FR at hF ⊢
    rw [f 100 4 (by omega), f 42 _ (by omega)]; exact hF
  · obtain ⟨k1, o1, o2, o3, o4⟩ := r1 r5
    unfold OPs
    rw [eo]
    refine ⟨o1, fun k hk => ?_, fun j k hj hk => ?_, h2⟩
    · have := o2 k hk
      unfold OP1 sop ssm at this ⊢
      rw [f 111 k (by omega), f 112 k (by omega), f 113 k (by omega), f 80 9 (by omega)]
      refine ⟨this.1, fun c => ?_, this.2.2.1, by omega⟩
      obtain ⟨p1, s, p2, p3, p4⟩ := this.2.1 c
      exact ⟨p1, s, p2, p3, by rw [f 81 s (by omega)]; exact p4⟩
    · rw [f 113 j (by omega), f 113 k (by omega)]; exact o3 j k hj hk
  · unfold CD at r3 ⊢
    rw [f 60 6 (by omega), f 60 9 (by omega), f 60 10 (by omega), f 60 14 (by omega), f 60 16 (by omega), z5, f 40 8 (by omega), f 40 10 (by omega)]
    exact ⟨r3.1, r3.2.1, r3.2.2.1, r3.2.2.2.1, r3.2.2.2.2.1, h3, fun _ => h4⟩
  · unfold TS at r7 ⊢
    rw [f 60 10 (by omega), z5, es]
    refine ⟨fun t ht => ?_, fun c => absurd c r5⟩
    rw [f 72 t (by omega)]; exact r7.1 t ht
  · exact SC_eq (fun j => f _ _ (by omega)) (f _ _ (by omega)) (f _ _ (by omega)) (f _ _ (by omega)) z5 (fun j => f _ _ (by omega)) (hC i (by omega) he)
theorem BB_k (hB : BB x0 x M E) : KN x ∧ OPs x ∧ CD x := ⟨(hB.2.2.1.1 hB.2.2.2.2.1).1, (hB.2.2.1.1 hB.2.2.2.2.1).2, hB.2.2.1.2.2.1⟩
end KBL
end
section
/-! the class: the name before = -/
section KTG
variable {G : kG} {q : kP} {d : Nat} {x x0 y z xs : gd} {F : Int32 → gd → Prop} {Fv : gd → Prop} {X : String → gd → Prop} {P : Option gv → gd → Prop} {M : Int} {E : Nat → Prop} {K V : Nat → Int32} {sN : Nat → Nat → Bool} {e : Nat} {Ev : gV} {Ml N : gU}
theorem kd_setTarget (hq : kV q) (hx : ¬ ((K (nn x) = 1 ∧ nn x < 700) ∧ K (nn x + 1) = 50 ∧ nn x + 1 < 700) → RX x0 X) (hA : KA K V sN e x) (hn : nn x ≤ e) (hE : KV' K e x Ev) (hB : BB x0 x M E) (hM : (x.1 100 9).toInt ≤ M) (h : ∀ t y, BB x0 y M E → nx y = nx x + 2 → om y = om x → ssm y = ssm x → vp_in t 702 → ((y.1 43 t.toNatClampNeg = -1 ∧ PLc y t) ∨ (¬ y.1 43 t.toNatClampNeg = -1 ∧ 0 ≤ (y.1 43 t.toNatClampNeg).toInt ∧ (y.1 43 t.toNatClampNeg).toInt < M)) → y.1 60 13 = x.1 60 13 → t = x.1 100 4 → ((K (nn x) = 1 ∧ nn x < 700) ∧ K (nn x + 1) = 50 ∧ nn x + 1 < 700) → nn y = nn x + 2 → La x y → KA K V sN e y → nn y ≤ e → KV' K e y Ev → y.1 42 (nn x + 1) = 0 → ((y.1 43 (nn x) = -1 ∧ kfi sN Ev.1 (nn x) = none ∧ y.1 42 (nn x) = 6) ∨ (¬ y.1 43 (nn x) = -1 ∧ ¬ kfi sN Ev.1 (nn x) = none ∧ y.1 42 (nn x) = 0)) → OPe x y → TGc sN Ev (some (nn x)) (y.1 43 (nn x)) t → (∀ c k, ccS c k → y.1 c k = x.1 c k) → F t y) : KE G q (d + 8) zk_X7_setTarget 0 [(0, vr 100)] [] x (ri F) X := by
  refine kg_X7_setTarget_0 hq (kd_needFor hq 2 0 1 (by decide) (by decide) (by decide) (by decide) (fun no => hx (fun z => no z.1)) hB hA hn (fun kk c7 y hBy ny gy en hAy hny eu ht hcy => ?_))
  have eu : y.1 42 (x.1 100 4).toNatClampNeg = 0 := eu
  have bx0 := hB.1.1.2.1
  have cx := nn_is bx0
  obtain ⟨ky, oy, cy⟩ := BB_k hBy
  have vt := (kT_at hBy.1.1.1 ht).1
  have k0 : (0 : Int32).toInt = 0 := rfl
  have y9 : y.1 100 9 = x.1 100 9 := GS_at gy _ _ (by unfold sSum; omega)
  have eN := BB_N hB
  refine kf_knownFrom hq hBy.1.1.1 ky hAy (KV_GS gy hE) _ _ (by decide) ht hn kk (fun r hr9 => ⟨vt, fun z ez => ?_⟩)
  have e9 := hE.1
  have hr : (r = -1 ∧ kfi sN Ev.1 (nn x) = none) ∨ ((0 ≤ r.toInt ∧ r.toInt < (y.1 100 9).toInt) ∧ ¬ kfi sN Ev.1 (nn x) = none) := by
    rcases hr9 with ⟨e1, e2⟩ | ⟨n, e1, e2, e3, e4, -⟩
    · exact Or.inl ⟨e1, kfi_of e2⟩
    · exact Or.inr ⟨by rw [y9]; omega, by rw [show nn x = (x.1 100 4).toNatClampNeg from rfl, e4]; simp⟩
  have hTr : TGc sN Ev (some (nn x)) r (x.1 100 4) := by
    rcases hr9 with ⟨e1, e2⟩ | ⟨n, e1, e2, e3, e4, -⟩
    · exact Or.inl ⟨kfi_of e2, e1, nn x, rfl, cx.symm⟩
    · exact Or.inr ⟨n, e4, fun q => by rw [q, tm1] at e1; omega, e1⟩
  have z43 : z.1 43 (x.1 100 4).toNatClampNeg = r := by rw [ez]; (simp only [si_get, sfl_get, Nat.reduceEqDiff, eq_self, and_false, false_and, and_true, true_and, if_true, if_false, reduceIte, reduceCtorEq])
  have fz : fm (fun c k => c = 43) y z := by rw [ez]; exact fm_si (fm_rf _ _) rfl
  have fin : ∀ v, TGc sN Ev (some (nn x)) (v.1 43 (nn x)) (x.1 100 4) → ((v.1 43 (nn x) = -1 ∧ kfi sN Ev.1 (nn x) = none ∧ v.1 42 (nn x) = 6) ∨ (¬ v.1 43 (nn x) = -1 ∧ ¬ kfi sN Ev.1 (nn x) = none ∧ v.1 42 (nn x) = 0)) → (∀ j, ¬ j = nn x → v.1 42 j = y.1 42 j) → BB x0 v M E → fm (fun c k => c = 42 ∨ c = 43) y v → ((v.1 43 (x.1 100 4).toNatClampNeg = -1 ∧ PLc v (x.1 100 4)) ∨ (¬ v.1 43 (x.1 100 4).toNatClampNeg = -1 ∧ 0 ≤ (v.1 43 (x.1 100 4).toNatClampNeg).toInt ∧ (v.1 43 (x.1 100 4).toNatClampNeg).toInt < M)) → KE G q (d + 8) zk_X7_setTarget 46 [(0, vr 100), (1, vi (x.1 100 4))] [] v (ri F) X := by
    intro v hTv hm hj hBv fv hv
    have nv : nn v = nn x + 1 := by rw [← en]; unfold nn; rw [fv 100 4 (by omega)]
    have lav : La x v := ⟨fun c k q1 q2 => by rw [fv c k (by omega), gy.1.1 c k q1 q2], by unfold nx; rw [fv 100 4 (by omega)]; exact gy.1.2.1, fun j hjx => by rw [hj j (by omega), gy.1.2.2 j hjx]⟩
    have bv0 := hBv.1.1.2.1
    refine kg_X7_setTarget_46 hq _ (kd_need (xs := v) (Ml := []) (Ev := Ev) (V := V) (sN := sN) (e := e) hq 10 50 (by decide) (by decide) (by decide) (fun no => hx (fun z => no (by rw [nv]; exact z.2))) hBv ⟨KA_fm hA lav.1, by rw [nv, ← en]; exact hny, UR_0 rfl⟩ (fun kk2 c72 u hBu nu gu enu hRu u0 hcu => ri_i (h _ u hBu ?_ ?_ ?_ vt ?_ (by rw [GS_at gu 60 13 (by unfold sSum; omega), fv 60 13 (by omega), GS_at gy 60 13 (by unfold sSum; omega)]) rfl ⟨⟨kk, c7⟩, by rw [← nv]; exact kk2, by omega⟩ (by omega) (La_tr lav gu.1) hRu.1 hRu.2.1 (KV_GS gu (KV_fm (KV_GS gy hE) (fv _ _ (by omega)) (fun k => fv _ _ (by omega)))) (by rw [← nv]; exact u0) ?_ ⟨⟨La_tr lav gu.1, fun c k q => by rw [GS_at gu c k (by unfold Tc at q; unfold sSum; omega), fv c k (by unfold Tc at q; omega), GS_at gy c k (by unfold Tc at q; unfold sSum; omega)]⟩, fun c k q1 q2 => by rw [GS_at gu _ _ (by unfold sSum; omega), fv _ _ (by omega), GS_at gy _ _ (by unfold sSum; omega)], by rw [GS_at gu _ _ (by unfold sSum; omega), fv _ _ (by omega), GS_at gy _ _ (by unfold sSum; omega)]⟩ (by rw [GS_at gu 43 _ (by unfold sSum; omega)]; exact hTv) (fun c k q => (hcu c k q).trans ((fv c k (by unfold ccS at q; omega)).trans (hcy c k q))))))
    · have : nx v = nx y := by unfold nx; rw [fv 100 4 (by omega)]
      omega
    · rw [GS_om gu, ← GS_om gy]; unfold om; rw [fv 100 13 (by omega)]
    · rw [GS_sm gu, ← GS_sm gy]; unfold ssm; rw [fv 80 9 (by omega)]
    · rw [GS_at gu 43 _ (by unfold sSum; omega)]
      exact hv.imp (fun e => ⟨e.1, PLc_La gu.1 e.2⟩) id
    · obtain ⟨-, la⟩ := La_nn bv0 gu.1
      rw [GS_at gu 43 _ (by unfold sSum; omega), la _ (by omega)]
      exact hm
  have hBz : BB x0 z M E := BB_use hBy (t := (x.1 100 4).toNatClampNeg) (by omega) eu (by rw [fz 42 _ (by omega), eu]; decide) (fm_w fz (fun c k q => Or.inl q))
  refine ⟨vt, fun c => fin z (by rw [show z.1 43 (nn x) = r from z43]; exact hTr) (Or.inr ⟨c, ?_, by rw [fz 42 _ (by omega)]; exact eu⟩) (fun j _ => fz _ _ (by omega)) hBz (fm_w fz (fun c k q => Or.inr q)) (Or.inr ?_), fun c => ⟨vt, fun v ev => ?_⟩⟩
  · rw [z43] at c
    rcases hr with ⟨e, -⟩ | ⟨-, e⟩
    · exact absurd e c
    · exact e
  · rw [z43] at c ⊢
    rcases hr with ⟨e, -⟩ | ⟨⟨e1, e2⟩, -⟩
    · exact absurd e c
    · rw [y9] at e2
      exact ⟨c, e1, by omega⟩
  · have fv : fm (fun c k => c = 43 ∨ (86 ≤ c ∧ c ≤ 89) ∨ (c = 42 ∧ k = (x.1 100 4).toNatClampNeg)) y v := by rw [ev]; exact fm_si (fm_w fz (fun c k q => Or.inl q)) (Or.inr (Or.inr ⟨rfl, rfl⟩))
    have u6 : v.1 42 (x.1 100 4).toNatClampNeg = 6 := by rw [ev]; (simp only [si_get, sfl_get, Nat.reduceEqDiff, eq_self, and_false, false_and, and_true, true_and, if_true, if_false, reduceIte, reduceCtorEq])
    have c9 : r = -1 := by rw [z43] at c; exact c
    refine fin v (by rw [show v.1 43 (nn x) = r by rw [ev, si_cell (by decide)]; exact z43]; exact hTr) (Or.inl ⟨by rw [ev, si_cell (by decide)]; exact c, ?_, u6⟩) (fun j hj => by rw [ev, si_get, if_neg (fun q => hj q.2)]; exact fz _ _ (by omega)) (BB_use hBy (t := (x.1 100 4).toNatClampNeg) (by omega) eu (by rw [u6]; decide) fv) (by rw [ev]; exact fm_si (fm_w fz (fun c k q => Or.inr q)) (Or.inl rfl)) (Or.inl ⟨?_, (x.1 100 4).toNatClampNeg, eN.symm, ?_, Or.inl u6⟩)
    · rcases hr with ⟨-, e⟩ | ⟨⟨e, -⟩, -⟩
      · exact e
      · rw [c9, tm1] at e; omega
    · rw [ev, si_cell (by decide)]; exact c
    · have : nx v = nx y := by unfold nx; rw [fv 100 4 (by omega)]
      omega
end KTG
end
