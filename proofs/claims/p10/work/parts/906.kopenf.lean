/-! the class: what may stand before an operand -/
/-- from x to y, M was read -/
def RIw (K V : Nat → Int32) (sN : Nat → Nat → Bool) (e : Nat) (E : gV) (x y : gd) (M : gU) : Prop := KA K V sN e y ∧ nn y ≤ e ∧ UR sN E x y M
theorem pbg_k {s k : Int32} {o : Bool} (hk : kc s = k) : pbg o k ↔ (s = 3 ∨ s = 2 ∨ s = 21 ∨ s = 59 ∨ s = 18 ∨ (s = 62 ∧ o = false)) := by
  have i : ∀ {c v : Int32}, kc c = v → ¬ kc c = -1 → (k = v ↔ s = c) := fun {c v} hc hn => ⟨fun q => kc_i (by rw [hk, q, hc]) hn, fun q => by rw [← hk, q, hc]⟩
  have e2 : k = 2 ↔ s = 3 := i (by decide) (by decide)
  have e32 : k = 32 ↔ s = 62 := i (by decide) (by decide)
  have e1 : k = 1 ↔ s = 2 := i (by decide) (by decide)
  have e61 : k = 61 ↔ s = 21 := i (by decide) (by decide)
  have e29 : k = 29 ↔ s = 59 := i (by decide) (by decide)
  have e58 : k = 58 ↔ s = 18 := i (by decide) (by decide)
  unfold pbg
  rw [e2, e32, e1, e61, e29, e58]
  constructor
  · rintro (h | h | h | h | h | h)
    · exact Or.inl h
    · exact Or.inr (Or.inr (Or.inr (Or.inr (Or.inr h))))
    · exact Or.inr (Or.inl h)
    · exact Or.inr (Or.inr (Or.inl h))
    · exact Or.inr (Or.inr (Or.inr (Or.inl h)))
    · exact Or.inr (Or.inr (Or.inr (Or.inr (Or.inl h))))
  · rintro (h | h | h | h | h | h)
    · exact Or.inl h
    · exact Or.inr (Or.inr (Or.inl h))
    · exact Or.inr (Or.inr (Or.inr (Or.inl h)))
    · exact Or.inr (Or.inr (Or.inr (Or.inr (Or.inl h))))
    · exact Or.inr (Or.inr (Or.inr (Or.inr (Or.inr h))))
    · exact Or.inr (Or.inl h)
section KOF
variable {G : kG} {q : kP} {d : Nat} {x x0 y z : gd} {F : Int32 → gd → Prop} {Fv : gd → Prop} {X : String → gd → Prop} {P : Option gv → gd → Prop} {m : Int} {K V : Nat → Int32} {sN : Nat → Nat → Bool} {e : Nat} {E : gV} {M : gU} {o : Bool}
theorem RI_st (h : RIw K V sN e E x y M) (e4 : z.1 100 4 = y.1 100 4) (eu : ∀ j, z.1 42 j = y.1 42 j) (f : ∀ c k, 20 ≤ c → c < 40 → z.1 c k = y.1 c k) : RIw K V sN e E x z M := by
  have en : nn z = nn y := by unfold nn; rw [e4]
  exact ⟨KA_fm h.1 f, by rw [en]; exact h.2.1, UR_same h.2.2 en (fun j _ => eu j)⟩
theorem nn_up (h0 : 0 ≤ nx y) (e1 : nx z = nx y + 1) : nn z = nn y + 1 := by
  have a := nn_is h0
  have b := nn_is (x := z) (by omega)
  omega
theorem RI_tok (h : RIw K V sN e E x y M) (h0 : 0 ≤ nx y) (h7 : nx y < 700) (k0 : ¬ K (nn y) = 0) (k3 : ¬ K (nn y) = 3) (l : La y z) (e1 : nx z = nx y + 1) (u : z.1 42 (nn y) = 0) : RIw K V sN e E x z M := by
  have a := nn_is h0
  have en := nn_up h0 e1
  exact ⟨KA_fm h.1 l.1, by rw [en]; exact KA_on h.1 h.2.1 (by omega) k0 k3, UR_tok h0 h.2.2 l en u⟩
/-- the stack's top, and how deep it is here -/
theorem HD_top {s : gH} (hH : HI y) (h1 : 1 ≤ hz y) (h : HD y (y.1 100 17).toNatClampNeg s) : ∃ a r v s', s = (a, r, v) :: s' ∧ ((dh y).toInt + r = 17 ∨ (17 ≤ (dh y).toInt ∧ r = 0)) := by
  obtain ⟨⟨a0, a1⟩, a2, a3⟩ := hH
  have k0 : (0 : Int32).toInt = 0 := rfl
  have k1 : (1 : Int32).toInt = 1 := rfl
  have hn : hz y ≤ (y.1 100 17).toNatClampNeg := zc_le _
  have u := t_cl (y.1 100 17)
  obtain ⟨n, en⟩ : ∃ n, (y.1 100 17).toNatClampNeg = n + 1 := ⟨(y.1 100 17).toNatClampNeg - 1, by omega⟩
  rw [en] at h
  obtain ⟨a, r, v, s', e1, e2, -⟩ := h
  refine ⟨a, r, v, s', e1, ?_⟩
  have e3 : (y.1 100 17 - 1).toInt = (y.1 100 17).toInt - 1 := by rw [t_sub (by rw [k1]; omega) (by rw [k1]; omega), k1]
  have e4 : (y.1 100 17 - 1).toNatClampNeg = n := by rw [t_cl, e3]; omega
  have ed : dh y = y.1 117 n := by
    unfold dh
    rw [if_neg (by rw [t_le, k0]; omega), e4]
  have g := a2 n (by omega)
  have ut := t_cl (y.1 117 n)
  rw [ed]
  omega
theorem kf_openOperand (hq : kV q) (h0 : fm sR x0 x) (st : gH) (L : gU) (hx : dAk K o st (nn x) L = none → RX x0 X) (hS : SU x) (hH : HI x) (hf : FR x) (ho : o = true ↔ x.1 100 5 = 0) (hR : RIw K V sN e E x x []) (h1 : 1 ≤ hz x) (hst : HD x (x.1 100 17).toNatClampNeg st) (hhp : HP K x (x.1 100 17).toNatClampNeg st)
    (h : ∀ r y, SM x y → FR y → 0 ≤ r.toInt → r.toInt ≤ 701 → (hz y : Int) = hz x + r.toInt → DL y → (y.1 23 (y.1 100 4).toNatClampNeg = 2 ∨ y.1 23 (y.1 100 4).toNatClampNeg = 3 ∨ (y.1 23 (y.1 100 4).toNatClampNeg = 62 ∧ o = false)) → RIw K V sN e E x y [] → ∀ a f v s', HD y (y.1 100 17).toNatClampNeg ((a, f + 1, v) :: s') → dAk K o st (nn x) L = dAk K o ((a, f + 1, v) :: s') (nn y) L → HP K y (y.1 100 17).toNatClampNeg ((a, f + 1, v) :: s') → CPl x y [] → F r y) : KE G q (d + 8) zk_X7_openOperand 0 [(0, vr 100)] [] x (ri F) X := by
  have k700 : (700 : Int32).toInt = 700 := rfl
  have k16 : (16 : Int32).toInt = 16 := rfl
  have k1 : (1 : Int32).toInt = 1 := rfl
  have k0 : (0 : Int32).toInt = 0 := rfl
  have hn0 := hS.1.2.1
  have loop : ∀ (n : Nat) (o2 k : Int32) (y : gd) (sy : gH), SM x y → FR y → 0 ≤ o2.toInt → o2.toInt ≤ k.toInt → (hz y : Int) = hz x + o2.toInt → 0 ≤ k.toInt → nx y = nx x + k.toInt → 700 - nx y < n → RIw K V sN e E x y [] → HD y (y.1 100 17).toNatClampNeg sy → dAk K o st (nn x) L = dAk K o sy (nn y) L → HP K y (y.1 100 17).toNatClampNeg sy → CPl x y [] → KE G q (d + 8) zk_X7_openOperand 4 [(0, vr 100), (1, vi o2), (2, vi k)] [] y (ri F) X := by
    intro n
    induction n with
    | zero =>
      intro o2 k y sy hM hF o0 o1 hzy kp hk hn hRy hDy hdy hPy hCy
      have b2 := hM.1.1.2.2.1
      omega
    | succ n ih =>
      intro o2 k y sy hM hF o0 o1 hzy kp hk hn hRy hDy hdy hPy hCy
      have b1 := hM.1.1.2.1
      have b2 := hM.1.1.2.2.1
      have un := nn_is b1
      have h0y : fm sR x0 y := fm_tr h0 (fm_w hM.2.2.2 (fun c k q => sSum_R q))
      have rs : dAk K o sy (nn y) L = none → ∀ {P : Option gv → gd → Prop} {v : Int32} (hv9 : ¬ v = 0 := by decide), KE G q (d + 7) zk_X7_refuse 0 [(0, vr 100), (1, vi v)] [] y P X := fun hw _ _ hv9 => kp_refuse hq _ (RB_at hM.1.1) h0y (hx (hdy.trans hw)) hv9
      have ek : (k + 1).toInt = k.toInt + 1 := t_add (by rw [k1]; omega) (by rw [k1]; omega)
      have hoy : o = true ↔ y.1 100 5 = 0 := by rw [hM.2.2.2 100 5 (by unfold sSum; omega)]; exact ho
      have hKi : kc (y.1 23 (y.1 100 4).toNatClampNeg) = K (nn y) := hRy.1.1 _ hRy.2.1
      obtain ⟨a, r, v, s', es, hr⟩ := HD_top hM.2.1 (by omega) hDy
      have p133 : ∀ (o3 : Int32) (z : gd) (sz : gH), SM x z → FR z → z.1 100 4 = y.1 100 4 → ¬ y.1 23 (y.1 100 4).toNatClampNeg = 0 → ¬ y.1 23 (y.1 100 4).toNatClampNeg = 1 → 0 ≤ o3.toInt → o3.toInt ≤ k.toInt + 1 → (hz z : Int) = hz x + o3.toInt → RIw K V sN e E x z [] → HD z (z.1 100 17).toNatClampNeg sz → (nn y < 700 → dAk K o sy (nn y) L = dAk K o sz (nn y + 1) L) → HP K z (z.1 100 17).toNatClampNeg sz → CPl x z [] → KE G q (d + 8) zk_X7_openOperand 133 [(0, vr 100), (1, vi o3), (2, vi k)] [] z (ri F) X := by
        intro o3 z sz hMz hFz e4 hs hs1 q1 q2 q3 hRz hDz hdz hPz hCz
        have hs2 : z.1 23 (z.1 100 4).toNatClampNeg = y.1 23 (y.1 100 4).toNatClampNeg := by
          rw [e4, hMz.2.2.2 23 _ (by unfold sSum; omega), ← hM.2.2.2 23 _ (by unfold sSum; omega)]
        have n1 : nx z = nx y := by unfold nx; rw [e4]
        have n2 : nn z = nn y := by unfold nn; rw [e4]
        have kk0 : ¬ K (nn z) = 0 := by
          rw [n2, ← hKi]
          exact fun z => hs (kc_i (c := 0) (z.trans (by decide)) (by decide))
        have kk3 : ¬ K (nn z) = 3 := by
          rw [n2, ← hKi]
          exact fun z => hs1 (kc_i1 z)
        refine kg_X7_openOperand_133 hq _ _ (kf_pass hq (fm_tr h0 (fm_w hMz.2.2.2 (fun c k q => sSum_R q))) (fun c7 => hx (hdy.trans ?_)) hMz.1 (by rw [hs2]; exact hs) (FR_12 hFz) (fun c7 w f e1 S fr la _ => ?_))
        · rw [es]; exact dA_7 (by omega)
        · obtain ⟨g1, g2⟩ := SM_pass hMz f S la
          have nw := nn_up (y := z) (z := w) (by omega) e1
          have uw : w.1 42 (nn z) = 0 := by rw [f 42 _ (by omega)]; exact hFz
          refine ih o3 (k + 1) w sz g1 fr q1 (by omega) (by rw [g2]; exact q3) (by omega) (by omega) (by omega) (RI_tok hRz (by omega) (by omega) kk0 kk3 la e1 uw) ?_ ?_ (by rw [f 100 17 (by omega)]; exact HP_eq (fun k _ => f _ _ (by omega)) hPz) (CPl_st hCz (f _ _ (by omega)) (fun k => ⟨f _ _ (by omega), f _ _ (by omega)⟩))
          · rw [f 100 17 (by omega)]
            exact HD_eq (fun k _ => ⟨f _ _ (by omega), f _ _ (by omega)⟩) hDz
          · rw [nw, n2, hdy]; exact hdz (by omega)
      have dd := dh_is hM.2.1
      have p33 : ∀ s : Int32, (s = 0 ∧ ¬ y.1 23 (y.1 100 4).toNatClampNeg = 59 ∧ ¬ y.1 23 (y.1 100 4).toNatClampNeg = 18 ∨ s = 1 ∧ (y.1 23 (y.1 100 4).toNatClampNeg = 59 ∨ y.1 23 (y.1 100 4).toNatClampNeg = 18)) → KE G q (d + 8) zk_X7_openOperand 33 [(0, vr 100), (1, vi o2), (2, vi k), (3, vi (y.1 23 (y.1 100 4).toNatClampNeg))] [vi s] y (ri F) X := by
        intro s hs02
        have hs01 : s = 0 ∨ s = 1 := hs02.imp (fun q => q.1) (fun q => q.1)
        have pre : s = 1 → K (nn y) = 29 ∨ K (nn y) = 58 := fun q => by
          rcases hs02 with ⟨c, -⟩ | ⟨-, c | c⟩
          · rw [q] at c; exact absurd c (by decide)
          · exact Or.inl (by rw [← hKi, c]; decide)
          · exact Or.inr (by rw [← hKi, c]; decide)
        refine kg_X7_openOperand_33 hq _ _ _ _ (kf_beginsSum hq _ o hoy (fun r9 hr9 => ⟨fun c => ?_, fun c => rs ?_⟩))
        rotate_left
        · rw [es]
          exact dA_no (fun z => hr9.mpr ((pbg_k hKi).mp z) c)
        have hbs := hr9.mp c
        have hsort : ¬ y.1 23 (y.1 100 4).toNatClampNeg = 0 ∧ ¬ y.1 23 (y.1 100 4).toNatClampNeg = 1 := by
          rcases hbs with e | e | e | e | e | ⟨e, -⟩ <;> rw [e] <;> decide
        have p73 : ((dh y).toInt + s.toInt ≤ 16) → KE G q (d + 8) zk_X7_openOperand 73 [(0, vr 100), (1, vi o2), (2, vi k), (3, vi (y.1 23 (y.1 100 4).toNatClampNeg)), (4, vi s)] [] y (ri F) X := by
          intro hd
          have hs0 : 0 ≤ s.toInt := by rcases hs01 with rfl | rfl <;> decide
          have e1 : (dh y + 1).toInt = (dh y).toInt + 1 := t_add (by rw [k1]; omega) (by rw [k1]; omega)
          obtain ⟨f9, ef9⟩ : ∃ f9, r = f9 + 1 := ⟨r - 1, by omega⟩
          have ht : (dh y).toInt + (f9 + 1 : Nat) = 17 := by omega
          have top : ∀ (z : gd) (s9 : Int32) (a9 : Nat) (v9 : Nat × Nat × Nat), (z.1 100 17).toInt = (y.1 100 17).toInt + 1 → z.1 116 (y.1 100 17).toNatClampNeg = s9 → z.1 117 (y.1 100 17).toNatClampNeg = dh y + 1 → (∀ k, k < (y.1 100 17).toNatClampNeg → z.1 116 k = y.1 116 k ∧ z.1 117 k = y.1 117 k) → (s9.toInt = a9 ∨ (s9.toInt = 6 ∧ a9 = 5)) → a9 ≤ 5 → (v9.1 = 50 ∨ v9.1 = 51) → HD z (z.1 100 17).toNatClampNeg ((a9, f9, v9) :: sy) := by
            intro z s9 a9 v9 t1 t2 t3 t4 t5 t6 t7
            have a0 := hM.2.1.1.1
            have nz : (z.1 100 17).toNatClampNeg = (y.1 100 17).toNatClampNeg + 1 := by rw [t_cl, t_cl]; omega
            rw [nz]
            have ud := t_cl (dh y + 1)
            have hzn : hz y ≤ (y.1 100 17).toNatClampNeg := zc_le _
            exact ⟨a9, f9, v9, sy, rfl, Or.inl (by rw [t3]; omega), by rw [t2]; exact t5, ⟨t6, fun q => absurd q (by omega)⟩, t7, HD_eq t4 hDy⟩
          have topP : ∀ (z : gd) (s9 : Int32) (a9 : Nat) (v9 : Nat × Nat × Nat), (z.1 100 17).toInt = (y.1 100 17).toInt + 1 → z.1 115 (y.1 100 17).toNatClampNeg = s9 → (∀ k, k < (y.1 100 17).toNatClampNeg → z.1 115 k = y.1 115 k) → (¬ a9 = 0 → s9 = oP K v9) → HP K z (z.1 100 17).toNatClampNeg ((a9, f9, v9) :: sy) := by
            intro z s9 a9 v9 t1 t2 t3 t4
            have a0 := hM.2.1.1.1
            have nz : (z.1 100 17).toNatClampNeg = (y.1 100 17).toNatClampNeg + 1 := by rw [t_cl, t_cl]; omega
            rw [nz]
            exact ⟨fun q => by rw [t2]; exact t4 q, HP_eq t3 hPy⟩
          have p104 : ∀ v8 : Int32, (¬ v8 = 2 ∧ ¬ v8 = 6) → v8 = oP K (50, nn y, 0) → s = 1 → KE G q (d + 8) zk_X7_openOperand 104 [(0, vr 100), (1, vi o2), (2, vi k)] [vi v8, vr 100] y (ri F) X := by
            intro v8 hv hv9 hs1
            refine kg_X7_openOperand_104 hq _ _ _ (kp_depthHere hq hM.2.1 (kf_hold hq _ _ _ hM.2.1 hv (by decide) (by omega) (by omega) (fun i hi => ?_) (fun z fz Hz zz t1 t2 t3 t4 t5 t6 => ?_)))
            · have := dd.2.2.2 i hi; omega
            · obtain ⟨g1, g2, g3⟩ := SM_hold hM fz Hz
              refine p133 o2 z _ g1 (g2 hF) g3 hsort.1 hsort.2 o0 (by omega) (by rw [zz, if_neg (by decide)]; exact hzy) (RI_st hRy g3 (fun j => fz _ _ (by omega)) (fun c k q1 q2 => fz _ _ (by omega))) (top z _ 5 (50, nn y, 0) t1 t2 t3 t4 (Or.inr ⟨rfl, rfl⟩) (by decide) (Or.inl rfl)) (fun h7 => ?_) (topP z _ 5 (50, nn y, 0) t1 t5 t6 (fun _ => hv9)) (CPl_st hCy (fz _ _ (by omega)) (fun k => ⟨fz _ _ (by omega), fz _ _ (by omega)⟩))
              rw [es, ef9]
              exact dA_pre (pre hs1) h7
          have p87 : (s = 0 → y.1 23 (y.1 100 4).toNatClampNeg = 21) → KE G q (d + 8) zk_X7_openOperand 87 [(0, vr 100), (1, vi o2), (2, vi k), (3, vi (y.1 23 (y.1 100 4).toNatClampNeg)), (4, vi s)] [] y (ri F) X := by
            intro h21
            refine kg_X7_openOperand_87 hq _ _ _ _ ⟨fun cs => kp_depthHere hq hM.2.1 (kf_hold hq _ _ _ hM.2.1 (by decide) (by decide) (by omega) (by omega) (fun i hi => ?_) (fun z fz Hz zz t1 t2 t3 t4 t5 t6 => ?_)), fun cs => ⟨fun c59 => p104 _ (by decide) ?_ (hs01.resolve_left cs), fun c59 => p104 _ (by decide) ?_ (hs01.resolve_left cs)⟩⟩
            · have := dd.2.2.2 i hi; omega
            · obtain ⟨g1, g2, g3⟩ := SM_hold hM fz Hz
              have eo : (o2 + 1).toInt = o2.toInt + 1 := t_add (by rw [k1]; omega) (by rw [k1]; omega)
              refine p133 (o2 + 1) z _ g1 (g2 hF) g3 hsort.1 hsort.2 (by omega) (by omega) ?_ (RI_st hRy g3 (fun j => fz _ _ (by omega)) (fun c k q1 q2 => fz _ _ (by omega))) (top z _ 0 (50, 0, 0) t1 t2 t3 t4 (Or.inl rfl) (by decide) (Or.inl rfl)) (fun h7 => ?_) (topP z _ 0 (50, 0, 0) t1 t5 t6 (fun q => absurd rfl q)) (CPl_st hCy (fz _ _ (by omega)) (fun k => ⟨fz _ _ (by omega), fz _ _ (by omega)⟩))
              · rw [zz, if_pos rfl, eo]
                push_cast
                omega
              · rw [es, ef9]
                exact dA_par (by rw [← hKi, h21 cs]; decide) h7
            · show (4 : Int32) = if K (nn y) = 29 then 5 else 4
              rw [if_neg (fun q => c59 (kc_i (c := 59) (by rw [hKi, q]; decide) (by decide)))]
            · show (5 : Int32) = if K (nn y) = 29 then 5 else 4
              rw [if_pos (by rw [← hKi, c59]; decide)]
          refine kg_X7_openOperand_73 hq _ _ _ _ ⟨fun cs => p87 (fun q => absurd q cs), fun cs => ⟨fun c21 => p87 (fun _ => c21), fun c21 => ri_i (h o2 y hM hF o0 (by omega) hzy (fun i hi => ?_) ?_ hRy a f9 v s' (by rw [← ef9, ← es]; exact hDy) (by rw [← ef9, ← es]; exact hdy) (by rw [← ef9, ← es]; exact hPy) hCy)⟩⟩
          · have := dd.2.2.2 i hi
            omega
          · rcases hs02 with ⟨-, n59, n18⟩ | ⟨e1, -⟩
            · rcases hbs with e | e | e | e | e | e
              · exact Or.inr (Or.inl e)
              · exact Or.inl e
              · exact absurd e c21
              · exact absurd e n59
              · exact absurd e n18
              · exact Or.inr (Or.inr e)
            · rw [e1] at cs; exact absurd cs (by decide)
        have p62 : ∀ v8 : Int32, v8 = s → KE G q (d + 8) zk_X7_openOperand 62 [(0, vr 100), (1, vi o2), (2, vi k), (3, vi (y.1 23 (y.1 100 4).toNatClampNeg)), (4, vi s)] [vi v8, vi (dh y)] y (ri F) X := by
          rintro v8 rfl
          have hv8 : v8.toInt ≤ 1 ∧ 0 ≤ v8.toInt := by rcases hs01 with rfl | rfl <;> decide
          have es8 : (dh y + v8).toInt = (dh y).toInt + v8.toInt := t_add (by omega) (by omega)
          refine kg_X7_openOperand_62 hq _ _ _ _ _ _ ⟨fun c2 => p73 ?_, fun c2 => rs ?_⟩
          · rw [t_le, es8, k16] at c2
            exact c2
          · rw [t_le, es8, k16] at c2
            rw [es]
            rcases hs01 with e9 | e9
            · rw [e9, k0] at c2
              have r0 : r = 0 := by omega
              rw [r0]; exact dA_0
            · rw [e9, k1] at c2
              by_cases r0 : r = 0
              · rw [r0]; exact dA_0
              · have r1 : r = 1 := by omega
                rw [r1]; exact dA_pre0 (pre e9)
        refine kg_X7_openOperand_48 hq _ _ _ _ (kp_depthHere hq hM.2.1 ⟨fun c3 => p62 _ c3.symm, fun c3 => p62 _ ?_⟩)
        rcases hs01 with e | e
        · exact absurd e c3
        · exact e.symm
      refine kg_X7_openOperand_4 hq _ _ ⟨fun c => ?_, fun c => kp_sort hq hM.1.1 ⟨fun c59 => p33 _ (Or.inr ⟨rfl, Or.inl c59⟩), fun n59 => ⟨fun n18 => p33 _ (Or.inl ⟨rfl, n59, n18⟩), fun c18 => p33 _ (Or.inr ⟨rfl, Or.inr c18⟩)⟩⟩⟩
      exfalso; rw [t_lt, k700] at c; omega
  exact kg_X7_openOperand_0 hq (loop 701 _ _ x st (SM_rf hS hH) hf (by decide) (by decide) (by rw [k0]; omega) (by decide) (by rw [k0]; omega) (by omega) hR hst rfl hhp CPl_rf)
end KOF
