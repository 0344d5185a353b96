/-! the class: definitions, and when they are refused; what is told, the counts -/
def tdS (T : gTd) (w : Nat) : gTd := T.filter (fun q => decide (q.2.1 = w))
def TBk (x : gd) (T : gTd) : Prop := ((x.1 40 6).toInt = ((tdS T 0).length : Nat) ∧ ((x.1 40 6).toInt ≤ (x.1 60 6).toInt ∧ (x.1 60 6).toInt = (nbT 0 (tdS T 0) : Nat)) ∧ ∀ (i : Nat) (q : Nat × Nat × Nat × Nat), (tdS T 0)[i]? = some q → (x.1 44 i).toNatClampNeg = q.1 ∧ (x.1 46 i).toInt = (q.2.2.1 : Nat) ∧ (x.1 45 i).toInt = (nbT 0 ((tdS T 0).take i) : Nat)) ∧ ((x.1 40 8).toInt = ((tdS T 1).length : Nat) ∧ ∀ (i : Nat) (q : Nat × Nat × Nat × Nat), (tdS T 1)[i]? = some q → (x.1 48 i).toNatClampNeg = q.1) ∧ ((x.1 40 10).toInt = ((tdS T 2).length : Nat) ∧ ∀ (i : Nat) (q : Nat × Nat × Nat × Nat), (tdS T 2)[i]? = some q → (x.1 50 i).toNatClampNeg = q.1)
def CNk (x : gd) (n : gN) : Prop := (x.1 60 6).toInt = (n.1 : Nat) ∧ (x.1 60 9).toInt = (n.2.1 : Nat) ∧ (x.1 60 10).toInt = (n.2.2.1 : Nat) ∧ (x.1 60 14).toInt = (n.2.2.2.1 : Nat) ∧ (x.1 60 16).toInt = (n.2.2.2.2 : Nat)
section KDG
variable {G : kG} {q : kP} {d : Nat} {x x0 y z xs : gd} {F : Int32 → gd → Prop} {Fv : gd → Prop} {X : String → gd → Prop} {P : Option gv → gd → Prop} {K V : Nat → Int32} {sN : Nat → Nat → Bool} {e : Nat} {Ev : gV} {Ml N : gU} {T : gTd} {n : gN}
theorem TBk_f (h : TBk x T) (g : ∀ c k, c = 40 ∨ (44 ≤ c ∧ c ≤ 51) ∨ (c = 60 ∧ k = 6) → y.1 c k = x.1 c k) : TBk y T := by
  unfold TBk at h ⊢
  have t4 : ∀ k, y.1 40 k = x.1 40 k := fun k => g 40 k (Or.inl rfl)
  have tt : ∀ c k, 44 ≤ c → c ≤ 51 → y.1 c k = x.1 c k := fun c k h1 h2 => g c k (Or.inr (Or.inl ⟨h1, h2⟩))
  have t6 : y.1 60 6 = x.1 60 6 := g 60 6 (Or.inr (Or.inr ⟨rfl, rfl⟩))
  rw [t4, t4, t4, t6]
  obtain ⟨⟨a1, a2, a3⟩, ⟨b1, b2⟩, c1, c2⟩ := h
  exact ⟨⟨a1, a2, fun i q hq => by rw [tt 44 _ (by omega) (by omega), tt 46 _ (by omega) (by omega), tt 45 _ (by omega) (by omega)]; exact a3 i q hq⟩, ⟨b1, fun i q hq => by rw [tt _ _ (by omega) (by omega)]; exact b2 i q hq⟩, c1, fun i q hq => by rw [tt _ _ (by omega) (by omega)]; exact c2 i q hq⟩
theorem TBk_e (h : TBk x T) (g : TBe x y) : TBk y T := TBk_f h (fun c k q => g c k (by unfold Tc; omega))
theorem CNk_e (h : CNk x n) (g : TBe x y) : CNk y n := by
  unfold CNk at h ⊢
  have t : ∀ k, k ≠ 3 → k ≠ 13 → y.1 60 k = x.1 60 k := fun k h1 h2 => g 60 k (Or.inr (Or.inr ⟨rfl, h1, h2⟩))
  rw [t _ (by omega) (by omega), t _ (by omega) (by omega), t _ (by omega) (by omega), t _ (by omega) (by omega), t _ (by omega) (by omega)]
  exact h
theorem tdS_y {a b c w : Nat} : tdS (T ++ [(a, w, b, c)]) w = tdS T w ++ [(a, w, b, c)] := by
  unfold tdS
  rw [List.filter_append]
  simp
theorem tdS_n {a b c v w : Nat} (h : ¬ v = w) : tdS (T ++ [(a, v, b, c)]) w = tdS T w := by
  unfold tdS
  rw [List.filter_append]
  simp [h]
theorem ap1 {α : Type} {l : List α} {a b : α} {i : Nat} (h : (l ++ [a])[i]? = some b) : (i < l.length ∧ l[i]? = some b) ∨ (i = l.length ∧ b = a) := by
  by_cases c : i < l.length
  · rw [List.getElem?_append_left c] at h
    exact Or.inl ⟨c, h⟩
  · rw [List.getElem?_append_right (by omega)] at h
    have : i - l.length = 0 := by
      obtain ⟨hl, -⟩ := List.getElem?_eq_some_iff.mp h
      simp at hl
      omega
    rw [this] at h
    exact Or.inr ⟨by omega, (Option.some.inj h).symm⟩
/-- outside a thread: a token is passed -/
theorem kh_pass (hq : kV q) (hx : 700 ≤ nn x → RX x0 X) (hB : OTb x0 x) (hR : RIw K V sN e Ev xs x Ml) (k0 : ¬ K (nn x) = 0) (k3 : ¬ K (nn x) = 3) (h : nn x < 700 → ∀ y, OTb x0 y → nx y = nx x + 1 → GS x y → nn y = nn x + 1 → RIw K V sN e Ev xs y Ml → y.1 42 (nn x) = 0 → (∀ c k, ccS c k → y.1 c k = x.1 c k) → Fv y) : KE G q (d + 7) zk_X7_pass 0 [(0, vr 100)] [] x (rv Fv) X := by
  have b0 := hB.1.1.2.1
  have c0 := nn_is b0
  refine kf_pass hq hB.2.2.2.2.2 (fun c => hx (by omega)) hB.1 (sort_n0 hR.1 hR.2.1 k0) (FR_12 hB.2.1) (fun c7 y f n S fr la _ => ?_)
  have g : GS x y := ⟨la, fm_w f (fun c k q => by unfold sSum; omega)⟩
  have ut : y.1 42 (nn x) = 0 := by rw [f 42 _ (by omega)]; exact hB.2.1
  refine h (by omega) y (OTb_on hB ?_ fr g) n g (nn_up b0 n) (RI_tok hR b0 c7 k0 k3 la n ut) ut (fun c k q => f c k (by unfold ccS at q; omega))
  unfold SU
  rw [f 60 3 (by omega)]; exact S
theorem kh_need (hq : kV q) (w kw : Int32) (hkw : kc w = kw) (hkn : ¬ kw = -1 ∧ ¬ kw = 0 ∧ ¬ kw = 3) (hw : ¬ w = 0) (hx : ¬ (K (nn x) = kw ∧ nn x < 700) → RX x0 X) (hB : OTb x0 x) (hR : RIw K V sN e Ev xs x Ml) (h : K (nn x) = kw → nn x < 700 → ∀ y, OTb x0 y → nx y = nx x + 1 → GS x y → nn y = nn x + 1 → RIw K V sN e Ev xs y Ml → y.1 42 (nn x) = 0 → (∀ c k, ccS c k → y.1 c k = x.1 c k) → Fv y) : KE G q (d + 7) zk_X7_need 0 [(0, vr 100), (1, vi w)] [] x (rv Fv) X := by
  have b0 := hB.1.1.2.1
  have c0 := nn_is b0
  have ki : x.1 23 (x.1 100 4).toNatClampNeg = w ↔ K (nn x) = kw := by
    rw [← hkw]
    exact KA_k hR.1 hR.2.1 w (by rw [hkw]; exact hkn.1)
  refine kf_need hq hB.2.2.2.2.2 w (fun c => hx (fun z => c.elim (fun c => c (ki.mpr z.1)) (fun c => absurd z.2 (by omega)))) hB.1 hw hB.2.1 (fun cw c7 y f n S fr la _ => ?_)
  have kk := ki.mp cw
  have g : GS x y := ⟨la, fm_w f (fun c k q => by unfold sSum; omega)⟩
  have ut : y.1 42 (nn x) = 0 := by rw [f 42 _ (by omega)]; exact hB.2.1
  refine h kk (by omega) y (OTb_on hB ?_ fr g) n g (nn_up b0 n) (RI_tok hR b0 c7 (by rw [kk]; exact hkn.2.1) (by rw [kk]; exact hkn.2.2) la n ut) ut (fun c k q => f c k (by unfold ccS at q; omega))
  unfold SU
  rw [f 60 3 (by omega)]; exact S
theorem kh_needFor (hq : kV q) (w u kw : Int32) (hkw : kc w = kw) (hkn : ¬ kw = -1 ∧ ¬ kw = 0 ∧ ¬ kw = 3) (hw : ¬ w = 0) (hu : ¬ u = 12) (hx : ¬ (K (nn x) = kw ∧ nn x < 700) → RX x0 X) (hB : OTb x0 x) (hA : KA K V sN e x) (hn : nn x ≤ e) (h : K (nn x) = kw → nn x < 700 → ∀ y, OTb x0 y → nx y = nx x + 1 → GS x y → nn y = nn x + 1 → KA K V sN e y → nn y ≤ e → y.1 42 (nn x) = u → tk y (x.1 100 4) → (∀ c k, ccS c k → y.1 c k = x.1 c k) → F (x.1 100 4) y) : KE G q (d + 7) zk_X7_needFor 0 [(0, vr 100), (1, vi w), (2, vi u)] [] x (ri F) X := by
  have b0 := hB.1.1.2.1
  have c0 := nn_is b0
  have ki : x.1 23 (x.1 100 4).toNatClampNeg = w ↔ K (nn x) = kw := by
    rw [← hkw]
    exact KA_k hA hn w (by rw [hkw]; exact hkn.1)
  refine kf_needFor hq hB.2.2.2.2.2 w u (fun c => hx (fun z => c.elim (fun c => c (ki.mpr z.1)) (fun c => absurd z.2 (by omega)))) hB.1 hw (fun q => absurd q hu) (fun cw c7 y f eu n S fr la _ ht => ?_)
  have kk := ki.mp cw
  have g : GS x y := ⟨la, fm_w f (fun c k q => by unfold sSum; omega)⟩
  have en := nn_up b0 n
  refine h kk (by omega) y (OTb_on hB ?_ fr g) n g en (KA_fm hA la.1) (by rw [en]; exact KA_on hA hn (by omega) (by rw [kk]; exact hkn.2.1) (by rw [kk]; exact hkn.2.2)) eu ht (fun c k q => f c k (by unfold ccS at q; omega))
  unfold SU
  rw [f 60 3 (by omega)]; exact S
theorem kh_sum (hq : kV q) (D : Int32) (L : gU) (hx : pX K true (17 - D.toNatClampNeg) (nn x) L = none → RX x0 X) (hB : OTb x0 x) (hA : KA K V sN e x) (hn : nn x ≤ e) (hD : 1 ≤ D.toInt) (hD2 : D.toInt ≤ 18) (h : ∀ r y, OTb x0 y → nx x < nx y → GS x y → ∀ N, RIw K V sN e Ev x y N → still N → pX K true (17 - D.toNatClampNeg) (nn x) L = some (nn y, L ++ N) → (Ev.2.1 = [] → CPl x y (sPs sN V K Ev N)) → r = x.1 60 3 → F r y) : KE G q (d + 9) zk_X7_sum 0 [(0, vr 100), (1, vi D)] [] x (ri F) X :=
  kf_sum hq hB.2.2.2.2.2 D L hx hB.1 hB.2.1 (fun c => absurd hB.2.2.2.2.1 c) ⟨fun _ => hB.2.2.2.2.1, fun _ => rfl⟩ ⟨hA, hn, UR_0 rfl⟩ hD hD2 (fun r y S fr la f n N hR hN hp hcp hr => h r y (OTb_on hB S fr ⟨la, f⟩) n ⟨la, f⟩ N hR hN hp (fun q => hcp (fun _ => q)) hr)
theorem kh_refuse (hq : kV q) (hx : RX x0 X) (hB : OTb x0 x) (n : Int32) (hn : ¬ n = 0 := by decide) : KE G q (d + 6) zk_X7_refuse 0 [(0, vr 100), (1, vi n)] [] x P X := kp_refuse hq n (RB_at hB.1.1) hB.2.2.2.2.2 hx hn
/-- a cell's start value -/
theorem kh_startValue (hq : kV q) (L : gU) {W : gOp} (hx : W = none → RX x0 X) (eW : W = pCv K (nn x, L)) (hB : OTb x0 x) (hA : KA K V sN e x) (hn : nn x ≤ e) (h : ∀ r y, OTb x0 y → nx x ≤ nx y → GS x y → ∀ N, RIw K V sN e Ev x y N → still N → (∀ v ∈ N, ¬ (31 ≤ v.1 ∧ v.1 ≤ 36)) → W = some (nn y, L ++ N) → ((∀ c, ces K V N c = (c.1, r, c.2.2)) ∧ (∀ c, cds sN K N c = c) ∧ tPs sN V K N Ev = []) → (∀ c k, ccS c k → y.1 c k = x.1 c k) → F r y) : KE G q (d + 8) zk_X7_startValue 0 [(0, vr 100)] [] x (ri F) X := by
  have hR0 : RIw K V sN e Ev x x [] := ⟨hA, hn, UR_0 rfl⟩
  have i50 : x.1 23 (x.1 100 4).toNatClampNeg = 10 ↔ K (nn x) = 50 := KA_k hA hn 10 (by decide)
  have p38 : ∀ (s : Int32) (y : gd) (v : Nat), ((s = 0 ∧ v = 80) ∨ (¬ s = 0 ∧ v = 81)) → (∀ c k, ccS c k → y.1 c k = x.1 c k) → OTb x0 y → GS x y → RIw K V sN e Ev x y [] → dull (v, nn y, 0) → still [(v, nn y, 0)] → ¬ (31 ≤ v ∧ v ≤ 36) → W = (if K (nn y) = 2 ∧ nn y < 700 then some (nn y + 1, L ++ [(v, nn y, 0)]) else none) → KE G q (d + 8) zk_X7_startValue 38 [(0, vr 100), (1, vi s)] [] y (ri F) X := by
    intro s y v hsv hcy hBy gy hRy hv hst hv3 hWy
    -- no told
    have nt : ∀ w ∈ ([] ++ [(v, nn y, 0)] : gU), ¬ (31 ≤ w.1 ∧ w.1 ≤ 36) := fun w hw => by rw [List.mem_singleton.mp hw]; exact hv3
    refine kg_X7_startValue_38 hq _ (kh_needFor hq 3 0 2 (by decide) (by decide) (by decide) (by decide) (fun no => hx (by rw [hWy, if_neg no])) hBy hRy.1 hRy.2.1 (fun kk c7 z hBz nz gz en hAz hnz eu ht hcz => ?_))
    have ln := gy.1.2.1
    have by0 := hBy.1.1.2.1
    have hRz : RIw K V sN e Ev x z ([] ++ [(v, nn y, 0)]) := RI_use hRy by0 gz.1 hAz hnz en (HAs_one.mpr (HA_dull hv)) (fun q => absurd eu q)
    rw [if_pos ⟨kk, c7⟩, ← en] at hWy
    have v27 : z.1 27 (y.1 100 4).toNatClampNeg = V (nn y) := hAz.2.1 _ hRy.2.1 kk
    have hcx : ∀ c k, ccS c k → z.1 c k = x.1 c k := fun c k q => (hcz c k q).trans (hcy c k q)
    refine ⟨fun c0 => ⟨RB_at hBy.1.1, ri_i (h _ z hBz (by omega) (GS_tr gy gz) _ hRz hst nt hWy ?_ hcx)⟩, fun c0 => ⟨RB_at hBy.1.1, ri_i (h _ z hBz (by omega) (GS_tr gy gz) _ hRz hst nt hWy ?_ hcx)⟩⟩
    · have ev : v = 80 := by
        rcases hsv with ⟨-, e⟩ | ⟨e, -⟩
        · exact e
        · exact absurd c0 e
      rw [v27, ev]
      exact ⟨fun c => rfl, fun c => rfl, rfl⟩
    · have ev : v = 81 := by
        rcases hsv with ⟨e, -⟩ | ⟨-, e⟩
        · exact absurd e c0
        · exact e
      rw [v27, ev]
      exact ⟨fun c => rfl, fun c => rfl, rfl⟩
  refine kg_X7_startValue_0 hq (kp_sort hq hB.1.1 ⟨fun c => ?_, fun c => ri_i (h _ x hB (Int.le_refl _) GS_rf [(82, 0, 0)] (RI_dull hR0 (dull_k (by decide))) (stl_k (by decide)) (fun w hw => by rw [List.mem_singleton.mp hw]; decide) ?_ ⟨fun c => rfl, fun c => rfl, rfl⟩ (fun c k _ => rfl))⟩)
  · have k50 := i50.mp c
    refine kh_pass (xs := x) (Ml := []) (Ev := Ev) hq (fun c7 => hx (by rw [eW]; unfold pCv; rw [if_pos k50, if_neg (show ¬ nn x < 700 by omega)])) hB hR0 (by rw [k50]; decide) (by rw [k50]; decide) (fun c7 y hBy ny gy eny hRy u0 hcy => ?_)
    have i58 : y.1 23 (y.1 100 4).toNatClampNeg = 18 ↔ K (nn y) = 58 := KA_k hRy.1 hRy.2.1 18 (by decide)
    have hW1 : W = if K (nn y) = 58 then (if nn y < 700 ∧ K (nn y + 1) = 2 ∧ nn y + 1 < 700 then some (nn y + 2, L ++ [(81, nn y + 1, 0)]) else none) else (if K (nn y) = 2 ∧ nn y < 700 then some (nn y + 1, L ++ [(80, nn y, 0)]) else none) := by
      rw [eW, eny]; unfold pCv; rw [if_pos k50, if_pos c7]
    refine kp_sort hq hBy.1.1 ⟨fun c2 => ?_, fun c2 => ?_⟩
    · refine kg_X7_startValue_29 hq _ ⟨fun _ => p38 _ y 80 (Or.inl ⟨rfl, rfl⟩) hcy hBy gy hRy (dull_k (by decide)) (stl_k (by decide)) (by decide) (by rw [hW1, if_neg (fun z => c2 (i58.mpr z))]), fun q => absurd rfl q⟩
    · have k58 := i58.mp c2
      rw [if_pos k58] at hW1
      refine kg_X7_startValue_29 hq _ ⟨fun q => absurd q (by decide), fun _ => kh_pass hq (fun c8 => hx (by rw [hW1, if_neg (fun z => absurd z.1 (by omega))])) hBy hRy (by rw [k58]; decide) (by rw [k58]; decide) (fun c8 z hBz nz gz enz hRz _ hcz => p38 _ z 81 (Or.inr ⟨by decide, rfl⟩) (fun c k q => (hcz c k q).trans (hcy c k q)) hBz (GS_tr gy gz) hRz (dull_k (by decide)) (stl_k (by decide)) (by decide) ?_)⟩
      rw [hW1, enz]
      by_cases cc : K (nn y + 1) = 2 ∧ nn y + 1 < 700
      · rw [if_pos ⟨c8, cc⟩, if_pos cc]
      · rw [if_neg (fun z => cc z.2), if_neg cc]
  · rw [eW]; unfold pCv; rw [if_neg (fun z => c (i50.mpr z))]
/-- the row ahead: what its size will be -/
theorem kf_rowAhead (hq : kV q) (hR : RB x) (hA : KA K V sN e x) (hn : nn x ≤ e) (hk : K (nn x) = 1) (h7 : nn x < 700) (h : ∀ r : Int32, 0 ≤ r.toInt → r.toInt ≤ 8 → ((r = 0 ∧ ¬ K (nn x + 1) = 65) ∨ (0 < r.toInt ∧ K (nn x + 1) = 65 ∧ (nn x + 1 < 700 → r.toInt = (prz K V (nn x + 2) : Nat)))) → F r x) : KT G q (d + 1) zk_X7_rowAhead 0 [(0, vr 100)] [] x (ri F) := by
  have k2 : (2 : Int32).toInt = 2 := rfl
  have k1 : (1 : Int32).toInt = 1 := rfl
  have k8 : (8 : Int32).toInt = 8 := rfl
  have k700 : (700 : Int32).toInt = 700 := rfl
  have b1 := hR.2.1
  have b2 := hR.2.2.1
  have cx := nn_is b1
  have e1 := KA_on hA hn h7 (by rw [hk]; decide) (by rw [hk]; decide)
  have i65 : x.1 23 ((x.1 100 4).toNatClampNeg + 1) = 25 ↔ K (nn x + 1) = 65 := KA_k hA e1 25 (by decide)
  have e2 : (x.1 100 4 + 2).toInt = nx x + 2 := by rw [t_add (by rw [k2]; unfold nx at *; omega) (by rw [k2]; unfold nx at *; omega), k2]
  have e2c : (x.1 100 4 + 2).toNatClampNeg = nn x + 2 := by rw [t_cl, e2]; omega
  have one : ∀ (v : Int32), v = 1 → K (nn x + 1) = 65 → (nn x + 1 < 700 → prz K V (nn x + 2) = 1) → F v x := fun v hv c hp => h v (by rw [hv]; decide) (by rw [hv]; decide) (Or.inr ⟨by rw [hv]; decide, c, fun c7 => by rw [hv, hp c7]; rfl⟩)
  refine kg_X7_rowAhead_0 hq (kp_sortBehind hq hR ⟨fun c => ?_, fun c => ri_i (h _ (by decide) (by decide) (Or.inl ⟨rfl, fun z => c (i65.mpr z)⟩))⟩)
  have k65 := i65.mp c
  have on2 : nn x + 1 < 700 → nn x + 2 ≤ e := fun c7 => KA_on hA e1 c7 (by rw [k65]; decide) (by rw [k65]; decide)
  refine ⟨fun c7 => ri_i (one _ rfl k65 (fun c8 => ?_)), fun c7 => ?_⟩
  · exfalso; rw [t_lt, k700, e2] at c7; omega
  rw [t_lt, k700, e2] at c7
  have v : vp_in (x.1 100 4 + 2) 702 := by rw [vp_in_iff]; omega
  rw [e2c]
  refine ⟨v, fun c3 => ⟨v, ?_⟩, fun c3 => ri_i (one _ rfl k65 (fun c8 => ?_))⟩
  · have pz : nn x + 1 < 700 → K (nn x + 2) = 2 ∧ x.1 27 (nn x + 2) = V (nn x + 2) := fun c8 => by
      have kk := (KA_k hA (on2 c8) 3 (by decide)).mp c3
      have kk : K (nn x + 2) = 2 := kk
      exact ⟨kk, hA.2.1 _ (on2 c8) kk⟩
    have no : ¬ (1 ≤ (x.1 27 (nn x + 2)).toInt ∧ (x.1 27 (nn x + 2)).toInt ≤ 8) → nn x + 1 < 700 → prz K V (nn x + 2) = 1 := fun z c8 => by
      unfold prz
      rw [if_neg (fun w => z ?_)]
      obtain ⟨w0, w1, w2⟩ := w
      rw [t_le, k1] at w1
      rw [t_le, k8] at w2
      rw [(pz c8).2]
      exact ⟨w1, w2⟩
    refine kg_X6_isRowSize_0 hq _ ⟨fun c1 => ri_i ⟨fun _ => ri_i (one _ rfl k65 (no ?_)), fun q => absurd rfl q⟩, fun c1 => ⟨fun c8 => ri_i ⟨fun _ => ri_i (one _ rfl k65 (no ?_)), fun q => absurd rfl q⟩, fun c8 => ri_i ⟨fun q => absurd q (by decide), fun _ => ⟨v, ?_⟩⟩⟩⟩
    · rw [t_lt, k1] at c1; omega
    · rw [t_lt, k8] at c8; omega
    · rw [t_lt, k1] at c1
      rw [t_lt, k8] at c8
      refine ri_i (h _ (by omega) (by omega) (Or.inr ⟨by omega, k65, fun c9 => ?_⟩))
      obtain ⟨z1, z2⟩ := pz c9
      unfold prz
      rw [if_pos ⟨z1, by rw [t_le, k1, ← z2]; omega, by rw [t_le, k8, ← z2]; omega⟩, ← z2, t_cl]
      omega
  · unfold prz
    rw [if_neg (fun w => c3 ((KA_k hA (on2 c8) 3 (by decide)).mpr w.1))]
theorem kf_tellCell (hq : kV q) (t f9 r : Int32) (hc : 0 ≤ (x.1 40 6).toInt ∧ (x.1 40 6).toInt < 24) (h : ∀ y, fm (fun c k => (c = 40 ∧ k = 6) ∨ (44 ≤ c ∧ c ≤ 46 ∧ k = (x.1 40 6).toNatClampNeg)) x y → (y.1 40 6).toInt = (x.1 40 6).toInt + 1 → y.1 44 (x.1 40 6).toNatClampNeg = t → y.1 45 (x.1 40 6).toNatClampNeg = f9 → y.1 46 (x.1 40 6).toNatClampNeg = r → Fv y) : KT G q d zk_X6_tellCell 0 [(0, vr 40), (1, vi t), (2, vi f9), (3, vi r)] [] x (rv Fv) := by
  have k24 : (24 : Int32).toInt = 24 := rfl
  refine kg_X6_tellCell_0 hq _ _ _ ⟨fun c => ?_, fun c => ?_⟩
  · exfalso; rw [t_le, k24] at c; omega
  have v : vp_in (x.1 40 6) 24 := by rw [vp_in_iff]; omega
  refine ⟨v, fun x3 e3 => ?_⟩
  have q3 : x3.1 40 6 = x.1 40 6 := by rw [e3]; (simp only [si_get, sfl_get, Nat.reduceEqDiff, eq_self, and_false, false_and, and_true, true_and, if_true, if_false, reduceIte, reduceCtorEq])
  refine ⟨by rw [q3]; exact v, fun x5 e5 => ?_⟩
  rw [q3] at e5
  have q5 : x5.1 40 6 = x.1 40 6 := by rw [e5, ← q3]; (simp only [si_get, sfl_get, Nat.reduceEqDiff, eq_self, and_false, false_and, and_true, true_and, if_true, if_false, reduceIte, reduceCtorEq])
  refine ⟨by rw [q5]; exact v, fun x7 e7 z ez => rv_i ?_⟩
  rw [q5] at e7
  have q7 : x7.1 40 6 = x.1 40 6 := by rw [e7, ← q5]; (simp only [si_get, sfl_get, Nat.reduceEqDiff, eq_self, and_false, false_and, and_true, true_and, if_true, if_false, reduceIte, reduceCtorEq])
  rw [q7] at ez
  have z6 : (z.1 40 6).toInt = (x.1 40 6).toInt + 1 := by
    have : z.1 40 6 = x.1 40 6 + 1 := by rw [ez]; (simp only [si_get, sfl_get, Nat.reduceEqDiff, eq_self, and_false, false_and, and_true, true_and, if_true, if_false, reduceIte, reduceCtorEq])
    rw [this, t_add (by show _ ≤ _ + (1 : Int); omega) (by show _ + (1 : Int) ≤ _; omega)]; rfl
  refine h z ?_ z6 ?_ ?_ ?_
  · rw [ez, e7, e5, e3]; exact fm_si (fm_si (fm_si (fm_si (fm_rf _ _) (Or.inr ⟨by omega, by omega, rfl⟩)) (Or.inr ⟨by omega, by omega, rfl⟩)) (Or.inr ⟨by omega, by omega, rfl⟩)) (Or.inl ⟨rfl, rfl⟩)
  · rw [ez, e7, e5, e3]; (simp only [si_get, sfl_get, Nat.reduceEqDiff, eq_self, and_false, false_and, and_true, true_and, if_true, if_false, reduceIte, reduceCtorEq])
  · rw [ez, e7, e5, e3]; (simp only [si_get, sfl_get, Nat.reduceEqDiff, eq_self, and_false, false_and, and_true, true_and, if_true, if_false, reduceIte, reduceCtorEq])
  · rw [ez, e7, e5, e3]; (simp only [si_get, sfl_get, Nat.reduceEqDiff, eq_self, and_false, false_and, and_true, true_and, if_true, if_false, reduceIte, reduceCtorEq])
end KDG
