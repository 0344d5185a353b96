/-! the class: statements, and when they are refused -/
section KSMF
variable {G : kG} {q : kP} {d : Nat} {x x0 y z xs : gd} {F : Int32 → gd → Prop} {Fv : gd → Prop} {X : String → gd → Prop} {P : Option gv → gd → Prop} {M : Int} {E : Nat → Prop} {K V : Nat → Int32} {sN : Nat → Nat → Bool} {e : Nat} {Ev : gV} {Ml N : gU}
theorem KV_GS (g : GS x y) (h : KV' K e x Ev) : KV' K e y Ev := KV_fm h (g.2 _ _ (by unfold sSum; omega)) (fun k => g.2 _ _ (by unfold sSum; omega))
theorem sort_n0 (hA : KA K V sN e x) (hn : nn x ≤ e) (k0 : ¬ K (nn x) = 0) : ¬ x.1 23 (x.1 100 4).toNatClampNeg = 0 := fun z => k0 (by rw [← hA.1 _ hn, show x.1 23 (nn x) = 0 from z]; decide)
/-- a token with a use -/
theorem RI_use (h : RIw K V sN e Ev xs x Ml) (h0 : 0 ≤ nx x) (l : La x y) (hA : KA K V sN e y) (hn : nn y ≤ e) (e1 : nn y = nn x + 1) (mA : HAs sN (y.1 42) (nn y) N (exs Ml Ev)) (mB : ¬ y.1 42 (nn x) = 0 → HBs sN N (exs Ml Ev) (nn x) (y.1 42 (nn x))) : RIw K V sN e Ev xs y (Ml ++ N) := ⟨hA, hn, UR_app h0 h.2.2 l ⟨mA, fun j h1 h2 h3 => by
  have ej : j = nn x := by omega
  rw [ej] at h3 ⊢
  exact mB h3⟩⟩
/-- an event told behind what it is of -/
theorem UR_late {v : Nat × Nat × Nat} (h0 : 0 ≤ nx y) (hN : still N) (l : La y z) (g : UR sN Ev y z N) (hA : HAw sN (z.1 42) (nn z) Ev v) (hB : ∀ j, nn x ≤ j → j < nn y → ¬ y.1 42 j = 0 → HB sN Ev v j (y.1 42 j)) : UR sN Ev x z (N ++ [v]) := by
  obtain ⟨n1, n2⟩ := La_nn h0 l
  refine ⟨HAs_app.mpr ⟨g.1, HAs_one.mpr (by rw [exs_still hN]; exact hA)⟩, fun j h1 h2 h3 => HBs_app.mpr ?_⟩
  by_cases c : j < nn y
  · rw [n2 j c] at h3 ⊢
    exact Or.inr (HBs_one.mpr (by rw [exs_still hN]; exact hB j h1 c h3))
  · exact Or.inl (g.2 j (by omega) h2 h3)
theorem kd_pass (hq : kV q) (hx : 700 ≤ nn x → RX x0 X) (hB : BB x0 x M E) (hR : RIw K V sN e Ev xs x Ml) (k0 : ¬ K (nn x) = 0) (k3 : ¬ K (nn x) = 3) (h : nn x < 700 → ∀ y, BB x0 y M E → nx y = nx x + 1 → GS x y → nn y = nn x + 1 → RIw K V sN e Ev xs y Ml → y.1 42 (nn x) = 0 → (∀ c k, ccS c k → y.1 c k = x.1 c k) → Fv y) : KE G q (d + 7) zk_X7_pass 0 [(0, vr 100)] [] x (rv Fv) X := by
  have b0 := hB.1.1.2.1
  have c0 := nn_is b0
  refine kf_pass hq hB.2.2.2.2.2.1 (fun c => hx (by omega)) hB.1 (sort_n0 hR.1 hR.2.1 k0) (FR_12 hB.2.1) (fun c7 y f n S fr la _ => ?_)
  have g : GS x y := ⟨la, fm_w f (fun c k q => by unfold sSum; omega)⟩
  have ut : y.1 42 (nn x) = 0 := by rw [f 42 _ (by omega)]; exact hB.2.1
  refine h (by omega) y (BB_on hB ?_ fr g) n g (nn_up b0 n) (RI_tok hR b0 c7 k0 k3 la n ut) ut (fun c k q => f c k (by unfold ccS at q; omega))
  unfold SU
  rw [f 60 3 (by omega)]; exact S
theorem kd_need (hq : kV q) (w kw : Int32) (hkw : kc w = kw) (hkn : ¬ kw = -1 ∧ ¬ kw = 0 ∧ ¬ kw = 3) (hw : ¬ w = 0) (hx : ¬ (K (nn x) = kw ∧ nn x < 700) → RX x0 X) (hB : BB x0 x M E) (hR : RIw K V sN e Ev xs x Ml) (h : K (nn x) = kw → nn x < 700 → ∀ y, BB x0 y M E → nx y = nx x + 1 → GS x y → nn y = nn x + 1 → RIw K V sN e Ev xs y Ml → y.1 42 (nn x) = 0 → (∀ c k, ccS c k → y.1 c k = x.1 c k) → Fv y) : KE G q (d + 7) zk_X7_need 0 [(0, vr 100), (1, vi w)] [] x (rv Fv) X := by
  have b0 := hB.1.1.2.1
  have c0 := nn_is b0
  have ki : x.1 23 (x.1 100 4).toNatClampNeg = w ↔ K (nn x) = kw := by
    rw [← hkw]
    exact KA_k hR.1 hR.2.1 w (by rw [hkw]; exact hkn.1)
  refine kf_need hq hB.2.2.2.2.2.1 w (fun c => hx (fun z => c.elim (fun c => c (ki.mpr z.1)) (fun c => absurd z.2 (by omega)))) hB.1 hw hB.2.1 (fun cw c7 y f n S fr la _ => ?_)
  have kk := ki.mp cw
  have g : GS x y := ⟨la, fm_w f (fun c k q => by unfold sSum; omega)⟩
  have ut : y.1 42 (nn x) = 0 := by rw [f 42 _ (by omega)]; exact hB.2.1
  refine h kk (by omega) y (BB_on hB ?_ fr g) n g (nn_up b0 n) (RI_tok hR b0 c7 (by rw [kk]; exact hkn.2.1) (by rw [kk]; exact hkn.2.2) la n ut) ut (fun c k q => f c k (by unfold ccS at q; omega))
  unfold SU
  rw [f 60 3 (by omega)]; exact S
theorem kd_needFor (hq : kV q) (w u kw : Int32) (hkw : kc w = kw) (hkn : ¬ kw = -1 ∧ ¬ kw = 0 ∧ ¬ kw = 3) (hw : ¬ w = 0) (hu : ¬ u = 12) (hx : ¬ (K (nn x) = kw ∧ nn x < 700) → RX x0 X) (hB : BB x0 x M E) (hA : KA K V sN e x) (hn : nn x ≤ e) (h : K (nn x) = kw → nn x < 700 → ∀ y, BB x0 y M E → nx y = nx x + 1 → GS x y → nn y = nn x + 1 → KA K V sN e y → nn y ≤ e → y.1 42 (nn x) = u → tk y (x.1 100 4) → (∀ c k, ccS c k → y.1 c k = x.1 c k) → F (x.1 100 4) y) : KE G q (d + 7) zk_X7_needFor 0 [(0, vr 100), (1, vi w), (2, vi u)] [] x (ri F) X := by
  have b0 := hB.1.1.2.1
  have c0 := nn_is b0
  have ki : x.1 23 (x.1 100 4).toNatClampNeg = w ↔ K (nn x) = kw := by
    rw [← hkw]
    exact KA_k hA hn w (by rw [hkw]; exact hkn.1)
  refine kf_needFor hq hB.2.2.2.2.2.1 w u (fun c => hx (fun z => c.elim (fun c => c (ki.mpr z.1)) (fun c => absurd z.2 (by omega)))) hB.1 hw (fun q => absurd q hu) (fun cw c7 y f eu n S fr la _ ht => ?_)
  have kk := ki.mp cw
  have g : GS x y := ⟨la, fm_w f (fun c k q => by unfold sSum; omega)⟩
  have en := nn_up b0 n
  refine h kk (by omega) y (BB_on hB ?_ fr g) n g en (KA_fm hA la.1) (by rw [en]; exact KA_on hA hn (by omega) (by rw [kk]; exact hkn.2.1) (by rw [kk]; exact hkn.2.2)) eu ht (fun c k q => f c k (by unfold ccS at q; omega))
  unfold SU
  rw [f 60 3 (by omega)]; exact S
theorem kd_sum (hq : kV q) (D : Int32) (L : gU) (hx : pX K false (17 - D.toNatClampNeg) (nn x) L = none → RX x0 X) (hB : BB x0 x M E) (hA : KA K V sN e x) (hn : nn x ≤ e) (hE : KV' K e x Ev) (hD : 1 ≤ D.toInt) (hD2 : D.toInt ≤ 18) (h : ∀ r y, BB x0 y M E → nx x < nx y → GS x y → ∀ N, RIw K V sN e Ev x y N → still N → pX K false (17 - D.toNatClampNeg) (nn x) L = some (nn y, L ++ N) → CPl x y (sPs sN V K Ev N) → r = x.1 60 3 → F r y) : KE G q (d + 9) zk_X7_sum 0 [(0, vr 100), (1, vi D)] [] x (ri F) X :=
  kf_sum hq hB.2.2.2.2.2.1 D L hx hB.1 hB.2.1 (fun c => ⟨(hB.2.2.1.1 c).1, hE⟩) ⟨fun q => absurd q (by decide), fun q => absurd q hB.2.2.2.2.1⟩ ⟨hA, hn, UR_0 rfl⟩ hD hD2 (fun r y S fr la f n N hR hN hp hcp hr => h r y (BB_on hB S fr ⟨la, f⟩) n ⟨la, f⟩ N hR hN hp (hcp (fun q => absurd q (by decide))) hr)
theorem kd_refuse (hq : kV q) (hx : RX x0 X) (hB : BB x0 x M E) (n : Int32) (hn : ¬ n = 0 := by decide) : KE G q (d + 6) zk_X7_refuse 0 [(0, vr 100), (1, vi n)] [] x P X := kp_refuse hq n (RB_at hB.1.1) hB.2.2.2.2.2.1 hx hn
/-- what is told, and the counts -/
def Tc (c k : Nat) : Prop := c = 40 ∨ (44 ≤ c ∧ c ≤ 51) ∨ (c = 60 ∧ k ≠ 3 ∧ k ≠ 13)
def TBe (x y : gd) : Prop := ∀ c k, Tc c k → y.1 c k = x.1 c k
def Lb (x y : gd) : Prop := La x y ∧ TBe x y
theorem TBe_tr (h : TBe x y) (g : TBe y z) : TBe x z := fun c k q => (g c k q).trans (h c k q)
theorem Lb_tr (h : Lb x y) (g : Lb y z) : Lb x z := ⟨La_tr h.1 g.1, TBe_tr h.2 g.2⟩
theorem TBe_GS (g : GS x y) : TBe x y := fun c k q => GS_at g c k (by unfold Tc at q; unfold sSum; omega)
theorem Lb_GS (g : GS x y) : Lb x y := ⟨g.1, TBe_GS g⟩
theorem Lb_fm {S : Nat → Nat → Prop} (f : fm S x y) (hS : ∀ c k, S c k → ¬ ((20 ≤ c ∧ c < 40) ∨ c = 42 ∨ (c = 100 ∧ k = 4) ∨ Tc c k)) : Lb x y := ⟨⟨fun c k q1 q2 => f c k (fun z => hS c k z (Or.inl ⟨q1, q2⟩)), by unfold nx; rw [f 100 4 (fun z => hS _ _ z (Or.inr (Or.inr (Or.inl ⟨rfl, rfl⟩))))]; exact Int.le_refl _, fun j _ => f 42 j (fun z => hS _ _ z (Or.inr (Or.inl rfl)))⟩, fun c k q => f c k (fun z => hS c k z (Or.inr (Or.inr (Or.inr q))))⟩
/-- what is open stays, and the lets -/
def OPe (x y : gd) : Prop := Lb x y ∧ (∀ c k, 111 ≤ c → c ≤ 113 → y.1 c k = x.1 c k) ∧ y.1 100 7 = x.1 100 7
theorem OPe_GS (g : GS x y) : OPe x y := ⟨Lb_GS g, fun c k q1 q2 => GS_at g _ _ (by unfold sSum; omega), GS_at g _ _ (by unfold sSum; omega)⟩
theorem OPe_tr (h : OPe x y) (g : OPe y z) : OPe x z := ⟨Lb_tr h.1 g.1, fun c k q1 q2 => (g.2.1 c k q1 q2).trans (h.2.1 c k q1 q2), g.2.2.trans h.2.2⟩
theorem OPe_st {n : Nat} (f : fm (fun c k => (81 ≤ c ∧ c ≤ 89 ∧ k = n) ∨ (c = 80 ∧ k = 9)) x y) : OPe x y := ⟨Lb_fm f (fun c k q => by unfold Tc; omega), fun c k q1 q2 => f _ _ (by omega), f _ _ (by omega)⟩
end KSMF
