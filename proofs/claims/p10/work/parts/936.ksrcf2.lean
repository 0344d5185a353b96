/-! the class: what is set, from the first sum on -/
def SFin (K V : Nat → Int32) (sN : Nat → Nat → Bool) (e : Nat) (Ev : gV) (x : gd) (t : Option Nat) (L : gU) (W : gOp) (y : gd) : Prop := KV' K e y Ev ∧ ∃ N, RIw K V sN e Ev x y N ∧ still N ∧ (∀ t0, t = some t0 → kfi sN Ev.1 t0 = none → HBs sN N Ev t0 6) ∧ W = some (nn y, L ++ N) ∧ CGs sN V K Ev x y t N
/-- all but the step o -/
def SFp (K V : Nat → Int32) (sN : Nat → Nat → Bool) (e : Nat) (Ev : gV) (x : gd) (t : Option Nat) (L : gU) (W : gOp) (o a b2 i2 e2 f2 : Int32) (y : gd) : Prop := KV' K e y Ev ∧ ∃ N, RIw K V sN e Ev x y N ∧ still N ∧ (∀ t0, t = some t0 → kfi sN Ev.1 t0 = none → HBs sN N Ev t0 6) ∧ W = some (nn y, L ++ N) ∧ ∀ z, stK y z o (y.1 100 9) a b2 i2 f2 e2 → CGs sN V K Ev x z t N
def sOp (o a : Int32) : Int32 := if o = 16 ∧ a = -1 then 1 else o
/-- before the second sum -/
def S189 (K V : Nat → Int32) (sN : Nat → Nat → Bool) (e : Nat) (Ev : gV) (x : gd) (t : Option Nat) (L : gU) (W : gOp) (f : Nat) (o a b2 i2 e2 f2 : Int32) (y : gd) : Prop := (¬ o = 4 ∧ SFp K V sN e Ev x t L W (sOp o a) a b2 i2 e2 f2 y) ∨ (o = 4 ∧ KV' K e y Ev ∧ ∃ N, RIw K V sN e Ev x y N ∧ still N ∧ (∀ t0, t = some t0 → kfi sN Ev.1 t0 = none → HBs sN N Ev t0 6) ∧ W = ((pt K 68 (nn y, L ++ N)).bind (pXq K f)).bind (pan (74, nn x, 0)) ∧ K (nn x) = 16 ∧ ∃ N2, PDp sN V K Ev x y t N b2 i2 [(f2, N2)])
/-- before the first -/
def S174 (K V : Nat → Int32) (sN : Nat → Nat → Bool) (e : Nat) (Ev : gV) (x : gd) (t : Option Nat) (L : gU) (W : gOp) (f : Nat) (o a b2 i2 e2 : Int32) (y : gd) : Prop := (o = 0 ∧ SFp K V sN e Ev x t L W (sOp o a) a b2 i2 e2 (-1) y) ∨ (¬ o = 0 ∧ KA K V sN e y ∧ nn y ≤ e ∧ KV' K e y Ev ∧ ∃ L1, (pX K false f (nn y) L1 = none → W = none) ∧ ∀ w N2 r, GS y w → RIw K V sN e Ev y w N2 → still N2 → KV' K e w Ev → pX K false f (nn y) L1 = some (nn w, L1 ++ N2) → CPl y w (sPs sN V K Ev N2) → r = y.1 60 3 → S189 K V sN e Ev x t L W f o a b2 i2 e2 r w)
/-- behind the place -/
def S163 (K V : Nat → Int32) (sN : Nat → Nat → Bool) (e : Nat) (Ev : gV) (x : gd) (t : Option Nat) (L : gU) (W : gOp) (f : Nat) (o a b2 i2 e2 : Int32) (y : gd) : Prop := (o = 0 ∧ SFp K V sN e Ev x t L W (sOp o a) a b2 i2 e2 (-1) y) ∨ (¬ o = 0 ∧ (o = 4 ↔ K (nn x) = 16) ∧ KV' K e y Ev ∧ ∃ N, RIw K V sN e Ev x y N ∧ still N ∧ (∀ t0, t = some t0 → kfi sN Ev.1 t0 = none → HBs sN N Ev t0 6) ∧ W = ((pt K 68 (nn y, L ++ N)).bind (pXq K f)).bind (fun q => (if K (nn x) = 16 then (pt K 68 q).bind (pXq K f) else some q).bind (pan (74, nn x, 0))) ∧ o = Int32.ofNat (opX (K (nn x))) ∧ e2 = -1 ∧ PDp sN V K Ev x y t N b2 i2 [])
section KSRG
variable {G : kG} {q : kP} {d : Nat} {x x0 y z xs : gd} {F : Int32 → gd → Prop} {Fv : gd → Prop} {X : String → gd → Prop} {P : Option gv → gd → Prop} {M : Int} {E : Nat → Prop} {K V : Nat → Int32} {sN : Nat → Nat → Bool} {e : Nat} {Ev : gV} {Ml N : gU} {t : Option Nat} {L : gU} {W : gOp} {f : Nat}
theorem OPe_89 (f : ∀ c k, c < 80 ∨ 89 < c → y.1 c k = x.1 c k) : OPe x y := ⟨⟨⟨fun c k q1 q2 => f c k (by omega), by unfold nx; rw [f 100 4 (by omega)]; exact Int.le_refl _, fun j _ => f 42 j (by omega)⟩, fun c k q => f c k (by unfold Tc at q; omega)⟩, fun c k q1 q2 => f c k (by omega), f 100 7 (by omega)⟩
theorem SF_st {o a b2 i2 e2 f2 : Int32} (h : SFp K V sN e Ev x t L W o a b2 i2 e2 f2 y) (hk : stK y z o (y.1 100 9) a b2 i2 f2 e2) (e4 : z.1 100 4 = y.1 100 4) (eu : ∀ j, z.1 42 j = y.1 42 j) (g : ∀ c k, 20 ≤ c → c < 40 → z.1 c k = y.1 c k) (e9 : z.1 100 9 = y.1 100 9) (e109 : ∀ k, z.1 109 k = y.1 109 k) : SFin K V sN e Ev x t L W z := by
  obtain ⟨h1, N, h2, h3, h4, h5, h6⟩ := h
  have en : nn z = nn y := by unfold nn; rw [e4]
  exact ⟨KV_fm h1 e9 e109, N, RI_st h2 e4 eu g, h3, h4, by rw [en]; exact h5, h6 z hk⟩
theorem GS_su (g : GS y z) : ∀ c k, ccS c k → ¬ (c = 60 ∧ k = 3) → ¬ c = 62 → ¬ c = 63 → z.1 c k = y.1 c k := fun c k q q1 q2 q3 => GS_at g c k (by unfold ccS at q; unfold sSum; omega)
/-- a sum that was read -/
theorem PD_xp {N N2 L1 : gU} {Su : List (Int32 × gU)} {pl i j : Nat} {ro : Bool} {r : Int32} (h : PD sN V K Ev x y t N Su pl ro) (hpX : pX K false f i L1 = some (j, L1 ++ N2)) (hp : CPl y z (sPs sN V K Ev N2)) (g : GS y z) (hr : r = y.1 60 3) : ∃ N', N2 = N' ++ [(54, 0, 0)] ∧ PD sN V K Ev x z t (N ++ N2) (Su ++ [(r, N')]) pl ro := by
  obtain ⟨N', e1, e2⟩ := pX_sE hpX
  refine ⟨N', e1, ?_⟩
  rw [e1] at hp ⊢
  exact PD_x h e2 hp (GS_su g) hr
theorem PDp_xp {N N2 L1 : gU} {Q : List (Int32 × gU)} {i j : Nat} {r b2 i2 : Int32} (h : PDp sN V K Ev x y t N b2 i2 Q) (hpX : pX K false f i L1 = some (j, L1 ++ N2)) (hp : CPl y z (sPs sN V K Ev N2)) (g : GS y z) (hr : r = y.1 60 3) : ∃ N', PDp sN V K Ev x z t (N ++ N2) b2 i2 (Q ++ [(r, N')]) := by
  obtain ⟨pl, ro, Si, h1, h2, h3⟩ := h
  obtain ⟨N', _, h4⟩ := PD_xp h3 hpX hp g hr
  exact ⟨N', pl, ro, Si, h1, h2, by rw [← List.append_assoc]; exact h4⟩
theorem PDp_fr {N : gU} {Q : List (Int32 × gU)} {b2 i2 : Int32} (h : PDp sN V K Ev x y t N b2 i2 Q) (fr : ∀ c k, ccS c k → z.1 c k = y.1 c k) : PDp sN V K Ev x z t N b2 i2 Q := by
  obtain ⟨pl, ro, Si, h1, h2, h3⟩ := h
  exact ⟨pl, ro, Si, h1, h2, PD_fr h3 fr⟩
theorem pt_yes {w : Int32} {j : Nat} (h : K j = w) (h7 : j < 700) : pt K w (j, L) = some (j + 1, L) := by unfold pt; rw [if_pos ⟨h, h7⟩]
theorem pt_no {w : Int32} {j : Nat} (h : ¬ (K j = w ∧ j < 700)) : pt K w (j, L) = none := by unfold pt; rw [if_neg h]
theorem kd_src174 (hq : kV q) (hx : W = none → RX x0 X) (hB : BB x0 x M E0) (hf : (f : Int) + om x = 16) (ha : 2 * ssm x ≤ nx x + 1) (l a b : Int32) (hl : (a = -1 ∧ PLc x b) ∨ (¬ a = -1 ∧ 0 ≤ a.toInt ∧ a.toInt < M)) (hEv : ¬ Ev.2.1 = []) (hTc : TGc sN Ev t a b) (h : ∀ y, BB x0 y M E0 → nx x < nx y → om y = om x → ssm y = ssm x + 1 → (y.1 100 9 = x.1 100 9 ∧ y.1 100 7 = x.1 100 7 ∧ y.1 60 13 = x.1 60 13 ∧ (∀ k, y.1 20 k = x.1 20 k) ∧ OPe x y) → La x y → SFin K V sN e Ev x t L W y → Fv y) (D : Int32) (eD : D.toInt = om x + 1) :
    ∀ (y : gd) (o b2 i2 e2 : Int32), S174 K V sN e Ev x t L W f o a b2 i2 e2 y → GS x y → BB x0 y M E0 → (o = 0 → nx x < nx y) → (o = 0 ∨ o = 2 ∨ o = 3 ∨ o = 4 ∨ o = 16) → (¬ o = 16 → PLc y b2) → (o = 16 → b2 = b) → (¬ a = -1 ∨ o = 16 ∨ BU y) → KE G q (d + 10) zk_X7_source 174 [(0, vr 100), (1, vi l), (2, vi a), (4, vi D), (5, vi o), (6, vi b2), (7, vi i2), (8, vi e2)] [] y (rv Fv) X := by
  have o1 := (BB_om hB).1
  have eF : 17 - D.toNatClampNeg = f := by
    have u := t_cl D
    omega
  have tail : ∀ (y : gd) (o b2 i2 e2 f2 : Int32), SFp K V sN e Ev x t L W o a b2 i2 e2 f2 y → GS x y → BB x0 y M E0 → nx x < nx y → (o = 0 ∨ o = 1 ∨ o = 2 ∨ o = 3 ∨ o = 4 ∨ o = 16) → (o.toInt ≤ 4 → PLc y b2) → (¬ o = 1 → (0 ≤ a.toInt ∧ a.toInt < M) ∨ BU y) → KE G q (d + 10) zk_X7_source 233 [(0, vr 100), (1, vi l), (2, vi a), (6, vi b2), (7, vi i2), (8, vi e2), (9, vi f2)] [vi o, vr 80] y (rv Fv) X := by
    intro y o b2 i2 e2 f2 hFy gy hBy ny h1 h2 h3
    have e1 := GS_sm gy
    exact kf_233 hq hBy (by omega) o l a b2 i2 e2 f2 h1 h2 h3 (fun z hBz nz oz sz fz hst => h z hBz (by omega) (by rw [oz, GS_om gy]) (by omega) ⟨by rw [fz _ _ (by omega), GS_at gy _ _ (by unfold sSum; omega)], by rw [fz _ _ (by omega), GS_at gy _ _ (by unfold sSum; omega)], by rw [fz _ _ (by omega), GS_at gy _ _ (by unfold sSum; omega)], fun k => by rw [fz _ _ (by omega), GS_at gy _ _ (by unfold sSum; omega)], OPe_tr (OPe_GS gy) (OPe_89 fz)⟩ (La_tr gy.1 ⟨fun c k q1 q2 => fz _ _ (by omega), by omega, fun j _ => fz _ _ (by omega)⟩) (SF_st hFy hst (fz _ _ (by omega)) (fun j => fz _ _ (by omega)) (fun c k q1 q2 => fz _ _ (by omega)) (fz _ _ (by omega)) (fun k => fz _ _ (by omega))))
  have p211 : ∀ (y : gd) (o b2 i2 e2 f2 : Int32), SFp K V sN e Ev x t L W (sOp o a) a b2 i2 e2 f2 y → GS x y → BB x0 y M E0 → nx x < nx y → (o = 0 ∨ o = 2 ∨ o = 3 ∨ o = 4 ∨ o = 16) → (¬ o = 16 → PLc y b2) → (o = 16 → b2 = b) → (¬ a = -1 ∨ o = 16 ∨ BU y) → KE G q (d + 10) zk_X7_source 211 [(0, vr 100), (1, vi l), (2, vi a), (5, vi o), (6, vi b2), (7, vi i2), (8, vi e2), (9, vi f2)] [] y (rv Fv) X := by
    intro y o b2 i2 e2 f2 hFy gy hBy ny h1 h2 h3 h4
    have hat : ¬ a = -1 → (0 ≤ a.toInt ∧ a.toInt < M) := fun na => by
      rcases hl with ⟨e, -⟩ | ⟨-, e⟩
      · exact absurd e na
      · exact e
    refine kg_X7_source_211 hq _ _ _ _ _ _ _ ⟨fun c => tail y o b2 i2 e2 f2 (by unfold sOp at hFy; rw [if_neg (fun q => c q.1)] at hFy; exact hFy) gy hBy ny ?_ (fun _ => h2 c) (fun _ => ?_), fun c => ⟨fun c2 => tail y o b2 i2 e2 f2 (by unfold sOp at hFy; rw [if_neg (fun q => c2 q.2)] at hFy; exact hFy) gy hBy ny ?_ (fun c3 => ?_) (fun _ => Or.inl (hat c2)), fun c2 => tail y 1 b2 i2 e2 f2 (by unfold sOp at hFy; rw [if_pos ⟨c, c2⟩] at hFy; exact hFy) gy hBy ny (by decide) (fun _ => ?_) (fun q => absurd rfl q)⟩⟩
    · rcases h1 with e | e | e | e | e
      · exact Or.inl e
      · exact Or.inr (Or.inr (Or.inl e))
      · exact Or.inr (Or.inr (Or.inr (Or.inl e)))
      · exact Or.inr (Or.inr (Or.inr (Or.inr (Or.inl e))))
      · exact absurd e c
    · rcases h4 with e | e | e
      · exact Or.inl (hat e)
      · exact absurd e c
      · exact Or.inr e
    · exact Or.inr (Or.inr (Or.inr (Or.inr (Or.inr c))))
    · rw [c] at c3; exact absurd c3 (by decide)
    · rw [h3 c]
      rcases hl with ⟨-, e⟩ | ⟨e, -⟩
      · exact PLc_La gy.1 e
      · exact absurd c2 e
  have p189 : ∀ (y : gd) (o b2 i2 e2 f2 : Int32), S189 K V sN e Ev x t L W f o a b2 i2 e2 f2 y → GS x y → BB x0 y M E0 → nx x < nx y → (o = 0 ∨ o = 2 ∨ o = 3 ∨ o = 4 ∨ o = 16) → (¬ o = 16 → PLc y b2) → (o = 16 → b2 = b) → (¬ a = -1 ∨ o = 16 ∨ BU y) → KE G q (d + 10) zk_X7_source 189 [(0, vr 100), (1, vi l), (2, vi a), (4, vi D), (5, vi o), (6, vi b2), (7, vi i2), (8, vi e2)] [vi f2] y (rv Fv) X := by
    intro y o b2 i2 e2 f2 hSy gy hBy ny h1 h2 h3 h4
    refine kg_X7_source_189 hq _ _ _ _ _ _ _ _ ⟨fun c => p211 y o b2 i2 e2 f2 ?_ gy hBy ny h1 h2 h3 h4, fun c => ?_⟩
    · rcases hSy with ⟨-, e⟩ | ⟨e, -⟩
      · exact e
      · exact absurd e c
    obtain ⟨hEy, N, hRy, hN, h6, hW, hK16, N20, hPy⟩ : KV' K e y Ev ∧ ∃ N, RIw K V sN e Ev x y N ∧ still N ∧ (∀ t0, t = some t0 → kfi sN Ev.1 t0 = none → HBs sN N Ev t0 6) ∧ W = ((pt K 68 (nn y, L ++ N)).bind (pXq K f)).bind (pan (74, nn x, 0)) ∧ K (nn x) = 16 ∧ ∃ N2, PDp sN V K Ev x y t N b2 i2 [(f2, N2)] := by
      rcases hSy with ⟨e, -⟩ | ⟨-, e⟩
      · exact absurd c e
      · exact e
    refine kd_need hq 28 68 (by decide) (by decide) (by decide) (fun no => hx (by rw [hW, pt_no no]; rfl)) hBy hRy (fun kk c7 z hBz nz gz en hRz _ hcz => ?_)
    rw [pt_yes kk c7] at hW
    have hW2 : W = (pX K false f (nn z) (L ++ N)).bind (pan (74, nn x, 0)) := by rw [hW, en]; rfl
    have bz0 := hBz.1.1.2.1
    refine kd_sum hq D (L ++ N) (fun q9 => hx (by rw [eF] at q9; rw [hW2, q9]; rfl)) hBz hRz.1 hRz.2.1 (KV_GS gz hEy) (by omega) (by omega) (fun r w hBw nw gw N2 hRw hN2 hpX hcp hrr => ?_)
    rw [eF] at hpX
    obtain ⟨N30, hPw⟩ := PDp_xp (PDp_fr hPy hcz) hpX hcp gw hrr
    have gg := GS_tr gz gw
    have hFw : SFp K V sN e Ev x t L W (sOp o a) a b2 i2 r f2 w := by
      refine ⟨KV_GS gg hEy, N ++ N2 ++ [(74, nn x, 0)], ?_, still_app (still_app hN hN2) (stl_k (by decide)), fun t0 e1 e2 => HBs_app.mpr (Or.inl (HBs_app.mpr (Or.inl (h6 t0 e1 e2)))), ?_, fun z9 hz9 => ?_⟩
      · have r1 := RI_app bz0 hN hRz gw.1 hRw
        exact ⟨r1.1, r1.2.1, UR_dull r1.2.2 (dull_k (by decide))⟩
      · rw [hW2, hpX]
        show some (nn w, L ++ N ++ N2 ++ [(74, nn x, 0)]) = _
        rw [List.append_assoc L, List.append_assoc L]
      · refine PD_74c hPw hEv (KV_GS gg hEy) hTc hK16 ?_
        have e16 : sOp o a = 4 := by unfold sOp; rw [c, if_neg (fun q => absurd q.1 (by decide))]
        rw [e16] at hz9
        exact hz9
    exact p211 w o b2 i2 r f2 hFw (GS_tr gy gg) hBw (by omega) h1 (fun c => PLc_La gg.1 (h2 c)) h3 (h4.imp id (fun e => e.imp id (La_BU gg.1)))
  intro y o b2 i2 e2 hSy gy hBy ny h1 h2 h3 h4
  have ln := gy.1.2.1
  refine kg_X7_source_174 hq _ _ _ _ _ _ _ ⟨fun c => ?_, fun c => p189 y o b2 i2 e2 _ ?_ gy hBy (ny c) h1 h2 h3 h4⟩
  · obtain ⟨hA, hn, hEy, L1, hno, hyes⟩ : KA K V sN e y ∧ nn y ≤ e ∧ KV' K e y Ev ∧ ∃ L1, (pX K false f (nn y) L1 = none → W = none) ∧ ∀ w N2 r, GS y w → RIw K V sN e Ev y w N2 → still N2 → KV' K e w Ev → pX K false f (nn y) L1 = some (nn w, L1 ++ N2) → CPl y w (sPs sN V K Ev N2) → r = y.1 60 3 → S189 K V sN e Ev x t L W f o a b2 i2 e2 r w := by
      rcases hSy with ⟨e, -⟩ | ⟨-, e⟩
      · exact absurd e c
      · exact e
    exact kd_sum hq D L1 (fun q9 => hx (hno (by rw [eF] at q9; exact q9))) hBy hA hn hEy (by omega) (by omega) (fun r w hBw nw gw N2 hRw hN2 hpX hcp hrr => p189 w o b2 i2 e2 r (hyes w N2 r gw hRw hN2 (KV_GS gw hEy) (by rw [eF] at hpX; exact hpX) hcp hrr) (GS_tr gy gw) hBw (by omega) h1 (fun c => PLc_La gw.1 (h2 c)) h3 (h4.imp id (fun e => e.imp id (La_BU gw.1))))
  · rcases hSy with ⟨-, e⟩ | ⟨e, -⟩
    · exact Or.inl ⟨by rw [c]; decide, e⟩
    · exact absurd c e
theorem kd_src163 (hq : kV q) (hx : W = none → RX x0 X) (hB : BB x0 x M E0) (hf : (f : Int) + om x = 16) (ha : 2 * ssm x ≤ nx x + 1) (l a b : Int32) (hl : (a = -1 ∧ PLc x b) ∨ (¬ a = -1 ∧ 0 ≤ a.toInt ∧ a.toInt < M)) (hEv : ¬ Ev.2.1 = []) (hTc : TGc sN Ev t a b) (h : ∀ y, BB x0 y M E0 → nx x < nx y → om y = om x → ssm y = ssm x + 1 → (y.1 100 9 = x.1 100 9 ∧ y.1 100 7 = x.1 100 7 ∧ y.1 60 13 = x.1 60 13 ∧ (∀ k, y.1 20 k = x.1 20 k) ∧ OPe x y) → La x y → SFin K V sN e Ev x t L W y → Fv y) (D : Int32) (eD : D.toInt = om x + 1) :
    ∀ (y : gd) (o b2 i2 e2 : Int32), S163 K V sN e Ev x t L W f o a b2 i2 e2 y → GS x y → BB x0 y M E0 → nx x < nx y → ¬ o = 16 → (o = 0 ∨ o = 2 ∨ o = 3 ∨ o = 4 ∨ o = 16) → PLc y b2 → (¬ a = -1 ∨ o = 16 ∨ BU y) → KE G q (d + 10) zk_X7_source 163 [(0, vr 100), (1, vi l), (2, vi a), (4, vi D), (5, vi o), (6, vi b2), (7, vi i2), (8, vi e2)] [] y (rv Fv) X := by
  intro y o b2 i2 e2 hSy gy hBy ny h0 h1 h2 h4
  have p174 := kd_src174 (d := d) (G := G) hq hx hB hf ha l a b hl hEv hTc h D eD
  refine kg_X7_source_163 hq _ _ _ _ _ _ _ ⟨fun c => p174 y o b2 i2 e2 ?_ gy hBy (fun _ => ny) h1 (fun _ => h2) (fun q => absurd q h0) h4, fun c => ?_⟩
  · rcases hSy with e | ⟨e, -⟩
    · exact Or.inl e
    · exact absurd c e
  obtain ⟨h16, hEy, N, hRy, hN, h6, hW, hop, he2, hPy⟩ : (o = 4 ↔ K (nn x) = 16) ∧ KV' K e y Ev ∧ ∃ N, RIw K V sN e Ev x y N ∧ still N ∧ (∀ t0, t = some t0 → kfi sN Ev.1 t0 = none → HBs sN N Ev t0 6) ∧ W = ((pt K 68 (nn y, L ++ N)).bind (pXq K f)).bind (fun q => (if K (nn x) = 16 then (pt K 68 q).bind (pXq K f) else some q).bind (pan (74, nn x, 0))) ∧ o = Int32.ofNat (opX (K (nn x))) ∧ e2 = -1 ∧ PDp sN V K Ev x y t N b2 i2 [] := by
    rcases hSy with ⟨e, -⟩ | ⟨-, e⟩
    · exact absurd e c
    · exact e
  refine kd_need hq 28 68 (by decide) (by decide) (by decide) (fun no => hx (by rw [hW, pt_no no]; rfl)) hBy hRy (fun kk c7 z hBz nz gz en hRz _ hcz => ?_)
  rw [pt_yes kk c7] at hW
  have hW2 : W = (pX K false f (nn z) (L ++ N)).bind (fun q => (if K (nn x) = 16 then (pt K 68 q).bind (pXq K f) else some q).bind (pan (74, nn x, 0))) := by rw [hW, en]; rfl
  have bz0 := hBz.1.1.2.1
  refine p174 z o b2 i2 e2 (Or.inr ⟨c, hRz.1, hRz.2.1, KV_GS gz hEy, L ++ N, fun q9 => by rw [hW2, q9]; rfl, fun w N2 r gw hRw hN2 hEw hpX hcp hrr => ?_⟩) (GS_tr gy gz) hBz (fun _ => by omega) h1 (fun _ => PLc_La gz.1 h2) (fun q => absurd q h0) (h4.imp id (fun e => e.imp id (La_BU gz.1)))
  obtain ⟨N20, hPw⟩ := PDp_xp (PDp_fr hPy hcz) hpX hcp gw hrr
  rw [hpX] at hW2
  have r1 := RI_app bz0 hN hRz gw.1 hRw
  have h62 : ∀ t0, t = some t0 → kfi sN Ev.1 t0 = none → HBs sN (N ++ N2) Ev t0 6 := fun t0 e1 e2 => HBs_app.mpr (Or.inl (h6 t0 e1 e2))
  by_cases c4 : o = 4
  · refine Or.inr ⟨c4, hEw, N ++ N2, r1, still_app hN hN2, h62, ?_, h16.mp c4, N20, hPw⟩
    have hW3 : W = (if K (nn x) = 16 then (pt K 68 (nn w, L ++ N ++ N2)).bind (pXq K f) else some (nn w, L ++ N ++ N2)).bind (pan (74, nn x, 0)) := hW2
    rw [hW3, if_pos (h16.mp c4), List.append_assoc]
  · refine Or.inl ⟨c4, hEw, N ++ N2 ++ [(74, nn x, 0)], ⟨r1.1, r1.2.1, UR_dull r1.2.2 (dull_k (by decide))⟩, still_app (still_app hN hN2) (stl_k (by decide)), fun t0 e1 e2 => HBs_app.mpr (Or.inl (h62 t0 e1 e2)), ?_, fun z9 hz9 => PD_74 hPw hEv hEw hTc (fun q => c4 (h16.mpr q)) hop (by
      have e16 : sOp o a = o := by unfold sOp; rw [if_neg (fun q => h0 q.1)]
      rw [e16, he2] at hz9
      exact hz9)⟩
    have hW3 : W = (if K (nn x) = 16 then (pt K 68 (nn w, L ++ N ++ N2)).bind (pXq K f) else some (nn w, L ++ N ++ N2)).bind (pan (74, nn x, 0)) := hW2
    rw [hW3, if_neg (fun q => c4 (h16.mpr q))]
    show some (nn w, L ++ N ++ N2 ++ [(74, nn x, 0)]) = _
    rw [List.append_assoc L, List.append_assoc L]
end KSRG
