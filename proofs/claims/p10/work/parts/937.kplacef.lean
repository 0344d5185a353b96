/-! the class: a place -/
section KPLC
variable {G : kG} {q : kP} {d : Nat} {x x0 y z xs : gd} {F : Int32 → gd → Prop} {Fv : gd → Prop} {X : String → gd → Prop} {P : Option gv → gd → Prop} {M : Int} {E : Nat → Prop} {K V : Nat → Int32} {sN : Nat → Nat → Bool} {e : Nat} {Ev : gV} {Np : gU} {L : gU} {W : gOp} {f : Nat} {kont : Nat × gU → gOp} {tg : Option Nat}
theorem kd_place (hq : kV q) (hx : W = none → RX x0 X) (hWp : W = (pP K f (nn y) (L ++ Np)).bind kont) (hBy : BB x0 y M E0) (hA : KA K V sN e y) (hn : nn y ≤ e) (hEy : KV' K e y Ev) (D : Int32) (eF : 17 - D.toNatClampNeg = f) (hD1 : 1 ≤ D.toInt) (hD2 : D.toInt ≤ 18) (u s9 i2 : Int32) (hu12 : ¬ u = 12) (h25 : ¬ s9 = 0 ↔ y.1 23 ((y.1 100 4).toNatClampNeg + 1) = 25) (hN : still Np) (hEv : ¬ Ev.2.1 = []) (hi2 : i2 = -1) (hPD : PD sN V K Ev x y tg Np [] 0 false) (h4 : (y.1 100 4).toInt = ((nn y : Nat) : Int))
    (hm6 : s9 = 0 → ∀ z, La y z → nn z = nn y + 1 → KA K V sN e z → nn z ≤ e → z.1 42 (nn y) = u → RIw K V sN e Ev x z (Np ++ [(6, nn y, 0)]))
    (hm7 : ¬ s9 = 0 → ∀ z, La y z → nn z = nn y + 1 → KA K V sN e z → nn z ≤ e → z.1 42 (nn y) = u → RIw K V sN e Ev x z (Np ++ [(7, nn y, 0)]))
    (C : Int32 → Int32 → gd → Prop)
    (hC : ∀ (i9 : Int32) (w : gd) (N3 : gU), BB x0 w M E0 → GS y w → nx y < nx w → w.1 42 (nn y) = u → RIw K V sN e Ev x w (Np ++ N3) → still (Np ++ N3) → KV' K e w Ev → W = kont (nn w, L ++ (Np ++ N3)) → PDp sN V K Ev x w tg (Np ++ N3) (y.1 100 4) i9 [] → C (y.1 100 4) i9 w) :
    KE G q (d + 9) zk_X7_needFor 0 [(0, vr 100), (1, vi 2), (2, vi u)] [] y (ri (fun r4 x3 => ((s9 = (0 : Int32) → C r4 i2 x3) ∧ (¬ (s9 = (0 : Int32)) → KE G q (d + 9) zk_X7_pass 0 [(0, vr 100)] [] x3 (rv (fun x6 => KE G q (d + 9) zk_X7_sum 0 [(0, vr 100), (1, vi D)] [] x6 (ri (fun r8 x7 => KE G q (d + 9) zk_X7_need 0 [(0, vr 100), (1, vi 26)] [] x7 (rv (fun x9 => C r4 r8 x9)) X)) X)) X)))) X := by
  refine kd_needFor hq 2 u 1 (by decide) (by decide) (by decide) hu12 (fun no => hx (by rw [hWp]; unfold pP; rw [if_neg no]; rfl)) hBy hA hn (fun kk c7 z hBz nz gz en hAz hnz eu ht hcz => ?_)
  have on1 : nn y + 1 ≤ e := by omega
  have k25 : y.1 23 (nn y + 1) = 25 ↔ K (nn y + 1) = 65 := KA_k hA on1 25 (by decide)
  have hW1 : W = (if K (nn y + 1) = 65 then (if nn y + 1 < 700 then (pX K false f (nn y + 2) (L ++ Np ++ [(7, nn y, 0)])).bind (pt K 66) else none) else some (nn y + 1, L ++ Np ++ [(6, nn y, 0)])).bind kont := by
    rw [hWp]; unfold pP; rw [if_pos ⟨kk, c7⟩]
  refine ⟨fun c => ?_, fun c => ?_⟩
  · have n65 : ¬ K (nn y + 1) = 65 := fun q => (h25.mpr (k25.mpr q)) c
    rw [if_neg n65] at hW1
    refine hC i2 z [(6, nn y, 0)] hBz gz (by omega) eu (hm6 c z gz.1 en hAz hnz eu) (still_app hN (stl_k (by decide))) (KV_GS gz hEy) ?_ ⟨nn y, false, [], h4, Or.inl ⟨rfl, hi2, rfl⟩, PD_6 (PD_fr hPD hcz) hEv⟩
    rw [hW1, en, ← List.append_assoc]
    rfl
  have h65 : K (nn y + 1) = 65 := k25.mp (h25.mp c)
  rw [if_pos h65] at hW1
  have hRz := hm7 c z gz.1 en hAz hnz eu
  refine kd_pass hq (fun c9 => hx ?_) hBz hRz (by rw [en, h65]; decide) (by rw [en, h65]; decide) (fun c9 w hBw nw gw enw hRw uw hcw => ?_)
  · rw [hW1, if_neg (by omega)]; rfl
  rw [if_pos (by omega)] at hW1
  have en2 : nn w = nn y + 2 := by omega
  have hEw := KV_GS gw (KV_GS gz hEy)
  refine kd_sum hq D (L ++ Np ++ [(7, nn y, 0)]) (fun q9 => hx ?_) hBw hRw.1 hRw.2.1 hEw hD1 hD2 (fun r v hBv nv gv N2 hRv hN2 hpX hcp hrr => ?_)
  · rw [eF, en2] at q9
    rw [hW1, q9]; rfl
  rw [eF, en2] at hpX
  obtain ⟨N20, -, hPv⟩ := PD_xp (PD_7 (i := nn y) (PD_fr (PD_fr hPD hcz) hcw) hEv) hpX hcp gv hrr
  rw [hpX] at hW1
  have hW2 : W = (pt K 66 (nn v, L ++ Np ++ [(7, nn y, 0)] ++ N2)).bind kont := hW1
  have bw0 := hBw.1.1.2.1
  have hst : still (Np ++ [(7, nn y, 0)]) := still_app hN (stl_k (by decide))
  have hRxv := RI_app bw0 hst hRw gv.1 hRv
  refine kd_need hq 26 66 (by decide) (by decide) (by decide) (fun no => hx (by rw [hW2, pt_no no]; rfl)) hBv hRxv (fun kk2 c72 t hBt nt gt ent hRt _ hct => ?_)
  rw [pt_yes kk2 c72] at hW2
  have bz0 := hBz.1.1.2.1
  have bv0 := hBv.1.1.2.1
  have gg := GS_tr (GS_tr gw gv) gt
  obtain ⟨-, la⟩ := La_nn bz0 gg.1
  refine hC r t ([(7, nn y, 0)] ++ N2) hBt (GS_tr gz gg) (by omega) (by rw [la _ (by omega)]; exact eu) (by rw [← List.append_assoc]; exact hRt) (by rw [← List.append_assoc]; exact still_app hst hN2) (KV_GS gt (KV_GS gv hEw)) ?_ ⟨nn y, true, [(r, N20)], h4, Or.inr ⟨rfl, N20, rfl⟩, by rw [← List.append_assoc]; exact PD_fr hPv hct⟩
  rw [hW2, ent, ← List.append_assoc, ← List.append_assoc]
  rfl
end KPLC
