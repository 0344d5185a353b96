/-! the class: a new local -/
section KLT
variable {G : kG} {q : kP} {d : Nat} {x x0 y z xs : gd} {F : Int32 → gd → Prop} {Fv : gd → Prop} {X : String → gd → Prop} {P : Option gv → gd → Prop} {M : Int} {E : Nat → Prop} {K V : Nat → Int32} {sN : Nat → Nat → Bool} {e : Nat} {Ev : gV} {Ml N : gU}
theorem HA_23 {U : Nat → Int32} {n a b : Nat} : HAw sN U n Ev (23, a, b) ↔ a < n ∧ ((∃ k ∈ Ev.1.take (Ev.1.length - Ev.2.1.headD 0), sN k.1 a = true) → U a = 2) := by unfold HAw; simp
theorem HB_23 {a b j : Nat} (h : ∃ k ∈ Ev.1.take (Ev.1.length - Ev.2.1.headD 0), sN k.1 a = true) : HB sN Ev (23, a, b) j 2 := Or.inr (Or.inr (Or.inr (Or.inr (Or.inl ⟨rfl, rfl, h⟩))))
theorem kd_newLocal (hq : kV q) (hx : (¬ ((K (nn x + 1) = 1 ∧ nn x + 1 < 700) ∧ (x.1 100 7).toInt < 8 ∧ K (nn x + 2) = 50 ∧ nn x + 2 < 700) ∨ 700 ≤ nn x) → RX x0 X) (hk26 : K (nn x) = 26) (hA : KA K V sN e x) (hn : nn x ≤ e) (hE : KV' K e x Ev) (hHd : (x.1 113 ((om x).toNat - 1)).toNatClampNeg = Ev.2.1.headD 0) (hB : BB x0 x M E) (h1 : 1 ≤ om x) (h : ∀ t y, BB x0 y M E → nx y = nx x + 3 → om y = om x → ssm y = ssm x → tk y t → y.1 100 9 = x.1 100 9 → (y.1 100 9).toInt + 1 ≤ (y.1 100 7).toInt → y.1 60 13 = x.1 60 13 → t.toNatClampNeg = nn x + 1 → ((K (nn x + 1) = 1 ∧ nn x + 1 < 700) ∧ (x.1 100 7).toInt < 8 ∧ K (nn x + 2) = 50 ∧ nn x + 2 < 700) → (y.1 100 7).toInt = (x.1 100 7).toInt + 1 → nn y = nn x + 3 → Lb x y → KV' K e y Ev → RIw K V sN e Ev x y [(23, nn x + 1, 0)] → (∀ c k, 111 ≤ c → c ≤ 113 → y.1 c k = x.1 c k) → (∀ c k, ccS c k → y.1 c k = x.1 c k) → F t y) : KE G q (d + 8) zk_X7_newLocal 0 [(0, vr 100)] [] x (ri F) X := by
  have k8 : (8 : Int32).toInt = 8 := rfl
  have bx0 := hB.1.1.2.1
  have cx := nn_is bx0
  have p26 : ∀ y, nn y = nn x + 1 → RIw K V sN e Ev x y [] → y.1 42 (nn x) = 0 → nn x < 700 → BB x0 y M E → GS x y → (∀ c k, ccS c k → y.1 c k = x.1 c k) → nx y = nx x + 1 → (y.1 23 (y.1 100 4).toNatClampNeg = 2 → (y.1 100 7).toInt < 8) → KE G q (d + 8) zk_X7_newLocal 26 [(0, vr 100)] [] y (ri F) X := by
    intro y eny hRy ui i7 hBy gy hcy ny hl8
    have gy7 : y.1 100 7 = x.1 100 7 := GS_at gy _ _ (by unfold sSum; omega)
    refine kg_X7_newLocal_26 hq (kd_needFor hq 2 0 1 (by decide) (by decide) (by decide) (by decide) (fun no => hx (Or.inl (fun z => no (by rw [eny]; exact z.1)))) hBy hRy.1 hRy.2.1 (fun kk c7 z hBz nz gz enz hAz hnz eu ht hcz => ?_))
    have cw : y.1 23 (y.1 100 4).toNatClampNeg = 2 := (KA_k hRy.1 hRy.2.1 2 (by decide)).mpr kk
    have kk1 : K (nn x + 1) = 1 := by rw [← eny]; exact kk
    have myn : (y.1 100 4).toNatClampNeg = nn x + 1 := eny
    have eu : z.1 42 (y.1 100 4).toNatClampNeg = 0 := eu
    have hEz := KV_GS gz (KV_GS gy hE)
    intro w ew
    have fw : fm (fun c k => c = 100 ∧ k = 7) z w := by rw [ew]; exact fm_si (fm_rf _ _) ⟨rfl, rfl⟩
    have w7 : w.1 100 7 = z.1 100 7 + 1 := by rw [ew]; (simp only [si_get, sfl_get, Nat.reduceEqDiff, eq_self, and_false, false_and, and_true, true_and, if_true, if_false, reduceIte, reduceCtorEq])
    have gz7 : z.1 100 7 = y.1 100 7 := GS_at gz _ _ (by unfold sSum; omega)
    have hl := hl8 cw
    obtain ⟨kz, oz, cz⟩ := BB_k hBz
    have l0 := oz.2.2.2.1
    have kk0 := kz.1.1
    have t7 : (w.1 100 7).toInt = (z.1 100 7).toInt + 1 := by
      rw [w7, t_add (by show _ ≤ _ + (1 : Int); omega) (by show _ + (1 : Int) ≤ _; rw [gz7]; omega)]; rfl
    have w9 : w.1 100 9 = z.1 100 9 := fw _ _ (by omega)
    have hKw : KN w := KN_fm kz w9 (fw _ _ (by omega)) (fun k => fw _ _ (by omega))
    have hBw : BB x0 w M E := BB_kn hBz (Int.le_refl _) (fm_w fw (fun c k q => Or.inl ⟨q.1, Or.inl q.2⟩)) hKw (by rw [w9]; exact Int.le_refl _) (by rw [w9, t7]; rw [gz7] at l0 ⊢; omega) (by rw [fw 60 13 (by omega)]; exact cz.2.2.2.2.2.1) (by rw [w9, fw 60 13 (by omega)]; exact cz.2.2.2.2.2.2 hBz.2.2.2.2.1)
    have omw : om w = om x := by rw [← GS_om gy, ← GS_om gz]; unfold om; rw [fw 100 13 (by omega)]
    have o18 := (BB_om hBw).1
    have e13 : (w.1 100 13 - 1).toInt = om w - 1 := t_sub (by show _ ≤ _ - (1 : Int); unfold om at *; omega) (by show _ - (1 : Int) ≤ _; unfold om at *; omega)
    have nw : nx w = nx z := by unfold nx; rw [fw 100 4 (by omega)]
    have htw : tk w (y.1 100 4) := by unfold tk at ht ⊢; rw [fw 20 7 (by omega)]; exact ht
    obtain ⟨-, ow, -⟩ := BB_k hBw
    have hop := ow.2.1 ((w.1 100 13 - 1).toNatClampNeg) (by rw [t_cl, e13]; omega)
    have hEw : KV' K e w Ev := KV_fm hEz (fw _ _ (by omega)) (fun k => fw _ _ (by omega))
    have hAw : KA K V sN e w := KA_fm hAz (fun c k q1 q2 => fw _ _ (by omega))
    have e13c : (w.1 100 13 - 1).toNatClampNeg = (om x).toNat - 1 := by rw [t_cl, e13, omw]; omega
    have w113 : (w.1 113 (w.1 100 13 - 1).toNatClampNeg).toNatClampNeg = Ev.2.1.headD 0 := by
      rw [e13c, fw 113 _ (by omega), GS_at gz 113 _ (by unfold sSum; omega), GS_at gy 113 _ (by unfold sSum; omega)]; exact hHd
    refine ⟨by rw [vp_in_iff, e13]; omega, kf_knownFrom hq hBw.1.1.1 hKw hAw hEw _ _ hop.2.2.1 htw (by rw [myn, ← eny]; exact hRy.2.1) (by rw [myn]; exact kk1) (fun r hr => ?_)⟩
    have tk9 : (r = -1 ∧ ¬ ∃ k ∈ Ev.1.take (Ev.1.length - Ev.2.1.headD 0), sN k.1 (nn x + 1) = true) ∨ (¬ r = -1 ∧ ∃ k ∈ Ev.1.take (Ev.1.length - Ev.2.1.headD 0), sN k.1 (nn x + 1) = true) := by
      rw [w113, myn] at hr
      rcases hr with ⟨e1, e2⟩ | ⟨n, e1, -, -, -, p, k, e3, e4, e5⟩
      · exact Or.inl ⟨e1, fun z => by
          obtain ⟨p, k, z1, z2, z3⟩ := take_ex.mp z
          exact e2 p k z1 z2 z3⟩
      · exact Or.inr ⟨fun z => by rw [z, tm1] at e1; omega, take_ex.mpr ⟨p, k, e3, e4, e5⟩⟩
    have fin : ∀ v, ((v.1 42 (nn x + 1) = 0 ∧ ¬ ∃ k ∈ Ev.1.take (Ev.1.length - Ev.2.1.headD 0), sN k.1 (nn x + 1) = true) ∨ (v.1 42 (nn x + 1) = 2 ∧ ∃ k ∈ Ev.1.take (Ev.1.length - Ev.2.1.headD 0), sN k.1 (nn x + 1) = true)) → (∀ j, ¬ j = nn x + 1 → v.1 42 j = w.1 42 j) → BB x0 v M E → fm (fun c k => c = 42) w v → KE G q (d + 8) zk_X7_newLocal 73 [(0, vr 100), (1, vi (y.1 100 4))] [] v (ri F) X := by
      intro v hm hj hBv fv
      have nzx : nn z = nn x + 2 := by omega
      have nv : nn v = nn x + 2 := by rw [← nzx]; unfold nn; rw [fv 100 4 (by omega), fw 100 4 (by omega)]
      have vi0 : v.1 42 (nn x) = 0 := by
        obtain ⟨-, la⟩ := La_nn hBy.1.1.2.1 gz.1
        rw [hj _ (by omega), fw 42 _ (by omega), la _ (by omega)]; exact ui
      have lav : La x v := ⟨fun c k q1 q2 => by rw [fv c k (by omega), fw c k (by omega), gz.1.1 c k q1 q2, gy.1.1 c k q1 q2], by
        have e1 : nx v = nx z := by unfold nx; rw [fv 100 4 (by omega), fw 100 4 (by omega)]
        omega, fun j hjx => by rw [hj j (by omega), fw 42 _ (by omega), gz.1.2.2 j (by omega), gy.1.2.2 j hjx]⟩
      have hRv : RIw K V sN e Ev x v [(23, nn x + 1, 0)] := by
        refine ⟨KA_fm hA lav.1, by rw [nv, ← nzx]; exact hnz, HAs_one.mpr (HA_23.mpr ⟨by omega, fun hk => ?_⟩), fun j h1 h2 h3 => HBs_one.mpr ?_⟩
        · rcases hm with ⟨-, e⟩ | ⟨e, -⟩
          · exact absurd hk e
          · exact e
        · have hj9 : j = nn x ∨ j = nn x + 1 := by omega
          rcases hj9 with ej | ej
          · rw [ej] at h3; exact absurd vi0 h3
          · rw [ej] at h3 ⊢
            rcases hm with ⟨e, -⟩ | ⟨e, e2⟩
            · exact absurd e h3
            · rw [e]; exact HB_23 e2
      have hEv : KV' K e v Ev := KV_fm hEw (fv _ _ (by omega)) (fun k => fv _ _ (by omega))
      have x7 : (x.1 100 7).toInt < 8 := by rw [← gy7]; exact hl
      refine kg_X7_newLocal_73 hq _ (kd_need hq 10 50 (by decide) (by decide) (by decide) (fun no => hx (Or.inl (fun z => no (by rw [nv]; exact z.2.2)))) hBv hRv (fun kk2 c72 u hBu nu gu enu hRu _ hcu => ri_i (h _ u hBu ?_ ?_ ?_ ?_ ?_ ?_ ?_ myn ⟨⟨kk1, by omega⟩, x7, by rw [← nv]; exact kk2, by omega⟩ ?_ (by omega) ⟨La_tr lav gu.1, fun c k q => by rw [GS_at gu c k (by unfold Tc at q; unfold sSum; omega), fv c k (by unfold Tc at q; omega), fw c k (by unfold Tc at q; omega), GS_at gz c k (by unfold Tc at q; unfold sSum; omega), GS_at gy c k (by unfold Tc at q; unfold sSum; omega)]⟩ (KV_GS gu hEv) hRu (fun c k q1 q2 => by rw [GS_at gu c k (by unfold sSum; omega), fv c k (by omega), fw c k (by omega), GS_at gz c k (by unfold sSum; omega), GS_at gy c k (by unfold sSum; omega)]) (fun c k q => (hcu c k q).trans ((fv c k (by unfold ccS at q; omega)).trans ((fw c k (by unfold ccS at q; omega)).trans ((hcz c k q).trans (hcy c k q))))))))
      · have : nx v = nx w := by unfold nx; rw [fv 100 4 (by omega)]
        omega
      · rw [GS_om gu, ← omw]; unfold om; rw [fv 100 13 (by omega)]
      · rw [GS_sm gu]
        have : ssm v = ssm w := by unfold ssm; rw [fv 80 9 (by omega)]
        rw [this, ← GS_sm gy, ← GS_sm gz]; unfold ssm; rw [fw 80 9 (by omega)]
      · unfold tk at htw ⊢
        rw [GS_at gu 20 7 (by unfold sSum; omega), fv 20 7 (by omega)]; exact htw
      · rw [GS_at gu 100 9 (by unfold sSum; omega), fv 100 9 (by omega), w9, GS_at gz 100 9 (by unfold sSum; omega), GS_at gy 100 9 (by unfold sSum; omega)]
      · rw [GS_at gu 100 9 (by unfold sSum; omega), GS_at gu 100 7 (by unfold sSum; omega), fv 100 9 (by omega), fv 100 7 (by omega), t7, w9]; omega
      · rw [GS_at gu 60 13 (by unfold sSum; omega), fv 60 13 (by omega), fw 60 13 (by omega), GS_at gz 60 13 (by unfold sSum; omega), GS_at gy 60 13 (by unfold sSum; omega)]
      · rw [GS_at gu 100 7 (by unfold sSum; omega), fv 100 7 (by omega), t7, gz7, gy7]
    have eN := BB_N hBy
    have w42 : w.1 42 (nn x + 1) = 0 := by rw [← myn, fw 42 _ (by omega)]; exact eu
    refine ⟨fun c => fin w (Or.inl ⟨w42, ?_⟩) (fun _ _ => rfl) hBw (fm_rf _ _), fun c => ⟨(kT_at hBw.1.1.1 htw).1, fun v ev => fin v (Or.inr ⟨by rw [ev, ← myn]; (simp only [si_get, sfl_get, Nat.reduceEqDiff, eq_self, and_false, false_and, and_true, true_and, if_true, if_false, reduceIte, reduceCtorEq]), ?_⟩) (fun j hj => by rw [ev, si_get, if_neg (fun q => hj (by rw [← myn]; exact q.2))]) ?_ (by rw [ev]; exact fm_si (fm_rf _ _) rfl)⟩⟩
    · rcases tk9 with ⟨-, e⟩ | ⟨e, -⟩
      · exact e
      · exact absurd c e
    · rcases tk9 with ⟨e, -⟩ | ⟨-, e⟩
      · exact absurd e c
      · exact e
    refine BB_use hBw (t := (y.1 100 4).toNatClampNeg) (by omega) (by rw [fw 42 _ (by omega)]; exact eu) ?_ (by rw [ev]; exact fm_si (fm_rf _ _) (Or.inr (Or.inr ⟨rfl, rfl⟩)))
    have : v.1 42 (y.1 100 4).toNatClampNeg = 2 := by rw [ev]; (simp only [si_get, sfl_get, Nat.reduceEqDiff, eq_self, and_false, false_and, and_true, true_and, if_true, if_false, reduceIte, reduceCtorEq])
    rw [this]; decide
  refine kg_X7_newLocal_0 hq (kd_pass (xs := x) (Ml := []) (Ev := Ev) hq (fun c7 => hx (Or.inr c7)) hB ⟨hA, hn, UR_0 rfl⟩ (by rw [hk26]; decide) (by rw [hk26]; decide) (fun c7 y hBy ny gy eny hRy u0 hcy => kp_sort hq hBy.1.1 ⟨fun c => p26 y eny hRy u0 c7 hBy gy hcy ny (fun q => absurd q c), fun c => ⟨fun c2 => p26 y eny hRy u0 c7 hBy gy hcy ny (fun _ => by rw [t_lt, k8] at c2; exact c2), fun c2 => kd_refuse hq (hx (Or.inl (fun z => ?_))) hBy _⟩⟩))
  rw [t_lt, k8, GS_at gy 100 7 (by unfold sSum; omega)] at c2
  exact c2 z.2.1
end KLT
