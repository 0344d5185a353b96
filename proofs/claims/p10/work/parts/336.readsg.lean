theorem sf_readS : ∀ k : Nat, SfS k := by
  intro k
  induction k with
  | zero =>
    intro G D x F hD hpre hb hlt hbs hF
    obtain ⟨D, rfl⟩ : ∃ m, D = m + 20 := ⟨D - 20, by omega⟩
    obtain ⟨pn, n0, c0, k16, nst⟩ := id hpre
    obtain ⟨h16, -⟩ := nst hb
    refine sg_readS_0 (sp_deeper pn hb (by omega) (by omega) (fun y m py by0 => ⟨fun q => absurd rfl q, fun _ => ri_i (hF _ _ ?_ ⟨[], FXs_0 (nwo_b by0) (fun i _ L => rfl), fun q => by omega⟩)⟩) (fun y _ q _ => by omega))
    have e8 : y.1 0 8 = x.1 0 8 := m.1 8 (by decide)
    have e13 : y.1 0 13 = x.1 0 13 := m.1 13 (by decide)
    refine ⟨RP_9 m py (fun q => by omega), ?_, by decide, fun q => by omega⟩
    unfold cr at c0 ⊢
    rw [e8, e13]
    omega
  | succ k ih =>
    intro G D x F hD hpre hb hlt hbs hF
    obtain ⟨D, rfl⟩ : ∃ m, D = m + 24 := ⟨D - 24, by omega⟩
    obtain ⟨pn, n0, c0, k16, nst⟩ := id hpre
    obtain ⟨h16, -⟩ := nst hb
    refine sg_readS_0 (sf_deeper pn hb (by omega) (by omega) (fun y n16 m py by0 => by omega) (fun y m _ hy => ⟨fun _ => ?_, fun q => absurd q (by decide)⟩))
    have e8 : y.1 0 8 = x.1 0 8 := m.1 8 (by decide)
    have e9 : y.1 0 9 = x.1 0 9 := m.1 9 (by decide)
    have e13 : y.1 0 13 = x.1 0 13 := m.1 13 (by decide)
    have e21 : y.1 0 21 = x.1 0 21 := m.1 21 (by decide)
    have e5 : y.1 5 = x.1 5 := m.2.1 5 (by decide) (by decide)
    have py : PN y := ⟨by rw [e8]; exact pn.1, by rw [e8]; exact pn.2.1, by rw [e9]; exact pn.2.2.1, TX_md m (by decide) (by decide) (by decide) (by decide) pn.2.2.2⟩
    have cy : cr y = cr x := by unfold cr; rw [e8, e13]
    have rxy : RP x y := RP_9 (md_w m (by decide) (by decide)) py (fun q => by rw [← e9]; exact q)
    refine sf_readOneS k ih (by omega) ⟨py, by rw [e13]; exact n0, by omega, by omega, fun _ => ⟨by omega, by omega⟩⟩ (by rw [e9]; exact hb) (by unfold LT; rw [e21]; exact hlt) (by rw [e5, e8]; exact hbs) (fun r z hz hfz w ew => ri_i (hF _ _ ?_ ?_))
    · obtain ⟨rz, cz, rr, okz⟩ := hz
      have mw := md_f z 20 (z.1 0 20 - 1)
      rw [← ew] at mw
      have g8 : w.1 0 8 = z.1 0 8 := mw.1 8 (by decide)
      have g9 : w.1 0 9 = z.1 0 9 := mw.1 9 (by decide)
      have g13 : w.1 0 13 = z.1 0 13 := mw.1 13 (by decide)
      have g21 : w.1 0 21 = z.1 0 21 := mw.1 21 (by decide)
      have g20 : w.1 0 20 = z.1 0 20 - 1 := by rw [ew, si_get, if_pos ⟨rfl, rfl⟩]
      have pw : PN w := ⟨by rw [g8]; exact rz.2.1.1, by rw [g8]; exact rz.2.1.2.1, by rw [g9]; exact rz.2.1.2.2.1, TX_md mw (by decide) (by decide) (by decide) (by decide) rz.2.1.2.2.2⟩
      have rzw : RP z w := RP_9 (md_w mw (by decide) (by decide)) pw (fun q => by rw [← g9]; exact q)
      have cw : cr w = cr z := by unfold cr; rw [g8, g13]
      refine ⟨RP_tr rxy (RP_tr rz rzw), by omega, rr, fun q => ?_⟩
      rw [g9] at q
      obtain ⟨o1, o2, o3, o4, o5, o6, o7, o8⟩ := okz q
      rw [e21] at o4 o6
      rw [e8] at o2 o6
      rw [e13] at o6 o8
      rw [g8, g21]
      refine ⟨?_, o2, by omega, o4, by unfold LT; rw [g21]; exact o5, vS_RP (Int.le_refl _) rzw o6, ?_, o8⟩
      · rw [g20, o1, t_eq, t_sub (by rw [hy]; show _ ≤ _ - (1 : Int); omega) (by rw [hy]; show _ - (1 : Int) ≤ _; omega), hy]
        show _ - (1 : Int) = _
        omega
      · rw [rzw.2.2.2.2.2 20 (by decide) (by decide) _ (by rw [t_cl]; have := o6.1; omega)]
        exact o7
    · obtain ⟨rz, cz, rr, okz⟩ := hz
      obtain ⟨M, fz, vz⟩ := hfz
      have mw := md_f z 20 (z.1 0 20 - 1)
      rw [← ew] at mw
      have g8 : w.1 0 8 = z.1 0 8 := mw.1 8 (by decide)
      have g9 : w.1 0 9 = z.1 0 9 := mw.1 9 (by decide)
      have g21 : w.1 0 21 = z.1 0 21 := mw.1 21 (by decide)
      have pw : PN w := ⟨by rw [g8]; exact rz.2.1.1, by rw [g8]; exact rz.2.1.2.1, by rw [g9]; exact rz.2.1.2.2.1, TX_md mw (by decide) (by decide) (by decide) (by decide) rz.2.1.2.2.2⟩
      have rzw : RP z w := RP_9 (md_w mw (by decide) (by decide)) pw (fun q => by rw [← g9]; exact q)
      rw [e5] at fz
      rw [e13] at vz
      refine ⟨M, fun L => ?_, fun q => ?_⟩
      · have e := fz L
        have ny : nwo y = nwo x := nwo_e e8 e9
        have ly : lts y = lts x := by unfold lts; rw [e21]
        have nw : nwo w = nwo z := nwo_e g8 g9
        have lw : lts w = lts z := by unfold lts; rw [g21]
        rw [ny, ly] at e
        rw [nw, lw]
        exact e
      · rw [g9] at q
        exact wS_RP (Int.le_refl _) rzw (vz q)
