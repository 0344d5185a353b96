/-- what swap, add, cas tell, before their node -/
def VZ (z : gd) (l2 s0 r3 r6 f : Int32) (i : Nat) (tg : Option Nat) (M : gU) : Prop := (((s0 = 12 ∧ l2 = 35) ∨ (s0 = 13 ∧ l2 = 10)) ∧ ∃ n M1 M2, vQ z r3 M1 ∧ vV z false n r6 M2 ∧ M = pme tg ++ (M1 ++ ((M2 ++ [(54, 0, 0)]) ++ [(74, i, 0)]))) ∨ (s0 = 14 ∧ l2 = 16 ∧ ∃ n m M1 M2 M3, vQ z r3 M1 ∧ vV z false n r6 M2 ∧ vV z false m f M3 ∧ M = pme tg ++ (M1 ++ ((M2 ++ [(54, 0, 0)]) ++ ((M3 ++ [(54, 0, 0)]) ++ [(74, i, 0)]))))
theorem sf_readR (k : Nat) {G : mG} {D : Nat} {x : gd} {F : Int32 → gd → Prop} (hD : 2 * k + 10 ≤ D) (hpre : PreK k (-800) x) (hF : ∀ r x', QR k x r x' → FRr k x r x' → F r x') : MT G D z_readR 0 [(0, vr 0)] [] x (ri F) := by
  obtain ⟨D, rfl⟩ : ∃ m, D = m + 10 := ⟨D - 10, by omega⟩
  obtain ⟨pn, n0, c0, k16, nst⟩ := id hpre
  have p2 := pn.2.1
  have p154 : (∀ i, nwo x = some i → ¬ (x.1 5 i = 35 ∨ x.1 5 i = 10 ∨ x.1 5 i = 16) ∧ ¬ (x.1 5 i = 1 ∧ i < 700 ∧ x.1 5 (i + 1) = 65)) → MT G (D + 10) z_readR 154 [(0, vr 0), (1, vi (x.1 0 8))] [] x (ri F) := by
    intro hc
    refine sg_readR_154 _ (sf_E k 0 0 (by omega) (by decide) hpre (fun r y h hf => ?_))
    obtain ⟨ry, ly, cy, by0, rr, oky⟩ := h
    obtain ⟨M1, f1, v1⟩ := FE_0 hf
    refine sp_node _ _ _ _ _ (nodeV ry n0 (by omega)) (fun w hw => ri_i (hF _ _ ?_ ⟨fun tg => ?_, fun q q10 q3 => ?_⟩))
    · obtain ⟨hn, rw1, nk, cw, z0, z1, f8, f9, f20, f21⟩ := nodeR ry n0 (by omega) hw
      refine ⟨rw1, by rw [f21, ly], by omega, fun q => by rw [cw, by0 q]; omega, z0, fun q => ?_⟩
      rw [f9] at q
      obtain ⟨o1, o2, o3, o4⟩ := oky q
      obtain ⟨g1, g2, g3, g4, g5, -⟩ := nE_at hw
      rw [f8]
      refine ⟨ry.2.2.2.1 q, by rw [f20, o1], o2, by omega, ⟨⟨z0, z1⟩, by rw [g5]; exact PN_v pn, Or.inl ⟨g1, ?_⟩⟩⟩
      rw [g2]
      exact vE_NK nk o4
    · obtain ⟨hn, rw1, nk, cw, z0, z1, f8, f9, f20, f21⟩ := nodeR ry n0 (by omega) hw
      obtain ⟨g1, g2, g3, g4, g5, -⟩ := nE_at hw
      have nf : NF y w := ⟨nk, hw.1.2.1 5 (by decide) (by decide), hw.1.2.1 7 (by decide) (by decide)⟩
      have w5 : w.1 5 = x.1 5 := nf.2.1.trans (ry.1.2.1 5 (by decide) (by decide))
      cases hx : nwo x with
      | none =>
        have hy := FX_none f1 hx
        refine ⟨[], FX_0 (by rw [nE_nwo hw]; exact hy) (fun i hi => absurd (hx.symm.trans hi) (by simp)), fun q => ?_⟩
        have e := nwo_o q
        rw [nE_nwo hw, hy] at e
        exact absurd e (by simp)
      | some i =>
        have ei : (x.1 0 8).toNatClampNeg = i := (nwo_is hx).2
        obtain ⟨hc1, hc2⟩ := hc i hx
        by_cases ha : x.1 5 i = 1 ∧ x.1 5 (i + 1) = 67
        · have p0 : pst (x.1 5 (i + 1)) = 0 := by rw [ha.2]; decide
          refine ⟨[pal tg i], FX_at hx (fun L => ?_), fun q => ?_⟩
          · have e := f1 L
            rw [hx] at e
            have e : pE (x.1 5) false k 0 i L = (nwo y).map (fun j => (j, L ++ M1)) := e
            rw [pE_name ha.1 p0] at e
            rw [pR_al ha.1 ha.2, nE_nwo hw]
            by_cases c : i < 700 ∧ 1 ≤ k
            · rw [if_pos c] at e ⊢
              cases hy : nwo y with
              | none => rw [hy] at e; exact absurd e (by simp)
              | some j =>
                rw [hy] at e
                have e : (i + 1, L ++ [(3, i, 0)]) = (j, L ++ M1) := Option.some.inj e
                have e1 : i + 1 = j := congrArg Prod.fst e
                rw [← e1]
                rfl
            · rw [if_neg c] at e ⊢
              cases hy : nwo y with
              | none => rfl
              | some j => rw [hy] at e; exact absurd e (by simp)
          · rw [f9] at q
            obtain ⟨⟨n, v⟩, t1, t2⟩ := v1 q
            rw [ei] at t2
            have t3 := (t2 ha.1 rfl).resolve_right (by omega)
            obtain ⟨d1, d2, d3, d4, d5, d6⟩ := NK_at nk (vV_at v)
            refine ⟨⟨z0, z1⟩, i, by rw [g5, ei], Or.inl ⟨g1, by rw [w5]; exact ha, rfl, ?_, ?_, ?_⟩⟩
            · rw [g2]; exact ⟨n, M1, vV_NF nf v⟩
            · rw [g2, d2]; exact t3.1
            · rw [g2, d6]; exact t3.2.1
        · refine ⟨pma tg ++ ((M1 ++ [(54, 0, 0)]) ++ [(76, i, 0)]), FX_eq (FX_to (FX_seq (FX_pre (pma tg)) (FX_seq (FX_X f1) (FX_tell (76, i, 0) rfl))) (nE_nwo hw)) (fun i' hi' L => ?_), fun q => ?_⟩
          · have e : i' = i := Option.some.inj (hi'.symm.trans hx)
            subst e
            rw [pR_e hc1 hc2 ha]
            rfl
          · rw [f9] at q
            obtain ⟨⟨n, v⟩, -⟩ := v1 q
            refine ⟨⟨z0, z1⟩, i, by rw [g5, ei], Or.inr (Or.inl ⟨g1, by rw [w5]; exact ha, n, M1, ?_, rfl⟩)⟩
            rw [g2]; exact vV_NF nf v
    · obtain ⟨hn, rw1, nk, cw, z0, z1, f8, f9, f20, f21⟩ := nodeR ry n0 (by omega) hw
      obtain ⟨g1, g2, g3, g4, g5, -⟩ := nE_at hw
      rw [f9] at q
      obtain ⟨⟨n, v⟩, t1, t2⟩ := v1 q
      obtain ⟨d1, d2, d3, d4, d5, d6⟩ := NK_at nk (vV_at v)
      rw [g2, d2] at q3
      obtain ⟨u1, u2, u3⟩ := t1 q3
      exact ⟨u1, by rw [f8]; exact u3, by rw [g5]⟩
  have p28 : ∀ (l2 : Int32) (i : Nat), (l2 = 35 ∨ l2 = 10 ∨ l2 = 16) → nwo x = some i → x.1 5 i = l2 → MT G (D + 10) z_readR 28 [(0, vr 0), (1, vi (x.1 0 8)), (2, vi l2)] [] x (ri F) := by
    intro l2 i hl2 hx hKi
    have ei : (x.1 0 8).toNatClampNeg = i := (nwo_is hx).2
    refine sg_readR_28 _ _ (sf_step pn (fun y1 hs1 hst1 hy1 => ?_))
    have c1 := (cr_ss hs1).1
    have pk1 := PreK_ss hpre hs1
    have k1 : y1.1 5 = x.1 5 := hs1.1.2.1 5 (by decide) (by decide)
    refine sf_readPlace k (by omega) (PreK_w pk1 (by decide)) (fun r3 y2 h2 hf2 => ?_)
    obtain ⟨r2, l2', cc2, bb2, rr2, ok2⟩ := h2
    obtain ⟨M2, f2, v2⟩ := hf2
    rw [k1] at f2
    have k2 : y2.1 5 = x.1 5 := (r2.1.2.1 5 (by decide) (by decide)).trans k1
    refine sf_pass _ r2.2.1 (fun y3 hs3 hst3 hy3 => ?_)
    rw [k2] at hy3
    have k3 : y3.1 5 = x.1 5 := (hs3.1.2.1 5 (by decide) (by decide)).trans k2
    have c3 := (cr_ss hs3).1
    have r13 : RP y1 y3 := RP_tr r2 (RP_ss hs3)
    have pk3 : PreK k (-900) y3 := PreK_rp pk1 r13 (by omega) (fun q => by
      obtain ⟨-, o1, o2, o3, -⟩ := ok2 (hs3.2.2.2.2 q)
      exact ⟨by rw [hs3.1.1 20 (by decide), o1], by omega⟩)
    refine sf_E k _ _ (by omega) (by decide) pk3 (fun r6 y5 h5 hf5 => ?_)
    obtain ⟨r5, l5, cc5, bb5, rr5, ok5⟩ := h5
    obtain ⟨M5, f5, v5⟩ := FE_0 hf5
    rw [k3] at f5
    have k5 : y5.1 5 = x.1 5 := (r5.1.2.1 5 (by decide) (by decide)).trans k3
    have rx5 : RP x y5 := RP_tr (RP_tr (RP_ss hs1) r13) r5
    have bad3 : 0 < (y3.1 0 9).toInt → y5 = y3 := bb5
    have low5 : cr x ≤ cr y5 + 3 * (k + 1) + 1 := by
      by_cases q : 0 < (y3.1 0 9).toInt
      · rw [bad3 q]; omega
      · have q0 : (y3.1 0 9).toInt = 0 := by have := r13.2.1.2.2.1; omega
        obtain ⟨-, o1, o2, o3, -⟩ := ok2 (hs3.2.2.2.2 q0)
        omega
    have badx5 : 0 < (x.1 0 9).toInt → cr x ≤ cr y5 + 1 := by
      intro q
      have e1 := hs1.2.2.2.1 q
      have q1 : 0 < (y1.1 0 9).toInt := by rw [e1]; exact q
      have t2 := bb2 q1
      have q3 : 0 < (y3.1 0 9).toInt := by
        have := r13.2.2.2.1
        have := r13.2.1.2.2.1
        omega
      rw [bad3 q3]; omega
    have ok5' : (y5.1 0 9).toInt = 0 → y5.1 0 20 = x.1 0 20 ∧ (x.1 0 8).toInt + 3 ≤ (y5.1 0 8).toInt ∧ cr x + 6 ≤ cr y5 ∧ vP y5 ((y2.1 0 8).toInt - (y1.1 0 8).toInt).toNat r3 ∧ vE y5 ((y5.1 0 8).toInt - (y3.1 0 8).toInt).toNat ((y5.1 0 8).toInt - (y3.1 0 8).toInt).toNat 17 r6 ∧ (y1.1 0 8).toInt = (x.1 0 8).toInt + 1 ∧ (y3.1 0 8).toInt = (y2.1 0 8).toInt + 1 ∧ (y1.1 0 8).toInt + 1 ≤ (y2.1 0 8).toInt ∧ (y3.1 0 8).toInt + 1 ≤ (y5.1 0 8).toInt := by
      intro q
      obtain ⟨a1, a2, a3, a4⟩ := ok5 q
      have q3 := r5.2.2.2.1 q
      have q2 := hs3.2.2.2.2 q3
      obtain ⟨-, o1, o2, o3, o4⟩ := ok2 q2
      have q1 := r2.2.2.2.1 q2
      have t1 := hst1 q1
      have t3 := hst3 q3
      have u1 := (cr_ss hs1).2 q1 t1
      have u3 := (cr_ss hs3).2 q3 t3
      exact ⟨by rw [a1, hs3.1.1 20 (by decide), o1, hs1.1.1 20 (by decide)], by omega, by omega, vP_NK (NK_RP (RP_tr (RP_ss hs3) r5)) o4, a4, t1, t3, o2, a2⟩
    have l5x : y5.1 0 21 = x.1 0 21 := by rw [l5, hs3.1.1 21 (by decide), l2', hs1.1.1 21 (by decide)]
    have p99 : ∀ (z : gd) (f s0 : Int32), RP y5 z → z.1 0 21 = x.1 0 21 → cr x ≤ cr z + 3 * (k + 1) + 1 → (0 < (x.1 0 9).toInt → cr x ≤ cr z + 1) → ((z.1 0 9).toInt = 0 → z.1 0 20 = y5.1 0 20 ∧ cr y5 ≤ cr z ∧ ((s0 = 12 ∨ s0 = 13) ∨ (s0 = 14 ∧ vE z ((z.1 0 8).toInt - (y5.1 0 8).toInt).toNat ((z.1 0 8).toInt - (y5.1 0 8).toInt).toNat 17 f))) → (∀ tg, ∃ M, FX x z (pR (x.1 5) k tg) M ∧ ((z.1 0 9).toInt = 0 → VZ z l2 s0 r3 r6 f i tg M)) → MT G (D + 10) z_readR 99 [(0, vr 0), (1, vi (x.1 0 8)), (3, vi r3), (4, vi r6), (5, vi f)] [vi s0, vr 0] z (ri F) := by
      intro z f s0 rz lz cz bz okz hfz
      have rxz := RP_tr rx5 rz
      refine sg_readR_99 _ _ _ _ _ (sp_node _ _ _ _ _ (nodeV rxz n0 (by omega)) (fun w hw => ri_i (hF _ _ ?_ ⟨fun tg => ?_, fun q q10 q3 => ?_⟩)))
      · obtain ⟨hn, rw1, nk, cw, z0, z1, f8, f9, f20, f21⟩ := nodeR rxz n0 (by omega) hw
        refine ⟨rw1, by rw [f21, lz], by omega, fun q => by have := bz q; omega, z0, fun q => ?_⟩
        rw [f9] at q
        obtain ⟨o1, o2, o3⟩ := okz q
        obtain ⟨u1, u2, u3, u4, u5, u6, u7, u8, u9⟩ := ok5' (rz.2.2.2.1 q)
        obtain ⟨g1, g2, g3, g4, g5, -⟩ := nE_at hw
        have le := rz.2.2.1
        rw [f8]
        refine ⟨rxz.2.2.2.1 q, by rw [f20, o1, u1], by omega, by omega, ⟨⟨z0, z1⟩, by rw [g5]; exact PN_v pn, Or.inr (Or.inr ?_)⟩⟩
        rw [g1, g2, g3, g4]
        have v1 := vP_NK nk (vP_NK (NK_RP rz) u4)
        have v2 := vE_NK nk (vE_NK (NK_RP rz) u5)
        rcases o3 with o3 | ⟨o3, o4⟩
        · exact Or.inl ⟨o3, _, _, by omega, v1, v2⟩
        · exact Or.inr ⟨o3, _, _, _, by omega, v1, v2, vE_NK nk o4⟩
      · obtain ⟨hn, rw1, nk, cw, z0, z1, f8, f9, f20, f21⟩ := nodeR rxz n0 (by omega) hw
        obtain ⟨g1, g2, g3, g4, g5, -⟩ := nE_at hw
        have nf : NF z w := ⟨nk, hw.1.2.1 5 (by decide) (by decide), hw.1.2.1 7 (by decide) (by decide)⟩
        have w5 : w.1 5 = x.1 5 := nf.2.1.trans (rxz.1.2.1 5 (by decide) (by decide))
        obtain ⟨M, fz, vz⟩ := hfz tg
        refine ⟨M, FX_to fz (nE_nwo hw), fun q => ?_⟩
        rw [f9] at q
        refine ⟨⟨z0, z1⟩, i, by rw [g5, ei], Or.inr (Or.inr (Or.inr ?_))⟩
        rw [g1, g2, g3, g4, w5, hKi]
        rcases vz q with ⟨a1, n, N1, N2, a2, a3, a4⟩ | ⟨a1, a0, n, m, N1, N2, N3, a2, a3, a4, a5⟩
        · exact Or.inl ⟨a1, n, N1, N2, vQ_NF nf a2, vV_NF nf a3, a4⟩
        · exact Or.inr ⟨a1, a0, n, m, N1, N2, N3, vQ_NF nf a2, vV_NF nf a3, vV_NF nf a4, a5⟩
      · obtain ⟨hn, rw1, nk, cw, z0, z1, f8, f9, f20, f21⟩ := nodeR rxz n0 (by omega) hw
        obtain ⟨g1, -⟩ := nE_at hw
        rw [f9] at q
        obtain ⟨o1, o2, o3⟩ := okz q
        rw [g1] at q10
        exfalso
        rcases o3 with (o3 | o3) | ⟨o3, -⟩ <;> rw [o3] at q10 <;> exact absurd q10 (by decide)
    have p74 : ∀ (z : gd) (f : Int32), RP y5 z → z.1 0 21 = x.1 0 21 → cr x ≤ cr z + 3 * (k + 1) + 1 → (0 < (x.1 0 9).toInt → cr x ≤ cr z + 1) → ((z.1 0 9).toInt = 0 → z.1 0 20 = y5.1 0 20 ∧ cr y5 ≤ cr z ∧ ((l2 = 35 ∨ l2 = 10) ∨ vE z ((z.1 0 8).toInt - (y5.1 0 8).toInt).toNat ((z.1 0 8).toInt - (y5.1 0 8).toInt).toNat 17 f)) → (∀ tg, ∃ M, FX x z (pR (x.1 5) k tg) M ∧ ((z.1 0 9).toInt = 0 → (l2 = 35 → VZ z l2 12 r3 r6 f i tg M) ∧ (l2 = 10 → VZ z l2 13 r3 r6 f i tg M) ∧ (l2 = 16 → VZ z l2 14 r3 r6 f i tg M))) → MT G (D + 10) z_readR 74 [(0, vr 0), (1, vi (x.1 0 8)), (2, vi l2), (3, vi r3), (4, vi r6), (5, vi f)] [] z (ri F) := by
      intro z f rz lz cz bz okz hfz
      refine sg_readR_74 _ _ _ _ _ ⟨fun n1 => ⟨fun n2 => p99 z f 14 rz lz cz bz (fun q => ?_) (fun tg => ?_), fun n2 => p99 z f 13 rz lz cz bz (fun q => ?_) (fun tg => ?_)⟩, fun n1 => p99 z f 12 rz lz cz bz (fun q => ?_) (fun tg => ?_)⟩
      · obtain ⟨o1, o2, o3⟩ := okz q
        refine ⟨o1, o2, Or.inr ⟨rfl, ?_⟩⟩
        rcases o3 with (o3 | o3) | o3
        · exact absurd o3 n1
        · exact absurd o3 n2
        · exact o3
      · obtain ⟨M, a, b⟩ := hfz tg
        exact ⟨M, a, fun q => (b q).2.2 (hl2.elim (fun e => absurd e n1) (fun e => e.elim (fun e => absurd e n2) id))⟩
      · obtain ⟨o1, o2, o3⟩ := okz q
        exact ⟨o1, o2, Or.inl (Or.inr rfl)⟩
      · obtain ⟨M, a, b⟩ := hfz tg
        exact ⟨M, a, fun q => (b q).2.1 n2⟩
      · obtain ⟨o1, o2, o3⟩ := okz q
        exact ⟨o1, o2, Or.inl (Or.inl rfl)⟩
      · obtain ⟨M, a, b⟩ := hfz tg
        exact ⟨M, a, fun q => (b q).1 n1⟩
    have hK3 : x.1 5 i = 35 ∨ x.1 5 i = 10 ∨ x.1 5 i = 16 := by rw [hKi]; exact hl2
    refine ⟨fun n16 => p74 y5 (-1) (RP_rf rx5.2.1) l5x low5 badx5 (fun _ => ⟨rfl, by omega, Or.inl (hl2.elim Or.inl (fun q => q.elim Or.inr (fun q => absurd q n16)))⟩) (fun tg => ?_), fun e16 => ?_⟩
    · have hc := FX_seq (FX_pre (x := x) (pme tg)) (FX_seq (FX_step hy1) (FX_seq f2 (FX_seq (FX_pass hy3) (FX_seq (FX_X f5) (FX_tell (74, i, 0) rfl)))))
      refine ⟨_, FX_eq hc (fun i' hi' L => ?_), fun q => ?_⟩
      · have e : i' = i := Option.some.inj (hi'.symm.trans hx)
        subst e
        rw [pR_x hK3]
        simp only [if_neg (show ¬ x.1 5 i' = 16 by rw [hKi]; exact n16), Option.bind_some]
        cases ps1 i' with
        | none => rfl
        | some j => rfl
      · have q3 := r5.2.2.2.1 q
        have q2 := hs3.2.2.2.2 q3
        obtain ⟨⟨n, w6⟩, -⟩ := v5 q
        have w3 := vQ_NF (NF_RP (RP_tr (RP_ss hs3) r5)) (v2 q2)
        exact ⟨fun e => Or.inl ⟨Or.inl ⟨rfl, e⟩, n, M2, M5, w3, w6, rfl⟩, fun e => Or.inl ⟨Or.inr ⟨rfl, e⟩, n, M2, M5, w3, w6, rfl⟩, fun e => absurd e n16⟩
    refine sf_pass _ rx5.2.1 (fun y8 hs8 hst8 hy8 => ?_)
    rw [k5] at hy8
    have k8 : y8.1 5 = x.1 5 := (hs8.1.2.1 5 (by decide) (by decide)).trans k5
    have c8 := (cr_ss hs8).1
    have pk8 : PreK k (-900) y8 := PreK_rp hpre (RP_tr rx5 (RP_ss hs8)) (by omega) (fun q => by
      obtain ⟨u1, u2, u3, -⟩ := ok5' (hs8.2.2.2.2 q)
      exact ⟨by rw [hs8.1.1 20 (by decide), u1], by omega⟩)
    refine sf_E k _ _ (by omega) (by decide) pk8 (fun r10 y9 h9 hf9 => ?_)
    obtain ⟨r9, l9, cc9, bb9, rr9, ok9⟩ := h9
    obtain ⟨M9, f9, v9⟩ := FE_0 hf9
    rw [k8] at f9
    refine p74 y9 r10 (RP_tr (RP_ss hs8) r9) (by rw [l9, hs8.1.1 21 (by decide), l5x]) ?_ (fun q => ?_) (fun q => ?_) (fun tg => ?_)
    · by_cases q : 0 < (y8.1 0 9).toInt
      · rw [bb9 q]; omega
      · have q0 : (y8.1 0 9).toInt = 0 := by have := hs8.2.1.2.2.1; omega
        obtain ⟨u1, u2, u3, -⟩ := ok5' (hs8.2.2.2.2 q0)
        omega
    · have q5 : 0 < (y5.1 0 9).toInt := by
        have := rx5.2.2.2.1
        have := rx5.2.1.2.2.1
        omega
      have q8 : 0 < (y8.1 0 9).toInt := by
        have := hs8.2.2.2.2
        have := hs8.2.1.2.2.1
        omega
      rw [bb9 q8]
      have := badx5 q
      omega
    · obtain ⟨a1, a2, a3, a4⟩ := ok9 q
      have q8 := r9.2.2.2.1 q
      have le8 := hs8.2.2.1
      exact ⟨by rw [a1, hs8.1.1 20 (by decide)], by omega, Or.inr (vE_mono _ _ _ _ _ _ _ (by omega) (by omega) (Nat.le_refl _) a4)⟩
    · have hc := FX_seq (FX_pre (x := x) (pme tg)) (FX_seq (FX_step hy1) (FX_seq f2 (FX_seq (FX_pass hy3) (FX_seq (FX_X f5) (FX_seq (FX_pass hy8) (FX_seq (FX_X f9) (FX_tell (74, i, 0) rfl)))))))
      refine ⟨_, FX_eq hc (fun i' hi' L => ?_), fun q => ?_⟩
      · have e : i' = i := Option.some.inj (hi'.symm.trans hx)
        subst e
        rw [pR_x hK3]
        simp only [if_pos (show x.1 5 i' = 16 by rw [hKi]; exact e16), Option.bind_assoc, Option.bind_some]
        cases ps1 i' with
        | none => rfl
        | some j => rfl
      · have q8 := r9.2.2.2.1 q
        have q5 := hs8.2.2.2.2 q8
        have q3 := r5.2.2.2.1 q5
        have q2 := hs3.2.2.2.2 q3
        obtain ⟨⟨n, w6⟩, -⟩ := v5 q5
        obtain ⟨⟨m, w9⟩, -⟩ := v9 q
        have nf9 := NF_RP (RP_tr (RP_ss hs8) r9)
        have w3 := vQ_NF nf9 (vQ_NF (NF_RP (RP_tr (RP_ss hs3) r5)) (v2 q2))
        exact ⟨fun e => absurd (e16.symm.trans e) (by decide), fun e => absurd (e16.symm.trans e) (by decide), fun e => Or.inr ⟨rfl, e, n, m, M2, M5, M9, w3, vV_NF nf9 w6, w9, rfl⟩⟩
  have k7 : (700 : Int32).toInt = 700 := rfl
  have k1 : (1 : Int32).toInt = 1 := rfl
  have p1 := pn.1
  have b0 := pn.2.2.1
  refine sg_readR_0 (sp_here pn (fun r h0 h1 => ?_))
  have at0 : ¬ r = 0 → nwo x = some (x.1 0 8).toNatClampNeg ∧ x.1 5 (x.1 0 8).toNatClampNeg = r := fun q => by
    by_cases hb : (x.1 0 9).toInt = 0
    · exact ⟨nwo_o hb, (h1 hb).symm⟩
    · exact absurd (h0 (by omega)) q
  have is : ∀ i, nwo x = some i → x.1 5 i = r ∧ i = (x.1 0 8).toNatClampNeg := fun i hi => by
    obtain ⟨b9, b8⟩ := nwo_is hi
    exact ⟨by rw [← b8]; exact (h1 b9).symm, b8.symm⟩
  have go : ∀ l2 : Int32, (l2 = 35 ∨ l2 = 10 ∨ l2 = 16) → r = l2 → MT G (D + 10) z_readR 28 [(0, vr 0), (1, vi (x.1 0 8)), (2, vi r)] [] x (ri F) := fun l2 hl e => by
    have q := at0 (by rw [e]; rcases hl with h | h | h <;> rw [h] <;> decide)
    exact p28 r _ (by rw [e]; exact hl) q.1 q.2
  refine ⟨fun q => go 35 (Or.inl rfl) q, fun n1 => ⟨fun q => go 10 (Or.inr (Or.inl rfl)) q, fun n2 => ⟨fun n3 => ⟨fun n4 => p154 (fun i hi => ⟨fun z => ?_, fun z => n4 ((is i hi).1.symm.trans z.1)⟩), fun e4 => ⟨fun c7 => p154 (fun i hi => ⟨fun z => ?_, fun z => ?_⟩), fun c7 => ⟨?_, fun n65 => p154 (fun i hi => ⟨fun z => ?_, fun z => ?_⟩), fun e65 => ?_⟩⟩⟩, fun q => go 16 (Or.inr (Or.inr rfl)) q⟩⟩⟩
  · rw [(is i hi).1] at z; exact z.elim n1 (fun z => z.elim n2 n3)
  · rw [(is i hi).1] at z; exact z.elim n1 (fun z => z.elim n2 n3)
  · rw [t_le, k7] at c7
    have e := (is i hi).2
    have z2 := z.2.1
    rw [e, t_cl] at z2
    omega
  · rw [t_le, k7] at c7
    rw [vp_in_iff, t_add (by omega) (by omega), k1]; omega
  · rw [(is i hi).1] at z; exact z.elim n1 (fun z => z.elim n2 n3)
  · have e := (is i hi).2
    have e2 : (x.1 0 8 + 1).toNatClampNeg = i + 1 := by
      rw [t_le, k7] at c7
      rw [e, t_cl, t_cl, t_add (by omega) (by omega), k1]; omega
    rw [e2] at n65
    exact n65 z.2.2
  · have qa := at0 (by rw [e4]; decide)
    obtain ⟨i, ei⟩ : ∃ i, i = (x.1 0 8).toNatClampNeg := ⟨_, rfl⟩
    rw [← ei] at qa
    rw [t_le, k7] at c7
    have e2 : (x.1 0 8 + 1).toNatClampNeg = i + 1 := by
      rw [ei, t_cl, t_cl, t_add (by omega) (by omega), k1]; omega
    rw [e2] at e65
    have i7 : i < 700 := by rw [ei, t_cl]; omega
    refine sf_readPlace k (by omega) (PreK_w hpre (by decide)) (fun r11 y h hf => ?_)
    obtain ⟨ry, ly, cy, by0, rr, oky⟩ := h
    obtain ⟨M1, f1, v1⟩ := hf
    refine sp_node _ _ _ _ _ (nodeV ry n0 (by omega)) (fun w hw => ri_i (hF _ _ ?_ ⟨fun tg => ?_, fun q q10 q3 => ?_⟩))
    · obtain ⟨hn, rw1, nk, cw, z0, z1, f8, f9, f20, f21⟩ := nodeR ry n0 (by omega) hw
      refine ⟨rw1, by rw [f21, ly], by omega, fun q => by have := by0 q; omega, z0, fun q => ?_⟩
      rw [f9] at q
      obtain ⟨o0, o1, o2, o3, o4⟩ := oky q
      obtain ⟨g1, g2, g3, g4, g5, -⟩ := nE_at hw
      rw [f8]
      refine ⟨o0, by rw [f20, o1], o2, by omega, ⟨⟨z0, z1⟩, by rw [g5]; exact PN_v pn, Or.inr (Or.inl ⟨g1, ?_⟩)⟩⟩
      rw [g2]
      exact vP_NK nk o4
    · obtain ⟨hn, rw1, nk, cw, z0, z1, f8, f9, f20, f21⟩ := nodeR ry n0 (by omega) hw
      obtain ⟨g1, g2, g3, g4, g5, -⟩ := nE_at hw
      have nf : NF y w := ⟨nk, hw.1.2.1 5 (by decide) (by decide), hw.1.2.1 7 (by decide) (by decide)⟩
      refine ⟨pme tg ++ (M1 ++ [(75, i, 0)]), FX_eq (FX_to (FX_seq (FX_pre (pme tg)) (FX_seq f1 (FX_tell (75, i, 0) rfl))) (nE_nwo hw)) (fun i' hi' L => ?_), fun q => ?_⟩
      · have e : i' = i := Option.some.inj (hi'.symm.trans qa.1)
        subst e
        rw [pR_row (by rw [qa.2]; exact e4) i7 e65]
        rfl
      · rw [f9] at q
        refine ⟨⟨z0, z1⟩, i, by rw [g5, ei], Or.inr (Or.inr (Or.inl ⟨g1, M1, ?_, rfl⟩))⟩
        rw [g2]; exact vQ_NF nf (v1 q)
    · obtain ⟨g1, -⟩ := nE_at hw
      rw [g1] at q10
      exact absurd q10 (by decide)
