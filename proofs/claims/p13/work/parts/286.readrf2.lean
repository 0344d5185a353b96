section
/-- what swap, add, cas tell, before their node -/
def VZ (z : gd) (l2 s0 r3 r6 f : Int32) (i : Nat) (tg : Option Nat) (M : gU) : Prop := (((s0 = 12 ∧ l2 = 35) ∨ (s0 = 13 ∧ l2 = 10)) ∧ ∃ n M1 M2, vQ z r3 M1 ∧ vV z false n r6 M2 ∧ M = pme tg ++ (M1 ++ ((M2 ++ [(54, 0, 0)]) ++ [(74, i, 0)]))) ∨ (s0 = 14 ∧ l2 = 16 ∧ ∃ n m M1 M2 M3, vQ z r3 M1 ∧ vV z false n r6 M2 ∧ vV z false m f M3 ∧ M = pme tg ++ (M1 ++ ((M2 ++ [(54, 0, 0)]) ++ ((M3 ++ [(54, 0, 0)]) ++ [(74, i, 0)]))))
theorem sf_readR (k : Nat) {G : mG} {D : Nat} {x : gd} {F : Int32 → gd → Prop} (hD : 2 * k + 10 ≤ D) (hpre : PreK k (-800) x) (hF : ∀ r x', QR k x r x' → FRr k x r x' → F r x') : MT G D z_readR 0 [(0, vr 0)] [] x (ri F) := by
  obtain ⟨D, rfl⟩ : ∃ m, D = m + 10 := ⟨D - 10, by omega⟩
  obtain ⟨pn, n0, c0, k16, nst⟩ := id hpre
  have p2 := pn.2.1
  have p154 : (∀ i, nwo x = some i → ¬ (x.1 5 i = 35 ∨ x.1 5 i = 10 ∨ x.1 5 i = 16) ∧ ¬ (x.1 5 i = 1 ∧ i < 700 ∧ x.1 5 (i + 1) = 65)) → MT G (D + 10) z_readR 154 [(0, vr 0), (1, vi (x.1 0 8))] [] x (ri F) := by
    intro hc
    refine sg_readR_154 _ (sf_E k 0 0 (by omega) (by decide) hpre (fun r y h hf => ?_))
    obtain ⟨ry, ly, cy, by0, rr, oky⟩ := h
    obtain ⟨M1, f1, v1⟩ := FE_0 hf
    refine sp_node _ _ _ _ _ (nodeV ry n0 (by omega)) (fun w hw => ri_i (hF _ _ ?_ ⟨fun tg => ?_, fun q q10 q3 => ?_⟩))
    · obtain ⟨hn, rw1, nk, cw, z0, z1, f8, f9, f20, f21⟩ := nodeR ry n0 (by omega) hw
      refine ⟨rw1, by rw [f21, ly], by omega, fun q => by rw [cw, by0 q]; omega, z0, fun q => ?_⟩
      rw [f9] at q
      obtain ⟨o1, o2, o3, o4⟩ := oky q
      obtain ⟨g1, g2, g3, g4, g5, -⟩ := nE_at hw
      rw [f8]
      refine ⟨ry.2.2.2.1 q, by rw [f20, o1], o2, by omega, ⟨⟨z0, z1⟩, by rw [g5]; exact PN_v pn, Or.inl ⟨g1, ?_⟩⟩⟩
      rw [g2]
      exact vE_NK nk o4
    · obtain ⟨hn, rw1, nk, cw, z0, z1, f8, f9, f20, f21⟩ := nodeR ry n0 (by omega) hw
      obtain ⟨g1, g2, g3, g4, g5, -⟩ := nE_at hw
      have nf : NF y w := ⟨nk, hw.1.2.1 5 (by decide) (by decide), hw.1.2.1 7 (by decide) (by decide)⟩
      have w5 : w.1 5 = x.1 5 := nf.2.1.trans (ry.1.2.1 5 (by decide) (by decide))
      cases hx : nwo x with
      | none =>
        have hy := FX_none f1 hx
        refine ⟨[], FX_0 (by rw [nE_nwo hw]; exact hy) (fun i hi => absurd (hx.symm.trans hi) (by simp)), fun q => ?_⟩
        have e := nwo_o q
        rw [nE_nwo hw, hy] at e
        exact absurd e (by simp)
      | some i =>
        have ei : (x.1 0 8).toNatClampNeg = i := (nwo_is hx).2
        obtain ⟨hc1, hc2⟩ := hc i hx
        by_cases ha : x.1 5 i = 1 ∧ x.1 5 (i + 1) = 67
        · have p0 : pst (x.1 5 (i + 1)) = 0 := by rw [ha.2]; decide
          refine ⟨[pal tg i], FX_at hx (fun L => ?_), fun q => ?_⟩
          · have e := f1 L
            rw [hx] at e
            have e : pE (x.1 5) false k 0 i L = (nwo y).map (fun j => (j, L ++ M1)) := e
            rw [pE_name ha.1 p0] at e
            rw [pR_al ha.1 ha.2, nE_nwo hw]
            by_cases c : i < 700 ∧ 1 ≤ k
            · rw [if_pos c] at e ⊢
              cases hy : nwo y with
              | none => rw [hy] at e; exact absurd e (by simp)
              | some j =>
                rw [hy] at e
                have e : (i + 1, L ++ [(3, i, 0)]) = (j, L ++ M1) := Option.some.inj e
                have e1 : i + 1 = j := congrArg Prod.fst e
                rw [← e1]
                rfl
            · rw [if_neg c] at e ⊢
              cases hy : nwo y with
              | none => rfl
              | some j => rw [hy] at e; exact absurd e (by simp)
          · rw [f9] at q
            obtain ⟨⟨n, v⟩, t1, t2⟩ := v1 q
            rw [ei] at t2
            have t3 := (t2 ha.1 rfl).resolve_right (by omega)
            obtain ⟨d1, d2, d3, d4, d5, d6⟩ := NK_at nk (vV_at v)
            refine ⟨⟨z0, z1⟩, i, by rw [g5, ei], Or.inl ⟨g1, by rw [w5]; exact ha, rfl, ?_, ?_, ?_⟩⟩
            · rw [g2]; exact ⟨n, M1, vV_NF nf v⟩
            · rw [g2, d2]; exact t3.1
            · rw [g2, d6]; exact t3.2.1
        · refine ⟨pma tg ++ ((M1 ++ [(54, 0, 0)]) ++ [(76, i, 0)]), FX_eq (FX_to (FX_seq (FX_pre (pma tg)) (FX_seq (FX_X f1) (FX_tell (76, i, 0) rfl))) (nE_nwo hw)) (fun i' hi' L => ?_), fun q => ?_⟩
          · have e : i' = i := Option.some.inj (hi'.symm.trans hx)
            subst e
            rw [pR_e hc1 hc2 ha]
            rfl
          · rw [f9] at q
            obtain ⟨⟨n, v⟩, -⟩ := v1 q
            refine ⟨⟨z0, z1⟩, i, by rw [g5, ei], Or.inr (Or.inl ⟨g1, by rw [w5]; exact ha, n, M1, ?_, rfl⟩)⟩
            rw [g2]; exact vV_NF nf v
    · obtain ⟨hn, rw1, nk, cw, z0, z1, f8, f9, f20, f21⟩ := nodeR ry n0 (by omega) hw
      obtain ⟨g1, g2, g3, g4, g5, -⟩ := nE_at hw
      rw [f9] at q
      obtain ⟨⟨n, v⟩, t1, t2⟩ := v1 q
      obtain ⟨d1, d2, d3, d4, d5, d6⟩ := NK_at nk (vV_at v)
      rw [g2, d2] at q3
      obtain ⟨u1, u2, u3⟩ := t1 q3
      exact ⟨u1, by rw [f8]; exact u3, by rw [g5]⟩
  have p28 : ∀ (l2 : Int32) (i : Nat), (l2 = 35 ∨ l2 = 10 ∨ l2 = 16) → nwo x = some i → x.1 5 i = l2 → MT G (D + 10) z_readR 28 [(0, vr 0), (1, vi (x.1 0 8)), (2, vi l2)] [] x (ri F) := by
    intro l2 i hl2 hx hKi
    have ei : (x.1 0 8).toNatClampNeg = i := (nwo_is hx).2
    refine sg_readR_28 _ _ (sf_step pn (fun y1 hs1 hst1 hy1 => ?_))
    have c1 := (cr_ss hs1).1
    have pk1 := PreK_ss hpre hs1
    have k1 : y1.1 5 = x.1 5 := hs1.1.2.1 5 (by decide) (by decide)
    refine sf_readPlace k (by omega) (PreK_w pk1 (by decide)) (fun r3 y2 h2 hf2 => ?_)
    obtain ⟨r2, l2', cc2, bb2, rr2, ok2⟩ := h2
    obtain ⟨M2, f2, v2⟩ := hf2
    rw [k1] at f2
    have k2 : y2.1 5 = x.1 5 := (r2.1.2.1 5 (by decide) (by decide)).trans k1
    refine sf_pass _ r2.2.1 (fun y3 hs3 hst3 hy3 => ?_)
    rw [k2] at hy3
    have k3 : y3.1 5 = x.1 5 := (hs3.1.2.1 5 (by decide) (by decide)).trans k2
    have c3 := (cr_ss hs3).1
    have r13 : RP y1 y3 := RP_tr r2 (RP_ss hs3)
    have pk3 : PreK k (-900) y3 := PreK_rp pk1 r13 (by omega) (fun q => by
      obtain ⟨-, o1, o2, o3, -⟩ := ok2 (hs3.2.2.2.2 q)
      exact ⟨by rw [hs3.1.1 20 (by decide), o1], by omega⟩)
    refine sf_E k _ _ (by omega) (by decide) pk3 (fun r6 y5 h5 hf5 => ?_)
    obtain ⟨r5, l5, cc5, bb5, rr5, ok5⟩ := h5
    obtain ⟨M5, f5, v5⟩ := FE_0 hf5
    rw [k3] at f5
    have k5 : y5.1 5 = x.1 5 := (r5.1.2.1 5 (by decide) (by decide)).trans k3
    have rx5 : RP x y5 := RP_tr (RP_tr (RP_ss hs1) r13) r5
    have bad3 : 0 < (y3.1 0 9).toInt → y5 = y3 := bb5
    have low5 : cr x ≤ cr y5 + 3 * (k + 1) + 1 := by
      by_cases q : 0 < (y3.1 0 9).toInt
      · rw [bad3 q]; omega
      · have q0 : (y3.1 0 9).toInt = 0 := by have := r13.2.1.2.2.1; omega
        obtain ⟨-, o1, o2, o3, -⟩ := ok2 (hs3.2.2.2.2 q0)
        omega
    have badx5 : 0 < (x.1 0 9).toInt → cr x ≤ cr y5 + 1 := by
      intro q
      have e1 := hs1.2.2.2.1 q
      have q1 : 0 < (y1.1 0 9).toInt := by rw [e1]; exact q
      have t2 := bb2 q1
      have q3 : 0 < (y3.1 0 9).toInt := by
        have := r13.2.2.2.1
        have := r13.2.1.2.2.1
        omega
      rw [bad3 q3]; omega
    have ok5' : (y5.1 0 9).toInt = 0 → y5.1 0 20 = x.1 0 20 ∧ (x.1 0 8).toInt + 3 ≤ (y5.1 0 8).toInt ∧ cr x + 6 ≤ cr y5 ∧ vP y5 ((y2.1 0 8).toInt - (y1.1 0 8).toInt).toNat r3 ∧ vE y5 ((y5.1 0 8).toInt - (y3.1 0 8).toInt).toNat ((y5.1 0 8).toInt - (y3.1 0 8).toInt).toNat 17 r6 ∧ (y1.1 0 8).toInt = (x.1 0 8).toInt + 1 ∧ (y3.1 0 8).toInt = (y2.1 0 8).toInt + 1 ∧ (y1.1 0 8).toInt + 1 ≤ (y2.1 0 8).toInt ∧ (y3.1 0 8).toInt + 1 ≤ (y5.1 0 8).toInt := by
      intro q
      obtain ⟨a1, a2, a3, a4⟩ := ok5 q
      have q3 := r5.2.2.2.1 q
      have q2 := hs3.2.2.2.2 q3
      obtain ⟨-, o1, o2, o3, o4⟩ := ok2 q2
      have q1 := r2.2.2.2.1 q2
      have t1 := hst1 q1
      have t3 := hst3 q3
      have u1 := (cr_ss hs1).2 q1 t1
      have u3 := (cr_ss hs3).2 q3 t3
      exact ⟨by rw [a1, hs3.1.1 20 (by decide), o1, hs1.1.1 20 (by decide)], by omega, by omega, vP_NK (NK_RP (RP_tr (RP_ss hs3) r5)) o4, a4, t1, t3, o2, a2⟩
    have l5x : y5.1 0 21 = x.1 0 21 := by rw [l5, hs3.1.1 21 (by decide), l2', hs1.1.1 21 (by decide)]
    have p99 : ∀ (z : gd) (f s0 : Int32), RP y5 z → z.1 0 21 = x.1 0 21 → cr x ≤ cr z + 3 * (k + 1) + 1 → (0 < (x.1 0 9).toInt → cr x ≤ cr z + 1) → ((z.1 0 9).toInt = 0 → z.1 0 20 = y5.1 0 20 ∧ cr y5 ≤ cr z ∧ ((s0 = 12 ∨ s0 = 13) ∨ (s0 = 14 ∧ vE z ((z.1 0 8).toInt - (y5.1 0 8).toInt).toNat ((z.1 0 8).toInt - (y5.1 0 8).toInt).toNat 17 f))) → (∀ tg, ∃ M, FX x z (pR (x.1 5) k tg) M ∧ ((z.1 0 9).toInt = 0 → VZ z l2 s0 r3 r6 f i tg M)) → MT G (D + 10) z_readR 99 [(0, vr 0), (1, vi (x.1 0 8)), (3, vi r3), (4, vi r6), (5, vi f)] [vi s0, vr 0] z (ri F) := by
      intro z f s0 rz lz cz bz okz hfz
      have rxz := RP_tr rx5 rz
      refine sg_readR_99 _ _ _ _ _ (sp_node _ _ _ _ _ (nodeV rxz n0 (by omega)) (fun w hw => ri_i (hF _ _ ?_ ⟨fun tg => ?_, fun q q10 q3 => ?_⟩)))
      · obtain ⟨hn, rw1, nk, cw, z0, z1, f8, f9, f20, f21⟩ := nodeR rxz n0 (by omega) hw
        refine ⟨rw1, by rw [f21, lz], by omega, fun q => by have := bz q; omega, z0, fun q => ?_⟩
        rw [f9] at q
        obtain ⟨o1, o2, o3⟩ := okz q
        obtain ⟨u1, u2, u3, u4, u5, u6, u7, u8, u9⟩ := ok5' (rz.2.2.2.1 q)
        obtain ⟨g1, g2, g3, g4, g5, -⟩ := nE_at hw
        have le := rz.2.2.1
        rw [f8]
        refine ⟨rxz.2.2.2.1 q, by rw [f20, o1, u1], by omega, by omega, ⟨⟨z0, z1⟩, by rw [g5]; exact PN_v pn, Or.inr (Or.inr ?_)⟩⟩
        rw [g1, g2, g3, g4]
        have v1 := vP_NK nk (vP_NK (NK_RP rz) u4)
        have v2 := vE_NK nk (vE_NK (NK_RP rz) u5)
        rcases o3 with o3 | ⟨o3, o4⟩
        · exact Or.inl ⟨o3, _, _, by omega, v1, v2⟩
        · exact Or.inr ⟨o3, _, _, _, by omega, v1, v2, vE_NK nk o4⟩
      · obtain ⟨hn, rw1, nk, cw, z0, z1, f8, f9, f20, f21⟩ := nodeR rxz n0 (by omega) hw
        obtain ⟨g1, g2, g3, g4, g5, -⟩ := nE_at hw
        have nf : NF z w := ⟨nk, hw.1.2.1 5 (by decide) (by decide), hw.1.2.1 7 (by decide) (by decide)⟩
        have w5 : w.1 5 = x.1 5 := nf.2.1.trans (rxz.1.2.1 5 (by decide) (by decide))
        obtain ⟨M, fz, vz⟩ := hfz tg
        refine ⟨M, FX_to fz (nE_nwo hw), fun q => ?_⟩
        rw [f9] at q
        refine ⟨⟨z0, z1⟩, i, by rw [g5, ei], Or.inr (Or.inr (Or.inr ?_))⟩
        rw [g1, g2, g3, g4, w5, hKi]
        rcases vz q with ⟨a1, n, N1, N2, a2, a3, a4⟩ | ⟨a1, a0, n, m, N1, N2, N3, a2, a3, a4, a5⟩
        · exact Or.inl ⟨a1, n, N1, N2, vQ_NF nf a2, vV_NF nf a3, a4⟩
        · exact Or.inr ⟨a1, a0, n, m, N1, N2, N3, vQ_NF nf a2, vV_NF nf a3, vV_NF nf a4, a5⟩
      · obtain ⟨hn, rw1, nk, cw, z0, z1, f8, f9, f20, f21⟩ := nodeR rxz n0 (by omega) hw
        obtain ⟨g1, -⟩ := nE_at hw
        rw [f9] at q
        obtain ⟨o1, o2, o3⟩ := okz q
        rw [g1] at q10
        exfalso
        rcases o3 with (o3 | o3) | ⟨o3, -⟩ <;> rw [o3] at q10 <;> exact absurd q10 (by decide)
    have p74 : ∀ (z : gd) (f : Int32), RP y5 z → z.1 0 21 = x.1 0 21 → cr x ≤ cr z + 3 * (k + 1) + 1 → (0 < (x.1 0 9).toInt → cr x ≤ cr z + 1) → ((z.1 0 9).toInt = 0 → z.1 0 20 = y5.1 0 20 ∧ cr y5 ≤ cr z ∧ ((l2 = 35 ∨ l2 = 10) ∨ vE z ((z.1 0 8).toInt - (y5.1 0 8).toInt).toNat ((z.1 0 8).toInt - (y5.1 0 8).toInt).toNat 17 f)) → (∀ tg, ∃ M, FX x z (pR (x.1 5) k tg) M ∧ ((z.1 0 9).toInt = 0 → (l2 = 35 → VZ z l2 12 r3 r6 f i tg M) ∧ (l2 = 10 → VZ z l2 13 r3 r6 f i tg M) ∧ (l2 = 16 → VZ z l2 14 r3 r6 f i tg M))) → MT G (D + 10) z_readR 74 [(0, vr 0), (1, vi (x.1 0 8)), (2, vi l2), (3, vi r3), (4, vi r6), (5, vi f)] [] z (ri F) := by
      intro z f rz lz cz bz okz hfz
      refine sg_readR_74 _ _ _ _ _ ⟨fun n1 => ⟨fun n2 => p99 z f 14 rz lz cz bz (fun q => ?_) (fun tg => ?_), fun n2 => p99 z f 13 rz lz cz bz (fun q => ?_) (fun tg => ?_)⟩, fun n1 => p99 z f 12 rz lz cz bz (fun q => ?_) (fun tg => ?_)⟩
      · obtain ⟨o1, o2, o3⟩ := okz q
        refine ⟨o1, o2, Or.inr ⟨rfl, ?_⟩⟩
        rcases o3 with (o3 | o3) | o3
        · exact absurd o3 n1
        · exact absurd o3 n2
        · exact o3
      · obtain ⟨M, a, b⟩ := hfz tg
        exact ⟨M, a, fun q => (b q).2.2 (hl2.elim (fun e => absurd e n1) (fun e => e.elim (fun e => absurd e n2) id))⟩
      · obtain ⟨o1, o2, o3⟩ := okz q
        exact ⟨o1, o2, Or.inl (Or.inr rfl)⟩
      · obtain ⟨M, a, b⟩ := hfz tg
        exact ⟨M, a, fun q => (b q).2.1 n2⟩
      · obtain ⟨o1, o2, o3⟩ := okz q
        exact ⟨o1, o2, Or.inl (Or.inl rfl)⟩
      · obtain ⟨M, a, b⟩ := hfz tg
        exact ⟨M, a, fun q => (b q).1 n1⟩
    have hK3 : x.1 5 i = 35 ∨ x.1 5 i = 10 ∨ x.1 5 i = 16 := by rw [hKi]; exact hl2
    refine ⟨fun n16 => p74 y5 (-1) (RP_rf rx5.2.1) l5x low5 badx5 (fun _ => ⟨rfl, by omega, Or.inl (hl2.elim Or.inl (fun q => q.elim Or.inr (fun q => absurd q n16)))⟩) (fun tg => ?_), fun e16 => ?_⟩
    · have hc := FX_seq (FX_pre (x := x) (pme tg)) (FX_seq (FX_step hy1) (FX_seq f2 (FX_seq (FX_pass hy3) (FX_seq (FX_X f5) (FX_tell (74, i, 0) rfl)))))
      refine ⟨_, FX_eq hc (fun i' hi' L => ?_), fun q => ?_⟩
      · have e : i' = i := Option.some.inj (hi'.symm.trans hx)
        subst e
        rw [pR_x hK3]
        simp only [if_neg (show ¬ x.1 5 i' = 16 by rw [hKi]; exact n16), Option.bind_some]
        cases ps1 i' with
        | none => rfl
        | some j => rfl
      · have q3 := r5.2.2.2.1 q
        have q2 := hs3.2.2.2.2 q3
        obtain ⟨⟨n, w6⟩, -⟩ := v5 q
        have w3 := vQ_NF (NF_RP (RP_tr (RP_ss hs3) r5)) (v2 q2)
        exact ⟨fun e => Or.inl ⟨Or.inl ⟨rfl, e⟩, n, M2, M5, w3, w6, rfl⟩, fun e => Or.inl ⟨Or.inr ⟨rfl, e⟩, n, M2, M5, w3, w6, rfl⟩, fun e => absurd e n16⟩
    refine sf_pass _ rx5.2.1 (fun y8 hs8 hst8 hy8 => ?_)
    rw [k5] at hy8
    have k8 : y8.1 5 = x.1 5 := (hs8.1.2.1 5 (by decide) (by decide)).trans k5
    have c8 := (cr_ss hs8).1
    have pk8 : PreK k (-900) y8 := PreK_rp hpre (RP_tr rx5 (RP_ss hs8)) (by omega) (fun q => by
      obtain ⟨u1, u2, u3, -⟩ := ok5' (hs8.2.2.2.2 q)
      exact ⟨by rw [hs8.1.1 20 (by decide), u1], by omega⟩)
    refine sf_E k _ _ (by omega) (by decide) pk8 (fun r10 y9 h9 hf9 => ?_)
    obtain ⟨r9, l9, cc9, bb9, rr9, ok9⟩ := h9
    obtain ⟨M9, f9, v9⟩ := FE_0 hf9
    rw [k8] at f9
    refine p74 y9 r10 (RP_tr (RP_ss hs8) r9) (by rw [l9, hs8.1.1 21 (by decide), l5x]) ?_ (fun q => ?_) (fun q => ?_) (fun tg => ?_)
    · by_cases q : 0 < (y8.1 0 9).toInt
      · rw [bb9 q]; omega
      · have q0 : (y8.1 0 9).toInt = 0 := by have := hs8.2.1.2.2.1; omega
        obtain ⟨u1, u2, u3, -⟩ := ok5' (hs8.2.2.2.2 q0)
        omega
    · have q5 : 0 < (y5.1 0 9).toInt := by
        have := rx5.2.2.2.1
        have := rx5.2.1.2.2.1
        omega
      have q8 : 0 < (y8.1 0 9).toInt := by
        have := hs8.2.2.2.2
        have := hs8.2.1.2.2.1
        omega
      rw [bb9 q8]
      have := badx5 q
      omega
    · obtain ⟨a1, a2, a3, a4⟩ := ok9 q
      have q8 := r9.2.2.2.1 q
      have le8 := hs8.2.2.1
      exact ⟨by rw [a1, hs8.1.1 20 (by decide)], by omega, Or.inr (vE_mono _ _ _ _ _ _ _ (by omega) (by omega) (Nat.le_refl _) a4)⟩
    · have hc := FX_seq (FX_pre (x := x) (pme tg)) (FX_seq (FX_step hy1) (FX_seq f2 (FX_seq (FX_pass hy3) (FX_seq (FX_X f5) (FX_seq (FX_pass hy8) (FX_seq (FX_X f9) (FX_tell (74, i, 0) rfl)))))))
      refine ⟨_, FX_eq hc (fun i' hi' L => ?_), fun q => ?_⟩
      · have e : i' = i := Option.some.inj (hi'.symm.trans hx)
        subst e
        rw [pR_x hK3]
        simp only [if_pos (show x.1 5 i' = 16 by rw [hKi]; exact e16), Option.bind_assoc, Option.bind_some]
        cases ps1 i' with
        | none => rfl
        | some j => rfl
      · have q8 := r9.2.2.2.1 q
        have q5 := hs8.2.2.2.2 q8
        have q3 := r5.2.2.2.1 q5
        have q2 := hs3.2.2.2.2 q3
        obtain ⟨⟨n, w6⟩, -⟩ := v5 q5
        obtain ⟨⟨m, w9⟩, -⟩ := v9 q
        have nf9 := NF_RP (RP_tr (RP_ss hs8) r9)
        have w3 := vQ_NF nf9 (vQ_NF (NF_RP (RP_tr (RP_ss hs3) r5)) (v2 q2))
        exact ⟨fun e => absurd (e16.symm.trans e) (by decide), fun e => absurd (e16.symm.trans e) (by decide), fun e => Or.inr ⟨rfl, e, n, m, M2, M5, M9, w3, vV_NF nf9 w6, w9, rfl⟩⟩
  have k7 : (700 : Int32).toInt = 700 := rfl
  have k1 : (1 : Int32).toInt = 1 := rfl
  have p1 := pn.1
  have b0 := pn.2.2.1
  refine sg_readR_0 (sp_here pn (fun r h0 h1 => ?_))
  have at0 : ¬ r = 0 → nwo x = some (x.1 0 8).toNatClampNeg ∧ x.1 5 (x.1 0 8).toNatClampNeg = r := fun q => by
    by_cases hb : (x.1 0 9).toInt = 0
    · exact ⟨nwo_o hb, (h1 hb).symm⟩
    · exact absurd (h0 (by omega)) q
  have is : ∀ i, nwo x = some i → x.1 5 i = r ∧ i = (x.1 0 8).toNatClampNeg := fun i hi => by
    obtain ⟨b9, b8⟩ := nwo_is hi
    exact ⟨by rw [← b8]; exact (h1 b9).symm, b8.symm⟩
  have go : ∀ l2 : Int32, (l2 = 35 ∨ l2 = 10 ∨ l2 = 16) → r = l2 → MT G (D + 10) z_readR 28 [(0, vr 0), (1, vi (x.1 0 8)), (2, vi r)] [] x (ri F) := fun l2 hl e => by
    have q := at0 (by rw [e]; rcases hl with h | h | h <;> rw [h] <;> decide)
    exact p28 r _ (by rw [e]; exact hl) q.1 q.2
  refine ⟨fun q => go 35 (Or.inl rfl) q, fun n1 => ⟨fun q => go 10 (Or.inr (Or.inl rfl)) q, fun n2 => ⟨fun n3 => ⟨fun n4 => p154 (fun i hi => ⟨fun z => ?_, fun z => n4 ((is i hi).1.symm.trans z.1)⟩), fun e4 => ⟨fun c7 => p154 (fun i hi => ⟨fun z => ?_, fun z => ?_⟩), fun c7 => ⟨?_, fun n65 => p154 (fun i hi => ⟨fun z => ?_, fun z => ?_⟩), fun e65 => ?_⟩⟩⟩, fun q => go 16 (Or.inr (Or.inr rfl)) q⟩⟩⟩
  · rw [(is i hi).1] at z; exact z.elim n1 (fun z => z.elim n2 n3)
  · rw [(is i hi).1] at z; exact z.elim n1 (fun z => z.elim n2 n3)
  · rw [t_le, k7] at c7
    have e := (is i hi).2
    have z2 := z.2.1
    rw [e, t_cl] at z2
    omega
  · rw [t_le, k7] at c7
    rw [vp_in_iff, t_add (by omega) (by omega), k1]; omega
  · rw [(is i hi).1] at z; exact z.elim n1 (fun z => z.elim n2 n3)
  · have e := (is i hi).2
    have e2 : (x.1 0 8 + 1).toNatClampNeg = i + 1 := by
      rw [t_le, k7] at c7
      rw [e, t_cl, t_cl, t_add (by omega) (by omega), k1]; omega
    rw [e2] at n65
    exact n65 z.2.2
  · have qa := at0 (by rw [e4]; decide)
    obtain ⟨i, ei⟩ : ∃ i, i = (x.1 0 8).toNatClampNeg := ⟨_, rfl⟩
    rw [← ei] at qa
    rw [t_le, k7] at c7
    have e2 : (x.1 0 8 + 1).toNatClampNeg = i + 1 := by
      rw [ei, t_cl, t_cl, t_add (by omega) (by omega), k1]; omega
    rw [e2] at e65
    have i7 : i < 700 := by rw [ei, t_cl]; omega
    refine sf_readPlace k (by omega) (PreK_w hpre (by decide)) (fun r11 y h hf => ?_)
    obtain ⟨ry, ly, cy, by0, rr, oky⟩ := h
    obtain ⟨M1, f1, v1⟩ := hf
    refine sp_node _ _ _ _ _ (nodeV ry n0 (by omega)) (fun w hw => ri_i (hF _ _ ?_ ⟨fun tg => ?_, fun q q10 q3 => ?_⟩))
    · obtain ⟨hn, rw1, nk, cw, z0, z1, f8, f9, f20, f21⟩ := nodeR ry n0 (by omega) hw
      refine ⟨rw1, by rw [f21, ly], by omega, fun q => by have := by0 q; omega, z0, fun q => ?_⟩
      rw [f9] at q
      obtain ⟨o0, o1, o2, o3, o4⟩ := oky q
      obtain ⟨g1, g2, g3, g4, g5, -⟩ := nE_at hw
      rw [f8]
      refine ⟨o0, by rw [f20, o1], o2, by omega, ⟨⟨z0, z1⟩, by rw [g5]; exact PN_v pn, Or.inr (Or.inl ⟨g1, ?_⟩)⟩⟩
      rw [g2]
      exact vP_NK nk o4
    · obtain ⟨hn, rw1, nk, cw, z0, z1, f8, f9, f20, f21⟩ := nodeR ry n0 (by omega) hw
      obtain ⟨g1, g2, g3, g4, g5, -⟩ := nE_at hw
      have nf : NF y w := ⟨nk, hw.1.2.1 5 (by decide) (by decide), hw.1.2.1 7 (by decide) (by decide)⟩
      refine ⟨pme tg ++ (M1 ++ [(75, i, 0)]), FX_eq (FX_to (FX_seq (FX_pre (pme tg)) (FX_seq f1 (FX_tell (75, i, 0) rfl))) (nE_nwo hw)) (fun i' hi' L => ?_), fun q => ?_⟩
      · have e : i' = i := Option.some.inj (hi'.symm.trans qa.1)
        subst e
        rw [pR_row (by rw [qa.2]; exact e4) i7 e65]
        rfl
      · rw [f9] at q
        refine ⟨⟨z0, z1⟩, i, by rw [g5, ei], Or.inr (Or.inr (Or.inl ⟨g1, M1, ?_, rfl⟩))⟩
        rw [g2]; exact vQ_NF nf (v1 q)
    · obtain ⟨g1, -⟩ := nE_at hw
      rw [g1] at q10
      exact absurd q10 (by decide)
end
section
/-! statements: vS x k s c e: the statement e, nested at most k deep, of s tokens and c lets; vB: a block; ln: a row of statements by their links -/
def ln (x : gd) : Int32 → List (Int32 × Nat × Nat) → Prop
  | e, [] => e = -1
  | e, q :: r => e = q.1 ∧ (0 ≤ e.toInt ∧ e.toInt < (x.1 0 13).toInt) ∧ ln x (x.1 20 e.toNatClampNeg) r
def sm (f : Int32 × Nat × Nat → Nat) : List (Int32 × Nat × Nat) → Nat
  | [] => 0
  | q :: r => f q + sm f r
def vB (x : gd) (m : Int) (V : Nat → Nat → Int32 → Prop) (s c : Nat) (e : Int32) : Prop := (0 ≤ e.toInt ∧ e.toInt < (x.1 0 13).toInt) ∧ vp_in (x.1 19 e.toNatClampNeg) 710 ∧ x.1 15 e.toNatClampNeg = 32 ∧ ∃ L : List (Int32 × Nat × Nat), ln x (x.1 16 e.toNatClampNeg) L ∧ (∀ q ∈ L, V q.2.1 q.2.2 q.1 ∧ q.1.toInt < e.toInt ∧ m ≤ q.1.toInt) ∧ sm (fun q => q.2.1) L + 2 ≤ s ∧ sm (fun q => q.2.2) L ≤ c
def vD (x : gd) (m : Int) (V : Nat → Nat → Int32 → Prop) (s c : Nat) (w a b d e : Int32) : Prop :=
  (w = 20 ∧ vp_in a 710 ∧ 1 ≤ c ∧ vR x (s - 1) b) ∨
  (w = 21 ∧ vp_in a 710 ∧ vR x (s - 1) b) ∨
  (w = 22 ∧ vp_in a 710 ∧ ∃ i j : Nat, i + j + 1 ≤ s ∧ vE x i i 17 b ∧ vE x j j 17 d) ∨
  (w = 23 ∧ ∃ i j q c1 c2 : Nat, i + j + q + 1 ≤ s ∧ c1 + c2 ≤ c ∧ vE x i i 17 a ∧ vB x m V j c1 b ∧ b.toInt < e.toInt ∧ (d = -1 ∨ (d.toInt < e.toInt ∧ (vB x m V q c2 d ∨ V q c2 d)))) ∨
  (w = 24 ∧ ∃ i j : Nat, i + j + 1 ≤ s ∧ vE x i i 17 a ∧ vB x m V j c b ∧ b.toInt < e.toInt) ∨
  (w = 25 ∧ vp_in a 710 ∧ vB x m V (s - 2) c b ∧ b.toInt < e.toInt) ∨
  (w = 26 ∧ vp_in b 710) ∨
  w = 27 ∨
  ((w = 28 ∨ w = 30) ∧ vE x (s - 1) (s - 1) 17 a) ∨
  (w = 29 ∧ vp_in a 710 ∧ vE x (s - 1) (s - 1) 17 b) ∨
  w = 31
def vS (x : gd) (m : Int) : Nat → Nat → Nat → Int32 → Prop
  | 0, _, _, _ => False
  | k + 1, s, c, e => (0 ≤ e.toInt ∧ e.toInt < (x.1 0 13).toInt) ∧ vp_in (x.1 19 e.toNatClampNeg) 710 ∧ 2 ≤ s ∧ vD x m (vS x m k) s c (x.1 15 e.toNatClampNeg) (x.1 16 e.toNatClampNeg) (x.1 17 e.toNatClampNeg) (x.1 18 e.toNatClampNeg) e
/-- statements stay where nodes stay, and their links from m to l -/
def NL (m l : Int) (x x' : gd) : Prop := NK x x' ∧ ∀ j : Nat, (j : Int) < (x.1 0 13).toInt → m ≤ (j : Int) → (j : Int) < l → x'.1 20 j = x.1 20 j
theorem NL_RP {x x' : gd} (m l : Int) (h : RP x x') : NL m l x x' := ⟨NK_RP h, fun j hj _ _ => h.2.2.2.2.2 20 (by decide) (by decide) j hj⟩
theorem ln_keep {m l : Int} {x x' : gd} (h : NL m l x x') : ∀ (L : List (Int32 × Nat × Nat)) (e : Int32), (∀ q ∈ L, m ≤ q.1.toInt ∧ q.1.toInt < l) → ln x e L → ln x' e L := by
  intro L
  induction L with
  | nil => intro e _ q; exact q
  | cons a r ih =>
    intro e hl q
    obtain ⟨q1, q2, q3⟩ := q
    have h1 := h.1.1
    have hj : ((e.toNatClampNeg : Nat) : Int) < (x.1 0 13).toInt := by rw [t_cl]; omega
    have ha := hl a List.mem_cons_self
    rw [← q1] at ha
    have hj2 : ((e.toNatClampNeg : Nat) : Int) < l := by rw [t_cl]; omega
    have hj3 : m ≤ ((e.toNatClampNeg : Nat) : Int) := by rw [t_cl]; omega
    refine ⟨q1, ⟨q2.1, by omega⟩, ?_⟩
    rw [h.2 _ hj hj3 hj2]
    exact ih _ (fun z hz => hl z (List.mem_cons_of_mem _ hz)) q3
theorem vB_keep {m m' l : Int} (hm : m' ≤ m) {x x' : gd} (h : NL m l x x') {V V' : Nat → Nat → Int32 → Prop} (hV : ∀ s c e, e.toInt ≤ l → V s c e → V' s c e) {s c : Nat} {e : Int32} (he : e.toInt ≤ l) (q : vB x m V s c e) : vB x' m' V' s c e := by
  obtain ⟨q1, q2, q3, L, q4, q5, q6, q7⟩ := q
  obtain ⟨a1, a2, a3, a4, a5, a6⟩ := NK_at h.1 q1
  refine ⟨a1, by rw [a6]; exact q2, by rw [a2]; exact q3, L, ?_, fun z hz => ⟨hV _ _ _ (by have := (q5 z hz).2.1; omega) (q5 z hz).1, (q5 z hz).2.1, by have := (q5 z hz).2.2; omega⟩, q6, q7⟩
  rw [a3]
  exact ln_keep h _ _ (fun z hz => by have := (q5 z hz).2; omega) q4
theorem vB_mono {x : gd} {m : Int} {V : Nat → Nat → Int32 → Prop} {s s' c c' : Nat} {e : Int32} (hs : s ≤ s') (hc : c ≤ c') (q : vB x m V s c e) : vB x m V s' c' e := by
  obtain ⟨q1, q2, q3, L, q4, q5, q6, q7⟩ := q
  exact ⟨q1, q2, q3, L, q4, q5, by omega, by omega⟩
theorem vD_keep {m m' l : Int} (hm : m' ≤ m) {x x' : gd} (h : NL m l x x') {V V' : Nat → Nat → Int32 → Prop} (hV : ∀ s c e, e.toInt ≤ l → V s c e → V' s c e) {s c : Nat} {w a b d e : Int32} (he : e.toInt ≤ l) (q4 : vD x m V s c w a b d e) : vD x' m' V' s c w a b d e := by
  have hB : ∀ {s c : Nat} {e : Int32}, e.toInt ≤ l → vB x m V s c e → vB x' m' V' s c e := fun he g => vB_keep hm h hV he g
  rcases q4 with ⟨g1, g2, g3, g4⟩ | ⟨g1, g2, g3⟩ | ⟨g1, g2, a, b, g3, g4, g5⟩ | ⟨g1, a, b, q, c1, c2, g2, g3, g4, g5, g5b, g6⟩ | ⟨g1, a, b, g2, g3, g4, g4b⟩ | ⟨g1, g2, g3, g3b⟩ | g | g | ⟨g1, g2⟩ | ⟨g1, g2, g3⟩ | g
  · exact Or.inl ⟨g1, g2, g3, vR_NK h.1 g4⟩
  · exact Or.inr (Or.inl ⟨g1, g2, vR_NK h.1 g3⟩)
  · exact Or.inr (Or.inr (Or.inl ⟨g1, g2, a, b, g3, vE_NK h.1 g4, vE_NK h.1 g5⟩))
  · refine Or.inr (Or.inr (Or.inr (Or.inl ⟨g1, a, b, q, c1, c2, g2, g3, vE_NK h.1 g4, hB (by omega) g5, g5b, ?_⟩)))
    rcases g6 with g6 | ⟨g6b, g6 | g7⟩
    · exact Or.inl g6
    · exact Or.inr ⟨g6b, Or.inl (hB (by omega) g6)⟩
    · exact Or.inr ⟨g6b, Or.inr (hV _ _ _ (by omega) g7)⟩
  · exact Or.inr (Or.inr (Or.inr (Or.inr (Or.inl ⟨g1, a, b, g2, vE_NK h.1 g3, hB (by omega) g4, g4b⟩))))
  · exact Or.inr (Or.inr (Or.inr (Or.inr (Or.inr (Or.inl ⟨g1, g2, hB (by omega) g3, g3b⟩)))))
  · exact Or.inr (Or.inr (Or.inr (Or.inr (Or.inr (Or.inr (Or.inl g))))))
  · exact Or.inr (Or.inr (Or.inr (Or.inr (Or.inr (Or.inr (Or.inr (Or.inl g)))))))
  · exact Or.inr (Or.inr (Or.inr (Or.inr (Or.inr (Or.inr (Or.inr (Or.inr (Or.inl ⟨g1, vE_NK h.1 g2⟩))))))))
  · exact Or.inr (Or.inr (Or.inr (Or.inr (Or.inr (Or.inr (Or.inr (Or.inr (Or.inr (Or.inl ⟨g1, g2, vE_NK h.1 g3⟩)))))))))
  · exact Or.inr (Or.inr (Or.inr (Or.inr (Or.inr (Or.inr (Or.inr (Or.inr (Or.inr (Or.inr g)))))))))
theorem vD_mono {m : Int} {x : gd} {V : Nat → Nat → Int32 → Prop} {s s' c : Nat} {w a b d e : Int32} (hs : s ≤ s') (q4 : vD x m V s c w a b d e) : vD x m V s' c w a b d e := by
  have hE : ∀ {i i' : Nat} {e : Int32}, i ≤ i' → vE x i i 17 e → vE x i' i' 17 e := fun h g => vE_mono _ _ _ _ _ _ _ h h (Nat.le_refl _) g
  rcases q4 with ⟨g1, g2, g3, g4⟩ | ⟨g1, g2, g3⟩ | ⟨g1, g2, a, b, g3, g4, g5⟩ | ⟨g1, a, b, q, c1, c2, g2, g3, g4, g5, g5b, g6⟩ | ⟨g1, a, b, g2, g3, g4, g4b⟩ | ⟨g1, g2, g3, g3b⟩ | g | g | ⟨g1, g2⟩ | ⟨g1, g2, g3⟩ | g
  · exact Or.inl ⟨g1, g2, g3, vR_mono (by omega) g4⟩
  · exact Or.inr (Or.inl ⟨g1, g2, vR_mono (by omega) g3⟩)
  · exact Or.inr (Or.inr (Or.inl ⟨g1, g2, a, b, by omega, g4, g5⟩))
  · exact Or.inr (Or.inr (Or.inr (Or.inl ⟨g1, a, b, q, c1, c2, by omega, g3, g4, g5, g5b, g6⟩)))
  · exact Or.inr (Or.inr (Or.inr (Or.inr (Or.inl ⟨g1, a, b, by omega, g3, g4, g4b⟩))))
  · exact Or.inr (Or.inr (Or.inr (Or.inr (Or.inr (Or.inl ⟨g1, g2, vB_mono (by omega) (Nat.le_refl _) g3, g3b⟩)))))
  · exact Or.inr (Or.inr (Or.inr (Or.inr (Or.inr (Or.inr (Or.inl g))))))
  · exact Or.inr (Or.inr (Or.inr (Or.inr (Or.inr (Or.inr (Or.inr (Or.inl g)))))))
  · exact Or.inr (Or.inr (Or.inr (Or.inr (Or.inr (Or.inr (Or.inr (Or.inr (Or.inl ⟨g1, hE (by omega) g2⟩))))))))
  · exact Or.inr (Or.inr (Or.inr (Or.inr (Or.inr (Or.inr (Or.inr (Or.inr (Or.inr (Or.inl ⟨g1, g2, hE (by omega) g3⟩)))))))))
  · exact Or.inr (Or.inr (Or.inr (Or.inr (Or.inr (Or.inr (Or.inr (Or.inr (Or.inr (Or.inr g)))))))))
theorem vS_keep {m m' l : Int} (hm : m' ≤ m) {x x' : gd} (h : NL m l x x') : ∀ (k s c : Nat) (e : Int32), e.toInt ≤ l → vS x m k s c e → vS x' m' k s c e := by
  intro k
  induction k with
  | zero => intro s c e _ q; exact q.elim
  | succ k ih =>
    intro s c e he q
    obtain ⟨q1, q2, q3, q4⟩ := q
    obtain ⟨a1, a2, a3, a4, a5, a6⟩ := NK_at h.1 q1
    refine ⟨a1, by rw [a6]; exact q2, q3, ?_⟩
    rw [a2, a3, a4, a5]
    exact vD_keep hm h ih he q4
theorem vS_mono {m : Int} {x : gd} {k s s' c : Nat} {e : Int32} (hs : s ≤ s') (q : vS x m (k + 1) s c e) : vS x m (k + 1) s' c e := ⟨q.1, q.2.1, by have := q.2.2.1; omega, vD_mono hs q.2.2.2⟩
theorem vS_RP {x x' : gd} {m m' : Int} (hm : m' ≤ m) (h : RP x x') {k s c : Nat} {e : Int32} (q : vS x m k s c e) : vS x' m' k s c e := vS_keep hm (NL_RP m e.toInt h) k s c e (Int.le_refl _) q
theorem vB_RP {x x' : gd} {m m' : Int} (hm : m' ≤ m) (h : RP x x') {k s c : Nat} {e : Int32} (q : vB x m (vS x m k) s c e) : vB x' m' (vS x' m' k) s c e := vB_keep hm (NL_RP m e.toInt h) (fun _ _ _ _ g => vS_RP hm h g) (Int.le_refl _) q
theorem NK_rfl (x : gd) : NK x x := ⟨Int.le_refl _, fun _ _ _ _ _ => rfl⟩
theorem vS_low {x : gd} {m m' : Int} (hm : m' ≤ m) {k s c : Nat} {e : Int32} (q : vS x m k s c e) : vS x m' k s c e := vS_keep hm (l := e.toInt) ⟨NK_rfl x, fun _ _ _ _ => rfl⟩ k s c e (Int.le_refl _) q
theorem ln_snoc {x : gd} : ∀ (L : List (Int32 × Nat × Nat)) (e : Int32) (q p : Int32 × Nat × Nat), ln x e (L ++ [q]) → ∀ x' : gd, (x.1 0 13).toInt ≤ (x'.1 0 13).toInt → (0 ≤ p.1.toInt ∧ p.1.toInt < (x'.1 0 13).toInt) → (∀ j : Nat, (j : Int) < q.1.toInt → x'.1 20 j = x.1 20 j) → x'.1 20 q.1.toNatClampNeg = p.1 → x'.1 20 p.1.toNatClampNeg = -1 → (∀ z ∈ L, z.1.toInt < q.1.toInt) → ln x' e (L ++ [q, p]) := by
  intro L
  induction L with
  | nil =>
    intro e q p h x' hn hp hk hq hp2 _
    obtain ⟨h1, h2, -⟩ := h
    exact ⟨h1, ⟨h2.1, by omega⟩, by rw [h1]; exact hq, by rw [h1, hq]; exact hp, by rw [h1, hq]; exact hp2⟩
  | cons a r ih =>
    intro e q p h x' hn hp hk hq hp2 hl
    obtain ⟨h1, h2, h3⟩ := h
    have ha := hl a List.mem_cons_self
    rw [← h1] at ha
    have hj : ((e.toNatClampNeg : Nat) : Int) < q.1.toInt := by rw [t_cl]; omega
    refine ⟨h1, ⟨h2.1, by omega⟩, ?_⟩
    rw [hk _ hj]
    exact ih _ q p h3 x' hn hp hk hq hp2 (fun z hz => hl z (List.mem_cons_of_mem _ hz))
theorem sm_app (f : Int32 × Nat × Nat → Nat) : ∀ (L : List (Int32 × Nat × Nat)) (p : Int32 × Nat × Nat), sm f (L ++ [p]) = sm f L + f p := by
  intro L p
  induction L with
  | nil => show f p + 0 = 0 + f p; omega
  | cons a r ih => show f a + sm f (r ++ [p]) = f a + sm f r + f p; rw [ih]; omega
/-- lets: field 21 -/
def LT (x : gd) : Prop := 0 ≤ (x.1 0 21).toInt ∧ (x.1 0 21).toInt ≤ 8
/-- what a statement at nesting 16 - k leaves -/
def QS (k : Nat) (x : gd) (r : Int32) (x' : gd) : Prop := RP x x' ∧ -(3 * ((k : Int) + 1)) ≤ cr x' ∧ 0 ≤ r.toInt ∧ ((x'.1 0 9).toInt = 0 → x'.1 0 20 = x.1 0 20 ∧ (x.1 0 8).toInt + 2 ≤ (x'.1 0 8).toInt ∧ cr x ≤ cr x' ∧ (x.1 0 21).toInt ≤ (x'.1 0 21).toInt ∧ LT x' ∧ vS x' (x.1 0 13).toInt (k + 1) ((x'.1 0 8).toInt - (x.1 0 8).toInt).toNat ((x'.1 0 21).toInt - (x.1 0 21).toInt).toNat r ∧ x'.1 20 r.toNatClampNeg = -1 ∧ (x.1 0 13).toInt ≤ r.toInt)
/-- what a block leaves whose statements stand at nesting 16 - k: with a fault ahead one node -/
def QB (k : Nat) (x : gd) (r : Int32) (x' : gd) : Prop := RP x x' ∧ ((x.1 0 9).toInt = 0 → -(3 * ((k : Int) + 1) + 1) ≤ cr x') ∧ (0 < (x.1 0 9).toInt → cr x ≤ cr x' + 1) ∧ 0 ≤ r.toInt ∧ ((x'.1 0 9).toInt = 0 → x'.1 0 20 = x.1 0 20 ∧ (x.1 0 8).toInt + 2 ≤ (x'.1 0 8).toInt ∧ cr x + 3 ≤ cr x' ∧ (x.1 0 21).toInt ≤ (x'.1 0 21).toInt ∧ LT x' ∧ vB x' (x.1 0 13).toInt (vS x' (x.1 0 13).toInt (k + 1)) ((x'.1 0 8).toInt - (x.1 0 8).toInt).toNat ((x'.1 0 21).toInt - (x.1 0 21).toInt).toNat r)
end
section
/-! statements: what they tell (after vS, vB of 29) -/
abbrev gR := List ((Int32 × Nat × Nat) × gU)
/-- a right side behind which ; stands: a name alone is its node -/
def vRs (x : gd) (r : Int32) (tg : Option Nat) (M : gU) : Prop := vRr x r tg M ∧ (x.1 15 r.toNatClampNeg = 10 → x.1 15 (x.1 16 r.toNatClampNeg).toNatClampNeg = 3 → x.1 5 (x.1 19 r.toNatClampNeg).toNatClampNeg = 1 ∧ x.1 5 ((x.1 19 r.toNatClampNeg).toNatClampNeg + 1) = 67)
def wB (x : gd) (m : Int) (V : Int32 → gU → Prop) (z : Nat) (e : Int32) (M : gU) : Prop := (0 ≤ e.toInt ∧ e.toInt < (x.1 0 13).toInt) ∧ x.1 15 e.toNatClampNeg = 32 ∧ ∃ R : gR, ln x (x.1 16 e.toNatClampNeg) (R.map Prod.fst) ∧ (∀ q ∈ R, V q.1.1 q.2 ∧ q.1.1.toInt < e.toInt ∧ m ≤ q.1.1.toInt) ∧ M = [(20, z, 0)] ++ (R.flatMap Prod.snd ++ [(21, z, 0)])
def wD (x : gd) (m : Int) (V : Int32 → gU → Prop) (i : Nat) (w a b d e : Int32) (M : gU) : Prop :=
  (w = 20 ∧ ∃ N, vRs x b none N ∧ M = [(23, a.toNatClampNeg, 0)] ++ (N ++ [(22, a.toNatClampNeg, i)])) ∨
  (w = 21 ∧ a.toNatClampNeg = i ∧ ∃ N, vRs x b (some i) N ∧ M = N ++ [(77, i, 0)]) ∨
  (w = 22 ∧ a.toNatClampNeg = i ∧ ∃ n1 n2 N1 N2, vV x false n1 b N1 ∧ vV x false n2 d N2 ∧ M = [(7, i, 0)] ++ ((N1 ++ [(54, 0, 0)]) ++ ((N2 ++ [(54, 0, 0)]) ++ [(78, i, 0)]))) ∨
  (w = 23 ∧ ∃ n1 N1 N2 N3, vV x false n1 a N1 ∧ wB x m V 3 b N2 ∧ b.toInt < e.toInt ∧ ((d = -1 ∧ N3 = []) ∨ (d.toInt < e.toInt ∧ 0 ≤ d.toInt ∧ ∃ j N4, N3 = [(62, j, 0)] ++ N4 ∧ (wB x m V 4 d N4 ∨ (¬ x.1 15 d.toNatClampNeg = 32 ∧ V d N4 ∧ ∃ N5, N4 = N5 ++ [(63, 0, 0)])))) ∧ M = (N1 ++ [(54, 0, 0)]) ++ ([(60, i, 0)] ++ (N2 ++ (N3 ++ [(63, 0, 0)])))) ∨
  (w = 24 ∧ ∃ n1 N1 N2, vV x false n1 a N1 ∧ wB x m V 1 b N2 ∧ b.toInt < e.toInt ∧ M = (N1 ++ [(54, 0, 0)]) ++ ([(61, i, 0)] ++ N2)) ∨
  (w = 25 ∧ ∃ N2, wB x m V 2 b N2 ∧ b.toInt < e.toInt ∧ M = [(65, i, a.toNatClampNeg)] ++ N2) ∨
  (w = 26 ∧ a = x.1 5 i ∧ ((¬ (a = 33 ∨ a = 25) ∧ M = [(66, i, b.toNatClampNeg)]) ∨ ((a = 33 ∨ a = 25) ∧ M = [(67, i, b.toNatClampNeg)]))) ∨
  (w = 27 ∧ (a = x.1 5 i ∧ (a = 20 ∨ a = 31)) ∧ M = [(68, i, 0)]) ∨
  ((w = 28 ∨ w = 30) ∧ ((w = 28 ∧ x.1 5 i = 13) ∨ (w = 30 ∧ x.1 5 i = 14)) ∧ ∃ n1 N1, vV x false n1 a N1 ∧ M = (N1 ++ [(54, 0, 0)]) ++ [(69, i, 0)]) ∨
  (w = 29 ∧ ∃ n1 N1, vV x false n1 b N1 ∧ M = (N1 ++ [(54, 0, 0)]) ++ [(70, i, a.toNatClampNeg)]) ∨
  (w = 31 ∧ x.1 5 i = 19 ∧ M = [(68, i, 0)])
def wSt (x : gd) (m : Int) : Nat → Int32 → gU → Prop
  | 0, _, _ => False
  | k + 1, e, M => (0 ≤ e.toInt ∧ e.toInt < (x.1 0 13).toInt) ∧ ¬ x.1 15 e.toNatClampNeg = 32 ∧ wD x m (wSt x m k) (x.1 19 e.toNatClampNeg).toNatClampNeg (x.1 15 e.toNatClampNeg) (x.1 16 e.toNatClampNeg) (x.1 17 e.toNatClampNeg) (x.1 18 e.toNatClampNeg) e M
/-- nodes and links that stay, kinds and values too -/
def NX (m l : Int) (x x' : gd) : Prop := NL m l x x' ∧ x'.1 5 = x.1 5 ∧ x'.1 7 = x.1 7
theorem NX_NF {m l : Int} {x x' : gd} (h : NX m l x x') : NF x x' := ⟨h.1.1, h.2.1, h.2.2⟩
theorem NX_RP {x x' : gd} (m l : Int) (h : RP x x') : NX m l x x' := ⟨NL_RP m l h, h.1.2.1 5 (by decide) (by decide), h.1.2.1 7 (by decide) (by decide)⟩
theorem vRs_NF {x x' : gd} (h : NF x x') {r : Int32} {tg : Option Nat} {M : gU} (q : vRs x r tg M) : vRs x' r tg M := by
  obtain ⟨q, p⟩ := q
  refine ⟨vRr_NF h q, ?_⟩
  obtain ⟨b, t, et, q⟩ := q
  obtain ⟨a1, a2, a3, a4, a5, a6⟩ := NK_at h.1 b
  rw [a2, a3, a6, h.2.1]
  intro e10 e3
  refine p e10 ?_
  rcases q with ⟨q1, q2, q3, ⟨n, M1, v⟩, q5, q6⟩ | ⟨q1, q2, n, M1, v, e⟩ | ⟨q1, -⟩ | ⟨q1, -⟩ | ⟨q1, -⟩
  · exact q5
  · obtain ⟨c1, c2, c3, c4, c5, c6⟩ := NK_at h.1 (vV_at v)
    rw [c2] at e3; exact e3
  · rw [q1] at e10; exact absurd e10 (by decide)
  · rcases q1 with ⟨q1, -⟩ | ⟨q1, -⟩ <;> rw [q1] at e10 <;> exact absurd e10 (by decide)
  · rw [q1] at e10; exact absurd e10 (by decide)
theorem wB_keep {m m' l : Int} (hm : m' ≤ m) {x x' : gd} (h : NX m l x x') {V V' : Int32 → gU → Prop} (hV : ∀ e M, e.toInt ≤ l → V e M → V' e M) {z : Nat} {e : Int32} {M : gU} (he : e.toInt ≤ l) (q : wB x m V z e M) : wB x' m' V' z e M := by
  obtain ⟨q1, q3, R, q4, q5, q6⟩ := q
  obtain ⟨a1, a2, a3, a4, a5, a6⟩ := NK_at h.1.1 q1
  refine ⟨a1, by rw [a2]; exact q3, R, ?_, fun z hz => ⟨hV _ _ (by have := (q5 z hz).2.1; omega) (q5 z hz).1, (q5 z hz).2.1, by have := (q5 z hz).2.2; omega⟩, q6⟩
  rw [a3]
  refine ln_keep h.1 _ _ (fun z hz => ?_) q4
  obtain ⟨y, hy, rfl⟩ := List.mem_map.mp hz
  have := (q5 y hy).2
  omega
theorem wD_keep {m m' l : Int} (hm : m' ≤ m) {x x' : gd} (h : NX m l x x') {V V' : Int32 → gU → Prop} (hV : ∀ e M, e.toInt ≤ l → V e M → V' e M) (hat : ∀ e M, V e M → 0 ≤ e.toInt ∧ e.toInt < (x.1 0 13).toInt) {i : Nat} {w a b d e : Int32} {M : gU} (he : e.toInt ≤ l) (q4 : wD x m V i w a b d e M) : wD x' m' V' i w a b d e M := by
  have nf := NX_NF h
  have hB : ∀ {z : Nat} {e : Int32} {M : gU}, e.toInt ≤ l → wB x m V z e M → wB x' m' V' z e M := fun he g => wB_keep hm h hV he g
  unfold wD
  rw [h.2.1]
  rcases q4 with ⟨g1, N, g2, g3⟩ | ⟨g1, g0, N, g2, g3⟩ | ⟨g1, g0, n1, n2, N1, N2, g2, g3, g4⟩ | ⟨g1, n1, N1, N2, N3, g2, g3, g4, g5, g6⟩ | ⟨g1, n1, N1, N2, g2, g3, g4, g5⟩ | ⟨g1, N2, g2, g3, g4⟩ | g | g | ⟨g1, g0, n1, N1, g2, g3⟩ | ⟨g1, n1, N1, g2, g3⟩ | g
  · exact Or.inl ⟨g1, N, vRs_NF nf g2, g3⟩
  · exact Or.inr (Or.inl ⟨g1, g0, N, vRs_NF nf g2, g3⟩)
  · exact Or.inr (Or.inr (Or.inl ⟨g1, g0, n1, n2, N1, N2, vV_NF nf g2, vV_NF nf g3, g4⟩))
  · refine Or.inr (Or.inr (Or.inr (Or.inl ⟨g1, n1, N1, N2, N3, vV_NF nf g2, hB (by omega) g3, g4, ?_, g6⟩)))
    rcases g5 with g5 | ⟨g5, g5b, j, N4, g7, g8 | ⟨g8, g9, g10⟩⟩
    · exact Or.inl g5
    · exact Or.inr ⟨g5, g5b, j, N4, g7, Or.inl (hB (by omega) g8)⟩
    · obtain ⟨a1, a2, -⟩ := NK_at h.1.1 (hat _ _ g9)
      exact Or.inr ⟨g5, g5b, j, N4, g7, Or.inr ⟨by rw [a2]; exact g8, hV _ _ (by omega) g9, g10⟩⟩
  · exact Or.inr (Or.inr (Or.inr (Or.inr (Or.inl ⟨g1, n1, N1, N2, vV_NF nf g2, hB (by omega) g3, g4, g5⟩))))
  · exact Or.inr (Or.inr (Or.inr (Or.inr (Or.inr (Or.inl ⟨g1, N2, hB (by omega) g2, g3, g4⟩)))))
  · exact Or.inr (Or.inr (Or.inr (Or.inr (Or.inr (Or.inr (Or.inl g))))))
  · exact Or.inr (Or.inr (Or.inr (Or.inr (Or.inr (Or.inr (Or.inr (Or.inl g)))))))
  · exact Or.inr (Or.inr (Or.inr (Or.inr (Or.inr (Or.inr (Or.inr (Or.inr (Or.inl ⟨g1, g0, n1, N1, vV_NF nf g2, g3⟩))))))))
  · exact Or.inr (Or.inr (Or.inr (Or.inr (Or.inr (Or.inr (Or.inr (Or.inr (Or.inr (Or.inl ⟨g1, n1, N1, vV_NF nf g2, g3⟩)))))))))
  · exact Or.inr (Or.inr (Or.inr (Or.inr (Or.inr (Or.inr (Or.inr (Or.inr (Or.inr (Or.inr g)))))))))
theorem wS_at {x : gd} {m : Int} {k : Nat} {e : Int32} {M : gU} (q : wSt x m k e M) : 0 ≤ e.toInt ∧ e.toInt < (x.1 0 13).toInt := by
  cases k with
  | zero => exact q.elim
  | succ k => exact q.1
theorem wS_keep {m m' l : Int} (hm : m' ≤ m) {x x' : gd} (h : NX m l x x') : ∀ (k : Nat) (e : Int32) (M : gU), e.toInt ≤ l → wSt x m k e M → wSt x' m' k e M := by
  intro k
  induction k with
  | zero => intro e M _ q; exact q.elim
  | succ k ih =>
    intro e M he q
    obtain ⟨q1, q2, q4⟩ := q
    obtain ⟨a1, a2, a3, a4, a5, a6⟩ := NK_at h.1.1 q1
    refine ⟨a1, by rw [a2]; exact q2, ?_⟩
    rw [a2, a3, a4, a5, a6]
    exact wD_keep hm h ih (fun _ _ g => wS_at g) he q4
theorem wS_RP {x x' : gd} {m m' : Int} (hm : m' ≤ m) (h : RP x x') {k : Nat} {e : Int32} {M : gU} (q : wSt x m k e M) : wSt x' m' k e M := wS_keep hm (NX_RP m e.toInt h) k e M (Int.le_refl _) q
theorem wB_RP {x x' : gd} {m m' : Int} (hm : m' ≤ m) (h : RP x x') {k z : Nat} {e : Int32} {M : gU} (q : wB x m (wSt x m k) z e M) : wB x' m' (wSt x' m' k) z e M := wB_keep hm (NX_RP m e.toInt h) (fun _ _ _ g => wS_RP hm h g) (Int.le_refl _) q
theorem NX_rfl (m l : Int) (x : gd) : NX m l x x := ⟨⟨NK_rfl x, fun _ _ _ _ => rfl⟩, rfl, rfl⟩
theorem wS_low {x : gd} {m m' : Int} (hm : m' ≤ m) {k : Nat} {e : Int32} {M : gU} (q : wSt x m k e M) : wSt x m' k e M := wS_keep hm (NX_rfl m e.toInt x) k e M (Int.le_refl _) q
theorem wB_low {x : gd} {m m' : Int} (hm : m' ≤ m) {k z : Nat} {e : Int32} {M : gU} (q : wB x m (wSt x m k) z e M) : wB x m' (wSt x m' k) z e M := wB_keep hm (NX_rfl m e.toInt x) (fun _ _ _ g => wS_low hm g) (Int.le_refl _) q
/-! what reading a statement does: lets so far, where it stands then, what it told -/
def lts (x : gd) : Nat := (x.1 0 21).toNatClampNeg
def FXs (x x' : gd) (g : Nat → Nat → gU → gTs) (M : gU) : Prop := ∀ L, (nwo x).bind (fun i => g (lts x) i L) = (nwo x').map (fun j => (lts x', j, L ++ M))
theorem FXs_seq {x y z : gd} {g h : Nat → Nat → gU → gTs} {M1 M2 : gU} (a : FXs x y g M1) (b : FXs y z h M2) : FXs x z (fun c i L => (g c i L).bind (fun q => h q.1 q.2.1 q.2.2)) (M1 ++ M2) := by
  intro L
  show (nwo x).bind (fun i => (g (lts x) i L).bind (fun q => h q.1 q.2.1 q.2.2)) = _
  rw [← Option.bind_assoc, a L]
  have e := b (L ++ M1)
  rw [List.append_assoc] at e
  rw [← e]
  cases nwo y with
  | none => rfl
  | some j => rfl
theorem FXs_eq {x y : gd} {g h : Nat → Nat → gU → gTs} {M : gU} (a : FXs x y g M) (e : ∀ i, nwo x = some i → ∀ L, h (lts x) i L = g (lts x) i L) : FXs x y h M := by
  intro L
  rw [← a L]
  cases hx : nwo x with
  | none => rfl
  | some i => exact e i hx L
theorem FXs_to {x y z : gd} {g : Nat → Nat → gU → gTs} {M : gU} (a : FXs x y g M) (h : nwo z = nwo y) (hl : lts z = lts y) : FXs x z g M := by
  intro L
  rw [h, hl]
  exact a L
theorem FXs_0 {x x' : gd} {g : Nat → Nat → gU → gTs} {M : gU} (h' : nwo x' = none) (h : ∀ i, nwo x = some i → ∀ L, g (lts x) i L = none) : FXs x x' g M := by
  intro L
  rw [h']
  cases e : nwo x with
  | none => rfl
  | some i => exact h i e L
/-- readS at nesting 16 - k, readBlock with its statements there -/
def FS (k : Nat) (x : gd) (r : Int32) (x' : gd) : Prop := ∃ M, FXs x x' (pS (x.1 5) k) M ∧ ((x'.1 0 9).toInt = 0 → wSt x' (x.1 0 13).toInt (k + 1) r M)
def FB (k : Nat) (x : gd) (r : Int32) (x' : gd) : Prop := ∀ z, ∃ M, FXs x x' (pBk (pS (x.1 5) k) (x.1 5) z) M ∧ ((x'.1 0 9).toInt = 0 → wB x' (x.1 0 13).toInt (wSt x' (x.1 0 13).toInt (k + 1)) z r M)
def pbs (k : Int32) : Prop := k = 26 ∨ k = 1 ∨ k = 24 ∨ k = 41 ∨ k = 27 ∨ k = 36 ∨ k = 22 ∨ k = 38 ∨ k = 39 ∨ k = 40 ∨ k = 33 ∨ k = 25 ∨ k = 20 ∨ k = 31 ∨ k = 13 ∨ k = 15 ∨ k = 14 ∨ k = 19
def SfS (k : Nat) : Prop := ∀ (G : mG) (D : Nat) (x : gd) (F : Int32 → gd → Prop), 4 * k + 20 ≤ D → PreK k 0 x → (x.1 0 9).toInt = 0 → LT x → pbs (x.1 5 (x.1 0 8).toNatClampNeg) → (∀ r x', QS k x r x' → FS k x r x' → F r x') → MT G D z_readS 0 [(0, vr 0)] [] x (ri F)
end
section
theorem RP_link {x y z : gd} {l v : Int32} (h : RP x y) (hl : (x.1 0 13).toInt ≤ l.toInt) (h0 : 0 ≤ (x.1 0 13).toInt) (e : z = si y 20 l.toNatClampNeg v) : RP x z ∧ (∀ m : Int, NL m l.toInt y z) ∧ cr z = cr y ∧ z.1 0 8 = y.1 0 8 ∧ z.1 0 9 = y.1 0 9 ∧ z.1 0 13 = y.1 0 13 ∧ z.1 0 20 = y.1 0 20 ∧ z.1 0 21 = y.1 0 21 ∧ z.1 20 l.toNatClampNeg = v ∧ ∀ j : Nat, ¬ j = l.toNatClampNeg → z.1 20 j = y.1 20 j := by
  have m := md_a y 20 l.toNatClampNeg v (by decide)
  rw [← e] at m
  have c8 : z.1 0 8 = y.1 0 8 := m.1 8 (by decide)
  have c9 : z.1 0 9 = y.1 0 9 := m.1 9 (by decide)
  have c13 : z.1 0 13 = y.1 0 13 := m.1 13 (by decide)
  have hne : ∀ j : Nat, ¬ j = l.toNatClampNeg → z.1 20 j = y.1 20 j := fun j hj => by rw [e, si_get, if_neg (fun q => hj q.2)]
  refine ⟨⟨md_tr h.1 m rfl rfl, ⟨by rw [c8]; exact h.2.1.1, by rw [c8]; exact h.2.1.2.1, by rw [c9]; exact h.2.1.2.2.1, TX_md m (by decide) (by decide) (by decide) (by decide) h.2.1.2.2.2⟩, by rw [c8]; exact h.2.2.1, by rw [c9]; exact h.2.2.2.1, by rw [c13]; exact h.2.2.2.2.1, fun c h1 h2 j hj => ?_⟩, fun m' => ⟨⟨by rw [c13]; exact Int.le_refl _, fun c h1 h2 j hj => ?_⟩, fun j hj _ hjl => ?_⟩, by unfold cr; rw [c8, c13], c8, c9, c13, m.1 20 (by decide), m.1 21 (by decide), by rw [e, si_get, if_pos ⟨rfl, rfl⟩], hne⟩
  · by_cases q : c = 20
    · subst q
      rw [hne j (by rw [t_cl]; omega)]
      exact h.2.2.2.2.2 20 (by decide) (by decide) j hj
    · rw [e, si_cell q]
      exact h.2.2.2.2.2 c h1 h2 j hj
  · rw [e, si_cell (by omega)]
  · exact hne j (by rw [t_cl]; omega)
theorem ln_mem {x : gd} : ∀ (L : List (Int32 × Nat × Nat)) (e : Int32), ln x e L → ∀ q ∈ L, 0 ≤ q.1.toInt ∧ q.1.toInt < (x.1 0 13).toInt := by
  intro L
  induction L with
  | nil => intro e _ q hq; cases hq
  | cons a r ih =>
    intro e h q hq
    obtain ⟨h1, h2, h3⟩ := h
    rcases List.mem_cons.mp hq with rfl | hq
    · rw [← h1]; exact h2
    · exact ih _ h3 q hq
end
section
/-! readBlock: what it reads -/
theorem pS_no {K : Nat → Int32} {k c i : Nat} {L : gU} (h : ¬ pbs (K i)) : pS K k c i L = none := by
  unfold pbs at h
  cases k with
  | zero => rfl
  | succ f =>
    rw [pS]
    split
    · rfl
    · rw [if_neg (fun q => h (by simp [q])), if_neg (fun q => h (by simp [q])), if_neg (fun q => h (by simp [q])), pS1, if_neg (fun q => h (by simp [q])), if_neg (fun q => h (by simp [q])), if_neg (fun q => h (by rcases q with q | q | q <;> simp [q])), if_neg (fun q => h (by rcases q with q | q <;> simp [q])), if_neg (fun q => h (by simp [q])), if_neg (fun q => h (by rcases q with q | q | q | q | q <;> simp [q])), if_neg (fun q => h (by rcases q with q | q <;> simp [q]))]
theorem sf_beginsS {G : mG} {d : Nat} {x : gd} {F : Int32 → gd → Prop} (hp : PN x) (h : ∀ r : Int32, (r = 0 → (x.1 0 9).toInt = 0 → ¬ pbs (x.1 5 (x.1 0 8).toNatClampNeg)) → (¬ r = 0 → (x.1 0 9).toInt = 0 → pbs (x.1 5 (x.1 0 8).toNatClampNeg)) → F r x) : MT G (d + 1) z_beginsS 0 [(0, vr 0)] [] x (ri F) := by
  refine sg_beginsS_0 (sp_here hp (fun r _ h1 => ?_))
  (repeat' (first | apply And.intro | with_reducible intro _))
  all_goals first | (refine ri_i (h 1 (fun q => absurd q (by decide)) (fun _ hb => ?_)); rw [← h1 hb]; unfold pbs; first | exact Or.inl ‹_› | exact Or.inr (Or.inl ‹_›) | exact Or.inr (Or.inr (Or.inl ‹_›)) | exact Or.inr (Or.inr (Or.inr (Or.inl ‹_›))) | exact Or.inr (Or.inr (Or.inr (Or.inr (Or.inl ‹_›)))) | exact Or.inr (Or.inr (Or.inr (Or.inr (Or.inr (Or.inl ‹_›))))) | exact Or.inr (Or.inr (Or.inr (Or.inr (Or.inr (Or.inr (Or.inl ‹_›)))))) | exact Or.inr (Or.inr (Or.inr (Or.inr (Or.inr (Or.inr (Or.inr (Or.inl ‹_›))))))) | exact Or.inr (Or.inr (Or.inr (Or.inr (Or.inr (Or.inr (Or.inr (Or.inr (Or.inl ‹_›)))))))) | exact Or.inr (Or.inr (Or.inr (Or.inr (Or.inr (Or.inr (Or.inr (Or.inr (Or.inr (Or.inl ‹_›))))))))) | exact Or.inr (Or.inr (Or.inr (Or.inr (Or.inr (Or.inr (Or.inr (Or.inr (Or.inr (Or.inr (Or.inl ‹_›)))))))))) | exact Or.inr (Or.inr (Or.inr (Or.inr (Or.inr (Or.inr (Or.inr (Or.inr (Or.inr (Or.inr (Or.inr (Or.inl ‹_›))))))))))) | exact Or.inr (Or.inr (Or.inr (Or.inr (Or.inr (Or.inr (Or.inr (Or.inr (Or.inr (Or.inr (Or.inr (Or.inr (Or.inl ‹_›)))))))))))) | exact Or.inr (Or.inr (Or.inr (Or.inr (Or.inr (Or.inr (Or.inr (Or.inr (Or.inr (Or.inr (Or.inr (Or.inr (Or.inr (Or.inl ‹_›))))))))))))) | exact Or.inr (Or.inr (Or.inr (Or.inr (Or.inr (Or.inr (Or.inr (Or.inr (Or.inr (Or.inr (Or.inr (Or.inr (Or.inr (Or.inr (Or.inl ‹_›)))))))))))))) | exact Or.inr (Or.inr (Or.inr (Or.inr (Or.inr (Or.inr (Or.inr (Or.inr (Or.inr (Or.inr (Or.inr (Or.inr (Or.inr (Or.inr (Or.inr (Or.inl ‹_›))))))))))))))) | exact Or.inr (Or.inr (Or.inr (Or.inr (Or.inr (Or.inr (Or.inr (Or.inr (Or.inr (Or.inr (Or.inr (Or.inr (Or.inr (Or.inr (Or.inr (Or.inr (Or.inl ‹_›)))))))))))))))) | exact Or.inr (Or.inr (Or.inr (Or.inr (Or.inr (Or.inr (Or.inr (Or.inr (Or.inr (Or.inr (Or.inr (Or.inr (Or.inr (Or.inr (Or.inr (Or.inr (Or.inr (‹_›)))))))))))))))))) | (refine ri_i (h 0 (fun _ hb q => ?_) (fun q => absurd rfl q)); rw [← h1 hb] at q; unfold pbs at q; rcases q with q | q | q | q | q | q | q | q | q | q | q | q | q | q | q | q | q | q <;> contradiction)
/-- the row of statements that a block has so far, with what they tell -/
def BLf (k : Nat) (x z : gd) (fi la : Int32) (s c : Nat) (R : gR) : Prop := ((R = [] ∧ la = -1) ∨ ∃ (R' : gR) (q : (Int32 × Nat × Nat) × gU), R = R' ++ [q] ∧ la = q.1.1 ∧ (x.1 0 13).toInt ≤ la.toInt ∧ la.toInt < (z.1 0 13).toInt ∧ z.1 20 la.toNatClampNeg = -1 ∧ ∀ p ∈ R', p.1.1.toInt < q.1.1.toInt) ∧ ln z fi (R.map Prod.fst) ∧ (∀ q ∈ R, vS z (x.1 0 13).toInt (k + 1) q.1.2.1 q.1.2.2 q.1.1 ∧ (x.1 0 13).toInt ≤ q.1.1.toInt ∧ wSt z (x.1 0 13).toInt (k + 1) q.1.1 q.2) ∧ sm (fun q => q.2.1) (R.map Prod.fst) ≤ s ∧ sm (fun q => q.2.2) (R.map Prod.fst) ≤ c
theorem sf_readBlock (k : Nat) (ihS : SfS k) {G : mG} {D : Nat} {x : gd} {F : Int32 → gd → Prop} (hD : 4 * k + 21 ≤ D) (hpre : PreK k (-700) x) (hlt : (x.1 0 9).toInt = 0 → LT x) (hF : ∀ r x', QB k x r x' → FB k x r x' → F r x') : MT G D z_readBlock 0 [(0, vr 0)] [] x (ri F) := by
  obtain ⟨D, rfl⟩ : ∃ m, D = m + 21 := ⟨D - 21, by omega⟩
  obtain ⟨pn, n0, c0, k16, nst⟩ := id hpre
  have k0 : (0 : Int32).toInt = 0 := rfl
  have km : (-1 : Int32).toInt = -1 := rfl
  obtain ⟨K, eK⟩ : ∃ K, K = x.1 5 := ⟨_, rfl⟩
  -- the invariant
  obtain ⟨BI, hBI⟩ : ∃ BI : gd → Int32 → Int32 → gR → Nat → Prop, ∀ z fi la R f, BI z fi la R f ↔ (RP x z ∧ (0 < (x.1 0 9).toInt → cr x ≤ cr z) ∧ ((x.1 0 9).toInt = 0 → -(3 * ((k : Int) + 1)) ≤ cr z) ∧ ((z.1 0 9).toInt = 0 → z.1 0 20 = x.1 0 20 ∧ (x.1 0 8).toInt + 1 ≤ (z.1 0 8).toInt ∧ cr x + 2 ≤ cr z ∧ (x.1 0 21).toInt ≤ (z.1 0 21).toInt ∧ LT z ∧ BLf k x z fi la ((z.1 0 8).toInt - (x.1 0 8).toInt - 1).toNat ((z.1 0 21).toInt - (x.1 0 21).toInt).toNat R ∧ 701 ≤ f + (z.1 0 8).toNatClampNeg) ∧ (∀ (v : Nat) (L : gU), (nwo x).bind (fun i => pBk (pS K k) K v (lts x) i L) = (nwo z).bind (fun j => pBl (pS K k) K v f (lts z) j (L ++ ([(20, v, 0)] ++ R.flatMap Prod.snd))))) := ⟨_, fun _ _ _ _ _ => Iff.rfl⟩
  have p81 : ∀ z fi la R f, BI z fi la R f → ((z.1 0 9).toInt = 0 → K (z.1 0 8).toNatClampNeg = 64) → MT G (D + 21) z_readBlock 81 [(0, vr 0), (1, vi (x.1 0 8)), (2, vi fi)] [] z (ri F) := by
    intro z fi la R f hz h64
    obtain ⟨rz, bz, cz, okz, hE⟩ := (hBI z fi la R f).mp hz
    refine sg_readBlock_81 _ _ (sf_pass _ rz.2.1 (fun y hs hst hy => ?_))
    have z5 : z.1 5 = K := by rw [eK]; exact rz.1.2.1 5 (by decide) (by decide)
    rw [z5] at hy
    have cy := (cr_ss hs).1
    have rxy := RP_tr rz (RP_ss hs)
    have low : -1000 ≤ cr y := by
      by_cases q : 0 < (x.1 0 9).toInt
      · have := bz q; omega
      · have := cz (by have := pn.2.2; omega); omega
    refine sp_node _ _ _ _ _ (nodeV rxy n0 low) (fun w hw => ri_i (hF _ _ ?_ (fun v => ?_)))
    · obtain ⟨hn, rw1, nk, cw, z0, z1, f8, f9, f20, f21⟩ := nodeR rxy n0 low hw
      refine ⟨rw1, fun q => by have := cz q; omega, fun q => by have := bz q; omega, z0, fun q => ?_⟩
      rw [f9] at q
      have qz := hs.2.2.2.2 q
      obtain ⟨o1, o2, o3, o4, o5, o6, o7⟩ := okz qz
      have st := hst q
      have cy2 := (cr_ss hs).2 q st
      have e21 : y.1 0 21 = z.1 0 21 := hs.1.1 21 (by decide)
      obtain ⟨g1, g2, g3, g4, g5, -⟩ := nE_at hw
      have hRw : RP z w := RP_tr (RP_ss hs) (RP_nE hs.2.1 hn hw).1
      obtain ⟨q1, q2z, q3z, q4, q5⟩ := o6
      have e13 : y.1 0 13 = z.1 0 13 := hs.1.1 13 (by decide)
      have hm := ln_mem _ fi q2z
      have q2 := ln_keep (NL_RP 0 (z.1 0 13).toInt hRw) _ fi (fun p hp => hm p hp) q2z
      rw [f8, f21, e21]
      refine ⟨by rw [f20, hs.1.1 20 (by decide), o1], by omega, by omega, o4, by unfold LT; rw [f21, e21]; exact o5, ⟨z0, z1⟩, by rw [g5]; exact PN_v pn, g1, R.map Prod.fst, by rw [g2]; exact q2, fun p hp => ?_, by omega, q5⟩
      obtain ⟨p', hp', rfl⟩ := List.mem_map.mp hp
      exact ⟨vS_RP (Int.le_refl _) hRw (q3z p' hp').1, by rw [e13]; exact (hm _ hp).2, (q3z p' hp').2.1⟩
    · obtain ⟨hn, rw1, nk, cw, z0, z1, f8, f9, f20, f21⟩ := nodeR rxy n0 low hw
      have e21 : y.1 0 21 = z.1 0 21 := hs.1.1 21 (by decide)
      have ltw : lts w = lts z := by unfold lts; rw [f21, e21]
      rw [← eK]
      refine ⟨[(20, v, 0)] ++ (R.flatMap Prod.snd ++ [(21, v, 0)]), fun L => ?_, fun q => ?_⟩
      · rw [hE v L, nE_nwo hw, hy, ltw]
        cases hz9 : nwo z with
        | none => rfl
        | some j =>
          obtain ⟨b9, b8⟩ := nwo_is hz9
          have h1 := (okz b9).2.2.2.2.2.2
          have h2 := h64 b9
          rw [b8] at h1 h2
          have jl : j ≤ 700 := by have := rz.2.1.2.1; rw [← b8, t_cl]; omega
          obtain ⟨f, rfl⟩ : ∃ m, f = m + 1 := ⟨f - 1, by omega⟩
          show pBl (pS K k) K v (f + 1) (lts z) j _ = (psw K 64 j).map _
          rw [pBl, if_pos h2, psw]
          by_cases c : j < 700
          · rw [if_pos c, if_pos (show K j = 64 ∧ j < 700 from ⟨h2, c⟩)]
            show some (lts z, j + 1, _) = some (lts z, j + 1, _)
            rw [List.append_assoc, List.append_assoc]
          · rw [if_neg c, if_neg (fun z => c z.2)]
            rfl
      · rw [f9] at q
        have qz := hs.2.2.2.2 q
        obtain ⟨o1, o2, o3, o4, o5, o6, o7⟩ := okz qz
        obtain ⟨q1, q2z, q3z, q4, q5⟩ := o6
        obtain ⟨g1, g2, g3, g4, g5, -⟩ := nE_at hw
        have hRw : RP z w := RP_tr (RP_ss hs) (RP_nE hs.2.1 hn hw).1
        have e13 : y.1 0 13 = z.1 0 13 := hs.1.1 13 (by decide)
        have hm := ln_mem _ fi q2z
        have q2 := ln_keep (NL_RP 0 (z.1 0 13).toInt hRw) _ fi (fun p hp => hm p hp) q2z
        refine ⟨⟨z0, z1⟩, g1, R, by rw [g2]; exact q2, fun p hp => ⟨wS_RP (Int.le_refl _) hRw (q3z p hp).2.2, ?_, (q3z p hp).2.1⟩, rfl⟩
        rw [e13]; exact (hm _ (List.mem_map.mpr ⟨p, hp, rfl⟩)).2
  have body : ∀ z fi la R f, BI z fi la R f → (∀ z' fi' la' R' f', BI z' fi' la' R' f' → ((z'.1 0 9).toInt = 0 → (z.1 0 8).toInt + 1 ≤ (z'.1 0 8).toInt) → MT G (D + 21) z_readBlock 15 [(0, vr 0), (1, vi (x.1 0 8)), (2, vi fi'), (3, vi la')] [] z' (ri F)) → MT G (D + 21) z_readBlock 15 [(0, vr 0), (1, vi (x.1 0 8)), (2, vi fi), (3, vi la)] [] z (ri F) := by
    intro z fi la R f hz next
    obtain ⟨rz, bz, cz, okz, hE⟩ := (hBI z fi la R f).mp hz
    refine sg_readBlock_15 _ _ _ ⟨fun cb => p81 z fi la R f hz (fun q => absurd (t_eq.mpr (q.trans k0.symm)) cb), fun cb => ?_⟩
    have b0 : (z.1 0 9).toInt = 0 := by rw [cb]; rfl
    have x0 := rz.2.2.2.1 b0
    obtain ⟨o1, o2, o3, o4, o5, o6, o7⟩ := okz b0
    obtain ⟨nx1, nx2⟩ := nst x0
    have pz := rz.2.1
    have pz2 := pz.2.1
    have pz1 := pz.1
    have mono := rz.2.2.2.2.1
    have z5 : z.1 5 = K := by rw [eK]; exact rz.1.2.1 5 (by decide) (by decide)
    obtain ⟨j, ej⟩ : ∃ j, j = (z.1 0 8).toNatClampNeg := ⟨_, rfl⟩
    have hj : nwo z = some j := by rw [ej]; exact nwo_o b0
    have jl : j ≤ 700 := by rw [ej, t_cl]; omega
    rw [← ej] at o7
    obtain ⟨f, rfl⟩ : ∃ m, f = m + 1 := ⟨f - 1, by omega⟩
    refine sp_here pz (fun r _ hr => ⟨fun c => p81 z fi la R (f + 1) hz (fun _ => by rw [← z5, ← hr b0]; exact c), fun c => sf_beginsS pz (fun r6 h6 h6b => ⟨fun c6 => ?_, fun c6 => ?_⟩)⟩)
    · have n64 : ¬ K j = 64 := by rw [ej, ← z5, ← hr b0]; exact c
      refine ihS G (D + 20) z _ (by omega) ⟨pz, by omega, by omega, k16, fun _ => ⟨by rw [o1]; exact nx1, by omega⟩⟩ b0 o5 (h6b c6 b0) (fun r9 y hy hfy => ?_)
      obtain ⟨ry, cy, rr, oky⟩ := hy
      obtain ⟨M9, f9, v9⟩ := hfy
      rw [z5] at f9
      have rxy := RP_tr rz ry
      obtain ⟨q1, q2, q3, q4, q5⟩ := o6
      have hm := ln_mem _ fi q2
      have eq : ∀ (w : gd) (p : Int32 × Nat × Nat), nwo w = nwo y → lts w = lts y → ∀ (v : Nat) (L : gU), (nwo x).bind (fun i => pBk (pS K k) K v (lts x) i L) = (nwo w).bind (fun j => pBl (pS K k) K v f (lts w) j (L ++ ([(20, v, 0)] ++ (R ++ [(p, M9)]).flatMap Prod.snd))) := by
        intro w p e1 e2 v L
        rw [hE v L, hj, e1, e2]
        show pBl (pS K k) K v (f + 1) (lts z) j _ = _
        rw [pBl, if_neg n64]
        have f9L := f9 (L ++ ([(20, v, 0)] ++ R.flatMap Prod.snd))
        rw [hj] at f9L
        have f9M : pS K k (lts z) j (L ++ ([(20, v, 0)] ++ R.flatMap Prod.snd)) = (nwo y).map (fun j => (lts y, j, L ++ ([(20, v, 0)] ++ R.flatMap Prod.snd) ++ M9)) := f9L
        rw [f9M]
        cases nwo y with
        | none => rfl
        | some j2 =>
          have e9 : (R ++ [(p, M9)]).flatMap Prod.snd = R.flatMap Prod.snd ++ M9 := by
            rw [List.flatMap_append]
            show _ ++ (M9 ++ []) = _
            rw [List.append_nil]
          show pBl (pS K k) K v f (lts y) j2 (L ++ ([(20, v, 0)] ++ R.flatMap Prod.snd) ++ M9) = pBl (pS K k) K v f (lts y) j2 (L ++ ([(20, v, 0)] ++ (R ++ [(p, M9)]).flatMap Prod.snd))
          rw [e9, List.append_assoc, List.append_assoc]
      refine ⟨fun nl => ?_, fun el => ?_⟩
      · rcases q1 with ⟨-, q1⟩ | ⟨R', p, g1, g2, g3, g3b, g4, g5⟩
        · exact absurd q1 nl
        · have hv : vp_in la 3000 := by
            unfold cr at o3
            rw [vp_in_iff]
            unfold cr at nx2
            omega
          refine ⟨hv, fun w ew => next w fi r9 (R ++ [((r9, ((y.1 0 8).toInt - (z.1 0 8).toInt).toNat, ((y.1 0 21).toInt - (z.1 0 21).toInt).toNat), M9)]) f ?_ (fun q => ?_)⟩
          · obtain ⟨rw1, nl2, cw, f8, f9', f13, f20, f21, fl, fo⟩ := RP_link rxy g3 n0 ew
            have mw := md_a y 20 la.toNatClampNeg r9 (by decide)
            rw [← ew] at mw
            refine (hBI w fi r9 _ f).mpr ⟨rw1, fun q => by omega, fun _ => by omega, fun q => ?_, eq w _ (nwo_e f8 f9') (by unfold lts; rw [f21])⟩
            rw [f9'] at q
            obtain ⟨u1, u2, u3, u4, u5, u6, u7, u8⟩ := oky q
            rw [f8, f20, f21]
            have myz := ry.2.2.2.2.1
            have hry : 0 ≤ r9.toInt ∧ r9.toInt < (y.1 0 13).toInt := u6.1
            refine ⟨by rw [u1, o1], by omega, by omega, by omega, by unfold LT; rw [f21]; exact u5, ⟨Or.inr ⟨R, _, rfl, rfl, by omega, by rw [f13]; exact hry.2, ?_, ?_⟩, ?_, ?_, ?_, ?_⟩, by rw [ej, t_cl] at o7; rw [t_cl]; omega⟩
            · rw [fo _ (by rw [t_cl, t_cl]; omega)]; exact u7
            · intro p2 hp2
              have := (hm p2.1 (List.mem_map.mpr ⟨p2, hp2, rfl⟩)).2
              show p2.1.1.toInt < r9.toInt
              omega
            · rw [g1] at q2 ⊢
              rw [List.map_append, List.map_append, List.append_assoc]
              rw [List.map_append] at q2
              have hk : ∀ j : Nat, (j : Int) < p.1.1.toInt → w.1 20 j = z.1 20 j := by
                intro j hj
                rw [← g2] at hj
                rw [fo j (by rw [t_cl]; omega)]
                exact ry.2.2.2.2.2 20 (by decide) (by decide) j (by omega)
              refine ln_snoc (R'.map Prod.fst) fi p.1 _ q2 w (by rw [f13]; exact myz) (by rw [f13]; exact hry) hk (by rw [← g2]; exact fl) ?_ (fun a ha => ?_)
              · show w.1 20 r9.toNatClampNeg = -1
                rw [fo _ (by rw [t_cl, t_cl]; omega)]; exact u7
              · obtain ⟨a', ha', rfl⟩ := List.mem_map.mp ha
                exact g5 a' ha'
            · intro p2 hp2
              rcases List.mem_append.mp hp2 with hp2 | hp2
              · have hle : p2.1.1.toInt ≤ la.toInt := by
                  rw [g1] at hp2
                  rcases List.mem_append.mp hp2 with hp3 | hp3
                  · have := g5 p2 hp3
                    rw [← g2] at this
                    omega
                  · rw [List.mem_singleton.mp hp3, ← g2]; exact Int.le_refl _
                exact ⟨vS_keep (Int.le_refl _) (nl2 _) _ _ _ _ hle (vS_RP (Int.le_refl _) ry (q3 p2 hp2).1), (q3 p2 hp2).2.1, wS_keep (Int.le_refl _) ⟨nl2 _, mw.2.1 5 (by decide) (by decide), mw.2.1 7 (by decide) (by decide)⟩ _ _ _ hle (wS_RP (Int.le_refl _) ry (q3 p2 hp2).2.2)⟩
              · rw [List.mem_singleton.mp hp2]
                refine ⟨vS_keep mono (l := r9.toInt) ⟨(nl2 0).1, fun j hj hj3 hj2 => fo j (by rw [t_cl]; omega)⟩ _ _ _ _ (Int.le_refl _) u6, ?_, wS_keep mono (l := r9.toInt) ⟨⟨(nl2 0).1, fun j hj hj3 hj2 => fo j (by rw [t_cl]; omega)⟩, mw.2.1 5 (by decide) (by decide), mw.2.1 7 (by decide) (by decide)⟩ _ _ _ (Int.le_refl _) (v9 q)⟩
                show (x.1 0 13).toInt ≤ r9.toInt
                omega
            · rw [List.map_append]
              show sm (fun q => q.2.1) (R.map Prod.fst ++ [(r9, ((y.1 0 8).toInt - (z.1 0 8).toInt).toNat, ((y.1 0 21).toInt - (z.1 0 21).toInt).toNat)]) ≤ _
              rw [sm_app]
              show sm (fun q => q.2.1) (R.map Prod.fst) + ((y.1 0 8).toInt - (z.1 0 8).toInt).toNat ≤ _
              omega
            · rw [List.map_append]
              show sm (fun q => q.2.2) (R.map Prod.fst ++ [(r9, ((y.1 0 8).toInt - (z.1 0 8).toInt).toNat, ((y.1 0 21).toInt - (z.1 0 21).toInt).toNat)]) ≤ _
              rw [sm_app]
              show sm (fun q => q.2.2) (R.map Prod.fst) + ((y.1 0 21).toInt - (z.1 0 21).toInt).toNat ≤ _
              omega
          · obtain ⟨rw1, nl2, cw, f8, f9', f13, f20, f21, fl, fo⟩ := RP_link rxy g3 n0 ew
            rw [f9'] at q
            obtain ⟨u1, u2, -⟩ := oky q
            rw [f8]; omega
      · have hR : R = [] := by
          rcases q1 with ⟨q1, -⟩ | ⟨R', p, g1, g2, g3, g3b, g4, g5⟩
          · exact q1
          · exfalso; rw [el, km] at g3; omega
        refine next y r9 r9 (R ++ [((r9, ((y.1 0 8).toInt - (z.1 0 8).toInt).toNat, ((y.1 0 21).toInt - (z.1 0 21).toInt).toNat), M9)]) f ((hBI y r9 r9 _ f).mpr ⟨rxy, fun q => by omega, fun _ => cy, fun q => ?_, eq y _ rfl rfl⟩) (fun q => ?_)
        · obtain ⟨u1, u2, u3, u4, u5, u6, u7, u8⟩ := oky q
          have hry : 0 ≤ r9.toInt ∧ r9.toInt < (y.1 0 13).toInt := u6.1
          rw [hR]
          refine ⟨by rw [u1, o1], by omega, by omega, by omega, u5, ⟨Or.inr ⟨[], _, rfl, rfl, by omega, hry.2, u7, fun p hp => absurd hp List.not_mem_nil⟩, ⟨rfl, hry, u7⟩, ?_, ?_, ?_⟩, by rw [ej, t_cl] at o7; rw [t_cl]; omega⟩
          · intro p2 hp2
            rw [List.mem_singleton.mp hp2]
            refine ⟨vS_low mono u6, ?_, wS_low mono (v9 q)⟩
            show (x.1 0 13).toInt ≤ r9.toInt
            omega
          · show ((y.1 0 8).toInt - (z.1 0 8).toInt).toNat + 0 ≤ _
            omega
          · show ((y.1 0 21).toInt - (z.1 0 21).toInt).toNat + 0 ≤ _
            omega
        · obtain ⟨u1, u2, -⟩ := oky q
          omega
    · refine sp_fault _ _ (by decide) (PN_v pz) pz (fun y hs hb e8 m => next y fi la R f ((hBI y fi la R f).mpr ⟨RP_tr rz (RP_ss hs), fun q => by omega, fun q => ?_, fun q => by omega, fun v L => ?_⟩) (fun q => by omega))
      · have := (cr_ss hs).1
        have := cz q
        omega
      · rw [hE v L, hj, nwo_b hb]
        show pBl (pS K k) K v (f + 1) (lts z) j _ = none
        have n64 : ¬ K j = 64 := by rw [ej, ← z5, ← hr b0]; exact c
        have nb := h6 c6 b0
        rw [z5, ← ej] at nb
        rw [pBl, if_neg n64, pS_no nb]
        rfl
  have exit : ∀ z fi la R f, BI z fi la R f → ¬ (z.1 0 9).toInt = 0 → MT G (D + 21) z_readBlock 15 [(0, vr 0), (1, vi (x.1 0 8)), (2, vi fi), (3, vi la)] [] z (ri F) := by
    intro z fi la R f hz hb
    refine sg_readBlock_15 _ _ _ ⟨fun _ => p81 z fi la R f hz (fun q => absurd q hb), fun cb => ?_⟩
    rw [t_eq, k0] at cb
    exact absurd cb hb
  have loop : ∀ (n : Nat) (z : gd) (fi la : Int32) (R : gR) (f : Nat), BI z fi la R f → 700 - (z.1 0 8).toInt ≤ n → MT G (D + 21) z_readBlock 15 [(0, vr 0), (1, vi (x.1 0 8)), (2, vi fi), (3, vi la)] [] z (ri F) := by
    intro n
    induction n with
    | zero =>
      intro z fi la R f hz hn
      refine body z fi la R f hz (fun z' fi' la' R' f' hz' hp' => exit z' fi' la' R' f' hz' (fun q => ?_))
      have := hp' q
      have := ((hBI z' fi' la' R' f').mp hz').1.2.1.2.1
      omega
    | succ n ihn =>
      intro z fi la R f hz hn
      refine body z fi la R f hz (fun z' fi' la' R' f' hz' hp' => ?_)
      by_cases q : (z'.1 0 9).toInt = 0
      · exact ihn z' fi' la' R' f' hz' (by have := hp' q; omega)
      · exact exit z' fi' la' R' f' hz' q
  refine sg_readBlock_0 (sf_pass _ pn (fun y hs hst hy => loop _ y _ _ [] 701 ((hBI y (-1) (-1) [] 701).mpr ⟨RP_ss hs, fun _ => (cr_ss hs).1, fun q => ?_, fun q => ?_, fun v L => ?_⟩) (Int.self_le_toNat _)))
  · have := (cr_ss hs).1
    have := nst q
    omega
  · have st := hst q
    have x0 := hs.2.2.2.2 q
    have c2 := (cr_ss hs).2 q st
    have e21 : y.1 0 21 = x.1 0 21 := hs.1.1 21 (by decide)
    exact ⟨hs.1.1 20 (by decide), by omega, by omega, by rw [e21]; exact Int.le_refl _, by unfold LT; rw [e21]; exact hlt x0, ⟨Or.inl ⟨rfl, rfl⟩, rfl, fun p hp => absurd hp List.not_mem_nil, Nat.zero_le _, Nat.zero_le _⟩, by omega⟩
  · have lty : lts y = lts x := by unfold lts; rw [hs.1.1 21 (by decide)]
    rw [hy, lty, ← eK]
    cases hx : nwo x with
    | none => rfl
    | some i =>
      show pBk (pS K k) K v (lts x) i L = (psw K 63 i).bind _
      rw [pBk, psw]
      by_cases c : K i = 63 ∧ i < 700
      · rw [if_pos c, if_pos c]; rfl
      · rw [if_neg c, if_neg c]; rfl
end
section
/-! the grammar's statements as rows of small readings -/
def qS (g h : Nat → gU → gOp) : Nat → gU → gOp := fun i L => (g i L).bind (fun q => h q.1 q.2)
def qT : Nat → gU → gOp := fun i L => (ps1 i).map (fun j => (j, L))
def qP (K : Nat → Int32) (w : Int32) : Nat → gU → gOp := fun i L => pt K w (i, L)
def qV (v : Nat × Nat × Nat) : Nat → gU → gOp := fun i L => pan v (i, L)
def qN (N : gU) : Nat → gU → gOp := fun i L => some (i, L ++ N)
def qC (p : Prop) [Decidable p] : Nat → gU → gOp := fun i L => if p then some (i, L) else none
theorem FX_qS {x y z : gd} {g h : Nat → gU → gOp} {M1 M2 : gU} (a : FX x y g M1) (b : FX y z h M2) : FX x z (qS g h) (M1 ++ M2) := FX_seq a b
theorem FX_qT {x y : gd} (h : nwo y = (nwo x).bind ps1) : FX x y qT [] := FX_step h
theorem FX_qP {x y : gd} {K : Nat → Int32} {w : Int32} (h : nwo y = (nwo x).bind (psw K w)) : FX x y (qP K w) [] := FX_pass h
theorem FX_qV {x y : gd} (v : Nat × Nat × Nat) (h : nwo y = nwo x) : FX x y (qV v) [v] := FX_tell v h
theorem FX_qN {x y : gd} (N : gU) (h : nwo y = nwo x) : FX x y (qN N) N := FX_to (FX_pre N) h
theorem FX_qC {x y : gd} (p : Prop) [Decidable p] (h : nwo y = (nwo x).bind (fun i => if p then some i else none)) : FX x y (qC p) [] := by
  refine FX_nil (fun L => ?_)
  rw [h]
  cases nwo x with
  | none => rfl
  | some i =>
    show (if p then some (i, L) else none) = (if p then some i else none).map _
    by_cases c : p
    · rw [if_pos c, if_pos c]; rfl
    · rw [if_neg c, if_neg c]; rfl
def up3 (c : Nat) (r : gOp) : gTs := r.bind (fun q => some (c, q.1, q.2))
theorem FXs_c {x y : gd} {g : Nat → gU → gOp} {M : gU} (n : Nat) (a : FX x y g M) (h : ∀ j, nwo y = some j → lts y = lts x + n) : FXs x y (fun c i L => up3 (c + n) (g i L)) M := by
  intro L
  show (nwo x).bind (fun i => (g i L).bind (fun q => some (lts x + n, q.1, q.2))) = _
  rw [← Option.bind_assoc, a L]
  cases hy : nwo y with
  | none => rfl
  | some j =>
    show some (lts x + n, j, L ++ M) = some (lts y, j, L ++ M)
    rw [h j hy]
section QS
variable {K : Nat → Int32} {f c i : Nat} {L : gU}
theorem pS_1 (h1 : ¬ K i = 24) (h2 : ¬ K i = 41) (h3 : ¬ K i = 27) : pS K (f + 1) c i L = (ps1 i).bind (fun _ => pS1 K f c i L) := by
  rw [pS, ps1]
  by_cases q : i < 700
  · rw [if_neg (by omega), if_neg h1, if_neg h2, if_neg h3, if_pos q]; rfl
  · rw [if_pos (by omega), if_neg q]; rfl
theorem ps1_is {j : Nat} (h : ps1 i = some j) : j = i + 1 ∧ i < 700 := by
  unfold ps1 at h
  split at h
  · next c => exact ⟨(Option.some.inj h).symm, c⟩
  · exact absurd h (by simp)
theorem pup_up3 {v : Nat × Nat × Nat} {r : gOp} : pup c v r = up3 c (r.bind (fun q => qV v q.1 q.2)) := by
  cases r with
  | none => rfl
  | some q => rfl
theorem pS_one (h : K i = 20 ∨ K i = 31 ∨ K i = 19) : pS K (f + 1) c i L = up3 c (qS qT (qS (qP K 67) (qV (68, i, 0))) i L) := by
  rw [pS_1 (by rcases h with h | h | h <;> rw [h] <;> decide) (by rcases h with h | h | h <;> rw [h] <;> decide) (by rcases h with h | h | h <;> rw [h] <;> decide)]
  unfold qS qT
  cases hp : ps1 i with
  | none => rfl
  | some j =>
    obtain ⟨rfl, hi⟩ := ps1_is hp
    show pS1 K f c i L = up3 c ((pt K 67 (i + 1, L)).bind (fun q => qV (68, i, 0) q.1 q.2))
    rw [pS1, if_neg (by rcases h with h | h | h <;> rw [h] <;> decide), if_neg (by rcases h with h | h | h <;> rw [h] <;> decide), if_pos h, pup_up3]
theorem pS_sum (h : K i = 13 ∨ K i = 14) : pS K (f + 1) c i L = up3 c (qS qT (qS (pX K false f) (qS (qP K 67) (qV (69, i, 0)))) i L) := by
  rw [pS_1 (by rcases h with h | h <;> rw [h] <;> decide) (by rcases h with h | h <;> rw [h] <;> decide) (by rcases h with h | h <;> rw [h] <;> decide)]
  unfold qS qT
  cases hp : ps1 i with
  | none => rfl
  | some j =>
    obtain ⟨rfl, hi⟩ := ps1_is hp
    show pS1 K f c i L = up3 c ((pX K false f (i + 1) L).bind (fun q => (pt K 67 (q.1, q.2)).bind (fun q => qV (69, i, 0) q.1 q.2)))
    rw [pS1, if_neg (by rcases h with h | h <;> rw [h] <;> decide), if_neg (by rcases h with h | h <;> rw [h] <;> decide), if_neg (by rcases h with h | h <;> rw [h] <;> decide), if_pos h, pup_up3, Option.bind_assoc]
theorem pS_call (h : K i = 15) : pS K (f + 1) c i L = up3 c (qS qT (qS (qP K 2) (qS (qP K 68) (qS (pX K false f) (qS (qP K 67) (qV (70, i, i + 1)))))) i L) := by
  rw [pS_1 (by rw [h]; decide) (by rw [h]; decide) (by rw [h]; decide)]
  unfold qS qT qP
  cases hp : ps1 i with
  | none => rfl
  | some j =>
    obtain ⟨rfl, hi⟩ := ps1_is hp
    show pS1 K f c i L = up3 c ((pt K 2 (i + 1, L)).bind (fun q => (pt K 68 (q.1, q.2)).bind (fun q => (pX K false f q.1 q.2).bind (fun q => (pt K 67 (q.1, q.2)).bind (fun q => qV (70, i, i + 1) q.1 q.2)))))
    rw [pS1, if_neg (by rw [h]; decide), if_neg (by rw [h]; decide), if_neg (by rw [h]; decide), if_neg (by rw [h]; decide), if_pos h]
    by_cases c1 : K (i + 1) = 2 ∧ i + 1 < 700
    · have e1 : pt K 2 (i + 1, L) = some (i + 2, L) := if_pos c1
      rw [e1]
      by_cases c2 : K (i + 2) = 68 ∧ i + 2 < 700
      · have e2 : pt K 68 (i + 2, L) = some (i + 3, L) := if_pos c2
        rw [if_pos ⟨c1, c2⟩, pup_up3, Option.bind_assoc]
        show _ = up3 c ((pt K 68 (i + 2, L)).bind _)
        rw [e2]
        rfl
      · have e2 : pt K 68 (i + 2, L) = none := if_neg c2
        rw [if_neg (fun z => c2 z.2)]
        show _ = up3 c ((pt K 68 (i + 2, L)).bind _)
        rw [e2]
        rfl
    · have e1 : pt K 2 (i + 1, L) = none := if_neg c1
      rw [if_neg (fun z => c1 z.1), e1]
      rfl
theorem pS_word {v : Nat} (h : ((K i = 36 ∨ K i = 22 ∨ K i = 38 ∨ K i = 39 ∨ K i = 40) ∧ v = 66) ∨ ((K i = 33 ∨ K i = 25) ∧ v = 67)) : pS K (f + 1) c i L = up3 c (qS qT (qS (qP K 1) (qS (qP K 67) (qV (v, i, i + 1)))) i L) := by
  have hk : K i = 36 ∨ K i = 22 ∨ K i = 38 ∨ K i = 39 ∨ K i = 40 ∨ K i = 33 ∨ K i = 25 := by
    rcases h with ⟨h, -⟩ | ⟨h, -⟩
    · rcases h with h | h | h | h | h
      · exact Or.inl h
      · exact Or.inr (Or.inl h)
      · exact Or.inr (Or.inr (Or.inl h))
      · exact Or.inr (Or.inr (Or.inr (Or.inl h)))
      · exact Or.inr (Or.inr (Or.inr (Or.inr (Or.inl h))))
    · exact Or.inr (Or.inr (Or.inr (Or.inr (Or.inr h))))
  have ne : ∀ w : Int32, (w ≠ 36 ∧ w ≠ 22 ∧ w ≠ 38 ∧ w ≠ 39 ∧ w ≠ 40 ∧ w ≠ 33 ∧ w ≠ 25) → ¬ K i = w := fun w hw e => by
    rw [e] at hk
    obtain ⟨a1, a2, a3, a4, a5, a6, a7⟩ := hw
    rcases hk with h | h | h | h | h | h | h <;> contradiction
  rw [pS_1 (ne _ (by decide)) (ne _ (by decide)) (ne _ (by decide))]
  unfold qS qT qP
  cases hp : ps1 i with
  | none => rfl
  | some j =>
    obtain ⟨rfl, hi⟩ := ps1_is hp
    show pS1 K f c i L = up3 c ((pt K 1 (i + 1, L)).bind (fun q => (pt K 67 (q.1, q.2)).bind (fun q => qV (v, i, i + 1) q.1 q.2)))
    rw [pS1, if_neg (ne _ (by decide)), if_neg (ne _ (by decide)), if_neg (fun q => by rcases q with q | q | q <;> exact ne _ (by decide) q), if_neg (fun q => by rcases q with q | q <;> exact ne _ (by decide) q), if_neg (ne _ (by decide))]
    have body : (if K (i + 1) = 1 ∧ i + 1 < 700 then pup c (v, i, i + 1) (pt K 67 (i + 2, L)) else none) = up3 c ((pt K 1 (i + 1, L)).bind (fun q => (pt K 67 (q.1, q.2)).bind (fun q => qV (v, i, i + 1) q.1 q.2))) := by
      by_cases c1 : K (i + 1) = 1 ∧ i + 1 < 700
      · have e1 : pt K 1 (i + 1, L) = some (i + 2, L) := if_pos c1
        rw [e1, if_pos c1, pup_up3]
        rfl
      · have e1 : pt K 1 (i + 1, L) = none := if_neg c1
        rw [e1, if_neg c1]
        rfl
    rcases h with ⟨h, rfl⟩ | ⟨h, rfl⟩
    · rw [if_pos h]; exact body
    · rw [if_neg (fun q => by rcases h with h | h <;> rw [h] at q <;> revert q <;> decide), if_pos h]; exact body
theorem pS_put (h : K i = 1) (h2 : K (i + 1) = 65) : pS K (f + 1) c i L = up3 c (qS (qN [(7, i, 0)]) (qS qT (qS qT (qS (pX K false f) (qS (qP K 66) (qS (qP K 50) (qS (pX K false f) (qS (qP K 67) (qV (78, i, 0))))))))) i L) := by
  rw [pS_1 (by rw [h]; decide) (by rw [h]; decide) (by rw [h]; decide)]
  show _ = up3 c (((ps1 i).map (fun j => (j, L ++ [(7, i, 0)]))).bind (fun q => qS qT _ q.1 q.2))
  cases hp : ps1 i with
  | none => rfl
  | some j =>
    obtain ⟨rfl, hi⟩ := ps1_is hp
    show pS1 K f c i L = up3 c (((ps1 (i + 1)).map (fun j => (j, L ++ [(7, i, 0)]))).bind (fun q => qS (pX K false f) _ q.1 q.2))
    rw [pS1, if_neg (by rw [h]; decide), if_pos h, if_pos h2, ps1]
    by_cases c1 : i + 1 < 700
    · rw [if_pos c1, if_pos c1, pup_up3, Option.bind_assoc, Option.bind_assoc, Option.bind_assoc, Option.bind_assoc]
      rfl
    · rw [if_neg c1, if_neg c1]; rfl
theorem pS_set (h : K i = 1) (h2 : ¬ K (i + 1) = 65) : pS K (f + 1) c i L = up3 c (qS qT (qS (qP K 50) (qS (pR K f (some i)) (qS (qP K 67) (qV (77, i, 0))))) i L) := by
  rw [pS_1 (by rw [h]; decide) (by rw [h]; decide) (by rw [h]; decide)]
  unfold qS qT qP
  cases hp : ps1 i with
  | none => rfl
  | some j =>
    obtain ⟨rfl, hi⟩ := ps1_is hp
    show pS1 K f c i L = up3 c ((pt K 50 (i + 1, L)).bind (fun q => (pR K f (some i) q.1 q.2).bind (fun q => (pt K 67 (q.1, q.2)).bind (fun q => qV (77, i, 0) q.1 q.2))))
    rw [pS1, if_neg (by rw [h]; decide), if_pos h, if_neg h2]
    by_cases c1 : K (i + 1) = 50 ∧ i + 1 < 700
    · have e1 : pt K 50 (i + 1, L) = some (i + 2, L) := if_pos c1
      rw [e1, if_pos c1, pup_up3, Option.bind_assoc]
      rfl
    · have e1 : pt K 50 (i + 1, L) = none := if_neg c1
      rw [e1, if_neg c1]
      rfl
theorem pS_let (h : K i = 26) : pS K (f + 1) c i L = up3 (c + 1) (qS qT (qS (qP K 1) (qS (qC (c < 8)) (qS (qP K 50) (qS (qN [(23, i + 1, 0)]) (qS (pR K f none) (qS (qP K 67) (qV (22, i + 1, i)))))))) i L) := by
  rw [pS_1 (by rw [h]; decide) (by rw [h]; decide) (by rw [h]; decide)]
  unfold qS qT qP qC qN
  cases hp : ps1 i with
  | none => rfl
  | some j =>
    obtain ⟨rfl, hi⟩ := ps1_is hp
    show pS1 K f c i L = up3 (c + 1) ((pt K 1 (i + 1, L)).bind (fun q => (if c < 8 then some (q.1, q.2) else none).bind (fun q => (pt K 50 (q.1, q.2)).bind (fun q => (pR K f none q.1 (q.2 ++ [(23, i + 1, 0)])).bind (fun q => (pt K 67 (q.1, q.2)).bind (fun q => qV (22, i + 1, i) q.1 q.2))))))
    rw [pS1, if_pos h]
    by_cases c1 : K (i + 1) = 1 ∧ i + 1 < 700
    · have e1 : pt K 1 (i + 1, L) = some (i + 2, L) := if_pos c1
      rw [e1, Option.bind_some]
      by_cases c2 : c < 8
      · rw [if_pos c2, Option.bind_some]
        by_cases c3 : K (i + 2) = 50 ∧ i + 2 < 700
        · have e3 : pt K 50 (i + 2, L) = some (i + 3, L) := if_pos c3
          rw [if_pos ⟨c1, c2, c3⟩, pup_up3, Option.bind_assoc]
          show _ = up3 (c + 1) ((pt K 50 (i + 2, L)).bind _)
          rw [e3]
          rfl
        · have e3 : pt K 50 (i + 2, L) = none := if_neg c3
          rw [if_neg (fun z => c3 z.2.2)]
          show _ = up3 (c + 1) ((pt K 50 (i + 2, L)).bind _)
          rw [e3]
          rfl
      · rw [if_neg c2, if_neg (fun z => c2 z.2.1)]
        rfl
    · have e1 : pt K 1 (i + 1, L) = none := if_neg c1
      rw [if_neg (fun z => c1 z.1), e1]
      rfl
end QS
end
section
/-! one statement at nesting 16 - k -/
def QO (k : Nat) (x : gd) (r : Int32) (x' : gd) : Prop := RP x x' ∧ -(3 * ((k : Int) + 1) + 2) ≤ cr x' ∧ 0 ≤ r.toInt ∧ ((x'.1 0 9).toInt = 0 → x'.1 0 20 = x.1 0 20 ∧ (x.1 0 8).toInt + 2 ≤ (x'.1 0 8).toInt ∧ cr x ≤ cr x' ∧ (x.1 0 21).toInt ≤ (x'.1 0 21).toInt ∧ LT x' ∧ vS x' (x.1 0 13).toInt (k + 2) ((x'.1 0 8).toInt - (x.1 0 8).toInt).toNat ((x'.1 0 21).toInt - (x.1 0 21).toInt).toNat r ∧ x'.1 20 r.toNatClampNeg = -1 ∧ (x.1 0 13).toInt ≤ r.toInt)
/-- a statement ends with its node -/
theorem endO {k : Nat} {x z w : gd} {q a b c t : Int32} (rz : RP x z) (n0 : 0 ≤ (x.1 0 13).toInt) (k16 : k ≤ 16) (low : -(3 * ((k : Int) + 1) + 1) ≤ cr z) (ht : vp_in t 710) (hw : nE z w q a b c t) (ok : (z.1 0 9).toInt = 0 → z.1 0 20 = x.1 0 20 ∧ (x.1 0 8).toInt + 2 ≤ (z.1 0 8).toInt ∧ cr x + 1 ≤ cr z ∧ (x.1 0 21).toInt ≤ (z.1 0 21).toInt ∧ LT z ∧ vD z (x.1 0 13).toInt (vS z (x.1 0 13).toInt (k + 1)) ((z.1 0 8).toInt - (x.1 0 8).toInt).toNat ((z.1 0 21).toInt - (x.1 0 21).toInt).toNat q a b c (z.1 0 13)) : QO k x (z.1 0 13) w := by
  obtain ⟨hn, rw1, nk, cw, z0, z1, f8, f9, f20, f21⟩ := nodeR rz n0 (by omega) hw
  obtain ⟨g1, g2, g3, g4, g5, g6⟩ := nE_at hw
  refine ⟨rw1, by omega, z0, fun h => ?_⟩
  rw [f9] at h
  obtain ⟨o1, o2, o3, o4, o5, o6⟩ := ok h
  have rzw := (RP_nE rz.2.1 hn hw).1
  rw [f8, f21, f20]
  refine ⟨o1, o2, by omega, o4, by unfold LT; rw [f21]; exact o5, ⟨⟨z0, z1⟩, by rw [g5]; exact ht, by omega, ?_⟩, g6, rz.2.2.2.2.1⟩
  rw [g1, g2, g3, g4]
  exact vD_keep (Int.le_refl _) (NL_RP _ (z.1 0 13).toInt rzw) (fun _ _ _ _ g => vS_RP (Int.le_refl _) rzw g) (Int.le_refl _) o6
/-- ... or with one more token -/
theorem endP {k : Nat} {x w y : gd} {r : Int32} (h : QO k x r w) (hs : SS w y) (hst : (y.1 0 9).toInt = 0 → (y.1 0 8).toInt = (w.1 0 8).toInt + 1) : QO k x r y := by
  obtain ⟨h1, h2, h3, h4⟩ := h
  have c1 := cr_ss hs
  refine ⟨RP_tr h1 (RP_ss hs), by omega, h3, fun q => ?_⟩
  obtain ⟨o1, o2, o3, o4, o5, o6, o7, o8⟩ := h4 (hs.2.2.2.2 q)
  have e21 : y.1 0 21 = w.1 0 21 := hs.1.1 21 (by decide)
  have e20 : y.1 0 20 = w.1 0 20 := hs.1.1 20 (by decide)
  have st := hst q
  rw [e20, e21]
  refine ⟨o1, by omega, by omega, o4, by unfold LT; rw [e21]; exact o5, vS_mono (by omega) (vS_RP (Int.le_refl _) (RP_ss hs) o6), ?_, o8⟩
  rw [(RP_ss hs).2.2.2.2.2 20 (by decide) (by decide) _ (by rw [t_cl]; have := o6.1; omega)]
  exact o7
end
section
/-! one statement: what its node tells -/
section QB
variable {K : Nat → Int32} {f c i : Nat} {L : gU}
theorem pS_while (h : K i = 41) : pS K (f + 1) c i L = (up3 c (qS qT (qS (pX K false f) (qV (61, i, 0))) i L)).bind (fun q => pBk (pS K f) K 1 q.1 q.2.1 q.2.2) := by
  rw [pS]
  unfold qS qT
  by_cases q : i < 700
  · rw [if_neg (by omega), if_neg (by rw [h]; decide), if_pos h, ps1, if_pos q]
    show (pX K false f (i + 1) L).bind _ = (up3 c ((pX K false f (i + 1) L).bind _)).bind _
    cases pX K false f (i + 1) L with
    | none => rfl
    | some z => rfl
  · rw [if_pos (by omega), ps1, if_neg q]; rfl
theorem pS_lock (h : K i = 27) : pS K (f + 1) c i L = (up3 c (qS qT (qS (qP K 1) (qV (65, i, i + 1))) i L)).bind (fun q => pBk (pS K f) K 2 q.1 q.2.1 q.2.2) := by
  rw [pS]
  unfold qS qT qP
  by_cases q : i < 700
  · rw [if_neg (by omega), if_neg (by rw [h]; decide), if_neg (by rw [h]; decide), if_pos h, ps1, if_pos q]
    show _ = (up3 c ((pt K 1 (i + 1, L)).bind _)).bind _
    by_cases c1 : K (i + 1) = 1 ∧ i + 1 < 700
    · have e1 : pt K 1 (i + 1, L) = some (i + 2, L) := if_pos c1
      rw [e1, if_pos c1]
      rfl
    · have e1 : pt K 1 (i + 1, L) = none := if_neg c1
      rw [e1, if_neg c1]
      rfl
  · rw [if_pos (by omega), ps1, if_neg q]; rfl
theorem pS_if (h : K i = 24) : pS K (f + 1) c i L = (((up3 c (qS qT (qS (pX K false f) (qV (60, i, 0))) i L)).bind (fun q => pBk (pS K f) K 3 q.1 q.2.1 q.2.2)).bind (fun q => pEl (pS K f) K (q.1, q.2.1, q.2.2))).bind (fun q => pfi (q.1, q.2.1, q.2.2)) := by
  rw [pS]
  unfold qS qT
  by_cases q : i < 700
  · rw [if_neg (by omega), if_pos h, ps1, if_pos q]
    show (pX K false f (i + 1) L).bind _ = (((up3 c ((pX K false f (i + 1) L).bind _)).bind _).bind _).bind _
    cases pX K false f (i + 1) L with
    | none => rfl
    | some z => rfl
  · rw [if_pos (by omega), ps1, if_neg q]; rfl
end QB
def FOs (k : Nat) (x : gd) (r : Int32) (x' : gd) : Prop := ∃ M, FXs x x' (pS (x.1 5) (k + 1)) M ∧ ((x'.1 0 9).toInt = 0 → wSt x' (x.1 0 13).toInt (k + 2) r M)
theorem endF {k : Nat} {x z w : gd} {q a b c t : Int32} {M : gU} (rz : RP x z) (n0 : 0 ≤ (x.1 0 13).toInt) (low : -1000 ≤ cr z) (hw : nE z w q a b c t) (hq : ¬ q = 32) (hd : wD z (x.1 0 13).toInt (wSt z (x.1 0 13).toInt (k + 1)) t.toNatClampNeg q a b c (z.1 0 13) M) : wSt w (x.1 0 13).toInt (k + 2) (z.1 0 13) M := by
  obtain ⟨hn, rw1, nk, cw, z0, z1, f8, f9, f20, f21⟩ := nodeR rz n0 low hw
  obtain ⟨g1, g2, g3, g4, g5, -⟩ := nE_at hw
  have rzw := (RP_nE rz.2.1 hn hw).1
  refine ⟨⟨z0, z1⟩, by rw [g1]; exact hq, ?_⟩
  rw [g1, g2, g3, g4, g5]
  exact wD_keep (Int.le_refl _) (NX_RP _ (z.1 0 13).toInt rzw) (fun _ _ _ g => wS_RP (Int.le_refl _) rzw g) (fun _ _ g => wS_at g) (Int.le_refl _) hd
theorem nE_lts {x x' : gd} {w a b c t : Int32} (h : nE x x' w a b c t) : lts x' = lts x := by
  unfold lts; rw [h.1.1 21 (by decide)]
theorem SS_lts {x x' : gd} (h : SS x x') : lts x' = lts x := by
  unfold lts; rw [h.1.1 21 (by decide)]
theorem FXs_fi {x y : gd} (h : nwo y = nwo x) (hl : lts y = lts x) : FXs x y (fun c i L => pfi (c, i, L)) [(63, 0, 0)] := by
  intro L
  rw [h, hl]
  cases nwo x with
  | none => rfl
  | some i => rfl
end
section

end
section
/-! readIf: what it reads -/
theorem pS_63 {K : Nat → Int32} {k c i : Nat} {L : gU} {q : Nat × Nat × gU} (h : pS K k c i L = some q) (hK : K i = 24) : ∃ N, q.2.2 = N ++ [(63, 0, 0)] := by
  cases k with
  | zero => exact absurd h (by simp [pS])
  | succ f =>
    rw [pS] at h
    split at h
    · exact absurd h (by simp)
    · obtain ⟨z, hz, h2⟩ := Option.bind_eq_some_iff.mp h
      obtain ⟨y, hy, h4⟩ := Option.bind_eq_some_iff.mp h2
      unfold pfi at h4
      cases Option.some.inj h4
      exact ⟨y.2.2, rfl⟩
theorem sf_readIf (k : Nat) (ihS : SfS k) {G : mG} {D : Nat} {x : gd} {F : Int32 → gd → Prop} (hD : 4 * k + 22 ≤ D) (hpre : PreK k 0 x) (hb : (x.1 0 9).toInt = 0) (hlt : LT x) (hK : x.1 5 (x.1 0 8).toNatClampNeg = 24) (hF : ∀ r x', QO k x r x' → FOs k x r x' → F r x') : MT G D z_readIf 0 [(0, vr 0)] [] x (ri F) := by
  obtain ⟨D, rfl⟩ : ∃ m, D = m + 22 := ⟨D - 22, by omega⟩
  obtain ⟨pn, n0, c0, k16, nst⟩ := id hpre
  obtain ⟨i, ei⟩ : ∃ i, i = (x.1 0 8).toNatClampNeg := ⟨_, rfl⟩
  have hi : nwo x = some i := by rw [ei]; exact nwo_o hb
  obtain ⟨K, eK⟩ : ∃ K, K = x.1 5 := ⟨_, rfl⟩
  rw [← eK, ← ei] at hK
  refine sg_readIf_0 (sf_step pn (fun y1 s1 t1 h1 => sf_E k (g := 0) _ _ (by omega) (by decide) (PreK_ss hpre s1) (fun r3 y2 h2 hf2 => ?_)))
  obtain ⟨r2, l2, c2, u2, rr2, ok2⟩ := h2
  obtain ⟨M2, f2, v2⟩ := FE_0 hf2
  have k1 : y1.1 5 = K := by rw [eK]; exact s1.1.2.1 5 (by decide) (by decide)
  rw [k1] at f2
  have k2 : y2.1 5 = K := (r2.1.2.1 5 (by decide) (by decide)).trans k1
  have c1 := cr_ss s1
  have e1 : y1.1 0 21 = x.1 0 21 := s1.1.1 21 (by decide)
  have e1d : y1.1 0 20 = x.1 0 20 := s1.1.1 20 (by decide)
  have rx2 := RP_tr (RP_ss s1) r2
  have lt2 : LT y2 := by unfold LT; rw [l2, e1]; exact hlt
  have lts2 : lts y2 = lts x := by unfold lts; rw [l2, e1]
  have pre2 : PreK k (-700) y2 := PreK_rp hpre rx2 (by omega) (fun q => by
    obtain ⟨a1, a2, a3, a4⟩ := ok2 q
    exact ⟨by rw [a1, e1d], by omega⟩)
  refine sf_readBlock k ihS (by omega) pre2 (fun _ => lt2) (fun r5 y4 h4 hf4 => ?_)
  obtain ⟨r4, c4, d4, rr4, ok4⟩ := h4
  obtain ⟨M4, f4, v4⟩ := hf4 3
  rw [k2] at f4
  have k4 : y4.1 5 = K := (r4.1.2.1 5 (by decide) (by decide)).trans k2
  have rx4 := RP_tr rx2 r4
  have b2 := pre2.1.2.2.1
  have low4 : -(3 * ((k : Int) + 1) + 1) ≤ cr y4 := by
    by_cases q : (y2.1 0 9).toInt = 0
    · exact c4 q
    · have := d4 (by omega); omega
  -- what holds when all went well so far
  have good4 : (y4.1 0 9).toInt = 0 → y4.1 0 20 = x.1 0 20 ∧ (x.1 0 8).toInt + 4 ≤ (y4.1 0 8).toInt ∧ cr x + 6 ≤ cr y4 ∧ (x.1 0 21).toInt ≤ (y4.1 0 21).toInt ∧ LT y4 ∧ ∃ i j c1 : Nat, (i : Int) + j + 1 ≤ (y4.1 0 8).toInt - (x.1 0 8).toInt ∧ (c1 : Int) ≤ (y4.1 0 21).toInt - (x.1 0 21).toInt ∧ vE y4 i i 17 r3 ∧ vB y4 (x.1 0 13).toInt (vS y4 (x.1 0 13).toInt (k + 1)) j c1 r5 := by
    intro q
    obtain ⟨o1, o2, o3, o4, o5, o6⟩ := ok4 q
    have q2 := r4.2.2.2.1 q
    obtain ⟨a1, a2, a3, a4⟩ := ok2 q2
    have q1 := r2.2.2.2.1 q2
    have st := t1 q1
    have cs := c1.2 q1 st
    have e2 : (y2.1 0 21).toInt = (x.1 0 21).toInt := by rw [l2, e1]
    have o9 := vB_keep rx2.2.2.2.2.1 (l := r5.toInt) ⟨NK_rfl y4, fun _ _ _ _ => rfl⟩ (fun _ _ _ _ g => vS_low rx2.2.2.2.2.1 g) (Int.le_refl _) o6
    exact ⟨by rw [o1, a1, e1d], by omega, by omega, by omega, o5, ((y2.1 0 8).toInt - (y1.1 0 8).toInt).toNat, ((y4.1 0 8).toInt - (y2.1 0 8).toInt).toNat, ((y4.1 0 21).toInt - (y2.1 0 21).toInt).toNat, by omega, by omega, vE_RP r4 a4, o9⟩
  have chain : FXs x y4 (fun c i' L => (up3 c (qS qT (qS (pX K false k) (qV (60, i, 0))) i' L)).bind (fun q => pBk (pS K k) K 3 q.1 q.2.1 q.2.2)) (((M2 ++ [(54, 0, 0)]) ++ [(60, i, 0)]) ++ M4) := by
    have c9 := FX_qS (FX_qT h1) (FX_qS (FX_X f2) (FX_qV (60, i, 0) rfl))
    exact FXs_seq (FXs_c 0 c9 (fun _ _ => lts2)) f4
  have p55 : ∀ (z : gd) (l4 : Int32), RP y4 z → -(3 * ((k : Int) + 1) + 1) ≤ cr z → ((z.1 0 9).toInt = 0 → z.1 0 20 = y4.1 0 20 ∧ cr y4 ≤ cr z ∧ (y4.1 0 21).toInt ≤ (z.1 0 21).toInt ∧ LT z ∧ (l4 = -1 ∨ (l4.toInt < (z.1 0 13).toInt ∧ ∃ q c2 : Nat, (q : Int) ≤ (z.1 0 8).toInt - (y4.1 0 8).toInt ∧ (c2 : Int) ≤ (z.1 0 21).toInt - (y4.1 0 21).toInt ∧ (vB z (x.1 0 13).toInt (vS z (x.1 0 13).toInt (k + 1)) q c2 l4 ∨ vS z (x.1 0 13).toInt (k + 1) q c2 l4)))) → (∃ M3, FXs y4 z (fun c j L => pEl (pS K k) K (c, j, L)) M3 ∧ ((z.1 0 9).toInt = 0 → (l4 = -1 ∧ M3 = []) ∨ (l4.toInt < (z.1 0 13).toInt ∧ 0 ≤ l4.toInt ∧ ∃ j N4, M3 = [(62, j, 0)] ++ N4 ∧ (wB z (x.1 0 13).toInt (wSt z (x.1 0 13).toInt (k + 1)) 4 l4 N4 ∨ (¬ z.1 15 l4.toNatClampNeg = 32 ∧ wSt z (x.1 0 13).toInt (k + 1) l4 N4 ∧ ∃ N5, N4 = N5 ++ [(63, 0, 0)]))))) → MT G (D + 22) z_readIf 55 [(0, vr 0), (1, vi (x.1 0 8)), (2, vi r3), (3, vi r5), (4, vi l4)] [] z (ri F) := by
    intro z l4 rz lz okz hfz
    have rxz := RP_tr rx4 rz
    refine sg_readIf_55 _ _ _ _ (sp_node _ _ _ _ _ (nodeV rxz n0 (by omega)) (fun w hw => ri_i (hF _ _ (endO rxz n0 k16 lz (PN_v pn) hw (fun q => ?_)) ?_)))
    · obtain ⟨a1, a2, a3, a4, a5⟩ := okz q
      have q4 := rz.2.2.2.1 q
      obtain ⟨o1, o2, o3, o4, o5, i, j, c1, o6, o7, o8, o9⟩ := good4 q4
      have mn := rz.2.2.1
      have mz := rz.2.2.2.2.1
      have hr5 := o9.1
      refine ⟨by rw [a1, o1], by omega, by omega, by omega, a4, Or.inr (Or.inr (Or.inr (Or.inl ⟨rfl, ?_⟩)))⟩
      have o8' := vE_RP rz o8
      have o9' := vB_RP (Int.le_refl _) rz o9
      rcases a5 with a5 | ⟨a5, q', c2, a6, a7, a8⟩
      · exact ⟨i, j, 0, c1, 0, by omega, by omega, o8', o9', by omega, Or.inl a5⟩
      · exact ⟨i, j, q', c1, c2, by omega, by omega, o8', o9', by omega, Or.inr ⟨a5, a8⟩⟩
    · obtain ⟨M3, f3, v3⟩ := hfz
      have all := FXs_seq (FXs_seq chain f3) (FXs_fi (nE_nwo hw) (nE_lts hw))
      refine ⟨_, FXs_eq all (fun i' hi' L => ?_), fun q => ?_⟩
      · have e : i' = i := Option.some.inj (hi'.symm.trans hi)
        subst e
        rw [← eK, pS_if hK]
      · have f9 : w.1 0 9 = z.1 0 9 := hw.1.1 9 (by decide)
        rw [f9] at q
        have q4 := rz.2.2.2.1 q
        have q2 := r4.2.2.2.1 q4
        obtain ⟨⟨n, ve⟩, -⟩ := v2 q2
        have wb := wB_RP (Int.le_refl _) rz (wB_low rx2.2.2.2.2.1 (v4 q4))
        have wl := wb.1.2
        refine endF rxz n0 (by omega) hw (by decide) (Or.inr (Or.inr (Or.inr (Or.inl ⟨rfl, n, M2, M4, M3, vV_RP rz (vV_RP r4 ve), wb, wl, v3 q, ?_⟩))))
        rw [← ei]
        simp only [List.append_assoc]
  have pn4 := r4.2.1
  refine sf_take _ pn4 (fun h18 => ⟨fun _ => p55 y4 _ (RP_rf pn4) low4 (fun q => ⟨rfl, Int.le_refl _, Int.le_refl _, (good4 q).2.2.2.2.1, Or.inl rfl⟩) ⟨[], fun L => ?_, fun _ => Or.inl ⟨rfl, rfl⟩⟩, fun q => absurd rfl q⟩) (fun y6 j hj h18 b4 s6 t6 h6 => ⟨fun q => absurd q (by decide), fun _ => ?_⟩)
  · rw [List.append_nil]
    cases h9 : nwo y4 with
    | none => rfl
    | some j =>
      have q := h18 j h9
      rw [k4] at q
      show pEl (pS K k) K (lts y4, j, L) = some (lts y4, j, L)
      unfold pEl
      rw [if_neg q]
  obtain ⟨o1, o2, o3, o4, o5, -⟩ := good4 b4
  have c6 := cr_ss s6
  have r46 := RP_ss s6
  have rx6 := RP_tr rx4 r46
  have k6 : y6.1 5 = K := (s6.1.2.1 5 (by decide) (by decide)).trans k4
  have e6 : y6.1 0 21 = y4.1 0 21 := s6.1.1 21 (by decide)
  have e6d : y6.1 0 20 = y4.1 0 20 := s6.1.1 20 (by decide)
  have lt6 : LT y6 := by unfold LT; rw [e6]; exact o5
  have lts6 : lts y6 = lts y4 := by unfold lts; rw [e6]
  have pre6 : PreK k 0 y6 := PreK_rp hpre rx6 (by omega) (fun q => ⟨by rw [e6d, o1], by omega⟩)
  have b6 := pre6.1.2.2.1
  have m6 := rx6.2.2.2.2.1
  rw [k4] at h18
  have hel : ∀ c L, pEl (pS K k) K (c, j, L) = (ps1 j).bind (fun j1 => if K j1 = 24 then pS K k c j1 (L ++ [(62, j, 0)]) else pBk (pS K k) K 4 c j1 (L ++ [(62, j, 0)])) := fun c L => by
    unfold pEl ps1
    rw [if_pos h18]
    by_cases q : j < 700
    · rw [if_pos q, if_pos q]; rfl
    · rw [if_neg q, if_neg q]; rfl
  refine sp_here s6.2.1 (fun r10 hz10 hr10 => ⟨fun n24 => ?_, fun e => ?_⟩)
  · refine sf_readBlock k ihS (by omega) (PreK_w pre6 (by decide)) (fun _ => lt6) (fun r13 y12 h12 hf12 => ?_)
    obtain ⟨r12, c12, d12, rr12, ok12⟩ := h12
    obtain ⟨M12, f12, v12⟩ := hf12 4
    rw [k6] at f12
    refine p55 y12 r13 (RP_tr r46 r12) ?_ (fun q => ?_) ⟨[(62, j, 0)] ++ M12, fun L => ?_, fun q => ?_⟩
    · by_cases q : (y6.1 0 9).toInt = 0
      · exact c12 q
      · have := d12 (by omega); omega
    · obtain ⟨a1, a2, a3, a4, a5, a6⟩ := ok12 q
      have n12 := (RP_ss s6).2.2.1
      rw [e6] at a4 a6
      exact ⟨by rw [a1, e6d], by omega, a4, a5, Or.inr ⟨a6.1.2, ((y12.1 0 8).toInt - (y6.1 0 8).toInt).toNat, ((y12.1 0 21).toInt - (y4.1 0 21).toInt).toNat, by omega, by omega, Or.inl (vB_keep m6 (l := r13.toInt) ⟨NK_rfl y12, fun _ _ _ _ => rfl⟩ (fun _ _ _ _ g => vS_low m6 g) (Int.le_refl _) a6)⟩⟩
    · have e12 := f12 (L ++ [(62, j, 0)])
      rw [h6, lts6] at e12
      rw [hj]
      show pEl (pS K k) K (lts y4, j, L) = _
      rw [hel, ← List.append_assoc, ← e12]
      cases hp : ps1 j with
      | none => rfl
      | some j1 =>
        rw [hp] at h6
        obtain ⟨b9, b8⟩ := nwo_is h6
        have : ¬ K j1 = 24 := by
          rw [← b8, ← k6, ← hr10 b9]
          exact n24
        show (if K j1 = 24 then _ else _) = _
        rw [if_neg this]
        rfl
    · obtain ⟨a1, a2, a3, a4, a5, a6⟩ := ok12 q
      exact Or.inr ⟨a6.1.2, a6.1.1, j, M12, rfl, Or.inl (wB_low m6 (v12 q))⟩
  · have hb6 : (y6.1 0 9).toInt = 0 := by
      rcases Int.lt_or_le 0 (y6.1 0 9).toInt with q | q
      · rw [hz10 q] at e; exact absurd e (by decide)
      · omega
    refine ihS G (D + 21) y6 _ (by omega) pre6 hb6 lt6 (by rw [← hr10 hb6, e]; exact Or.inr (Or.inr (Or.inl rfl))) (fun r15 y14 h14 hf14 => ?_)
    obtain ⟨r14, c14, rr14, ok14⟩ := h14
    obtain ⟨M14, f14, v14⟩ := hf14
    rw [k6] at f14
    refine p55 y14 r15 (RP_tr r46 r14) (by omega) (fun q => ?_) ⟨[(62, j, 0)] ++ M14, fun L => ?_, fun q => ?_⟩
    · obtain ⟨a1, a2, a3, a4, a5, a6, -⟩ := ok14 q
      have n12 := (RP_ss s6).2.2.1
      rw [e6] at a4 a6
      exact ⟨by rw [a1, e6d], by omega, a4, a5, Or.inr ⟨a6.1.2, ((y14.1 0 8).toInt - (y6.1 0 8).toInt).toNat, ((y14.1 0 21).toInt - (y4.1 0 21).toInt).toNat, by omega, by omega, Or.inr (vS_low m6 a6)⟩⟩
    · have e14 := f14 (L ++ [(62, j, 0)])
      rw [h6, lts6] at e14
      rw [hj]
      show pEl (pS K k) K (lts y4, j, L) = _
      rw [hel, ← List.append_assoc, ← e14]
      cases hp : ps1 j with
      | none => rfl
      | some j1 =>
        rw [hp] at h6
        obtain ⟨b9, b8⟩ := nwo_is h6
        have : K j1 = 24 := by
          rw [← b8, ← k6, ← hr10 b9]
          exact e
        show (if K j1 = 24 then _ else _) = _
        rw [if_pos this]
        rfl
    · obtain ⟨a1, a2, a3, a4, a5, a6, -⟩ := ok14 q
      have w14 := v14 q
      refine Or.inr ⟨a6.1.2, a6.1.1, j, M14, rfl, Or.inr ⟨w14.2.1, wS_low m6 w14, ?_⟩⟩
      have e14 := f14 []
      rw [nwo_o q, nwo_o hb6] at e14
      have e14 : pS K k (lts y6) (y6.1 0 8).toNatClampNeg [] = some (lts y14, (y14.1 0 8).toNatClampNeg, [] ++ M14) := e14
      obtain ⟨N5, e5⟩ := pS_63 e14 (by rw [← k6, ← hr10 hb6]; exact e)
      exact ⟨N5, e5⟩
end
section
theorem RP_21 {z y : gd} {v : Int32} (hp : PN z) (e : y = si z 0 21 v) : RP z y ∧ cr y = cr z ∧ y.1 0 8 = z.1 0 8 ∧ y.1 0 9 = z.1 0 9 ∧ y.1 0 13 = z.1 0 13 ∧ y.1 0 20 = z.1 0 20 ∧ y.1 0 21 = v := by
  have m := md_f z 21 v
  rw [← e] at m
  have c8 : y.1 0 8 = z.1 0 8 := m.1 8 (by decide)
  have c9 : y.1 0 9 = z.1 0 9 := m.1 9 (by decide)
  have c13 : y.1 0 13 = z.1 0 13 := m.1 13 (by decide)
  refine ⟨⟨md_w m (by decide) (by decide), ⟨by rw [c8]; exact hp.1, by rw [c8]; exact hp.2.1, by rw [c9]; exact hp.2.2.1, TX_md m (by decide) (by decide) (by decide) (by decide) hp.2.2.2⟩, by rw [c8]; exact Int.le_refl _, fun q => by rw [← c9]; exact q, by rw [c13]; exact Int.le_refl _, fun c h1 h2 j hj => ?_⟩, by unfold cr; rw [c8, c13], c8, c9, c13, m.1 20 (by decide), by rw [e, si_get, if_pos ⟨rfl, rfl⟩]⟩
  rw [m.2.1 c (by omega) (by intro q; cases q)]
end
