theorem PreK_rp {k : Nat} {f g : Int} {x y : gd} (hp : PreK k f x) (h : RP x y) (hc : g ≤ cr y) (ho : (y.1 0 9).toInt = 0 → y.1 0 20 = x.1 0 20 ∧ cr x ≤ cr y) : PreK k g y := by
  obtain ⟨pn, n0, c0, k16, nst⟩ := hp
  have mono := h.2.2.2.2.1
  refine ⟨h.2.1, by omega, hc, k16, fun q => ?_⟩
  obtain ⟨o1, o2⟩ := ho q
  obtain ⟨n1, n2⟩ := nst (h.2.2.2.1 q)
  exact ⟨by rw [o1]; exact n1, by omega⟩
theorem PreK_w {k : Nat} {f g : Int} {x : gd} (hp : PreK k f x) (h : g ≤ f) : PreK k g x := ⟨hp.1, hp.2.1, Int.le_trans h hp.2.2.1, hp.2.2.2⟩
theorem PreK_ss {k : Nat} {f : Int} {x y : gd} (hp : PreK k f x) (h : SS x y) : PreK k f y := by
  have c := (cr_ss h).1
  have := hp.2.2.1
  exact PreK_rp hp (RP_ss h) (by omega) (fun _ => ⟨h.1.1 20 (by decide), c⟩)
/-- a node behind what was read: its place and parts -/
theorem nodeR {x z w : gd} {q a b c t : Int32} (rz : RP x z) (n0 : 0 ≤ (x.1 0 13).toInt) (cz : -1000 ≤ cr z) (hw : nE z w q a b c t) : vp_in (z.1 0 13) 3000 ∧ RP x w ∧ NK z w ∧ cr w = cr z - 1 ∧ 0 ≤ (z.1 0 13).toInt ∧ (z.1 0 13).toInt < (w.1 0 13).toInt ∧ w.1 0 8 = z.1 0 8 ∧ w.1 0 9 = z.1 0 9 ∧ w.1 0 20 = z.1 0 20 ∧ w.1 0 21 = z.1 0 21 := by
  have pz := rz.2.1
  have mono := rz.2.2.2.2.1
  have hn : vp_in (z.1 0 13) 3000 := cr_nv pz (by omega) cz
  obtain ⟨r1, q1⟩ := RP_nE pz hn hw
  exact ⟨hn, RP_tr rz r1, NK_RP r1, cr_nE pz hn hw, by omega, by omega, hw.1.1 8 (by decide), hw.1.1 9 (by decide), hw.1.1 20 (by decide), hw.1.1 21 (by decide)⟩
theorem nodeV {x z : gd} (rz : RP x z) (n0 : 0 ≤ (x.1 0 13).toInt) (cz : -1000 ≤ cr z) : vp_in (z.1 0 13) 3000 := by
  have mono := rz.2.2.2.2.1
  exact cr_nv rz.2.1 (by omega) cz
theorem sp_readR (k : Nat) {G : mG} {D : Nat} {x : gd} {F : Int32 → gd → Prop} (hD : 2 * k + 10 ≤ D) (hpre : PreK k (-800) x) (hF : ∀ r x', QR k x r x' → F r x') : MT G D z_readR 0 [(0, vr 0)] [] x (ri F) := by
  obtain ⟨D, rfl⟩ : ∃ m, D = m + 10 := ⟨D - 10, by omega⟩
  obtain ⟨pn, n0, c0, k16, nst⟩ := id hpre
  have p2 := pn.2.1
  have p154 : MT G (D + 10) z_readR 154 [(0, vr 0), (1, vi (x.1 0 8))] [] x (ri F) := by
    refine sg_readR_154 _ (sp_E k _ _ (by omega) hpre (fun r y h => ?_))
    obtain ⟨ry, ly, cy, by0, rr, oky⟩ := h
    refine sp_node _ _ _ _ _ (nodeV ry n0 (by omega)) (fun w hw => ri_i (hF _ _ ?_))
    obtain ⟨hn, rw1, nk, cw, z0, z1, f8, f9, f20, f21⟩ := nodeR ry n0 (by omega) hw
    refine ⟨rw1, by rw [f21, ly], by omega, fun q => by rw [cw, by0 q]; omega, z0, fun q => ?_⟩
    rw [f9] at q
    obtain ⟨o1, o2, o3, o4⟩ := oky q
    obtain ⟨g1, g2, g3, g4, g5, -⟩ := nE_at hw
    rw [f8]
    refine ⟨ry.2.2.2.1 q, by rw [f20, o1], o2, by omega, ⟨⟨z0, z1⟩, by rw [g5]; exact PN_v pn, Or.inl ⟨g1, ?_⟩⟩⟩
    rw [g2]
    exact vE_NK nk o4
  have p28 : ∀ l2 : Int32, (l2 = 35 ∨ l2 = 10 ∨ l2 = 16) → MT G (D + 10) z_readR 28 [(0, vr 0), (1, vi (x.1 0 8)), (2, vi l2)] [] x (ri F) := by
    intro l2 hl2
    refine sg_readR_28 _ _ (sp_step pn (fun y1 hs1 hst1 => ?_))
    have c1 := (cr_ss hs1).1
    have pk1 := PreK_ss hpre hs1
    refine sp_readPlace k (by omega) (PreK_w pk1 (by decide)) (fun r3 y2 h2 => ?_)
    obtain ⟨r2, l2', cc2, bb2, rr2, ok2⟩ := h2
    refine sp_pass _ r2.2.1 (fun y3 hs3 hst3 => ?_)
    have c3 := (cr_ss hs3).1
    have r13 : RP y1 y3 := RP_tr r2 (RP_ss hs3)
    have pk3 : PreK k (-900) y3 := PreK_rp pk1 r13 (by omega) (fun q => by
      obtain ⟨-, o1, o2, o3, -⟩ := ok2 (hs3.2.2.2.2 q)
      exact ⟨by rw [hs3.1.1 20 (by decide), o1], by omega⟩)
    refine sp_E k _ _ (by omega) pk3 (fun r6 y5 h5 => ?_)
    obtain ⟨r5, l5, cc5, bb5, rr5, ok5⟩ := h5
    have rx5 : RP x y5 := RP_tr (RP_tr (RP_ss hs1) r13) r5
    have bad3 : 0 < (y3.1 0 9).toInt → y5 = y3 := bb5
    have low5 : cr x ≤ cr y5 + 3 * (k + 1) + 1 := by
      by_cases q : 0 < (y3.1 0 9).toInt
      · rw [bad3 q]; omega
      · have q0 : (y3.1 0 9).toInt = 0 := by have := r13.2.1.2.2.1; omega
        obtain ⟨-, o1, o2, o3, -⟩ := ok2 (hs3.2.2.2.2 q0)
        omega
    have badx5 : 0 < (x.1 0 9).toInt → cr x ≤ cr y5 + 1 := by
      intro q
      have e1 := hs1.2.2.2.1 q
      have q1 : 0 < (y1.1 0 9).toInt := by rw [e1]; exact q
      have t2 := bb2 q1
      have q3 : 0 < (y3.1 0 9).toInt := by
        have := r13.2.2.2.1
        have := r13.2.1.2.2.1
        omega
      rw [bad3 q3]; omega
    have ok5' : (y5.1 0 9).toInt = 0 → y5.1 0 20 = x.1 0 20 ∧ (x.1 0 8).toInt + 3 ≤ (y5.1 0 8).toInt ∧ cr x + 6 ≤ cr y5 ∧ vP y5 ((y2.1 0 8).toInt - (y1.1 0 8).toInt).toNat r3 ∧ vE y5 ((y5.1 0 8).toInt - (y3.1 0 8).toInt).toNat ((y5.1 0 8).toInt - (y3.1 0 8).toInt).toNat 17 r6 ∧ (y1.1 0 8).toInt = (x.1 0 8).toInt + 1 ∧ (y3.1 0 8).toInt = (y2.1 0 8).toInt + 1 ∧ (y1.1 0 8).toInt + 1 ≤ (y2.1 0 8).toInt ∧ (y3.1 0 8).toInt + 1 ≤ (y5.1 0 8).toInt := by
      intro q
      obtain ⟨a1, a2, a3, a4⟩ := ok5 q
      have q3 := r5.2.2.2.1 q
      have q2 := hs3.2.2.2.2 q3
      obtain ⟨-, o1, o2, o3, o4⟩ := ok2 q2
      have q1 := r2.2.2.2.1 q2
      have t1 := hst1 q1
      have t3 := hst3 q3
      have u1 := (cr_ss hs1).2 q1 t1
      have u3 := (cr_ss hs3).2 q3 t3
      exact ⟨by rw [a1, hs3.1.1 20 (by decide), o1, hs1.1.1 20 (by decide)], by omega, by omega, vP_NK (NK_RP (RP_tr (RP_ss hs3) r5)) o4, a4, t1, t3, o2, a2⟩
    have l5x : y5.1 0 21 = x.1 0 21 := by rw [l5, hs3.1.1 21 (by decide), l2', hs1.1.1 21 (by decide)]
    have p99 : ∀ (z : gd) (f s0 : Int32), RP y5 z → z.1 0 21 = x.1 0 21 → cr x ≤ cr z + 3 * (k + 1) + 1 → (0 < (x.1 0 9).toInt → cr x ≤ cr z + 1) → ((z.1 0 9).toInt = 0 → z.1 0 20 = y5.1 0 20 ∧ cr y5 ≤ cr z ∧ ((s0 = 12 ∨ s0 = 13) ∨ (s0 = 14 ∧ vE z ((z.1 0 8).toInt - (y5.1 0 8).toInt).toNat ((z.1 0 8).toInt - (y5.1 0 8).toInt).toNat 17 f))) → MT G (D + 10) z_readR 99 [(0, vr 0), (1, vi (x.1 0 8)), (3, vi r3), (4, vi r6), (5, vi f)] [vi s0, vr 0] z (ri F) := by
      intro z f s0 rz lz cz bz okz
      have rxz := RP_tr rx5 rz
      refine sg_readR_99 _ _ _ _ _ (sp_node _ _ _ _ _ (nodeV rxz n0 (by omega)) (fun w hw => ri_i (hF _ _ ?_)))
      obtain ⟨hn, rw1, nk, cw, z0, z1, f8, f9, f20, f21⟩ := nodeR rxz n0 (by omega) hw
      refine ⟨rw1, by rw [f21, lz], by omega, fun q => by have := bz q; omega, z0, fun q => ?_⟩
      rw [f9] at q
      obtain ⟨o1, o2, o3⟩ := okz q
      obtain ⟨u1, u2, u3, u4, u5, u6, u7, u8, u9⟩ := ok5' (rz.2.2.2.1 q)
      obtain ⟨g1, g2, g3, g4, g5, -⟩ := nE_at hw
      have le := rz.2.2.1
      rw [f8]
      refine ⟨rxz.2.2.2.1 q, by rw [f20, o1, u1], by omega, by omega, ⟨⟨z0, z1⟩, by rw [g5]; exact PN_v pn, Or.inr (Or.inr ?_)⟩⟩
      rw [g1, g2, g3, g4]
      have v1 := vP_NK nk (vP_NK (NK_RP rz) u4)
      have v2 := vE_NK nk (vE_NK (NK_RP rz) u5)
      rcases o3 with o3 | ⟨o3, o4⟩
      · exact Or.inl ⟨o3, _, _, by omega, v1, v2⟩
      · exact Or.inr ⟨o3, _, _, _, by omega, v1, v2, vE_NK nk o4⟩
    have p74 : ∀ (z : gd) (f : Int32), RP y5 z → z.1 0 21 = x.1 0 21 → cr x ≤ cr z + 3 * (k + 1) + 1 → (0 < (x.1 0 9).toInt → cr x ≤ cr z + 1) → ((z.1 0 9).toInt = 0 → z.1 0 20 = y5.1 0 20 ∧ cr y5 ≤ cr z ∧ ((l2 = 35 ∨ l2 = 10) ∨ vE z ((z.1 0 8).toInt - (y5.1 0 8).toInt).toNat ((z.1 0 8).toInt - (y5.1 0 8).toInt).toNat 17 f)) → MT G (D + 10) z_readR 74 [(0, vr 0), (1, vi (x.1 0 8)), (2, vi l2), (3, vi r3), (4, vi r6), (5, vi f)] [] z (ri F) := by
      intro z f rz lz cz bz okz
      refine sg_readR_74 _ _ _ _ _ ⟨fun n1 => ⟨fun n2 => p99 z f 14 rz lz cz bz (fun q => ?_), fun _ => p99 z f 13 rz lz cz bz (fun q => ?_)⟩, fun _ => p99 z f 12 rz lz cz bz (fun q => ?_)⟩
      · obtain ⟨o1, o2, o3⟩ := okz q
        refine ⟨o1, o2, Or.inr ⟨rfl, ?_⟩⟩
        rcases o3 with (o3 | o3) | o3
        · exact absurd o3 n1
        · exact absurd o3 n2
        · exact o3
      · obtain ⟨o1, o2, o3⟩ := okz q
        exact ⟨o1, o2, Or.inl (Or.inr rfl)⟩
      · obtain ⟨o1, o2, o3⟩ := okz q
        exact ⟨o1, o2, Or.inl (Or.inl rfl)⟩
    refine ⟨fun n16 => p74 y5 (-1) (RP_rf rx5.2.1) l5x low5 badx5 (fun _ => ⟨rfl, by omega, Or.inl (hl2.elim Or.inl (fun q => q.elim Or.inr (fun q => absurd q n16)))⟩), fun _ => ?_⟩
    refine sp_pass _ rx5.2.1 (fun y8 hs8 hst8 => ?_)
    have c8 := (cr_ss hs8).1
    have pk8 : PreK k (-900) y8 := PreK_rp hpre (RP_tr rx5 (RP_ss hs8)) (by omega) (fun q => by
      obtain ⟨u1, u2, u3, -⟩ := ok5' (hs8.2.2.2.2 q)
      exact ⟨by rw [hs8.1.1 20 (by decide), u1], by omega⟩)
    refine sp_E k _ _ (by omega) pk8 (fun r10 y9 h9 => ?_)
    obtain ⟨r9, l9, cc9, bb9, rr9, ok9⟩ := h9
    refine p74 y9 r10 (RP_tr (RP_ss hs8) r9) (by rw [l9, hs8.1.1 21 (by decide), l5x]) ?_ (fun q => ?_) (fun q => ?_)
    · by_cases q : 0 < (y8.1 0 9).toInt
      · rw [bb9 q]; omega
      · have q0 : (y8.1 0 9).toInt = 0 := by have := hs8.2.1.2.2.1; omega
        obtain ⟨u1, u2, u3, -⟩ := ok5' (hs8.2.2.2.2 q0)
        omega
    · have q5 : 0 < (y5.1 0 9).toInt := by
        have := rx5.2.2.2.1
        have := rx5.2.1.2.2.1
        omega
      have q8 : 0 < (y8.1 0 9).toInt := by
        have := hs8.2.2.2.2
        have := hs8.2.1.2.2.1
        omega
      rw [bb9 q8]
      have := badx5 q
      omega
    · obtain ⟨a1, a2, a3, a4⟩ := ok9 q
      have q8 := r9.2.2.2.1 q
      have le8 := hs8.2.2.1
      exact ⟨by rw [a1, hs8.1.1 20 (by decide)], by omega, Or.inr (vE_mono _ _ _ _ _ _ _ (by omega) (by omega) (Nat.le_refl _) a4)⟩
  have k7 : (700 : Int32).toInt = 700 := rfl
  have k1 : (1 : Int32).toInt = 1 := rfl
  refine sg_readR_0 (sp_here pn (fun r _ _ => ⟨fun q => p28 r (Or.inl q), fun _ => ⟨fun q => p28 r (Or.inr (Or.inl q)), fun _ => ⟨fun _ => ⟨fun _ => p154, fun _ => ⟨fun _ => p154, fun c7 => ⟨?_, fun _ => p154, fun _ => ?_⟩⟩⟩, fun q => p28 r (Or.inr (Or.inr q))⟩⟩⟩))
  · rw [t_le, k7] at c7
    have p1 := pn.1
    rw [vp_in_iff, t_add (by omega) (by omega), k1]; omega
  · refine sp_readPlace k (by omega) (PreK_w hpre (by decide)) (fun r11 y h => ?_)
    obtain ⟨ry, ly, cy, by0, rr, oky⟩ := h
    refine sp_node _ _ _ _ _ (nodeV ry n0 (by omega)) (fun w hw => ri_i (hF _ _ ?_))
    obtain ⟨hn, rw1, nk, cw, z0, z1, f8, f9, f20, f21⟩ := nodeR ry n0 (by omega) hw
    refine ⟨rw1, by rw [f21, ly], by omega, fun q => by have := by0 q; omega, z0, fun q => ?_⟩
    rw [f9] at q
    obtain ⟨o0, o1, o2, o3, o4⟩ := oky q
    obtain ⟨g1, g2, g3, g4, g5, -⟩ := nE_at hw
    rw [f8]
    refine ⟨o0, by rw [f20, o1], o2, by omega, ⟨⟨z0, z1⟩, by rw [g5]; exact PN_v pn, Or.inr (Or.inl ⟨g1, ?_⟩)⟩⟩
    rw [g2]
    exact vP_NK nk o4
