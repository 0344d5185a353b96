/-! one choice done: done 94 (96 the choices done), acts 96 -/
def HA (z : gd) : Prop := 0 ≤ (z.1 0 96).toInt ∧ (z.1 0 96).toInt ≤ (z.1 0 94).toInt ∧ (z.1 0 94).toInt ≤ 400 ∧ (∀ j : Nat, (j : Int) < (z.1 0 96).toInt → aA z j) ∧ aB z (z.1 0 96).toInt
abbrev dL : List Nat := [82, 84, 88, 89, 90, 91, 92, 93, 94, 96]
abbrev dA : List Nat := [70, 71, 72, 73, 74, 75, 76, 77, 78, 79, 80, 81, 82, 84, 86, 87, 88, 96, 98, 99, 100, 101, 102, 103, 104, 106, 107]
def dF (z z' : gd) (i : Int32) : Prop := mi dL dA z z' ∧ (z'.1 0 94).toInt = (z.1 0 94).toInt + 1 ∧ z'.1 96 (z.1 0 94).toNatClampNeg = i ∧ ∀ j : Nat, ¬ j = (z.1 0 94).toNatClampNeg → z'.1 96 j = z.1 96 j
theorem aA_mi {L A : List Nat} {x y : gd} (m : mi L A x y) (hA : [98, 99, 100, 103].all (fun k => !A.elem k) = true) {j : Nat} (q : aA x j) : aA y j := by
  have g := fun k (h0 : k ≠ 0) hk => m.2 k h0 (all_no hA k hk)
  unfold aA
  rw [g 98 (by decide) (by decide), g 99 (by decide) (by decide), g 100 (by decide) (by decide), g 103 (by decide) (by decide)]
  exact q
theorem aB_mi {L A : List Nat} {x y : gd} (m : mi L A x y) (hA : [106, 107].all (fun k => !A.elem k) = true) {n n' : Int} (hn : n ≤ n') (q : aB x n) : aB y n' := by
  have g := fun k (h0 : k ≠ 0) hk => m.2 k h0 (all_no hA k hk)
  unfold aB
  rw [g 106 (by decide) (by decide), g 107 (by decide) (by decide)]
  intro t ht
  obtain ⟨q1, q2⟩ := q t ht
  exact ⟨q1.imp id (fun w => by omega), q2.imp id (fun w => by omega)⟩
section DCH
variable {G : mG} {D : Nat} {a a' z : gd} {F : Int32 → gd → Prop} {Fv : gd → Prop}
theorem sp_sortOf {x : gd} (t : Int32) (ht : vp_in t 6) (ha : vp_in (x.1 74 t.toNatClampNeg) 1500) (h : F (srt x t.toNatClampNeg) x) : MT G D z_sortOf 0 [(0, vr 0), (1, vi t)] [] x (ri F) := by
  refine sg_sortOf_0 _ ⟨ht, fun c => ⟨ht, ha, ri_i ?_⟩, fun c => ri_i ?_⟩
  · rwa [srt, if_neg c] at h
  · rwa [srt, if_pos c] at h
theorem cA {c n : Nat} {S : gS} {x z : gd} (e : eqS S x z) (h : (c, n) ∈ coreL) {j : Nat} (hj : j < n) : z.1 c j = x.1 c j := e c j (Or.inl (Or.inr ⟨n, h, hj⟩))
theorem cF {k : Nat} {S : gS} {x z : gd} (e : eqS S x z) (h : k ∈ coreF) : z.1 0 k = x.1 0 k := e 0 k (Or.inl (core_f h))
theorem srt_eq {S : gS} {x : gd} (e : eqS S x z) (ri : RI x S) {t : Nat} (ht : t < 6) : srt z t = srt x t := by
  have r := (ri.2 t ht).1
  have e77 := cA e (c := 77) (n := 6) (by decide) ht
  have e74 := cA e (c := 74) (n := 6) (by decide) ht
  have e55 := cA e (c := 55) (n := 1500) (by decide) (j := (x.1 74 t).toNatClampNeg) (by have := cl_i r.1; have := r.2.1; omega)
  unfold srt
  rw [e77, e74, e55]
theorem sp_doChoice (av : AV a) (i : Int32) (i0 : 0 ≤ i.toInt) (i1 : i.toInt < (a.1 0 84).toInt) (lk : Lk a i.toNatClampNeg a') (e : eqS (Sm a) a z) (ha : HA z) (hd : (z.1 0 94).toInt < 400) (hD : 6 ≤ D) (h : ∀ z', eqS (Sm a') a' z' → HA z' → dF z z' i → Fv z') : MT G D z_doChoice 0 [(0, vr 0), (1, vi i)] [] z (rv Fv) := by
  obtain ⟨D, rfl⟩ : ∃ D', D = D' + 2 := ⟨D - 2, by omega⟩
  have k0 : (0 : Int32).toInt = 0 := rfl
  have k1 : (1 : Int32).toInt = 1 := rfl
  obtain ⟨ri, wy, ch, c0, c84, _⟩ := av
  obtain ⟨b, tr, fb⟩ := lk
  have ci := cl_i i0
  have iv : vp_in i 200 := by rw [vp_in_iff]; omega
  obtain ⟨u86, u87, u88, ⟨t0, t6⟩, co⟩ := ch i.toNatClampNeg (by omega)
  have e86 : z.1 86 i.toNatClampNeg = a.1 86 i.toNatClampNeg := e _ _ (Or.inr u86)
  obtain ⟨t, et⟩ : ∃ t, t = a.1 86 i.toNatClampNeg := ⟨_, rfl⟩
  rw [← et] at e86 t0 t6 co
  have tv : vp_in t 6 := by rw [vp_in_iff]; exact ⟨t0, t6⟩
  obtain ⟨h0, h1, h2, h3, h4⟩ := ha
  obtain ⟨dn, edn⟩ : ∃ dn, dn = z.1 0 94 := ⟨_, rfl⟩
  obtain ⟨n, en⟩ : ∃ n, n = z.1 0 96 := ⟨_, rfl⟩
  rw [← edn] at h1 h2 hd
  rw [← en] at h0 h1 h3 h4
  have dv : vp_in dn 400 := by rw [vp_in_iff]; omega
  have nv : vp_in n 400 := by rw [vp_in_iff]; omega
  have cd := cl_i (a := dn) (by omega)
  have cn := cl_i (a := n) (by omega)
  refine sg_doChoice_0 _ ⟨iv, by rw [← edn]; exact dv, fun z3 e3 z4 e4 => ⟨iv, ?_⟩⟩
  rw [← edn] at e3
  have m3 := md_a z 96 dn.toNatClampNeg i (by decide)
  rw [← e3] at m3
  have f94 : z3.1 0 94 = dn := by rw [m3.1 94 (by decide), edn]
  rw [f94] at e4
  have m4 := md_f z3 94 (dn + 1)
  rw [← e4] at m4
  have m34 : md [94] [96] z z4 := md_tr m3 m4 rfl rfl
  have q94 : (z4.1 0 94).toInt = dn.toInt + 1 := by rw [e4, si_get, if_pos ⟨rfl, rfl⟩, t_add (by omega) (by omega), k1]
  have q96 : z4.1 0 96 = n := by rw [m34.1 96 (by decide), en]
  have q96a : z4.1 96 dn.toNatClampNeg = i := by rw [e4, si_cell (by decide), e3, si_get, if_pos ⟨rfl, rfl⟩]
  have q96b : ∀ j : Nat, ¬ j = dn.toNatClampNeg → z4.1 96 j = z.1 96 j := fun j hj => by rw [e4, si_cell (by decide), e3, si_ne 96 j hj]
  have es4 : eqS (Sm a) a z4 := eqS_mi e (mi_of m34) rfl rfl (ssub_rf _)
  have e87 : z4.1 87 i.toNatClampNeg = a.1 87 i.toNatClampNeg := es4 _ _ (Or.inr u87)
  have el4 : eqS (Sl a) a z4 := eqS_w (Sl_Sm a) es4
  rw [e86, e87, q96]
  -- the end: choices found
  have fin : ∀ (y : gd), eqS (Sl b) b y → mi dL dA z y → (y.1 0 94).toInt = dn.toInt + 1 → y.1 96 dn.toNatClampNeg = i → (∀ j : Nat, ¬ j = dn.toNatClampNeg → y.1 96 j = z.1 96 j) → HA y → MT G (D + 1) z_findChoices 0 [(0, vr 0)] [] y (rv (fun x1 => rv Fv none x1)) := by
    intro y ey my y94 y96 y96b hy
    refine MT_up (by omega) (MTv_mono (fb G y ey) (fun y2 q => rv_i (h y2 q.1 ?_ ⟨mi_tr my (mi_of q.2) rfl rfl, ?_, ?_, ?_⟩)))
    · obtain ⟨a1, a2, a3, a4, a5⟩ := hy
      have g := mi_of q.2
      refine ⟨by rw [g.1 96 (by decide)]; exact a1, by rw [g.1 96 (by decide), g.1 94 (by decide)]; exact a2, by rw [g.1 94 (by decide)]; exact a3, fun j hj => aA_mi g rfl (a4 j (by rw [g.1 96 (by decide)] at hj; exact hj)), ?_⟩
      rw [g.1 96 (by decide)]
      exact aB_mi g rfl (Int.le_refl _) a5
    · rw [q.2.1 94 (by decide), y94, edn]
    · rw [q.2.2.1 96 (by decide) (by decide), ← edn]; exact y96
    · intro j hj
      rw [← edn] at hj
      rw [q.2.2.1 96 (by decide) (by decide)]; exact y96b j hj
  refine ⟨fun c => ⟨tv, nv, fun z9 e9 => ?_⟩, fun c => ⟨iv, ?_⟩⟩
  rotate_left
  · -- a late write
    have hl := tr.2 c G z4 el4
    rw [← et] at hl
    refine MT_up (by omega) (MTv_mono hl (fun y q => fin y q.1 (mi_tr (mi_of m34) (mi_of q.2) rfl rfl) ?_ ?_ ?_ ?_))
    · rw [q.2.1 94 (by decide)]; exact q94
    · rw [q.2.2.1 96 (by decide) (by decide)]; exact q96a
    · intro j hj; rw [q.2.2.1 96 (by decide) (by decide)]; exact q96b j hj
    · have g : mi [82, 84, 88, 89, 90, 91, 92, 93, 94] [70, 71, 72, 73, 74, 75, 76, 77, 78, 79, 80, 81, 82, 84, 86, 87, 88, 96] z y := mi_tr (mi_of m34) (mi_of q.2) rfl rfl
      have y94 : (y.1 0 94).toInt = dn.toInt + 1 := by rw [q.2.1 94 (by decide)]; exact q94
      have y96 : y.1 0 96 = n := by rw [g.1 96 (by decide), en]
      refine ⟨by rw [y96]; exact h0, by rw [y96, y94]; omega, by rw [y94]; omega, fun j hj => aA_mi g rfl (h3 j (by rw [y96] at hj; exact hj)), by rw [y96]; exact aB_mi g rfl (Int.le_refl _) h4⟩
  -- an act
  have g := co.resolve_right (fun w => by rw [c] at w; exact absurd w.1 (by decide))
  obtain ⟨kv, kn, so, avv⟩ := RI_step ri (vt tv) g.2.1
  obtain ⟨s1, s2, s3⟩ := srt_of ri (vt tv) g.2.1
  obtain ⟨k, ek⟩ : ∃ k, k = a.1 74 t.toNatClampNeg := ⟨_, rfl⟩
  rw [← ek] at kv kn so avv s1 s2 s3
  obtain ⟨s, es⟩ : ∃ s, s = srt a t.toNatClampNeg := ⟨_, rfl⟩
  rw [← es] at s1 s2 s3
  have m9 := md_a z4 98 n.toNatClampNeg t (by decide)
  rw [← e9] at m9
  have es9 : eqS (Sm a) a z9 := eqS_mi es4 (mi_of m9) rfl rfl (ssub_rf _)
  have el9 : eqS (Sl a) a z9 := eqS_w (Sl_Sm a) es9
  have k9 : z9.1 74 t.toNatClampNeg = k := by rw [cA el9 (n := 6) (by decide) (vt tv), ek]
  have k4 : z4.1 74 t.toNatClampNeg = k := by rw [cA el4 (n := 6) (by decide) (vt tv), ek]
  have st9 : srt z9 t.toNatClampNeg = s := by rw [srt_eq el9 ri (vt tv), es]
  refine sp_sortOf t tv (by rw [k9]; exact kv) ?_
  rw [st9, k4]
  refine ⟨nv, fun z13 e13 => ⟨iv, nv, fun z16 e16 => ⟨nv, ?_⟩⟩⟩
  have m13 := md_a z9 99 n.toNatClampNeg s (by decide)
  rw [← e13] at m13
  have m16 := md_a z13 104 n.toNatClampNeg (z13.1 88 i.toNatClampNeg) (by decide)
  rw [← e16] at m16
  have m416 : md [] [98, 99, 104] z4 z16 := md_tr (md_tr (L3 := []) (A3 := [98, 99]) m9 m13 rfl rfl) m16 rfl rfl
  have es16 : eqS (Sm a) a z16 := eqS_mi es4 (mi_of m416) rfl rfl (ssub_rf _)
  have el16 : eqS (Sl a) a z16 := eqS_w (Sl_Sm a) es16
  have r98 : z16.1 98 n.toNatClampNeg = t := by rw [e16, si_cell (by decide), e13, si_cell (by decide), e9, si_get, if_pos ⟨rfl, rfl⟩]
  have r99 : z16.1 99 n.toNatClampNeg = s := by rw [e16, si_cell (by decide), e13, si_get, if_pos ⟨rfl, rfl⟩]
  have r98b : ∀ j : Nat, ¬ j = n.toNatClampNeg → z16.1 98 j = z.1 98 j := fun j hj => by rw [e16, si_cell (by decide), e13, si_cell (by decide), e9, si_ne 98 j hj, m34.2.1 98 (by decide) (by decide)]
  have r99b : ∀ j : Nat, ¬ j = n.toNatClampNeg → z16.1 99 j = z.1 99 j := fun j hj => by rw [e16, si_cell (by decide), e13, si_ne 99 j hj, e9, si_cell (by decide), m34.2.1 99 (by decide) (by decide)]
  have w88 : z16.1 88 i.toNatClampNeg = a.1 88 i.toNatClampNeg := es16 _ _ (Or.inr u88)
  have f25 : z16.1 0 25 = a.1 0 25 := cF el16 (by decide)
  have b25 := ri.1.1.2.2.2.2.2.1
  have o56 : z16.1 56 k.toNatClampNeg = a.1 56 k.toNatClampNeg := cA el16 (n := 1500) (by decide) (vp_lt kv)
  -- behind the act
  have p401 : ∀ (y : gd) (l6 : Int32), eqS (Sl b) b y → mi dL dA z y → (y.1 0 94).toInt = dn.toInt + 1 → y.1 96 dn.toNatClampNeg = i → (∀ j : Nat, ¬ j = dn.toNatClampNeg → y.1 96 j = z.1 96 j) → (y.1 0 96).toInt = n.toInt + 1 → (∀ j : Nat, (j : Int) ≤ n.toInt → aA y j) → aB y (n.toInt + 1) → y.1 99 n.toNatClampNeg = s → (y.1 103 n.toNatClampNeg = 0 → s = 9 → vp_in (y.1 100 n.toNatClampNeg) 6) → ∀ (m : Nat) (o : Int32), 0 ≤ o.toInt → (a.1 0 25).toInt - o.toInt ≤ m → MT G (D + 2) z_doChoice 325 [(0, vr 0), (3, vi n), (6, vi l6), (7, vi o)] [] y (rv Fv) := by
    have last : ∀ y : gd, eqS (Sl b) b y → mi dL dA z y → (y.1 0 94).toInt = dn.toInt + 1 → y.1 96 dn.toNatClampNeg = i → (∀ j : Nat, ¬ j = dn.toNatClampNeg → y.1 96 j = z.1 96 j) → (y.1 0 96).toInt = n.toInt + 1 → (∀ j : Nat, (j : Int) ≤ n.toInt → aA y j) → aB y (n.toInt + 1) → MT G (D + 2) z_doChoice 401 [(0, vr 0)] [] y (rv Fv) := by
      intro y ey my y94 y96 y96b yn ya yb
      exact sg_doChoice_401 (fin y ey my y94 y96 y96b ⟨by omega, by omega, by omega, fun j hj => ya j (by omega), by rw [yn]; exact yb⟩)
    intro y l6 ey my y94 y96 y96b yn ya yb ys yf m
    induction m generalizing y with
    | zero =>
      intro o o0 hm
      have g25 : y.1 0 25 = z.1 0 25 := my.1 25 (by decide)
      have g25' : y.1 0 25 = a.1 0 25 := by rw [g25, cF e (by decide)]
      refine sg_doChoice_325 _ _ _ ⟨fun _ => ⟨nv, fun _ => last y ey my y94 y96 y96b yn ya yb, fun e9' => ⟨nv, fun _ => last y ey my y94 y96 y96b yn ya yb, fun nf => ⟨nv, yf nf (by rw [← ys]; exact e9'), fun y8 ey8 => ?_⟩⟩⟩, fun cc => absurd (t_le.mpr (by rw [g25']; omega)) cc⟩
      have m8 := md_a y 106 (y.1 100 n.toNatClampNeg).toNatClampNeg n (by decide)
      rw [← ey8] at m8
      have g8 := mi_of m8
      refine last y8 (eqS_mi ey g8 rfl rfl (Sl_Sm b)) (mi_tr my g8 rfl rfl) (by rw [g8.1 94 (by decide)]; exact y94) (by rw [g8.2 96 (by decide) (by decide)]; exact y96) (fun j hj => by rw [g8.2 96 (by decide) (by decide)]; exact y96b j hj) (by rw [g8.1 96 (by decide)]; exact yn) (fun j hj => aA_mi g8 rfl (ya j hj)) (fun t' ht' => ?_)
      obtain ⟨q1, q2⟩ := yb t' ht'
      refine ⟨?_, by rw [g8.2 107 (by decide) (by decide)]; exact q2⟩
      rw [ey8, si_get]
      by_cases w : (106 : Nat) = 106 ∧ t' = (y.1 100 n.toNatClampNeg).toNatClampNeg
      · rw [if_pos w]; exact Or.inr ⟨h0, by omega⟩
      · rw [if_neg w]; exact q1
    | succ m ih =>
      intro o o0 hm
      have g25 : y.1 0 25 = z.1 0 25 := my.1 25 (by decide)
      have g25' : y.1 0 25 = a.1 0 25 := by rw [g25, cF e (by decide)]
      refine sg_doChoice_325 _ _ _ ⟨fun _ => ⟨nv, fun _ => last y ey my y94 y96 y96b yn ya yb, fun e9' => ⟨nv, fun _ => last y ey my y94 y96 y96b yn ya yb, fun nf => ⟨nv, yf nf (by rw [← ys]; exact e9'), fun y8 ey8 => ?_⟩⟩⟩, fun cc => ?_⟩
      · have m8 := md_a y 106 (y.1 100 n.toNatClampNeg).toNatClampNeg n (by decide)
        rw [← ey8] at m8
        have g8 := mi_of m8
        refine last y8 (eqS_mi ey g8 rfl rfl (Sl_Sm b)) (mi_tr my g8 rfl rfl) (by rw [g8.1 94 (by decide)]; exact y94) (by rw [g8.2 96 (by decide) (by decide)]; exact y96) (fun j hj => by rw [g8.2 96 (by decide) (by decide)]; exact y96b j hj) (by rw [g8.1 96 (by decide)]; exact yn) (fun j hj => aA_mi g8 rfl (ya j hj)) (fun t' ht' => ?_)
        obtain ⟨q1, q2⟩ := yb t' ht'
        refine ⟨?_, by rw [g8.2 107 (by decide) (by decide)]; exact q2⟩
        rw [ey8, si_get]
        by_cases w : (106 : Nat) = 106 ∧ t' = (y.1 100 n.toNatClampNeg).toNatClampNeg
        · rw [if_pos w]; exact Or.inr ⟨h0, by omega⟩
        · rw [if_neg w]; exact q1
      · rw [t_le, g25'] at cc
        have ov : vp_in o 6 := by rw [vp_in_iff]; omega
        have oi : (o + 1).toInt = o.toInt + 1 := by rw [t_add (by omega) (by omega), k1]
        have go : ∀ (v : Int32) (y2 : gd), y2 = si y 107 o.toNatClampNeg v → (v = -1 ∨ (0 ≤ v.toInt ∧ v.toInt < n.toInt + 1)) → MT G (D + 2) z_doChoice 325 [(0, vr 0), (3, vi n), (6, vi l6), (7, vi (o + 1))] [] y2 (rv Fv) := by
          intro v y2 ey2 hv
          have m2 := md_a y 107 o.toNatClampNeg v (by decide)
          rw [← ey2] at m2
          have g2 := mi_of m2
          refine ih y2 (eqS_mi ey g2 rfl rfl (Sl_Sm b)) (mi_tr my g2 rfl rfl) (by rw [g2.1 94 (by decide)]; exact y94) (by rw [g2.2 96 (by decide) (by decide)]; exact y96) (fun j hj => by rw [g2.2 96 (by decide) (by decide)]; exact y96b j hj) (by rw [g2.1 96 (by decide)]; exact yn) (fun j hj => aA_mi g2 rfl (ya j hj)) (fun t' ht' => ?_) (by rw [g2.2 99 (by decide) (by decide)]; exact ys) (by rw [g2.2 103 (by decide) (by decide), g2.2 100 (by decide) (by decide)]; exact yf) (o + 1) (by omega) (by omega)
          obtain ⟨q1, q2⟩ := yb t' ht'
          refine ⟨by rw [g2.2 106 (by decide) (by decide)]; exact q1, ?_⟩
          rw [ey2, si_get]
          by_cases w : (107 : Nat) = 107 ∧ t' = o.toNatClampNeg
          · rw [if_pos w]; exact hv
          · rw [if_neg w]; exact q2
        exact ⟨fun _ => ⟨ov, ov, fun y2 ey2 => go _ y2 ey2 (yb _ (vt ov)).2⟩, fun _ => ⟨ov, fun y2 ey2 => go _ y2 ey2 (Or.inr ⟨h0, by omega⟩)⟩⟩
  -- the act itself
  have act : ∀ l6 : Int32, MT G (D + 1) z_doAct 0 [(0, vr 0), (1, vi t), (2, vi (z16.1 88 i.toNatClampNeg))] [] z16 (rv (fun x3 => vp_in n 400 ∧ (∀ x5 : gd, x5 = si x3 100 n.toNatClampNeg (x3.1 0 88) → (((x5.1 0 89) ≤ (0 : Int32) → MT G (D + 2) z_doChoice 286 [(0, vr 0), (3, vi n), (6, vi l6)] [vi 0, vi n, vr 103] x5 (rv Fv)) ∧ (¬ ((x5.1 0 89) ≤ (0 : Int32)) → MT G (D + 2) z_doChoice 286 [(0, vr 0), (3, vi n), (6, vi l6)] [vi 1, vi n, vr 103] x5 (rv Fv)))))) := by
    intro l6
    have ht := tr.1 c G z16 el16
    rw [← et, ← w88] at ht
    refine MT_up (by omega) (MTv_mono ht (fun y q => ⟨nv, fun y5 e5 => ?_⟩))
    obtain ⟨ey, my, ap⟩ := q
    rw [← es] at ap
    have m5 := md_a y 100 n.toNatClampNeg (y.1 0 88) (by decide)
    rw [← e5] at m5
    have f89 : y5.1 0 89 = y.1 0 89 := m5.1 89 (by decide)
    have f88 : y5.1 100 n.toNatClampNeg = y.1 0 88 := by rw [e5, si_get, if_pos ⟨rfl, rfl⟩]
    have p286 : ∀ v : Int32, (v = 0 ∨ v = 1) → (v = 0 → (y.1 0 89).toInt ≤ 0) → MT G (D + 2) z_doChoice 286 [(0, vr 0), (3, vi n), (6, vi l6)] [vi v, vi n, vr 103] y5 (rv Fv) := by
      intro v hv hv0
      refine sg_doChoice_286 _ _ _ _ ⟨nv, fun u2 eu2 => ⟨nv, fun u4 eu4 => ⟨nv, fun u6 eu6 u7 eu7 => ?_⟩⟩⟩
      have mu2 := md_a y5 103 n.toNatClampNeg (vp_nar .boolean v) (by decide)
      rw [← eu2] at mu2
      have mu4 := md_a u2 101 n.toNatClampNeg (u2.1 0 92) (by decide)
      rw [← eu4] at mu4
      have mu6 := md_a u4 102 n.toNatClampNeg (u4.1 0 93) (by decide)
      rw [← eu6] at mu6
      have mu7 := md_f u6 96 (u6.1 0 96 + 1)
      rw [← eu7] at mu7
      have M : md [96] [100, 103, 101, 102] y u7 := md_tr (md_tr (L3 := []) (A3 := [100, 103, 101, 102]) (md_tr (L3 := []) (A3 := [100, 103, 101]) (md_tr (L3 := []) (A3 := [100, 103]) m5 mu2 rfl rfl) mu4 rfl rfl) mu6 rfl rfl) mu7 rfl rfl
      have g7 : mi [96] [100, 103, 101, 102] y u7 := mi_of M
      have e7 : eqS (Sl b) b u7 := eqS_mi ey g7 rfl rfl (Sl_Sm b)
      have mz : mi dL dA z u7 := mi_tr (mi_tr (L3 := dL) (A3 := dA) (mi_tr (L3 := dL) (A3 := dA) (mi_of m34) (mi_of m416) rfl rfl) (mi_of my) rfl rfl) g7 rfl rfl
      have yn : y.1 0 96 = n := by rw [my.1 96 (by decide), m416.1 96 (by decide), q96]
      have u96 : (u7.1 0 96).toInt = n.toInt + 1 := by
        rw [eu7, si_get, if_pos ⟨rfl, rfl⟩, mu6.1 96 (by decide), mu4.1 96 (by decide), mu2.1 96 (by decide), m5.1 96 (by decide), yn, t_add (by omega) (by omega), k1]
      have u94 : (u7.1 0 94).toInt = dn.toInt + 1 := by rw [g7.1 94 (by decide), my.1 94 (by decide), m416.1 94 (by decide)]; exact q94
      have u96a : u7.1 96 = z4.1 96 := by rw [g7.2 96 (by decide) (by decide), my.2.1 96 (by decide) (by decide), m416.2.1 96 (by decide) (by decide)]
      have u98 : u7.1 98 = z16.1 98 := by rw [g7.2 98 (by decide) (by decide), my.2.1 98 (by decide) (by decide)]
      have u99 : u7.1 99 = z16.1 99 := by rw [g7.2 99 (by decide) (by decide), my.2.1 99 (by decide) (by decide)]
      have u100 : u7.1 100 n.toNatClampNeg = y.1 0 88 := by rw [eu7, si_cell (by decide), eu6, si_cell (by decide), eu4, si_cell (by decide), eu2, si_cell (by decide), f88]
      have u103 : u7.1 103 n.toNatClampNeg = vp_nar .boolean v := by rw [eu7, si_cell (by decide), eu6, si_cell (by decide), eu4, si_cell (by decide), eu2, si_get, if_pos ⟨rfl, rfl⟩]
      have b100 : ∀ j : Nat, ¬ j = n.toNatClampNeg → u7.1 100 j = z.1 100 j := fun j hj => by rw [eu7, si_cell (by decide), eu6, si_cell (by decide), eu4, si_cell (by decide), eu2, si_cell (by decide), e5, si_ne 100 j hj, my.2.1 100 (by decide) (by decide), m416.2.1 100 (by decide) (by decide), m34.2.1 100 (by decide) (by decide)]
      have b103 : ∀ j : Nat, ¬ j = n.toNatClampNeg → u7.1 103 j = z.1 103 j := fun j hj => by rw [eu7, si_cell (by decide), eu6, si_cell (by decide), eu4, si_cell (by decide), eu2, si_ne 103 j hj, e5, si_cell (by decide), my.2.1 103 (by decide) (by decide), m416.2.1 103 (by decide) (by decide), m34.2.1 103 (by decide) (by decide)]
      have vf : vp_nar .boolean v = 0 → (y.1 0 89).toInt ≤ 0 := by
        intro q
        rcases hv with hv | hv
        · exact hv0 hv
        · rw [hv] at q; exact absurd q (by decide)
      have aa : ∀ j : Nat, (j : Int) ≤ n.toInt → aA u7 j := by
        intro j hj
        by_cases w : j = n.toNatClampNeg
        · rw [w]
          unfold aA
          rw [u98, r98, u99, r99, u100, u103]
          exact ⟨t0, t6, fun q sa => (ap (vf q)).1 sa⟩
        · unfold aA
          rw [u98, r98b j w, u99, r99b j w, b100 j w, b103 j w]
          exact h3 j (by omega)
      have bb : aB u7 (n.toInt + 1) := by
        have mm : mi [82, 84, 88, 89, 90, 91, 92, 93, 94, 96] [70, 71, 72, 73, 74, 75, 76, 77, 78, 79, 80, 81, 82, 84, 86, 87, 88, 96, 98, 99, 104, 100, 103, 101, 102] z u7 := mi_tr (mi_tr (L3 := [82, 84, 88, 89, 90, 91, 92, 93, 94]) (A3 := [70, 71, 72, 73, 74, 75, 76, 77, 78, 79, 80, 81, 82, 84, 86, 87, 88, 96, 98, 99, 104]) (mi_tr (L3 := [94]) (A3 := [96, 98, 99, 104]) (mi_of m34) (mi_of m416) rfl rfl) (mi_of my) rfl rfl) g7 rfl rfl
        exact aB_mi mm rfl (by omega) h4
      refine sp_order n nv aa bb (fun u8 eu8 => ?_)
      have e8 : eqS (Sl b) b u8 := fun c9 j9 h9 => by rw [eu8]; exact e7 c9 j9 h9
      refine p401 u8 l6 e8 (mi_eq mz eu8) (by rw [eu8]; exact u94) (by rw [eu8, u96a]; exact q96a) (fun j hj => by rw [eu8, u96a]; exact q96b j hj) (by rw [eu8]; exact u96) (fun j hj => ?_) ?_ (by rw [eu8, u99]; exact r99) (fun q q9 => ?_) 6 0 (by decide) (by rw [k0]; omega)
      · have := aa j hj
        unfold aA at this ⊢
        rw [eu8]; exact this
      · unfold aB at bb ⊢
        rw [eu8]; exact bb
      · rw [eu8, u103] at q
        rw [eu8, u100, vp_in_iff]
        exact (ap (vf q)).2 q9
    refine ⟨fun c9 => p286 0 (Or.inl rfl) (fun _ => ?_), fun c9 => p286 1 (Or.inr rfl) (fun q => absurd q (by decide))⟩
    rw [f89, t_le, k0] at c9
    exact c9
  have p131 : ∀ (m : Nat) (l5 l6 o : Int32), 0 ≤ o.toInt → (a.1 0 25).toInt - o.toInt ≤ m → MT G (D + 2) z_doChoice 131 [(0, vr 0), (1, vi i), (2, vi t), (3, vi n), (4, vi k), (5, vi l5), (6, vi l6), (7, vi o)] [] z16 (rv Fv) := by
    intro m
    induction m with
    | zero =>
      intro l5 l6 o o0 hm
      exact sg_doChoice_131 _ _ _ _ _ _ _ ⟨fun _ => ⟨iv, act l6⟩, fun cc => absurd (t_le.mpr (by rw [f25]; omega)) cc⟩
    | succ m ih =>
      intro l5 l6 o o0 hm
      refine sg_doChoice_131 _ _ _ _ _ _ _ ⟨fun _ => ⟨iv, act l6⟩, fun cc => ⟨nv, ?_⟩⟩
      rw [t_le, f25] at cc
      have ov : vp_in o 6 := by rw [vp_in_iff]; omega
      have oi : (o + 1).toInt = o.toInt + 1 := by rw [t_add (by omega) (by omega), k1]
      have p221 : ∀ v : Int32, MT G (D + 2) z_doChoice 221 [(0, vr 0), (1, vi i), (2, vi t), (3, vi n), (4, vi k), (5, vi l5), (6, vi l6), (7, vi o)] [vi v] z16 (rv Fv) := fun v => sg_doChoice_221 _ _ _ _ _ _ _ _ ⟨fun _ => ih _ _ _ (by omega) (by omega), fun _ => ih _ _ _ (by omega) (by omega)⟩
      have ro := (ri.2 _ (vt ov)).1
      have o74 : z16.1 74 o.toNatClampNeg = a.1 74 o.toNatClampNeg := cA el16 (n := 6) (by decide) (vt ov)
      rw [r99]
      refine ⟨fun _ => p221 _, fun e8 => ⟨kv, ?_, fun _ => p221 _, fun _ => ⟨ov, fun _ => p221 _, fun _ => ⟨ov, ?_, kv, fun _ => p221 _, fun _ => ⟨fun _ => p221 _, fun _ => ⟨iv, fun _ => p221 _, fun _ => p221 _⟩⟩⟩⟩⟩⟩
      · have q := s2 (Or.inl (by rw [e8]; decide))
        rw [o56, vp_in_iff]; omega
      · rw [o74, vp_in_iff]; exact ⟨ro.1, ro.2.1⟩
  rw [r99]
  have go : ∀ l5 : Int32, MT G (D + 2) z_doChoice 131 [(0, vr 0), (1, vi i), (2, vi t), (3, vi n), (4, vi k), (5, vi l5), (6, vi 0), (7, vi 0)] [] z16 (rv Fv) := fun l5 => p131 6 l5 0 0 (by decide) (by rw [k0]; omega)
  exact ⟨fun _ => go 0, fun _ => ⟨kv, fun _ => go 0, fun _ => go 1⟩⟩
end DCH
