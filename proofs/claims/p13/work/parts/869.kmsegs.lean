section
set_option maxRecDepth 100000 in
set_option maxHeartbeats 4000000 in
theorem kg_X10_insertOutcome_0 {G : kG} {q : kP} {d : Nat} {x : gd} {P : Option gv → gd → kP → Prop} {X : String → gd → kP → Prop} (hu : kU q) {o : Nat} (ho : kiT q o) {a2 n2 : Nat} (ka2 : kK a2 = .inr (.int, n2)) (ma2 : a2 ∈ (kf q).2.1) (l1 : Int32) (l3 : Int32)
    (h : (((x.1 o 3) < (3000 : Int32) → vp_in (x.1 o 3) 3000 ∧ (∀ u3, u3 = (kf q).1 (o + 13) (x.1 o 3 : Int32).toNatClampNeg → ((u3 = none → (x.1 o 3 : Int32).toNatClampNeg = oM q o ∧ vp_in (x.1 o 3) 3000 ∧ (∀ q6 x7, q6 = kOr q o → x7 = znew x (oC q o) → kU q6 → kle q q6 → KM G q6 (d + 2) zk_X10_insertOutcome 36 [(0, vr o), (1, vi l1), (2, vr a2), (3, vi l3)] [] x7 P X)) ∧ (∀ c5, u3 = some c5 → KM G q (d + 2) zk_X10_insertOutcome 36 [(0, vr o), (1, vi l1), (2, vr a2), (3, vi l3)] [] x P X)))) ∧ (¬ ((x.1 o 3) < (3000 : Int32)) → P none x q))) :
    KM G q (d + 2) zk_X10_insertOutcome 0 [(0, vr o), (1, vi l1), (2, vr a2), (3, vi l3)] [] x P X := by
  have hq := hu.1
  refine T_aload_n 0 (dk dtk_X10_insertOutcome 0 rfl) rfl rfl ?_
  refine T_getI o 3 (dk dtk_X10_insertOutcome 1 rfl) kfl_X10_51 (kk_T0 ho) (kl_T0 hq ho) (by decide) rfl ?_
  refine T_sipush (v := 3000) (dk dtk_X10_insertOutcome 2 rfl) (by decide +kernel) ?_
  refine T_icmp_lt 11 (dk dtk_X10_insertOutcome 3 rfl) (by decide) (fun c1 => ?_) (fun c1 => ?_)
  · have h := h.1 c1
    refine T_aload_n 0 (dk dtk_X10_insertOutcome 5 rfl) rfl rfl ?_
    refine T_getR o 12 (o + 13) (dk dtk_X10_insertOutcome 6 rfl) kfl_X10_33 (kk_T0 ho) (kl_T0 hq ho) (by decide) rfl (kr_T_12 ho) ?_
    refine T_aload_n 0 (dk dtk_X10_insertOutcome 7 rfl) rfl rfl ?_
    refine T_getI o 3 (dk dtk_X10_insertOutcome 8 rfl) kfl_X10_51 (kk_T0 ho) (kl_T0 hq ho) (by decide) rfl ?_
    obtain ⟨h2, h⟩ := h
    obtain ⟨u3, eu3⟩ : ∃ z, z = (kf q).1 (o + 13) (x.1 o 3 : Int32).toNatClampNeg := ⟨_, rfl⟩
    have h := h u3 eu3
    refine T_aaldI (o + 13) 3000 (dk dtk_X10_insertOutcome 9 rfl) (kk_T13 ho) (kl_T13 hq ho) h2 ?_
    rw [← eu3]
    refine T_ifnonnull 36 (dk dtk_X10_insertOutcome 10 rfl) (by decide) (fun c5 c4 => ?_) (fun c4 => ?_)
    · have h := h.2 c5 c4
      exact h
    · have h := h.1 c4
      refine T_aload_n 0 (dk dtk_X10_insertOutcome 11 rfl) rfl rfl ?_
      refine T_getR o 12 (o + 13) (dk dtk_X10_insertOutcome 12 rfl) kfl_X10_33 (kk_T0 ho) (kl_T0 hq ho) (by decide) rfl (kr_T_12 ho) ?_
      refine T_aload_n 0 (dk dtk_X10_insertOutcome 13 rfl) rfl rfl ?_
      refine T_getI o 3 (dk dtk_X10_insertOutcome 14 rfl) kfl_X10_51 (kk_T0 ho) (kl_T0 hq ho) (by decide) rfl ?_
      refine T_bipush (v := 24) (dk dtk_X10_insertOutcome 15 rfl) (by decide +kernel) ?_
      obtain ⟨hi9, hin9, h⟩ := h
      obtain ⟨q6, eq6⟩ : ∃ z, z = kOr q o := ⟨_, rfl⟩
      obtain ⟨x7, ex7⟩ : ∃ z, z = znew x (oC q o) := ⟨_, rfl⟩
      have hu2 : kU q6 := by rw [eq6]; exact kOr_U hu ho (hi9 ▸ vp_lt hin9)
      have hle : kle q q6 := by rw [eq6]; exact kOr_le _ _
      have h := h q6 x7 eq6 ex7 hu2 hle
      refine T_orow (dk dtk_X10_insertOutcome 16 rfl) (dk dtk_X10_insertOutcome 17 rfl) hu ho hi9 hin9 (gok_i (av_c (gkr (kl_T0 hq ho)) (av_c rfl (av_c (gkr ma2) (av_c rfl av_n)))) as_n) ?_
      rw [← eq6, ← ex7]
      have hu := hu2
      have hq := hu.1
      have ho := kle_T hle ho
      have ma2 := hle.1 _ ma2
      exact h
  · have h := h.2 c1
    exact KM_vret (dk dtk_X10_insertOutcome 4 rfl) rfl h
set_option maxRecDepth 100000 in
set_option maxHeartbeats 4000000 in
theorem kg_X10_insertOutcome_36 {G : kG} {q : kP} {d : Nat} {x : gd} {P : Option gv → gd → kP → Prop} {X : String → gd → kP → Prop} (hu : kU q) {o : Nat} (ho : kiT q o) {a2 n2 : Nat} (ka2 : kK a2 = .inr (.int, n2)) (ma2 : a2 ∈ (kf q).2.1) (l1 : Int32) (l3 : Int32)
    (h : vp_in (x.1 o 3) 3000 ∧ (∀ u2, u2 = (kf q).1 (o + 13) (x.1 o 3 : Int32).toNatClampNeg → ∃ c3, u2 = some c3 ∧ kK c3 = .inr (.int, 24) ∧ c3 ∈ (kf q).2.1 ∧ ¬ (0 : Int32) < 0 ∧ ¬ (0 : Int32) < 0 ∧ ¬ l3 < 0 ∧ (0 : Int32).toNatClampNeg + (l3 : Int32).toNatClampNeg ≤ n2 ∧ (0 : Int32).toNatClampNeg + (l3 : Int32).toNatClampNeg ≤ 24 ∧ (∀ x11 : gd, x11 = scp x a2 c3 (0 : Int32).toNatClampNeg (0 : Int32).toNatClampNeg (l3 : Int32).toNatClampNeg → ¬ l1 < 0 ∧ ¬ (l1 + 1) < 0 ∧ ¬ ((x11.1 o 3) - l1) < 0 ∧ (l1 : Int32).toNatClampNeg + ((x11.1 o 3) - l1 : Int32).toNatClampNeg ≤ 3000 ∧ (l1 + 1 : Int32).toNatClampNeg + ((x11.1 o 3) - l1 : Int32).toNatClampNeg ≤ 3000 ∧ (∀ x17 : gd, x17 = scp x11 (o + 14) (o + 14) (l1 : Int32).toNatClampNeg (l1 + 1 : Int32).toNatClampNeg ((x11.1 o 3) - l1 : Int32).toNatClampNeg → vp_in l1 3000 ∧ (∀ x19 : gd, x19 = si x17 (o + 14) (l1 : Int32).toNatClampNeg (x17.1 o 3) → (∀ x20 : gd, x20 = si x19 o 3 ((x19.1 o 3) + 1) → P none x20 q)))))) :
    KM G q (d + 2) zk_X10_insertOutcome 36 [(0, vr o), (1, vi l1), (2, vr a2), (3, vi l3)] [] x P X := by
  have hq := hu.1
  refine T_aload_n 2 (dk dtk_X10_insertOutcome 18 rfl) rfl rfl ?_
  refine T_iconst (v := 0) (dk dtk_X10_insertOutcome 19 rfl) (by decide +kernel) ?_
  refine T_aload_n 0 (dk dtk_X10_insertOutcome 20 rfl) rfl rfl ?_
  refine T_getR o 12 (o + 13) (dk dtk_X10_insertOutcome 21 rfl) kfl_X10_33 (kk_T0 ho) (kl_T0 hq ho) (by decide) rfl (kr_T_12 ho) ?_
  refine T_aload_n 0 (dk dtk_X10_insertOutcome 22 rfl) rfl rfl ?_
  refine T_getI o 3 (dk dtk_X10_insertOutcome 23 rfl) kfl_X10_51 (kk_T0 ho) (kl_T0 hq ho) (by decide) rfl ?_
  obtain ⟨h1, h⟩ := h
  obtain ⟨u2, eu2⟩ : ∃ z, z = (kf q).1 (o + 13) (x.1 o 3 : Int32).toNatClampNeg := ⟨_, rfl⟩
  have h := h u2 eu2
  refine T_aaldI (o + 13) 3000 (dk dtk_X10_insertOutcome 24 rfl) (kk_T13 ho) (kl_T13 hq ho) h1 ?_
  rw [← eu2]
  refine T_iconst (v := 0) (dk dtk_X10_insertOutcome 25 rfl) (by decide +kernel) ?_
  refine T_iload_n 3 (dk dtk_X10_insertOutcome 26 rfl) rfl rfl ?_
  obtain ⟨c3, rfl, g4, g5, h⟩ := h
  refine T_sub (lv2 := [(0, vr o), (1, vi l1)]) [0, 1] rfl ?_
  obtain ⟨h6, h7, h8, h9, h10, h⟩ := h
  obtain ⟨x11, ex11⟩ : ∃ z, z = scp x a2 c3 (0 : Int32).toNatClampNeg (0 : Int32).toNatClampNeg (l3 : Int32).toNatClampNeg := ⟨_, rfl⟩
  have h := h x11 ex11
  refine T_copy a2 c3 n2 24 (dk dtk_X10_insertOutcome 27 rfl) kcy_X10_78 ka2 ma2 g4 g5 (by omega) (Nat.le_of_ble_eq_true rfl) h6 h7 h8 h9 h10 ?_
  rw [← ex11]
  refine T_aload_n 0 (dk dtk_X10_insertOutcome 28 rfl) rfl rfl ?_
  refine T_getR o 13 (o + 14) (dk dtk_X10_insertOutcome 29 rfl) kfl_X10_37 (kk_T0 ho) (kl_T0 hq ho) (by decide) rfl (kr_T_13 ho) ?_
  refine T_iload_n 1 (dk dtk_X10_insertOutcome 30 rfl) rfl rfl ?_
  refine T_aload_n 0 (dk dtk_X10_insertOutcome 31 rfl) rfl rfl ?_
  refine T_getR o 13 (o + 14) (dk dtk_X10_insertOutcome 32 rfl) kfl_X10_37 (kk_T0 ho) (kl_T0 hq ho) (by decide) rfl (kr_T_13 ho) ?_
  refine T_iload_n 1 (dk dtk_X10_insertOutcome 33 rfl) rfl rfl ?_
  refine T_iconst (v := 1) (dk dtk_X10_insertOutcome 34 rfl) (by decide +kernel) ?_
  refine T_iadd (dk dtk_X10_insertOutcome 35 rfl) ?_
  refine T_aload_n 0 (dk dtk_X10_insertOutcome 36 rfl) rfl rfl ?_
  refine T_getI o 3 (dk dtk_X10_insertOutcome 37 rfl) kfl_X10_51 (kk_T0 ho) (kl_T0 hq ho) (by decide) rfl ?_
  refine T_iload_n 1 (dk dtk_X10_insertOutcome 38 rfl) rfl rfl ?_
  refine T_isub (dk dtk_X10_insertOutcome 39 rfl) ?_
  obtain ⟨h12, h13, h14, h15, h16, h⟩ := h
  obtain ⟨x17, ex17⟩ : ∃ z, z = scp x11 (o + 14) (o + 14) (l1 : Int32).toNatClampNeg (l1 + 1 : Int32).toNatClampNeg ((x11.1 o 3) - l1 : Int32).toNatClampNeg := ⟨_, rfl⟩
  have h := h x17 ex17
  refine T_copy (o + 14) (o + 14) 3000 3000 (dk dtk_X10_insertOutcome 40 rfl) kcy_X10_78 (kk_T14 ho) (kl_T14 hq ho) (kk_T14 ho) (kl_T14 hq ho) (by omega) (Nat.le_of_ble_eq_true rfl) h12 h13 h14 h15 h16 ?_
  rw [← ex17]
  refine T_aload_n 0 (dk dtk_X10_insertOutcome 41 rfl) rfl rfl ?_
  refine T_getR o 13 (o + 14) (dk dtk_X10_insertOutcome 42 rfl) kfl_X10_37 (kk_T0 ho) (kl_T0 hq ho) (by decide) rfl (kr_T_13 ho) ?_
  refine T_iload_n 1 (dk dtk_X10_insertOutcome 43 rfl) rfl rfl ?_
  refine T_aload_n 0 (dk dtk_X10_insertOutcome 44 rfl) rfl rfl ?_
  refine T_getI o 3 (dk dtk_X10_insertOutcome 45 rfl) kfl_X10_51 (kk_T0 ho) (kl_T0 hq ho) (by decide) rfl ?_
  obtain ⟨h18, h⟩ := h
  obtain ⟨x19, ex19⟩ : ∃ z, z = si x17 (o + 14) (l1 : Int32).toNatClampNeg (x17.1 o 3) := ⟨_, rfl⟩
  have h := h x19 ex19
  refine T_iast (o + 14) 3000 (dk dtk_X10_insertOutcome 46 rfl) (kk_T14 ho) (kl_T14 hq ho) h18 ?_
  rw [← ex19]
  refine T_aload_n 0 (dk dtk_X10_insertOutcome 47 rfl) rfl rfl ?_
  refine T_dup (dk dtk_X10_insertOutcome 48 rfl) rfl ?_
  refine T_getI o 3 (dk dtk_X10_insertOutcome 49 rfl) kfl_X10_51 (kk_T0 ho) (kl_T0 hq ho) (by decide) rfl ?_
  refine T_iconst (v := 1) (dk dtk_X10_insertOutcome 50 rfl) (by decide +kernel) ?_
  refine T_iadd (dk dtk_X10_insertOutcome 51 rfl) ?_
  obtain ⟨x20, ex20⟩ : ∃ z, z = si x19 o 3 ((x19.1 o 3) + 1) := ⟨_, rfl⟩
  have h := h x20 ex20
  refine T_putI o 3 (dk dtk_X10_insertOutcome 52 rfl) kfl_X10_51 (kk_T0 ho) (kl_T0 hq ho) (by decide) rfl ⟨rfl, rfl⟩ ?_
  rw [← ex20]
  exact KM_vret (dk dtk_X10_insertOutcome 53 rfl) rfl h
set_option maxRecDepth 100000 in
set_option maxHeartbeats 4000000 in
theorem kg_X10_addOutcome_0 {G : kG} {q : kP} {d : Nat} {x : gd} {P : Option gv → gd → kP → Prop} {X : String → gd → kP → Prop} (hu : kU q) {o : Nat} (ho : kiT q o) {a1 n1 : Nat} (ka1 : kK a1 = .inr (.int, n1)) (ma1 : a1 ∈ (kf q).2.1) (l2 : Int32)
    (h : KM G q (d + 1) zk_X10_addOutcome 11 [(0, vr o), (1, vr a1), (2, vi l2), (3, vi 0), (4, vi (x.1 o 3)), (5, vi 0)] [] x P X) :
    KM G q (d + 1) zk_X10_addOutcome 0 [(0, vr o), (1, vr a1), (2, vi l2)] [] x P X := by
  have hq := hu.1
  refine T_iconst (v := 0) (dk dtk_X10_addOutcome 0 rfl) (by decide +kernel) ?_
  refine T_istore_n (lv2 := [(3, vi 0), (0, vr o), (1, vr a1), (2, vi l2)]) (dk dtk_X10_addOutcome 1 rfl) rfl (by decide) rfl ?_
  refine T_aload_n 1 (dk dtk_X10_addOutcome 2 rfl) rfl rfl ?_
  refine T_getI o 3 (dk dtk_X10_addOutcome 3 rfl) kfl_X10_51 (kk_T0 ho) (kl_T0 hq ho) (by decide) rfl ?_
  refine T_istore (lv2 := [(4, vi (x.1 o 3)), (3, vi 0), (0, vr o), (1, vr a1), (2, vi l2)]) (dk dtk_X10_addOutcome 4 rfl) (by decide) rfl ?_
  refine T_iconst (v := 0) (dk dtk_X10_addOutcome 5 rfl) (by decide +kernel) ?_
  refine T_istore (lv2 := [(5, vi 0), (4, vi (x.1 o 3)), (3, vi 0), (0, vr o), (1, vr a1), (2, vi l2)]) (dk dtk_X10_addOutcome 6 rfl) (by decide) rfl ?_
  exact T_sub [3, 4, 5, 2, 1, 0] rfl h
set_option maxRecDepth 100000 in
set_option maxHeartbeats 4000000 in
theorem kg_X10_addOutcome_11 {G : kG} {q : kP} {d : Nat} {x : gd} {P : Option gv → gd → kP → Prop} {X : String → gd → kP → Prop} (hu : kU q) {o : Nat} (ho : kiT q o) {a1 n1 : Nat} (ka1 : kK a1 = .inr (.int, n1)) (ma1 : a1 ∈ (kf q).2.1) (l2 : Int32) (l3 : Int32) (l4 : Int32) (l5 : Int32)
    (h : (((3000 : Int32) ≤ l5 → KM G q (d + 1) zk_X10_addOutcome 81 [(0, vr o), (1, vr a1), (2, vi l2), (3, vi l3)] [] x P X) ∧ (¬ ((3000 : Int32) ≤ l5) → ((l4 ≤ l3 → KM G q (d + 1) zk_X10_addOutcome 81 [(0, vr o), (1, vr a1), (2, vi l2), (3, vi l3)] [] x P X) ∧ (¬ (l4 ≤ l3) → ¬ (2 : Int32) = 0 ∧ vp_in ((l3 + l4) / 2) 3000 ∧ vp_in (x.1 (o + 14) ((l3 + l4) / 2 : Int32).toNatClampNeg) 3000 ∧ (∀ u6, u6 = (kf q).1 (o + 13) (x.1 (o + 14) ((l3 + l4) / 2 : Int32).toNatClampNeg : Int32).toNatClampNeg → ∃ c7, u6 = some c7 ∧ kK c7 = .inr (.int, 24) ∧ c7 ∈ (kf q).2.1 ∧ KT G q d zk_X10_order 0 [(0, vr c7), (1, vr a1), (2, vi l2)] [] x (ri (fun r11 x10 => ((¬ (r11 = (0 : Int32)) → (((0 : Int32) ≤ r11 → KM G q (d + 1) zk_X10_addOutcome 11 [(0, vr o), (1, vr a1), (2, vi l2), (3, vi l3), (4, vi ((l3 + l4) / 2)), (5, vi (l5 + 1))] [] x10 P X) ∧ (¬ ((0 : Int32) ≤ r11) → KM G q (d + 1) zk_X10_addOutcome 11 [(0, vr o), (1, vr a1), (2, vi l2), (3, vi (((l3 + l4) / 2) + 1)), (4, vi l4), (5, vi (l5 + 1))] [] x10 P X))) ∧ (r11 = (0 : Int32) → P none x10 q)))))))))) :
    KM G q (d + 1) zk_X10_addOutcome 11 [(0, vr o), (1, vr a1), (2, vi l2), (3, vi l3), (4, vi l4), (5, vi l5)] [] x P X := by
  have hq := hu.1
  refine T_iload 5 (dk dtk_X10_addOutcome 7 rfl) rfl ?_
  refine T_sipush (v := 3000) (dk dtk_X10_addOutcome 8 rfl) (by decide +kernel) ?_
  refine T_icmp_ge 81 (dk dtk_X10_addOutcome 9 rfl) (by decide) (fun c1 => ?_) (fun c1 => ?_)
  · have h := h.1 c1
    exact T_sub [0, 1, 2, 3] rfl h
  · have h := h.2 c1
    refine T_iload_n 3 (dk dtk_X10_addOutcome 10 rfl) rfl rfl ?_
    refine T_iload 4 (dk dtk_X10_addOutcome 11 rfl) rfl ?_
    refine T_icmp_ge 81 (dk dtk_X10_addOutcome 12 rfl) (by decide) (fun c2 => ?_) (fun c2 => ?_)
    · have h := h.1 c2
      exact T_sub [0, 1, 2, 3] rfl h
    · have h := h.2 c2
      refine T_iload_n 3 (dk dtk_X10_addOutcome 13 rfl) rfl rfl ?_
      refine T_iload 4 (dk dtk_X10_addOutcome 14 rfl) rfl ?_
      refine T_iadd (dk dtk_X10_addOutcome 15 rfl) ?_
      refine T_iconst (v := 2) (dk dtk_X10_addOutcome 16 rfl) (by decide +kernel) ?_
      obtain ⟨h3, h⟩ := h
      refine T_idiv (dk dtk_X10_addOutcome 17 rfl) h3 ?_
      refine T_istore (lv2 := [(6, vi ((l3 + l4) / 2)), (0, vr o), (1, vr a1), (2, vi l2), (3, vi l3), (4, vi l4), (5, vi l5)]) (dk dtk_X10_addOutcome 18 rfl) (by decide) rfl ?_
      refine T_aload_n 1 (dk dtk_X10_addOutcome 19 rfl) rfl rfl ?_
      refine T_getR o 12 (o + 13) (dk dtk_X10_addOutcome 20 rfl) kfl_X10_33 (kk_T0 ho) (kl_T0 hq ho) (by decide) rfl (kr_T_12 ho) ?_
      refine T_aload_n 1 (dk dtk_X10_addOutcome 21 rfl) rfl rfl ?_
      refine T_getR o 13 (o + 14) (dk dtk_X10_addOutcome 22 rfl) kfl_X10_37 (kk_T0 ho) (kl_T0 hq ho) (by decide) rfl (kr_T_13 ho) ?_
      refine T_iload 0 (dk dtk_X10_addOutcome 23 rfl) rfl ?_
      obtain ⟨h4, h⟩ := h
      refine T_iald (o + 14) 3000 (dk dtk_X10_addOutcome 24 rfl) (kk_T14 ho) (kl_T14 hq ho) h4 ?_
      obtain ⟨h5, h⟩ := h
      obtain ⟨u6, eu6⟩ : ∃ z, z = (kf q).1 (o + 13) (x.1 (o + 14) ((l3 + l4) / 2 : Int32).toNatClampNeg : Int32).toNatClampNeg := ⟨_, rfl⟩
      have h := h u6 eu6
      refine T_aaldI (o + 13) 3000 (dk dtk_X10_addOutcome 25 rfl) (kk_T13 ho) (kl_T13 hq ho) h5 ?_
      rw [← eu6]
      refine T_aload_n 2 (dk dtk_X10_addOutcome 26 rfl) rfl rfl ?_
      refine T_iload_n 3 (dk dtk_X10_addOutcome 27 rfl) rfl rfl ?_
      obtain ⟨c7, rfl, g8, g9, h⟩ := h
      refine KC_Si [vr c7, vr a1, vi l2] [] rfl (dk dtk_X10_addOutcome 28 rfl) kcs_X10_70 rfl (Nat.le_of_ble_eq_true rfl) (Nat.le_of_ble_eq_true rfl) (gok_i (av_c rfl (av_c (gkr (kl_T0 hq ho)) (av_c (gkr ma1) (av_c rfl (av_c rfl (av_c rfl (av_c rfl av_n))))))) as_n) rfl h (fun r11 x10 h => ?_)
      refine T_istore (lv2 := [(7, vi r11), (6, vi ((l3 + l4) / 2)), (0, vr o), (1, vr a1), (2, vi l2), (3, vi l3), (4, vi l4), (5, vi l5)]) (dk dtk_X10_addOutcome 29 rfl) (by decide) rfl ?_
      refine T_iload 0 (dk dtk_X10_addOutcome 30 rfl) rfl ?_
      refine T_if_ne 58 (dk dtk_X10_addOutcome 31 rfl) (by decide) (fun c12 => ?_) (fun c12 => ?_)
      · have h := h.1 c12
        refine T_iload 0 (dk dtk_X10_addOutcome 33 rfl) rfl ?_
        refine T_if_ge 71 (dk dtk_X10_addOutcome 34 rfl) (by decide) (fun c13 => ?_) (fun c13 => ?_)
        · have h := h.1 c13
          refine T_iload 1 (dk dtk_X10_addOutcome 40 rfl) rfl ?_
          refine T_istore (lv2 := [(4, vi ((l3 + l4) / 2)), (7, vi r11), (6, vi ((l3 + l4) / 2)), (0, vr o), (1, vr a1), (2, vi l2), (3, vi l3), (5, vi l5)]) (dk dtk_X10_addOutcome 41 rfl) (by decide) rfl ?_
          refine T_iinc (v := l5 + 1) (lv2 := [(5, vi (l5 + 1)), (4, vi ((l3 + l4) / 2)), (7, vi r11), (6, vi ((l3 + l4) / 2)), (0, vr o), (1, vr a1), (2, vi l2), (3, vi l3)]) 7 (dk dtk_X10_addOutcome 42 rfl) rfl rfl (by decide) rfl ?_
          refine T_goto 11 (dk dtk_X10_addOutcome 43 rfl) (by decide) ?_
          exact T_sub [4, 5, 6, 7, 1, 0] rfl h
        · have h := h.2 c13
          refine T_iload 1 (dk dtk_X10_addOutcome 35 rfl) rfl ?_
          refine T_iconst (v := 1) (dk dtk_X10_addOutcome 36 rfl) (by decide +kernel) ?_
          refine T_iadd (dk dtk_X10_addOutcome 37 rfl) ?_
          refine T_istore_n (lv2 := [(3, vi (((l3 + l4) / 2) + 1)), (7, vi r11), (6, vi ((l3 + l4) / 2)), (0, vr o), (1, vr a1), (2, vi l2), (4, vi l4), (5, vi l5)]) (dk dtk_X10_addOutcome 38 rfl) rfl (by decide) rfl ?_
          refine T_goto 75 (dk dtk_X10_addOutcome 39 rfl) (by decide) ?_
          refine T_iinc (v := l5 + 1) (lv2 := [(5, vi (l5 + 1)), (3, vi (((l3 + l4) / 2) + 1)), (7, vi r11), (6, vi ((l3 + l4) / 2)), (0, vr o), (1, vr a1), (2, vi l2), (4, vi l4)]) 7 (dk dtk_X10_addOutcome 42 rfl) rfl rfl (by decide) rfl ?_
          refine T_goto 11 (dk dtk_X10_addOutcome 43 rfl) (by decide) ?_
          exact T_sub [4, 5, 6, 1, 7, 0] rfl h
      · have h := h.2 c12
        exact KM_vret (dk dtk_X10_addOutcome 32 rfl) rfl h
set_option maxRecDepth 100000 in
set_option maxHeartbeats 4000000 in
theorem kg_X10_addOutcome_81 {G : kG} {q : kP} {d : Nat} {x : gd} {P : Option gv → gd → kP → Prop} {X : String → gd → kP → Prop} (hu : kU q) {o : Nat} (ho : kiT q o) {a1 n1 : Nat} (ka1 : kK a1 = .inr (.int, n1)) (ma1 : a1 ∈ (kf q).2.1) (l2 : Int32) (l3 : Int32)
    (h : KM G q d zk_X10_insertOutcome 0 [(0, vr o), (1, vi l3), (2, vr a1), (3, vi l2)] [] x (rm q (fun x1 q2 => P none x1 q2)) X) :
    KM G q (d + 1) zk_X10_addOutcome 81 [(0, vr o), (1, vr a1), (2, vi l2), (3, vi l3)] [] x P X := by
  have hq := hu.1
  refine T_aload_n 0 (dk dtk_X10_addOutcome 44 rfl) rfl rfl ?_
  refine T_iload_n 3 (dk dtk_X10_addOutcome 45 rfl) rfl rfl ?_
  refine T_aload_n 1 (dk dtk_X10_addOutcome 46 rfl) rfl rfl ?_
  refine T_iload_n 2 (dk dtk_X10_addOutcome 47 rfl) rfl rfl ?_
  refine T_sub (lv2 := []) [] rfl ?_
  refine KM_Vv [vi l3, vr a1, vi l2] [] rfl (dk dtk_X10_addOutcome 48 rfl) kcv_X10_74 rfl (kk_T0 ho) rfl (kl_T0 hq ho) (Nat.le_of_ble_eq_true rfl) (Nat.le_of_ble_eq_true rfl) (gok_i av_n as_n) rfl h (fun x1 q2 hu hle h => ?_)
  have hq := hu.1
  have ho := kle_T hle ho
  have ma1 := hle.1 _ ma1
  exact KM_vret (dk dtk_X10_addOutcome 49 rfl) rfl h
set_option maxRecDepth 100000 in
set_option maxHeartbeats 4000000 in
theorem kg_X2_keep_0 {G : kG} {q : kP} {d : Nat} {x : gd} {P : Option gv → gd → kP → Prop} {X : String → gd → kP → Prop} (hu : kU q) (he : q.ex = true) (l1 : Int32) (l2 : Int32)
    (h : (∀ u1, u1 = (kf q).1 200 7 → ∃ c2, u1 = some c2 ∧ kiT q c2 ∧ (((x.1 c2 0) < (3000 : Int32) → vp_in (x.1 c2 0) 3000 ∧ (∀ u6, u6 = (kf q).1 203 (x.1 c2 0 : Int32).toNatClampNeg → ((u6 = none → (x.1 c2 0 : Int32).toNatClampNeg = q.kn ∧ vp_in (x.1 c2 0) 3000 ∧ (∀ q9 x10, q9 = kKn q → x10 = znew x (1000 + q.kn) → kU q9 → kle q q9 → KM G q9 (d + 2) zk_X2_keep 36 [(0, vr 200), (1, vi l1), (2, vi l2), (3, vi (x.1 c2 0))] [] x10 P X)) ∧ (∀ c8, u6 = some c8 → KM G q (d + 2) zk_X2_keep 36 [(0, vr 200), (1, vi l1), (2, vi l2), (3, vi (x.1 c2 0))] [] x P X)))) ∧ (¬ ((x.1 c2 0) < (3000 : Int32)) → P none x q)))) :
    KM G q (d + 2) zk_X2_keep 0 [(0, vr 200), (1, vi l1), (2, vi l2)] [] x P X := by
  have hq := hu.1
  refine T_aload_n 0 (dk dtk_X2_keep 0 rfl) rfl rfl ?_
  obtain ⟨u1, eu1⟩ : ∃ z, z = (kf q).1 200 7 := ⟨_, rfl⟩
  have h := h u1 eu1
  refine T_getO 200 7 (dk dtk_X2_keep 1 rfl) kfl_X2_44 kk_200 (kl_200 hq he) (by decide) rfl ?_
  rw [← eu1]
  obtain ⟨c2, rfl, g3, h⟩ := h
  refine T_getI c2 0 (dk dtk_X2_keep 2 rfl) kfl_X2_73 (kk_T0 g3) (kl_T0 hq g3) (by decide) rfl ?_
  refine T_istore_n (lv2 := [(3, vi (x.1 c2 0)), (0, vr 200), (1, vi l1), (2, vi l2)]) (dk dtk_X2_keep 3 rfl) rfl (by decide) rfl ?_
  refine T_iload_n 0 (dk dtk_X2_keep 4 rfl) rfl rfl ?_
  refine T_sipush (v := 3000) (dk dtk_X2_keep 5 rfl) (by decide +kernel) ?_
  refine T_icmp_lt 16 (dk dtk_X2_keep 6 rfl) (by decide) (fun c4 => ?_) (fun c4 => ?_)
  · have h := h.1 c4
    refine T_aload_n 1 (dk dtk_X2_keep 8 rfl) rfl rfl ?_
    refine T_getR 200 2 203 (dk dtk_X2_keep 9 rfl) kfl_X2_26 kk_200 (kl_200 hq he) (by decide) rfl kr_200_2 ?_
    refine T_iload_n 0 (dk dtk_X2_keep 10 rfl) rfl rfl ?_
    obtain ⟨h5, h⟩ := h
    obtain ⟨u6, eu6⟩ : ∃ z, z = (kf q).1 203 (x.1 c2 0 : Int32).toNatClampNeg := ⟨_, rfl⟩
    have h := h u6 eu6
    refine T_aaldI 203 3000 (dk dtk_X2_keep 11 rfl) kk_203 (kl_203 hq he) h5 ?_
    rw [← eu6]
    refine T_ifnonnull 36 (dk dtk_X2_keep 12 rfl) (by decide) (fun c8 c7 => ?_) (fun c7 => ?_)
    · have h := h.2 c8 c7
      exact T_sub [1, 2, 3, 0] rfl h
    · have h := h.1 c7
      refine T_aload_n 1 (dk dtk_X2_keep 13 rfl) rfl rfl ?_
      refine T_getR 200 2 203 (dk dtk_X2_keep 14 rfl) kfl_X2_26 kk_200 (kl_200 hq he) (by decide) rfl kr_200_2 ?_
      refine T_iload_n 0 (dk dtk_X2_keep 15 rfl) rfl rfl ?_
      refine T_sipush (v := 228) (dk dtk_X2_keep 16 rfl) (by decide +kernel) ?_
      obtain ⟨hi9, hin9, h⟩ := h
      obtain ⟨q9, eq9⟩ : ∃ z, z = kKn q := ⟨_, rfl⟩
      obtain ⟨x10, ex10⟩ : ∃ z, z = znew x (1000 + q.kn) := ⟨_, rfl⟩
      have hu2 : kU q9 := by rw [eq9]; exact kKn_U hu he (hi9 ▸ vp_lt hin9)
      have hle : kle q q9 := by rw [eq9]; exact kKn_le _
      have h := h q9 x10 eq9 ex10 hu2 hle
      refine T_krow (dk dtk_X2_keep 17 rfl) (dk dtk_X2_keep 18 rfl) hu he hi9 hin9 (gok_i (av_c rfl (av_c (gkr (kl_200 hq he)) (av_c rfl (av_c rfl av_n)))) as_n) ?_
      rw [← eq9, ← ex10]
      have hu := hu2
      have hq := hu.1
      have g3 := kle_T hle g3
      have he := hle.2.1.2.1 he
      exact T_sub [1, 2, 3, 0] rfl h
  · have h := h.2 c4
    exact KM_vret (dk dtk_X2_keep 7 rfl) rfl h
set_option maxRecDepth 100000 in
set_option maxHeartbeats 4000000 in
theorem kg_X2_keep_36 {G : kG} {q : kP} {d : Nat} {x : gd} {P : Option gv → gd → kP → Prop} {X : String → gd → kP → Prop} (hu : kU q) (he : q.ex = true) (l1 : Int32) (l2 : Int32) (l3 : Int32)
    (h : vp_in l3 3000 ∧ (∀ u2, u2 = (kf q).1 203 (l3 : Int32).toNatClampNeg → ∃ c3, u2 = some c3 ∧ kK c3 = .inr (.int, 228) ∧ c3 ∈ (kf q).2.1 ∧ ¬ (0 : Int32) < 0 ∧ ¬ (0 : Int32) < 0 ∧ ¬ (x.1 220 5) < 0 ∧ (0 : Int32).toNatClampNeg + (x.1 220 5 : Int32).toNatClampNeg ≤ 228 ∧ (0 : Int32).toNatClampNeg + (x.1 220 5 : Int32).toNatClampNeg ≤ 228 ∧ (∀ x11 : gd, x11 = scp x 225 c3 (0 : Int32).toNatClampNeg (0 : Int32).toNatClampNeg (x.1 220 5 : Int32).toNatClampNeg → vp_in l3 3000 ∧ (∀ x13 : gd, x13 = si x11 204 (l3 : Int32).toNatClampNeg (x11.1 200 6) → vp_in (x13.1 200 5) 8192 ∧ (∀ x15 : gd, x15 = si x13 205 (x13.1 200 5 : Int32).toNatClampNeg (l3 + 1) → (∀ u16, u16 = (kf q).1 200 7 → ∃ c17, u16 = some c17 ∧ kiT q c17 ∧ KT G q (d + 1) zk_X10_addState 0 [(0, vr c17), (1, vi l1), (2, vi l2)] [] x15 (rv (fun x19 => P none x19 q)))))))) :
    KM G q (d + 2) zk_X2_keep 36 [(0, vr 200), (1, vi l1), (2, vi l2), (3, vi l3)] [] x P X := by
  have hq := hu.1
  refine T_aload_n 0 (dk dtk_X2_keep 19 rfl) rfl rfl ?_
  refine T_getR 200 1 220 (dk dtk_X2_keep 20 rfl) kfl_X2_20 kk_200 (kl_200 hq he) (by decide) rfl kr_200_1 ?_
  refine T_getR 220 4 225 (dk dtk_X2_keep 21 rfl) kfl_X2_106 kk_220 (kl_220 hq he) (by decide) rfl kr_220_4 ?_
  refine T_iconst (v := 0) (dk dtk_X2_keep 22 rfl) (by decide +kernel) ?_
  refine T_aload_n 0 (dk dtk_X2_keep 23 rfl) rfl rfl ?_
  refine T_getR 200 2 203 (dk dtk_X2_keep 24 rfl) kfl_X2_26 kk_200 (kl_200 hq he) (by decide) rfl kr_200_2 ?_
  refine T_iload_n 3 (dk dtk_X2_keep 25 rfl) rfl rfl ?_
  obtain ⟨h1, h⟩ := h
  obtain ⟨u2, eu2⟩ : ∃ z, z = (kf q).1 203 (l3 : Int32).toNatClampNeg := ⟨_, rfl⟩
  have h := h u2 eu2
  refine T_aaldI 203 3000 (dk dtk_X2_keep 26 rfl) kk_203 (kl_203 hq he) h1 ?_
  rw [← eu2]
  refine T_iconst (v := 0) (dk dtk_X2_keep 27 rfl) (by decide +kernel) ?_
  refine T_aload_n 0 (dk dtk_X2_keep 28 rfl) rfl rfl ?_
  refine T_getR 200 1 220 (dk dtk_X2_keep 29 rfl) kfl_X2_20 kk_200 (kl_200 hq he) (by decide) rfl kr_200_1 ?_
  refine T_getI 220 5 (dk dtk_X2_keep 30 rfl) kfl_X2_109 kk_220 (kl_220 hq he) (by decide) rfl ?_
  obtain ⟨c3, rfl, g4, g5, h⟩ := h
  obtain ⟨h6, h7, h8, h9, h10, h⟩ := h
  obtain ⟨x11, ex11⟩ : ∃ z, z = scp x 225 c3 (0 : Int32).toNatClampNeg (0 : Int32).toNatClampNeg (x.1 220 5 : Int32).toNatClampNeg := ⟨_, rfl⟩
  have h := h x11 ex11
  refine T_copy 225 c3 228 228 (dk dtk_X2_keep 31 rfl) kcy_X2_112 kk_225 (kl_225 hq he) g4 g5 (by omega) (Nat.le_of_ble_eq_true rfl) h6 h7 h8 h9 h10 ?_
  rw [← ex11]
  refine T_aload_n 0 (dk dtk_X2_keep 32 rfl) rfl rfl ?_
  refine T_getR 200 3 204 (dk dtk_X2_keep 33 rfl) kfl_X2_30 kk_200 (kl_200 hq he) (by decide) rfl kr_200_3 ?_
  refine T_iload_n 3 (dk dtk_X2_keep 34 rfl) rfl rfl ?_
  refine T_aload_n 0 (dk dtk_X2_keep 35 rfl) rfl rfl ?_
  refine T_getI 200 6 (dk dtk_X2_keep 36 rfl) kfl_X2_122 kk_200 (kl_200 hq he) (by decide) rfl ?_
  obtain ⟨h12, h⟩ := h
  obtain ⟨x13, ex13⟩ : ∃ z, z = si x11 204 (l3 : Int32).toNatClampNeg (x11.1 200 6) := ⟨_, rfl⟩
  have h := h x13 ex13
  refine T_iast 204 3000 (dk dtk_X2_keep 37 rfl) kk_204 (kl_204 hq he) h12 ?_
  rw [← ex13]
  refine T_aload_n 0 (dk dtk_X2_keep 38 rfl) rfl rfl ?_
  refine T_getR 200 4 205 (dk dtk_X2_keep 39 rfl) kfl_X2_33 kk_200 (kl_200 hq he) (by decide) rfl kr_200_4 ?_
  refine T_aload_n 0 (dk dtk_X2_keep 40 rfl) rfl rfl ?_
  refine T_getI 200 5 (dk dtk_X2_keep 41 rfl) kfl_X2_124 kk_200 (kl_200 hq he) (by decide) rfl ?_
  refine T_iload_n 3 (dk dtk_X2_keep 42 rfl) rfl rfl ?_
  refine T_iconst (v := 1) (dk dtk_X2_keep 43 rfl) (by decide +kernel) ?_
  refine T_iadd (dk dtk_X2_keep 44 rfl) ?_
  obtain ⟨h14, h⟩ := h
  obtain ⟨x15, ex15⟩ : ∃ z, z = si x13 205 (x13.1 200 5 : Int32).toNatClampNeg (l3 + 1) := ⟨_, rfl⟩
  have h := h x15 ex15
  refine T_iast 205 8192 (dk dtk_X2_keep 45 rfl) kk_205 (kl_205 hq he) h14 ?_
  rw [← ex15]
  refine T_aload_n 0 (dk dtk_X2_keep 46 rfl) rfl rfl ?_
  obtain ⟨u16, eu16⟩ : ∃ z, z = (kf q).1 200 7 := ⟨_, rfl⟩
  have h := h u16 eu16
  refine T_getO 200 7 (dk dtk_X2_keep 47 rfl) kfl_X2_44 kk_200 (kl_200 hq he) (by decide) rfl ?_
  rw [← eu16]
  refine T_iload_n 1 (dk dtk_X2_keep 48 rfl) rfl rfl ?_
  refine T_iload_n 2 (dk dtk_X2_keep 49 rfl) rfl rfl ?_
  obtain ⟨c17, rfl, g18, h⟩ := h
  refine T_sub (lv2 := []) [] rfl ?_
  refine KC_Vv [vi l1, vi l2] [] rfl (dk dtk_X2_keep 50 rfl) kcv_X2_131 rfl (kk_T0 g18) rfl (kl_T0 hq g18) (Nat.le_of_ble_eq_true rfl) (Nat.le_of_ble_eq_true rfl) (gok_i av_n as_n) rfl h (fun x19 h => ?_)
  exact KM_vret (dk dtk_X2_keep 51 rfl) rfl h
set_option maxRecDepth 100000 in
set_option maxHeartbeats 4000000 in
theorem kg_X2_addState_0 {G : kG} {q : kP} {d : Nat} {x : gd} {P : Option gv → gd → kP → Prop} {X : String → gd → kP → Prop} (hu : kU q) (he : q.ex = true) (l1 : Int32) (l2 : Int32) (l3 : Int32)
    (h : KT G q d zk_X2_isKept 0 [(0, vr 200)] [] x (ri (fun r2 x1 => ((r2 = (0 : Int32) → (∀ u4, u4 = (kf q).1 200 7 → ∃ c5, u4 = some c5 ∧ kiT q c5 ∧ (((x1.1 c5 0) < l3 → KM G q d zk_X2_keep 0 [(0, vr 200), (1, vi l1), (2, vi l2)] [] x1 (rm q (fun x8 q9 => P none x8 q9)) X) ∧ (¬ ((x1.1 c5 0) < l3) → (∀ u10, u10 = (kf q).1 200 7 → ∃ c11, u10 = some c11 ∧ kiT q c11 ∧ (∀ x13 : gd, x13 = si x1 c11 1 1 → P none x13 q)))))) ∧ (¬ (r2 = (0 : Int32)) → P none x1 q))))) :
    KM G q (d + 1) zk_X2_addState 0 [(0, vr 200), (1, vi l1), (2, vi l2), (3, vi l3)] [] x P X := by
  have hq := hu.1
  refine T_aload_n 0 (dk dtk_X2_addState 0 rfl) rfl rfl ?_
  refine KC_Vi [] [] rfl (dk dtk_X2_addState 1 rfl) kcv_X2_98 rfl kk_200 rfl (kl_200 hq he) (Nat.le_of_ble_eq_true rfl) (Nat.le_of_ble_eq_true rfl) (gok_i (av_c (gkr (kl_200 hq he)) (av_c rfl (av_c rfl (av_c rfl av_n)))) as_n) rfl h (fun r2 x1 h => ?_)
  refine T_if_eq 8 (dk dtk_X2_addState 2 rfl) (by decide) (fun c3 => ?_) (fun c3 => ?_)
  · have h := h.1 c3
    refine T_aload_n 0 (dk dtk_X2_addState 4 rfl) rfl rfl ?_
    obtain ⟨u4, eu4⟩ : ∃ z, z = (kf q).1 200 7 := ⟨_, rfl⟩
    have h := h u4 eu4
    refine T_getO 200 7 (dk dtk_X2_addState 5 rfl) kfl_X2_44 kk_200 (kl_200 hq he) (by decide) rfl ?_
    rw [← eu4]
    obtain ⟨c5, rfl, g6, h⟩ := h
    refine T_getI c5 0 (dk dtk_X2_addState 6 rfl) kfl_X2_73 (kk_T0 g6) (kl_T0 hq g6) (by decide) rfl ?_
    refine T_iload_n 3 (dk dtk_X2_addState 7 rfl) rfl rfl ?_
    refine T_icmp_lt 30 (dk dtk_X2_addState 8 rfl) (by decide) (fun c7 => ?_) (fun c7 => ?_)
    · have h := h.1 c7
      refine T_aload_n 0 (dk dtk_X2_addState 14 rfl) rfl rfl ?_
      refine T_iload_n 1 (dk dtk_X2_addState 15 rfl) rfl rfl ?_
      refine T_iload_n 2 (dk dtk_X2_addState 16 rfl) rfl rfl ?_
      refine T_sub (lv2 := []) [] rfl ?_
      refine KM_Vv [vi l1, vi l2] [] rfl (dk dtk_X2_addState 17 rfl) kcv_X2_102 rfl kk_200 rfl (kl_200 hq he) (Nat.le_of_ble_eq_true rfl) (Nat.le_of_ble_eq_true rfl) (gok_i av_n as_n) rfl h (fun x8 q9 hu hle h => ?_)
      have hq := hu.1
      have g6 := kle_T hle g6
      have he := hle.2.1.2.1 he
      exact KM_vret (dk dtk_X2_addState 18 rfl) rfl h
    · have h := h.2 c7
      refine T_aload_n 0 (dk dtk_X2_addState 9 rfl) rfl rfl ?_
      obtain ⟨u10, eu10⟩ : ∃ z, z = (kf q).1 200 7 := ⟨_, rfl⟩
      have h := h u10 eu10
      refine T_getO 200 7 (dk dtk_X2_addState 10 rfl) kfl_X2_44 kk_200 (kl_200 hq he) (by decide) rfl ?_
      rw [← eu10]
      refine T_iconst (v := 1) (dk dtk_X2_addState 11 rfl) (by decide +kernel) ?_
      obtain ⟨c11, rfl, g12, h⟩ := h
      obtain ⟨x13, ex13⟩ : ∃ z, z = si x1 c11 1 1 := ⟨_, rfl⟩
      have h := h x13 ex13
      refine T_putI c11 1 (dk dtk_X2_addState 12 rfl) kfl_X2_91 (kk_T0 g12) (kl_T0 hq g12) (by decide) rfl ⟨rfl, rfl⟩ ?_
      rw [← ex13]
      refine T_goto 36 (dk dtk_X2_addState 13 rfl) (by decide) ?_
      exact KM_vret (dk dtk_X2_addState 18 rfl) rfl h
  · have h := h.2 c3
    exact KM_vret (dk dtk_X2_addState 3 rfl) rfl h
set_option maxRecDepth 100000 in
set_option maxHeartbeats 4000000 in
theorem kg_X2_inspectEnd_0 {G : kG} {q : kP} {d : Nat} {x : gd} {P : Option gv → gd → kP → Prop} {X : String → gd → kP → Prop} (hu : kU q) (he : q.ex = true) (l1 : Int32)
    (h : (∀ u1, u1 = (kf q).1 200 7 → ∃ c2, u1 = some c2 ∧ kiT q c2 ∧ (∀ x4 : gd, x4 = si x c2 2 ((x.1 c2 2) + 1) → (∀ u5, u5 = (kf q).1 200 7 → ∃ c6, u5 = some c6 ∧ kiT q c6 ∧ KM G q d zk_X10_addOutcome 0 [(0, vr c6), (1, vr 225), (2, vi (x4.1 60 6))] [] x4 (rm q (fun x8 q9 => KT G q9 d zk_X5_anyGoing 0 [(0, vr 220)] [] x8 (ri (fun r11 x10 => ((r11 = (0 : Int32) → KM G q9 (d + 1) zk_X2_inspectEnd 57 [(0, vr 200), (1, vi l1), (2, vi 0)] [] x10 P X) ∧ (¬ (r11 = (0 : Int32)) → (∀ u13, u13 = (kf q9).1 200 7 → ∃ c14, u13 = some c14 ∧ kiT q9 c14 ∧ KT G q9 d zk_X10_find 0 [(0, vr c14), (1, vi 8), (2, vi l1)] [] x10 (rv (fun x16 => P none x16 q9))))))))) X)))) :
    KM G q (d + 1) zk_X2_inspectEnd 0 [(0, vr 200), (1, vi l1)] [] x P X := by
  have hq := hu.1
  refine T_aload_n 0 (dk dtk_X2_inspectEnd 0 rfl) rfl rfl ?_
  obtain ⟨u1, eu1⟩ : ∃ z, z = (kf q).1 200 7 := ⟨_, rfl⟩
  have h := h u1 eu1
  refine T_getO 200 7 (dk dtk_X2_inspectEnd 1 rfl) kfl_X2_44 kk_200 (kl_200 hq he) (by decide) rfl ?_
  rw [← eu1]
  refine T_dup (dk dtk_X2_inspectEnd 2 rfl) rfl ?_
  obtain ⟨c2, rfl, g3, h⟩ := h
  refine T_getI c2 2 (dk dtk_X2_inspectEnd 3 rfl) kfl_X2_158 (kk_T0 g3) (kl_T0 hq g3) (by decide) rfl ?_
  refine T_iconst (v := 1) (dk dtk_X2_inspectEnd 4 rfl) (by decide +kernel) ?_
  refine T_iadd (dk dtk_X2_inspectEnd 5 rfl) ?_
  obtain ⟨x4, ex4⟩ : ∃ z, z = si x c2 2 ((x.1 c2 2) + 1) := ⟨_, rfl⟩
  have h := h x4 ex4
  refine T_putI c2 2 (dk dtk_X2_inspectEnd 6 rfl) kfl_X2_158 (kk_T0 g3) (kl_T0 hq g3) (by decide) rfl ⟨rfl, rfl⟩ ?_
  rw [← ex4]
  refine T_aload_n 0 (dk dtk_X2_inspectEnd 7 rfl) rfl rfl ?_
  obtain ⟨u5, eu5⟩ : ∃ z, z = (kf q).1 200 7 := ⟨_, rfl⟩
  have h := h u5 eu5
  refine T_getO 200 7 (dk dtk_X2_inspectEnd 8 rfl) kfl_X2_44 kk_200 (kl_200 hq he) (by decide) rfl ?_
  rw [← eu5]
  refine T_aload_n 0 (dk dtk_X2_inspectEnd 9 rfl) rfl rfl ?_
  refine T_getR 200 1 220 (dk dtk_X2_inspectEnd 10 rfl) kfl_X2_20 kk_200 (kl_200 hq he) (by decide) rfl kr_200_1 ?_
  refine T_getR 220 4 225 (dk dtk_X2_inspectEnd 11 rfl) kfl_X2_106 kk_220 (kl_220 hq he) (by decide) rfl kr_220_4 ?_
  refine T_aload_n 0 (dk dtk_X2_inspectEnd 12 rfl) rfl rfl ?_
  refine T_getR 200 0 60 (dk dtk_X2_inspectEnd 13 rfl) kfl_X2_9 kk_200 (kl_200 hq he) (by decide) rfl kr_200_0 ?_
  refine T_getI 60 6 (dk dtk_X2_inspectEnd 14 rfl) kfl_X2_161 kk_60 (kl_60 hq) (by decide) rfl ?_
  obtain ⟨c6, rfl, g7, h⟩ := h
  refine KM_Vv [vr 225, vi (x4.1 60 6)] [] rfl (dk dtk_X2_inspectEnd 15 rfl) kcv_X2_164 rfl (kk_T0 g7) rfl (kl_T0 hq g7) (Nat.le_of_ble_eq_true rfl) (Nat.le_of_ble_eq_true rfl) (gok_i (av_c (gkr (kl_200 hq he)) (av_c rfl av_n)) as_n) rfl h (fun x8 q9 hu hle h => ?_)
  have hq := hu.1
  have g3 := kle_T hle g3
  have g7 := kle_T hle g7
  have he := hle.2.1.2.1 he
  refine T_aload_n 0 (dk dtk_X2_inspectEnd 16 rfl) rfl rfl ?_
  refine T_getR 200 1 220 (dk dtk_X2_inspectEnd 17 rfl) kfl_X2_20 kk_200 (kl_200 hq he) (by decide) rfl kr_200_1 ?_
  refine KC_Vi [] [] rfl (dk dtk_X2_inspectEnd 18 rfl) kcv_X2_167 rfl kk_220 rfl (kl_220 hq he) (Nat.le_of_ble_eq_true rfl) (Nat.le_of_ble_eq_true rfl) (gok_i (av_c (gkr (kl_200 hq he)) (av_c rfl av_n)) as_n) rfl h (fun r11 x10 h => ?_)
  refine T_if_eq 55 (dk dtk_X2_inspectEnd 19 rfl) (by decide) (fun c12 => ?_) (fun c12 => ?_)
  · have h := h.1 c12
    refine T_iconst (v := 0) (dk dtk_X2_inspectEnd 26 rfl) (by decide +kernel) ?_
    refine T_istore_n (lv2 := [(2, vi 0), (0, vr 200), (1, vi l1)]) (dk dtk_X2_inspectEnd 27 rfl) rfl (by decide) rfl ?_
    exact T_sub [1, 2, 0] rfl h
  · have h := h.2 c12
    refine T_aload_n 0 (dk dtk_X2_inspectEnd 20 rfl) rfl rfl ?_
    obtain ⟨u13, eu13⟩ : ∃ z, z = (kf q9).1 200 7 := ⟨_, rfl⟩
    have h := h u13 eu13
    refine T_getO 200 7 (dk dtk_X2_inspectEnd 21 rfl) kfl_X2_44 kk_200 (kl_200 hq he) (by decide) rfl ?_
    rw [← eu13]
    refine T_bipush (v := 8) (dk dtk_X2_inspectEnd 22 rfl) (by decide +kernel) ?_
    refine T_iload_n 1 (dk dtk_X2_inspectEnd 23 rfl) rfl rfl ?_
    obtain ⟨c14, rfl, g15, h⟩ := h
    refine T_sub (lv2 := []) [] rfl ?_
    refine KC_Vv [vi 8, vi l1] [] rfl (dk dtk_X2_inspectEnd 24 rfl) kcv_X2_146 rfl (kk_T0 g15) rfl (kl_T0 hq g15) (Nat.le_of_ble_eq_true rfl) (Nat.le_of_ble_eq_true rfl) (gok_i av_n as_n) rfl h (fun x16 h => ?_)
    exact KM_vret (dk dtk_X2_inspectEnd 25 rfl) rfl h
set_option maxRecDepth 100000 in
set_option maxHeartbeats 4000000 in
theorem kg_X2_inspectEnd_57 {G : kG} {q : kP} {d : Nat} {x : gd} {P : Option gv → gd → kP → Prop} {X : String → gd → kP → Prop} (hu : kU q) (he : q.ex = true) (l1 : Int32) (l2 : Int32)
    (h : (((x.1 60 16) ≤ l2 → P none x q) ∧ (¬ ((x.1 60 16) ≤ l2) → vp_in l2 4 ∧ KT G q d zk_X2_isFalse 0 [(0, vr 200), (1, vi (x.1 78 (l2 : Int32).toNatClampNeg))] [] x (ri (fun r4 x3 => ((r4 = (0 : Int32) → KM G q (d + 1) zk_X2_inspectEnd 57 [(0, vr 200), (1, vi l1), (2, vi (l2 + 1))] [] x3 P X) ∧ (¬ (r4 = (0 : Int32)) → (∀ u6, u6 = (kf q).1 200 7 → ∃ c7, u6 = some c7 ∧ kiT q c7 ∧ KT G q d zk_X10_find 0 [(0, vr c7), (1, vi (4 + l2)), (2, vi l1)] [] x3 (rv (fun x9 => KM G q (d + 1) zk_X2_inspectEnd 57 [(0, vr 200), (1, vi l1), (2, vi (l2 + 1))] [] x9 P X)))))))))) :
    KM G q (d + 1) zk_X2_inspectEnd 57 [(0, vr 200), (1, vi l1), (2, vi l2)] [] x P X := by
  have hq := hu.1
  refine T_iload_n 2 (dk dtk_X2_inspectEnd 28 rfl) rfl rfl ?_
  refine T_aload_n 0 (dk dtk_X2_inspectEnd 29 rfl) rfl rfl ?_
  refine T_getR 200 0 60 (dk dtk_X2_inspectEnd 30 rfl) kfl_X2_9 kk_200 (kl_200 hq he) (by decide) rfl kr_200_0 ?_
  refine T_getI 60 16 (dk dtk_X2_inspectEnd 31 rfl) kfl_X2_170 kk_60 (kl_60 hq) (by decide) rfl ?_
  refine T_icmp_ge 101 (dk dtk_X2_inspectEnd 32 rfl) (by decide) (fun c1 => ?_) (fun c1 => ?_)
  · have h := h.1 c1
    exact KM_vret (dk dtk_X2_inspectEnd 50 rfl) rfl h
  · have h := h.2 c1
    refine T_aload_n 0 (dk dtk_X2_inspectEnd 33 rfl) rfl rfl ?_
    refine T_aload_n 0 (dk dtk_X2_inspectEnd 34 rfl) rfl rfl ?_
    refine T_getR 200 0 60 (dk dtk_X2_inspectEnd 35 rfl) kfl_X2_9 kk_200 (kl_200 hq he) (by decide) rfl kr_200_0 ?_
    refine T_getR 60 17 78 (dk dtk_X2_inspectEnd 36 rfl) kfl_X2_173 kk_60 (kl_60 hq) (by decide) rfl kr_60_17 ?_
    refine T_iload_n 2 (dk dtk_X2_inspectEnd 37 rfl) rfl rfl ?_
    obtain ⟨h2, h⟩ := h
    refine T_iald 78 4 (dk dtk_X2_inspectEnd 38 rfl) kk_78 (kl_78 hq) h2 ?_
    refine KC_Vi [vi (x.1 78 (l2 : Int32).toNatClampNeg)] [] rfl (dk dtk_X2_inspectEnd 39 rfl) kcv_X2_142 rfl kk_200 rfl (kl_200 hq he) (Nat.le_of_ble_eq_true rfl) (Nat.le_of_ble_eq_true rfl) (gok_i (av_c (gkr (kl_200 hq he)) (av_c rfl (av_c rfl av_n))) as_n) rfl h (fun r4 x3 h => ?_)
    refine T_if_eq 95 (dk dtk_X2_inspectEnd 40 rfl) (by decide) (fun c5 => ?_) (fun c5 => ?_)
    · have h := h.1 c5
      refine T_iinc (v := l2 + 1) (lv2 := [(2, vi (l2 + 1)), (0, vr 200), (1, vi l1)]) 2 (dk dtk_X2_inspectEnd 48 rfl) rfl rfl (by decide) rfl ?_
      refine T_goto 57 (dk dtk_X2_inspectEnd 49 rfl) (by decide) ?_
      exact T_sub [1, 2, 0] rfl h
    · have h := h.2 c5
      refine T_aload_n 0 (dk dtk_X2_inspectEnd 41 rfl) rfl rfl ?_
      obtain ⟨u6, eu6⟩ : ∃ z, z = (kf q).1 200 7 := ⟨_, rfl⟩
      have h := h u6 eu6
      refine T_getO 200 7 (dk dtk_X2_inspectEnd 42 rfl) kfl_X2_44 kk_200 (kl_200 hq he) (by decide) rfl ?_
      rw [← eu6]
      refine T_iconst (v := 4) (dk dtk_X2_inspectEnd 43 rfl) (by decide +kernel) ?_
      refine T_iload_n 2 (dk dtk_X2_inspectEnd 44 rfl) rfl rfl ?_
      refine T_iadd (dk dtk_X2_inspectEnd 45 rfl) ?_
      refine T_iload_n 1 (dk dtk_X2_inspectEnd 46 rfl) rfl rfl ?_
      obtain ⟨c7, rfl, g8, h⟩ := h
      refine KC_Vv [vi (4 + l2), vi l1] [] rfl (dk dtk_X2_inspectEnd 47 rfl) kcv_X2_146 rfl (kk_T0 g8) rfl (kl_T0 hq g8) (Nat.le_of_ble_eq_true rfl) (Nat.le_of_ble_eq_true rfl) (gok_i (av_c (gkr (kl_200 hq he)) (av_c rfl (av_c rfl av_n))) as_n) rfl h (fun x9 h => ?_)
      refine T_iinc (v := l2 + 1) (lv2 := [(2, vi (l2 + 1)), (0, vr 200), (1, vi l1)]) 2 (dk dtk_X2_inspectEnd 48 rfl) rfl rfl (by decide) rfl ?_
      refine T_goto 57 (dk dtk_X2_inspectEnd 49 rfl) (by decide) ?_
      exact T_sub [1, 2, 0] rfl h
set_option maxRecDepth 100000 in
set_option maxHeartbeats 4000000 in
theorem kg_X2_inspect_0 {G : kG} {q : kP} {d : Nat} {x : gd} {P : Option gv → gd → kP → Prop} {X : String → gd → kP → Prop} (hu : kU q) (he : q.ex = true) (l1 : Int32)
    (h : (∀ u1, u1 = (kf q).1 200 7 → ∃ c2, u1 = some c2 ∧ kiT q c2 ∧ (∀ x4 : gd, x4 = si x c2 5 ((x.1 c2 5) + (x.1 220 13)) → KM G q (d + 1) zk_X2_inspect 21 [(0, vr 200), (1, vi l1), (2, vi 0)] [] x4 P X))) :
    KM G q (d + 1) zk_X2_inspect 0 [(0, vr 200), (1, vi l1)] [] x P X := by
  have hq := hu.1
  refine T_aload_n 0 (dk dtk_X2_inspect 0 rfl) rfl rfl ?_
  obtain ⟨u1, eu1⟩ : ∃ z, z = (kf q).1 200 7 := ⟨_, rfl⟩
  have h := h u1 eu1
  refine T_getO 200 7 (dk dtk_X2_inspect 1 rfl) kfl_X2_44 kk_200 (kl_200 hq he) (by decide) rfl ?_
  rw [← eu1]
  refine T_dup (dk dtk_X2_inspect 2 rfl) rfl ?_
  obtain ⟨c2, rfl, g3, h⟩ := h
  refine T_getI c2 5 (dk dtk_X2_inspect 3 rfl) kfl_X2_133 (kk_T0 g3) (kl_T0 hq g3) (by decide) rfl ?_
  refine T_aload_n 0 (dk dtk_X2_inspect 4 rfl) rfl rfl ?_
  refine T_getR 200 1 220 (dk dtk_X2_inspect 5 rfl) kfl_X2_20 kk_200 (kl_200 hq he) (by decide) rfl kr_200_1 ?_
  refine T_getI 220 13 (dk dtk_X2_inspect 6 rfl) kfl_X2_88 kk_220 (kl_220 hq he) (by decide) rfl ?_
  refine T_iadd (dk dtk_X2_inspect 7 rfl) ?_
  obtain ⟨x4, ex4⟩ : ∃ z, z = si x c2 5 ((x.1 c2 5) + (x.1 220 13)) := ⟨_, rfl⟩
  have h := h x4 ex4
  refine T_putI c2 5 (dk dtk_X2_inspect 8 rfl) kfl_X2_133 (kk_T0 g3) (kl_T0 hq g3) (by decide) rfl ⟨rfl, rfl⟩ ?_
  rw [← ex4]
  refine T_iconst (v := 0) (dk dtk_X2_inspect 9 rfl) (by decide +kernel) ?_
  refine T_istore_n (lv2 := [(2, vi 0), (0, vr 200), (1, vi l1)]) (dk dtk_X2_inspect 10 rfl) rfl (by decide) rfl ?_
  exact T_sub [1, 2, 0] rfl h
set_option maxRecDepth 100000 in
set_option maxHeartbeats 4000000 in
theorem kg_X2_inspect_21 {G : kG} {q : kP} {d : Nat} {x : gd} {P : Option gv → gd → kP → Prop} {X : String → gd → kP → Prop} (hu : kU q) (he : q.ex = true) (l1 : Int32) (l2 : Int32)
    (h : (((x.1 60 14) ≤ l2 → ((¬ ((x.1 220 13) = (0 : Int32)) → KM G q (d + 1) zk_X2_inspect 78 [(0, vr 200), (1, vi l1)] [] x P X) ∧ ((x.1 220 13) = (0 : Int32) → KM G q d zk_X2_inspectEnd 0 [(0, vr 200), (1, vi l1)] [] x (rm q (fun x3 q4 => KM G q4 (d + 1) zk_X2_inspect 78 [(0, vr 200), (1, vi l1)] [] x3 P X)) X))) ∧ (¬ ((x.1 60 14) ≤ l2) → vp_in l2 4 ∧ KT G q d zk_X2_isFalse 0 [(0, vr 200), (1, vi (x.1 76 (l2 : Int32).toNatClampNeg))] [] x (ri (fun r7 x6 => ((r7 = (0 : Int32) → KM G q (d + 1) zk_X2_inspect 21 [(0, vr 200), (1, vi l1), (2, vi (l2 + 1))] [] x6 P X) ∧ (¬ (r7 = (0 : Int32)) → (∀ u9, u9 = (kf q).1 200 7 → ∃ c10, u9 = some c10 ∧ kiT q c10 ∧ KT G q d zk_X10_find 0 [(0, vr c10), (1, vi l2), (2, vi l1)] [] x6 (rv (fun x12 => KM G q (d + 1) zk_X2_inspect 21 [(0, vr 200), (1, vi l1), (2, vi (l2 + 1))] [] x12 P X)))))))))) :
    KM G q (d + 1) zk_X2_inspect 21 [(0, vr 200), (1, vi l1), (2, vi l2)] [] x P X := by
  have hq := hu.1
  refine T_iload_n 2 (dk dtk_X2_inspect 11 rfl) rfl rfl ?_
  refine T_aload_n 0 (dk dtk_X2_inspect 12 rfl) rfl rfl ?_
  refine T_getR 200 0 60 (dk dtk_X2_inspect 13 rfl) kfl_X2_9 kk_200 (kl_200 hq he) (by decide) rfl kr_200_0 ?_
  refine T_getI 60 14 (dk dtk_X2_inspect 14 rfl) kfl_X2_136 kk_60 (kl_60 hq) (by decide) rfl ?_
  refine T_icmp_ge 63 (dk dtk_X2_inspect 15 rfl) (by decide) (fun c1 => ?_) (fun c1 => ?_)
  · have h := h.1 c1
    refine T_aload_n 0 (dk dtk_X2_inspect 31 rfl) rfl rfl ?_
    refine T_getR 200 1 220 (dk dtk_X2_inspect 32 rfl) kfl_X2_20 kk_200 (kl_200 hq he) (by decide) rfl kr_200_1 ?_
    refine T_getI 220 13 (dk dtk_X2_inspect 33 rfl) kfl_X2_88 kk_220 (kl_220 hq he) (by decide) rfl ?_
    refine T_if_ne 78 (dk dtk_X2_inspect 34 rfl) (by decide) (fun c2 => ?_) (fun c2 => ?_)
    · have h := h.1 c2
      exact T_sub [0, 1] rfl h
    · have h := h.2 c2
      refine T_aload_n 0 (dk dtk_X2_inspect 35 rfl) rfl rfl ?_
      refine T_iload_n 1 (dk dtk_X2_inspect 36 rfl) rfl rfl ?_
      refine T_sub (lv2 := [(0, vr 200), (1, vi l1)]) [0, 1] rfl ?_
      refine KM_Vv [vi l1] [] rfl (dk dtk_X2_inspect 37 rfl) kcv_X2_149 rfl kk_200 rfl (kl_200 hq he) (Nat.le_of_ble_eq_true rfl) (Nat.le_of_ble_eq_true rfl) (gok_i (av_c (gkr (kl_200 hq he)) (av_c rfl av_n)) as_n) rfl h (fun x3 q4 hu hle h => ?_)
      have hq := hu.1
      have he := hle.2.1.2.1 he
      exact h
  · have h := h.2 c1
    refine T_aload_n 0 (dk dtk_X2_inspect 16 rfl) rfl rfl ?_
    refine T_aload_n 0 (dk dtk_X2_inspect 17 rfl) rfl rfl ?_
    refine T_getR 200 0 60 (dk dtk_X2_inspect 18 rfl) kfl_X2_9 kk_200 (kl_200 hq he) (by decide) rfl kr_200_0 ?_
    refine T_getR 60 15 76 (dk dtk_X2_inspect 19 rfl) kfl_X2_139 kk_60 (kl_60 hq) (by decide) rfl kr_60_15 ?_
    refine T_iload_n 2 (dk dtk_X2_inspect 20 rfl) rfl rfl ?_
    obtain ⟨h5, h⟩ := h
    refine T_iald 76 4 (dk dtk_X2_inspect 21 rfl) kk_76 (kl_76 hq) h5 ?_
    refine KC_Vi [vi (x.1 76 (l2 : Int32).toNatClampNeg)] [] rfl (dk dtk_X2_inspect 22 rfl) kcv_X2_142 rfl kk_200 rfl (kl_200 hq he) (Nat.le_of_ble_eq_true rfl) (Nat.le_of_ble_eq_true rfl) (gok_i (av_c (gkr (kl_200 hq he)) (av_c rfl (av_c rfl av_n))) as_n) rfl h (fun r7 x6 h => ?_)
    refine T_if_eq 57 (dk dtk_X2_inspect 23 rfl) (by decide) (fun c8 => ?_) (fun c8 => ?_)
    · have h := h.1 c8
      refine T_iinc (v := l2 + 1) (lv2 := [(2, vi (l2 + 1)), (0, vr 200), (1, vi l1)]) 2 (dk dtk_X2_inspect 29 rfl) rfl rfl (by decide) rfl ?_
      refine T_goto 21 (dk dtk_X2_inspect 30 rfl) (by decide) ?_
      exact T_sub [1, 2, 0] rfl h
    · have h := h.2 c8
      refine T_aload_n 0 (dk dtk_X2_inspect 24 rfl) rfl rfl ?_
      obtain ⟨u9, eu9⟩ : ∃ z, z = (kf q).1 200 7 := ⟨_, rfl⟩
      have h := h u9 eu9
      refine T_getO 200 7 (dk dtk_X2_inspect 25 rfl) kfl_X2_44 kk_200 (kl_200 hq he) (by decide) rfl ?_
      rw [← eu9]
      refine T_iload_n 2 (dk dtk_X2_inspect 26 rfl) rfl rfl ?_
      refine T_iload_n 1 (dk dtk_X2_inspect 27 rfl) rfl rfl ?_
      obtain ⟨c10, rfl, g11, h⟩ := h
      refine KC_Vv [vi l2, vi l1] [] rfl (dk dtk_X2_inspect 28 rfl) kcv_X2_146 rfl (kk_T0 g11) rfl (kl_T0 hq g11) (Nat.le_of_ble_eq_true rfl) (Nat.le_of_ble_eq_true rfl) (gok_i (av_c (gkr (kl_200 hq he)) (av_c rfl (av_c rfl av_n))) as_n) rfl h (fun x12 h => ?_)
      refine T_iinc (v := l2 + 1) (lv2 := [(2, vi (l2 + 1)), (0, vr 200), (1, vi l1)]) 2 (dk dtk_X2_inspect 29 rfl) rfl rfl (by decide) rfl ?_
      refine T_goto 21 (dk dtk_X2_inspect 30 rfl) (by decide) ?_
      exact T_sub [1, 2, 0] rfl h
set_option maxRecDepth 100000 in
set_option maxHeartbeats 4000000 in
theorem kg_X2_inspect_78 {G : kG} {q : kP} {d : Nat} {x : gd} {P : Option gv → gd → kP → Prop} {X : String → gd → kP → Prop} (hu : kU q) (he : q.ex = true) (l1 : Int32)
    (h : KT G q d zk_X5_anyFailed 0 [(0, vr 220)] [] x (ri (fun r2 x1 => ((r2 = (0 : Int32) → KM G q (d + 1) zk_X2_inspect 98 [(0, vr 200), (1, vi l1)] [] x1 P X) ∧ (¬ (r2 = (0 : Int32)) → (∀ u4, u4 = (kf q).1 200 7 → ∃ c5, u4 = some c5 ∧ kiT q c5 ∧ KT G q d zk_X10_find 0 [(0, vr c5), (1, vi 9), (2, vi l1)] [] x1 (rv (fun x7 => KM G q (d + 1) zk_X2_inspect 98 [(0, vr 200), (1, vi l1)] [] x7 P X)))))))) :
    KM G q (d + 1) zk_X2_inspect 78 [(0, vr 200), (1, vi l1)] [] x P X := by
  have hq := hu.1
  refine T_aload_n 0 (dk dtk_X2_inspect 38 rfl) rfl rfl ?_
  refine T_getR 200 1 220 (dk dtk_X2_inspect 39 rfl) kfl_X2_20 kk_200 (kl_200 hq he) (by decide) rfl kr_200_1 ?_
  refine KC_Vi [] [] rfl (dk dtk_X2_inspect 40 rfl) kcv_X2_152 rfl kk_220 rfl (kl_220 hq he) (Nat.le_of_ble_eq_true rfl) (Nat.le_of_ble_eq_true rfl) (gok_i (av_c (gkr (kl_200 hq he)) (av_c rfl av_n)) as_n) rfl h (fun r2 x1 h => ?_)
  refine T_if_eq 98 (dk dtk_X2_inspect 41 rfl) (by decide) (fun c3 => ?_) (fun c3 => ?_)
  · have h := h.1 c3
    exact h
  · have h := h.2 c3
    refine T_aload_n 0 (dk dtk_X2_inspect 42 rfl) rfl rfl ?_
    obtain ⟨u4, eu4⟩ : ∃ z, z = (kf q).1 200 7 := ⟨_, rfl⟩
    have h := h u4 eu4
    refine T_getO 200 7 (dk dtk_X2_inspect 43 rfl) kfl_X2_44 kk_200 (kl_200 hq he) (by decide) rfl ?_
    rw [← eu4]
    refine T_bipush (v := 9) (dk dtk_X2_inspect 44 rfl) (by decide +kernel) ?_
    refine T_iload_n 1 (dk dtk_X2_inspect 45 rfl) rfl rfl ?_
    obtain ⟨c5, rfl, g6, h⟩ := h
    refine KC_Vv [vi 9, vi l1] [] rfl (dk dtk_X2_inspect 46 rfl) kcv_X2_146 rfl (kk_T0 g6) rfl (kl_T0 hq g6) (Nat.le_of_ble_eq_true rfl) (Nat.le_of_ble_eq_true rfl) (gok_i (av_c (gkr (kl_200 hq he)) (av_c rfl av_n)) as_n) rfl h (fun x7 h => ?_)
    exact h
set_option maxRecDepth 100000 in
set_option maxHeartbeats 4000000 in
theorem kg_X2_inspect_98 {G : kG} {q : kP} {d : Nat} {x : gd} {P : Option gv → gd → kP → Prop} {X : String → gd → kP → Prop} (hu : kU q) (he : q.ex = true) (l1 : Int32)
    (h : KT G q d zk_X2_isRacing 0 [(0, vr 200)] [] x (ri (fun r2 x1 => ((r2 = (0 : Int32) → P none x1 q) ∧ (¬ (r2 = (0 : Int32)) → (∀ u4, u4 = (kf q).1 200 7 → ∃ c5, u4 = some c5 ∧ kiT q c5 ∧ KT G q d zk_X10_find 0 [(0, vr c5), (1, vi 10), (2, vi l1)] [] x1 (rv (fun x7 => P none x7 q)))))))) :
    KM G q (d + 1) zk_X2_inspect 98 [(0, vr 200), (1, vi l1)] [] x P X := by
  have hq := hu.1
  refine T_aload_n 0 (dk dtk_X2_inspect 47 rfl) rfl rfl ?_
  refine KC_Vi [] [] rfl (dk dtk_X2_inspect 48 rfl) kcv_X2_155 rfl kk_200 rfl (kl_200 hq he) (Nat.le_of_ble_eq_true rfl) (Nat.le_of_ble_eq_true rfl) (gok_i (av_c (gkr (kl_200 hq he)) (av_c rfl av_n)) as_n) rfl h (fun r2 x1 h => ?_)
  refine T_if_eq 115 (dk dtk_X2_inspect 49 rfl) (by decide) (fun c3 => ?_) (fun c3 => ?_)
  · have h := h.1 c3
    exact KM_vret (dk dtk_X2_inspect 55 rfl) rfl h
  · have h := h.2 c3
    refine T_aload_n 0 (dk dtk_X2_inspect 50 rfl) rfl rfl ?_
    obtain ⟨u4, eu4⟩ : ∃ z, z = (kf q).1 200 7 := ⟨_, rfl⟩
    have h := h u4 eu4
    refine T_getO 200 7 (dk dtk_X2_inspect 51 rfl) kfl_X2_44 kk_200 (kl_200 hq he) (by decide) rfl ?_
    rw [← eu4]
    refine T_bipush (v := 10) (dk dtk_X2_inspect 52 rfl) (by decide +kernel) ?_
    refine T_iload_n 1 (dk dtk_X2_inspect 53 rfl) rfl rfl ?_
    obtain ⟨c5, rfl, g6, h⟩ := h
    refine T_sub (lv2 := []) [] rfl ?_
    refine KC_Vv [vi 10, vi l1] [] rfl (dk dtk_X2_inspect 54 rfl) kcv_X2_146 rfl (kk_T0 g6) rfl (kl_T0 hq g6) (Nat.le_of_ble_eq_true rfl) (Nat.le_of_ble_eq_true rfl) (gok_i av_n as_n) rfl h (fun x7 h => ?_)
    exact KM_vret (dk dtk_X2_inspect 55 rfl) rfl h
set_option maxRecDepth 100000 in
set_option maxHeartbeats 4000000 in
theorem kg_X2_explore_0 {G : kG} {q : kP} {d : Nat} {x : gd} {P : Option gv → gd → kP → Prop} {X : String → gd → kP → Prop} (hu : kU q) (he : q.ex = true) {a3 : Nat} (ha3 : kiT q a3) (l1 : Int32) (l2 : Int32)
    (h : (∀ q1, q1 = kEt q a3 → kU q1 → kle q q1 → (∀ u2, u2 = (kf q1).1 200 7 → ∃ c3, u2 = some c3 ∧ kiT q1 c3 ∧ KT G q1 d zk_X10_clear 0 [(0, vr c3), (1, vi ((1 <<< ((x.1 60 9) &&& 31 : Int32)) - 1))] [] x (rv (fun x5 => (∀ x6 : gd, x6 = sfl x5 205 0 8192 → KT G q1 d zk_X5_reset 0 [(0, vr 220), (1, vi l1)] [] x6 (rv (fun x7 => KM G q1 d zk_X2_addState 0 [(0, vr 200), (1, vi (-1)), (2, vi (-1)), (3, vi l2)] [] x7 (rm q1 (fun x8 q9 => KM G q9 (d + 1) zk_X2_explore 49 [(0, vr 200), (2, vi l2), (4, vi 0)] [] x8 P X)) X)))))))) :
    KM G q (d + 1) zk_X2_explore 0 [(0, vr 200), (1, vi l1), (2, vi l2), (3, vr a3)] [] x P X := by
  have hq := hu.1
  refine T_aload_n 0 (dk dtk_X2_explore 0 rfl) rfl rfl ?_
  refine T_aload_n 3 (dk dtk_X2_explore 1 rfl) rfl rfl ?_
  obtain ⟨q1, eq1⟩ : ∃ z, z = kEt q a3 := ⟨_, rfl⟩
  have hu2 : kU q1 := by rw [eq1]; exact kEt_U hu he ha3
  have hle : kle q q1 := by rw [eq1]; exact kEt_le _ _
  have h := h q1 eq1 hu2 hle
  refine T_sett (dk dtk_X2_explore 2 rfl) hu he ?_
  rw [← eq1]
  have hu := hu2
  have hq := hu.1
  have ha3 := kle_T hle ha3
  have he := hle.2.1.2.1 he
  refine T_aload_n 0 (dk dtk_X2_explore 3 rfl) rfl rfl ?_
  obtain ⟨u2, eu2⟩ : ∃ z, z = (kf q1).1 200 7 := ⟨_, rfl⟩
  have h := h u2 eu2
  refine T_getO 200 7 (dk dtk_X2_explore 4 rfl) kfl_X2_44 kk_200 (kl_200 hq he) (by decide) rfl ?_
  rw [← eu2]
  refine T_iconst (v := 1) (dk dtk_X2_explore 5 rfl) (by decide +kernel) ?_
  refine T_aload_n 0 (dk dtk_X2_explore 6 rfl) rfl rfl ?_
  refine T_getR 200 0 60 (dk dtk_X2_explore 7 rfl) kfl_X2_9 kk_200 (kl_200 hq he) (by decide) rfl kr_200_0 ?_
  refine T_getI 60 9 (dk dtk_X2_explore 8 rfl) kfl_X2_48 kk_60 (kl_60 hq) (by decide) rfl ?_
  refine T_ishl (dk dtk_X2_explore 9 rfl) ?_
  refine T_iconst (v := 1) (dk dtk_X2_explore 10 rfl) (by decide +kernel) ?_
  refine T_isub (dk dtk_X2_explore 11 rfl) ?_
  obtain ⟨c3, rfl, g4, h⟩ := h
  refine T_sub (lv2 := [(0, vr 200), (1, vi l1), (2, vi l2)]) [0, 1, 2] rfl ?_
  refine KC_Vv [vi ((1 <<< ((x.1 60 9) &&& 31 : Int32)) - 1)] [] rfl (dk dtk_X2_explore 12 rfl) kcv_X2_54 rfl (kk_T0 g4) rfl (kl_T0 hq g4) (Nat.le_of_ble_eq_true rfl) (Nat.le_of_ble_eq_true rfl) (gok_i (av_c (gkr (kl_200 hq he)) (av_c rfl (av_c rfl av_n))) as_n) rfl h (fun x5 h => ?_)
  refine T_aload_n 0 (dk dtk_X2_explore 13 rfl) rfl rfl ?_
  refine T_getR 200 4 205 (dk dtk_X2_explore 14 rfl) kfl_X2_33 kk_200 (kl_200 hq he) (by decide) rfl kr_200_4 ?_
  refine T_iconst (v := 0) (dk dtk_X2_explore 15 rfl) (by decide +kernel) ?_
  refine KC_Sv (F := fun z => z = sfl x5 205 0 8192) [vr 205, vi 0] [] rfl (dk dtk_X2_explore 16 rfl) kcs_X2_60 rfl (Nat.le_of_ble_eq_true rfl) (Nat.le_of_ble_eq_true rfl) (gok_i (av_c (gkr (kl_200 hq he)) (av_c rfl (av_c rfl av_n))) as_n) rfl (tj_fill 205 8192 0 kk_205 (kl_205 hq he) (by decide) ⟨rfl, none, rfl, rfl, rfl⟩) (fun x6 ex6 => ?_)
  have h := h x6 ex6
  refine T_aload_n 0 (dk dtk_X2_explore 17 rfl) rfl rfl ?_
  refine T_getR 200 1 220 (dk dtk_X2_explore 18 rfl) kfl_X2_20 kk_200 (kl_200 hq he) (by decide) rfl kr_200_1 ?_
  refine T_iload_n 1 (dk dtk_X2_explore 19 rfl) rfl rfl ?_
  refine T_sub (lv2 := [(0, vr 200), (2, vi l2)]) [0, 2] rfl ?_
  refine KC_Vv [vi l1] [] rfl (dk dtk_X2_explore 20 rfl) kcv_X2_66 rfl kk_220 rfl (kl_220 hq he) (Nat.le_of_ble_eq_true rfl) (Nat.le_of_ble_eq_true rfl) (gok_i (av_c (gkr (kl_200 hq he)) (av_c rfl av_n)) as_n) rfl h (fun x7 h => ?_)
  refine T_aload_n 0 (dk dtk_X2_explore 21 rfl) rfl rfl ?_
  refine T_iconst (v := (-1)) (dk dtk_X2_explore 22 rfl) (by decide +kernel) ?_
  refine T_iconst (v := (-1)) (dk dtk_X2_explore 23 rfl) (by decide +kernel) ?_
  refine T_iload_n 1 (dk dtk_X2_explore 24 rfl) rfl rfl ?_
  refine KM_Vv [vi (-1), vi (-1), vi l2] [] rfl (dk dtk_X2_explore 25 rfl) kcv_X2_69 rfl kk_200 rfl (kl_200 hq he) (Nat.le_of_ble_eq_true rfl) (Nat.le_of_ble_eq_true rfl) (gok_i (av_c (gkr (kl_200 hq he)) (av_c rfl av_n)) as_n) rfl h (fun x8 q9 hu hle h => ?_)
  have hq := hu.1
  have ha3 := kle_T hle ha3
  have g4 := kle_T hle g4
  have he := hle.2.1.2.1 he
  refine T_iconst (v := 0) (dk dtk_X2_explore 26 rfl) (by decide +kernel) ?_
  refine T_istore (lv2 := [(4, vi 0), (0, vr 200), (2, vi l2)]) (dk dtk_X2_explore 27 rfl) (by decide) rfl ?_
  exact T_sub [1, 2, 0] rfl h
set_option maxRecDepth 100000 in
set_option maxHeartbeats 4000000 in
theorem kg_X2_explore_49 {G : kG} {q : kP} {d : Nat} {x : gd} {P : Option gv → gd → kP → Prop} {X : String → gd → kP → Prop} (hu : kU q) (he : q.ex = true) {a3 : Nat} (ha3 : kiT q a3) (l2 : Int32) (l4 : Int32)
    (h : (∀ u1, u1 = (kf q).1 200 7 → ∃ c2, u1 = some c2 ∧ kiT q c2 ∧ (((x.1 c2 0) ≤ l4 → P none x q) ∧ (¬ ((x.1 c2 0) ≤ l4) → (((3000 : Int32) ≤ l4 → P none x q) ∧ (¬ ((3000 : Int32) ≤ l4) → KT G q d zk_X2_recall 0 [(0, vr 200), (1, vi l4)] [] x (rv (fun x6 => KT G q d zk_X5_listChoices 0 [(0, vr 220)] [] x6 (rv (fun x7 => KT G q d zk_X2_inspectActs 0 [(0, vr 200)] [] x7 (rv (fun x8 => KM G q d zk_X2_inspect 0 [(0, vr 200), (1, vi l4)] [] x8 (rm q (fun x9 q10 => KM G q10 (d + 1) zk_X2_explore 95 [(0, vr 200), (2, vi l2), (4, vi l4), (5, vi 0)] [] x9 P X)) X)))))))))))) :
    KM G q (d + 1) zk_X2_explore 49 [(0, vr 200), (2, vi l2), (4, vi l4)] [] x P X := by
  have hq := hu.1
  refine T_iload 2 (dk dtk_X2_explore 28 rfl) rfl ?_
  refine T_aload_n 0 (dk dtk_X2_explore 29 rfl) rfl rfl ?_
  obtain ⟨u1, eu1⟩ : ∃ z, z = (kf q).1 200 7 := ⟨_, rfl⟩
  have h := h u1 eu1
  refine T_getO 200 7 (dk dtk_X2_explore 30 rfl) kfl_X2_44 kk_200 (kl_200 hq he) (by decide) rfl ?_
  rw [← eu1]
  obtain ⟨c2, rfl, g3, h⟩ := h
  refine T_getI c2 0 (dk dtk_X2_explore 31 rfl) kfl_X2_73 (kk_T0 g3) (kl_T0 hq g3) (by decide) rfl ?_
  refine T_icmp_ge 153 (dk dtk_X2_explore 32 rfl) (by decide) (fun c4 => ?_) (fun c4 => ?_)
  · have h := h.1 c4
    exact KM_vret (dk dtk_X2_explore 74 rfl) rfl h
  · have h := h.2 c4
    refine T_iload 2 (dk dtk_X2_explore 33 rfl) rfl ?_
    refine T_sipush (v := 3000) (dk dtk_X2_explore 34 rfl) (by decide +kernel) ?_
    refine T_icmp_ge 153 (dk dtk_X2_explore 35 rfl) (by decide) (fun c5 => ?_) (fun c5 => ?_)
    · have h := h.1 c5
      exact KM_vret (dk dtk_X2_explore 74 rfl) rfl h
    · have h := h.2 c5
      refine T_aload_n 0 (dk dtk_X2_explore 36 rfl) rfl rfl ?_
      refine T_iload 2 (dk dtk_X2_explore 37 rfl) rfl ?_
      refine KC_Vv [vi l4] [] rfl (dk dtk_X2_explore 38 rfl) kcv_X2_76 rfl kk_200 rfl (kl_200 hq he) (Nat.le_of_ble_eq_true rfl) (Nat.le_of_ble_eq_true rfl) (gok_i (av_c (gkr (kl_200 hq he)) (av_c rfl (av_c rfl av_n))) as_n) rfl h (fun x6 h => ?_)
      refine T_aload_n 0 (dk dtk_X2_explore 39 rfl) rfl rfl ?_
      refine T_getR 200 1 220 (dk dtk_X2_explore 40 rfl) kfl_X2_20 kk_200 (kl_200 hq he) (by decide) rfl kr_200_1 ?_
      refine KC_Vv [] [] rfl (dk dtk_X2_explore 41 rfl) kcv_X2_79 rfl kk_220 rfl (kl_220 hq he) (Nat.le_of_ble_eq_true rfl) (Nat.le_of_ble_eq_true rfl) (gok_i (av_c (gkr (kl_200 hq he)) (av_c rfl (av_c rfl av_n))) as_n) rfl h (fun x7 h => ?_)
      refine T_aload_n 0 (dk dtk_X2_explore 42 rfl) rfl rfl ?_
      refine KC_Vv [] [] rfl (dk dtk_X2_explore 43 rfl) kcv_X2_82 rfl kk_200 rfl (kl_200 hq he) (Nat.le_of_ble_eq_true rfl) (Nat.le_of_ble_eq_true rfl) (gok_i (av_c (gkr (kl_200 hq he)) (av_c rfl (av_c rfl av_n))) as_n) rfl h (fun x8 h => ?_)
      refine T_aload_n 0 (dk dtk_X2_explore 44 rfl) rfl rfl ?_
      refine T_iload 2 (dk dtk_X2_explore 45 rfl) rfl ?_
      refine KM_Vv [vi l4] [] rfl (dk dtk_X2_explore 46 rfl) kcv_X2_85 rfl kk_200 rfl (kl_200 hq he) (Nat.le_of_ble_eq_true rfl) (Nat.le_of_ble_eq_true rfl) (gok_i (av_c (gkr (kl_200 hq he)) (av_c rfl (av_c rfl av_n))) as_n) rfl h (fun x9 q10 hu hle h => ?_)
      have hq := hu.1
      have ha3 := kle_T hle ha3
      have g3 := kle_T hle g3
      have he := hle.2.1.2.1 he
      refine T_iconst (v := 0) (dk dtk_X2_explore 47 rfl) (by decide +kernel) ?_
      refine T_istore (lv2 := [(5, vi 0), (0, vr 200), (2, vi l2), (4, vi l4)]) (dk dtk_X2_explore 48 rfl) (by decide) rfl ?_
      exact T_sub [1, 2, 3, 0] rfl h
set_option maxRecDepth 100000 in
set_option maxHeartbeats 4000000 in
theorem kg_X2_explore_95 {G : kG} {q : kP} {d : Nat} {x : gd} {P : Option gv → gd → kP → Prop} {X : String → gd → kP → Prop} (hu : kU q) (he : q.ex = true) {a3 : Nat} (ha3 : kiT q a3) (l2 : Int32) (l4 : Int32) (l5 : Int32)
    (h : (((x.1 220 13) ≤ l5 → KM G q (d + 1) zk_X2_explore 49 [(0, vr 200), (2, vi l2), (4, vi (l4 + 1))] [] x P X) ∧ (¬ ((x.1 220 13) ≤ l5) → (∀ u2, u2 = (kf q).1 200 7 → ∃ c3, u2 = some c3 ∧ kiT q c3 ∧ ((¬ ((x.1 c3 1) = (0 : Int32)) → KM G q (d + 1) zk_X2_explore 49 [(0, vr 200), (2, vi l2), (4, vi (l4 + 1))] [] x P X) ∧ ((x.1 c3 1) = (0 : Int32) → KT G q d zk_X2_recall 0 [(0, vr 200), (1, vi l4)] [] x (rv (fun x6 => KT G q d zk_X5_perform 0 [(0, vr 220), (1, vi l5)] [] x6 (rv (fun x7 => KM G q d zk_X2_addState 0 [(0, vr 200), (1, vi l4), (2, vi l5), (3, vi l2)] [] x7 (rm q (fun x8 q9 => KM G q9 (d + 1) zk_X2_explore 95 [(0, vr 200), (2, vi l2), (4, vi l4), (5, vi (l5 + 1))] [] x8 P X)) X)))))))))) :
    KM G q (d + 1) zk_X2_explore 95 [(0, vr 200), (2, vi l2), (4, vi l4), (5, vi l5)] [] x P X := by
  have hq := hu.1
  refine T_iload 3 (dk dtk_X2_explore 49 rfl) rfl ?_
  refine T_aload_n 0 (dk dtk_X2_explore 50 rfl) rfl rfl ?_
  refine T_getR 200 1 220 (dk dtk_X2_explore 51 rfl) kfl_X2_20 kk_200 (kl_200 hq he) (by decide) rfl kr_200_1 ?_
  refine T_getI 220 13 (dk dtk_X2_explore 52 rfl) kfl_X2_88 kk_220 (kl_220 hq he) (by decide) rfl ?_
  refine T_icmp_ge 147 (dk dtk_X2_explore 53 rfl) (by decide) (fun c1 => ?_) (fun c1 => ?_)
  · have h := h.1 c1
    refine T_iinc (v := l4 + 1) (lv2 := [(4, vi (l4 + 1)), (0, vr 200), (2, vi l2), (5, vi l5)]) 2 (dk dtk_X2_explore 72 rfl) rfl rfl (by decide) rfl ?_
    refine T_goto 49 (dk dtk_X2_explore 73 rfl) (by decide) ?_
    exact T_sub [1, 2, 0] rfl h
  · have h := h.2 c1
    refine T_aload_n 0 (dk dtk_X2_explore 54 rfl) rfl rfl ?_
    obtain ⟨u2, eu2⟩ : ∃ z, z = (kf q).1 200 7 := ⟨_, rfl⟩
    have h := h u2 eu2
    refine T_getO 200 7 (dk dtk_X2_explore 55 rfl) kfl_X2_44 kk_200 (kl_200 hq he) (by decide) rfl ?_
    rw [← eu2]
    obtain ⟨c3, rfl, g4, h⟩ := h
    refine T_getI c3 1 (dk dtk_X2_explore 56 rfl) kfl_X2_91 (kk_T0 g4) (kl_T0 hq g4) (by decide) rfl ?_
    refine T_if_ne 147 (dk dtk_X2_explore 57 rfl) (by decide) (fun c5 => ?_) (fun c5 => ?_)
    · have h := h.1 c5
      refine T_iinc (v := l4 + 1) (lv2 := [(4, vi (l4 + 1)), (0, vr 200), (2, vi l2), (5, vi l5)]) 2 (dk dtk_X2_explore 72 rfl) rfl rfl (by decide) rfl ?_
      refine T_goto 49 (dk dtk_X2_explore 73 rfl) (by decide) ?_
      exact T_sub [1, 2, 0] rfl h
    · have h := h.2 c5
      refine T_aload_n 0 (dk dtk_X2_explore 58 rfl) rfl rfl ?_
      refine T_iload 2 (dk dtk_X2_explore 59 rfl) rfl ?_
      refine KC_Vv [vi l4] [] rfl (dk dtk_X2_explore 60 rfl) kcv_X2_76 rfl kk_200 rfl (kl_200 hq he) (Nat.le_of_ble_eq_true rfl) (Nat.le_of_ble_eq_true rfl) (gok_i (av_c (gkr (kl_200 hq he)) (av_c rfl (av_c rfl (av_c rfl av_n)))) as_n) rfl h (fun x6 h => ?_)
      refine T_aload_n 0 (dk dtk_X2_explore 61 rfl) rfl rfl ?_
      refine T_getR 200 1 220 (dk dtk_X2_explore 62 rfl) kfl_X2_20 kk_200 (kl_200 hq he) (by decide) rfl kr_200_1 ?_
      refine T_iload 3 (dk dtk_X2_explore 63 rfl) rfl ?_
      refine KC_Vv [vi l5] [] rfl (dk dtk_X2_explore 64 rfl) kcv_X2_95 rfl kk_220 rfl (kl_220 hq he) (Nat.le_of_ble_eq_true rfl) (Nat.le_of_ble_eq_true rfl) (gok_i (av_c (gkr (kl_200 hq he)) (av_c rfl (av_c rfl (av_c rfl av_n)))) as_n) rfl h (fun x7 h => ?_)
      refine T_aload_n 0 (dk dtk_X2_explore 65 rfl) rfl rfl ?_
      refine T_iload 2 (dk dtk_X2_explore 66 rfl) rfl ?_
      refine T_iload 3 (dk dtk_X2_explore 67 rfl) rfl ?_
      refine T_iload_n 1 (dk dtk_X2_explore 68 rfl) rfl rfl ?_
      refine KM_Vv [vi l4, vi l5, vi l2] [] rfl (dk dtk_X2_explore 69 rfl) kcv_X2_69 rfl kk_200 rfl (kl_200 hq he) (Nat.le_of_ble_eq_true rfl) (Nat.le_of_ble_eq_true rfl) (gok_i (av_c (gkr (kl_200 hq he)) (av_c rfl (av_c rfl (av_c rfl av_n)))) as_n) rfl h (fun x8 q9 hu hle h => ?_)
      have hq := hu.1
      have ha3 := kle_T hle ha3
      have g4 := kle_T hle g4
      have he := hle.2.1.2.1 he
      refine T_iinc (v := l5 + 1) (lv2 := [(5, vi (l5 + 1)), (0, vr 200), (2, vi l2), (4, vi l4)]) 3 (dk dtk_X2_explore 70 rfl) rfl rfl (by decide) rfl ?_
      refine T_goto 95 (dk dtk_X2_explore 71 rfl) (by decide) ?_
      exact T_sub [1, 2, 3, 0] rfl h
set_option maxRecDepth 100000 in
set_option maxHeartbeats 4000000 in
theorem kg_X11_linear_0 {G : kG} {q : kP} {d : Nat} {x : gd} {P : Option gv → gd → kP → Prop} {X : String → gd → kP → Prop} (hu : kU q) (l1 : Int32)
    (h : KE G q (d + 6) zk_X11_needRun 0 [(0, vr 0)] [] x (rv (fun x1 => ((l1 < (0 : Int32) → KM G q (d + 7) zk_X11_linear 13 [] [] x1 P X) ∧ (¬ (l1 < (0 : Int32)) → ((l1 ≤ (3 : Int32) → (((x1.1 160 4) ≤ (12 : Int32) → (∀ u5, u5 = (kf q).1 0 8 → ((u5 = none → q.hi = false ∧ (∀ q8 x9, q8 = kHi q → x9 = xops (znew x1 180) ops_180 → kU q8 → kle q q8 → KM G q8 (d + 7) zk_X11_linear 56 [(0, vr 0), (1, vi l1)] [] x9 P X)) ∧ (∀ c7, u5 = some c7 → KM G q (d + 7) zk_X11_linear 56 [(0, vr 0), (1, vi l1)] [] x1 P X)))) ∧ (¬ ((x1.1 160 4) ≤ (12 : Int32)) → P (some (vi (-1))) x1 q))) ∧ (¬ (l1 ≤ (3 : Int32)) → KM G q (d + 7) zk_X11_linear 13 [] [] x1 P X)))))) (fun c9 x9 => X c9 x9 q)) :
    KM G q (d + 7) zk_X11_linear 0 [(0, vr 0), (1, vi l1)] [] x P X := by
  have hq := hu.1
  refine T_aload_n 0 (dk dtk_X11_linear 0 rfl) rfl rfl ?_
  refine KN_Vv [] [] rfl (dk dtk_X11_linear 1 rfl) kcv_X11_160 rfl kk_0 rfl (kl_0 hq) (Nat.le_of_ble_eq_true rfl) (Nat.le_of_ble_eq_true rfl) (gok_i (av_c (gkr (kl_0 hq)) (av_c rfl av_n)) as_n) rfl h (fun x1 h => ?_)
  refine T_iload_n 1 (dk dtk_X11_linear 2 rfl) rfl rfl ?_
  refine T_if_lt 13 (dk dtk_X11_linear 3 rfl) (by decide) (fun c2 => ?_) (fun c2 => ?_)
  · have h := h.1 c2
    exact T_sub [] rfl h
  · have h := h.2 c2
    refine T_iload_n 1 (dk dtk_X11_linear 4 rfl) rfl rfl ?_
    refine T_iconst (v := 3) (dk dtk_X11_linear 5 rfl) (by decide +kernel) ?_
    refine T_icmp_le 24 (dk dtk_X11_linear 6 rfl) (by decide) (fun c3 => ?_) (fun c3 => ?_)
    · have h := h.1 c3
      refine T_aload_n 0 (dk dtk_X11_linear 12 rfl) rfl rfl ?_
      refine T_getR 0 5 160 (dk dtk_X11_linear 13 rfl) kfl_X11_53 kk_0 (kl_0 hq) (by decide) rfl kr_0_5 ?_
      refine T_getI 160 4 (dk dtk_X11_linear 14 rfl) kfl_X11_216 kk_160 (kl_160 hq) (by decide) rfl ?_
      refine T_bipush (v := 12) (dk dtk_X11_linear 15 rfl) (by decide +kernel) ?_
      refine T_icmp_le 38 (dk dtk_X11_linear 16 rfl) (by decide) (fun c4 => ?_) (fun c4 => ?_)
      · have h := h.1 c4
        refine T_aload_n 0 (dk dtk_X11_linear 19 rfl) rfl rfl ?_
        obtain ⟨u5, eu5⟩ : ∃ z, z = (kf q).1 0 8 := ⟨_, rfl⟩
        have h := h u5 eu5
        refine T_getO 0 8 (dk dtk_X11_linear 20 rfl) kfl_X11_280 kk_0 (kl_0 hq) (by decide) rfl ?_
        rw [← eu5]
        refine T_ifnonnull 56 (dk dtk_X11_linear 21 rfl) (by decide) (fun c7 c6 => ?_) (fun c6 => ?_)
        · have h := h.2 c7 c6
          exact h
        · have h := h.1 c6
          refine T_aload_n 0 (dk dtk_X11_linear 22 rfl) rfl rfl ?_
          obtain ⟨h0, h⟩ := h
          obtain ⟨q8, eq8⟩ : ∃ z, z = kHi q := ⟨_, rfl⟩
          obtain ⟨x9, ex9⟩ : ∃ z, z = xops (znew x1 180) ops_180 := ⟨_, rfl⟩
          have hu2 : kU q8 := by rw [eq8]; exact kHi_U hu h0
          have hle : kle q q8 := by rw [eq8]; exact kHi_le h0
          have h := h q8 x9 eq8 ex9 hu2 hle
          refine T_mkH (d := d + 5) hu h0 (gok_i (av_c (gkr (kl_0 hq)) (av_c rfl av_n)) (as_c (gkr (kl_0 hq)) as_n)) ?_
          rw [← eq8, ← ex9]
          have hu := hu2
          have hq := hu.1
          exact h
      · have h := h.2 c4
        refine T_iconst (v := (-1)) (dk dtk_X11_linear 17 rfl) (by decide +kernel) ?_
        exact KM_iret (dk dtk_X11_linear 18 rfl) rfl rfl h
    · have h := h.2 c3
      exact T_sub [] rfl h
set_option maxRecDepth 100000 in
set_option maxHeartbeats 4000000 in
theorem kg_X11_linear_13 {G : kG} {q : kP} {d : Nat} {x : gd} {P : Option gv → gd → kP → Prop} {X : String → gd → kP → Prop} (hu : kU q) 
    (h : X iAE x q) :
    KM G q (d + 7) zk_X11_linear 13 [] [] x P X := by
  have hq := hu.1
  exact T_thrW kth_X11_70_276 (dk dtk_X11_linear 7 rfl) (dk dtk_X11_linear 8 rfl) (dk dtk_X11_linear 9 rfl) (dk dtk_X11_linear 10 rfl) (dk dtk_X11_linear 11 rfl) (by intro z hz; cases hz) (by omega) (Nat.le_of_ble_eq_true rfl) ⟨_, Or.inr ⟨rfl, _, rfl, h⟩⟩
set_option maxRecDepth 100000 in
set_option maxHeartbeats 4000000 in
theorem kg_X11_linear_56 {G : kG} {q : kP} {d : Nat} {x : gd} {P : Option gv → gd → kP → Prop} {X : String → gd → kP → Prop} (hu : kU q) (l1 : Int32)
    (h : (∀ u1, u1 = (kf q).1 0 8 → u1 = some 180 ∧ q.hi = true ∧ KT G q (d + 6) zk_X3_take 0 [(0, vr 180), (1, vr 160)] [] x (rv (fun x2 => (∀ u3, u3 = (kf q).1 0 8 → u3 = some 180 ∧ q.hi = true ∧ KT G q (d + 6) zk_X3_fewestThatFail 0 [(0, vr 180), (1, vi l1)] [] x2 (ri (fun r5 x4 => ((¬ (r5 = (-1 : Int32)) → P (some (vi ((-2) - r5))) x4 q) ∧ (r5 = (-1 : Int32) → P (some (vi 1)) x4 q))))))))) :
    KM G q (d + 7) zk_X11_linear 56 [(0, vr 0), (1, vi l1)] [] x P X := by
  have hq := hu.1
  refine T_aload_n 0 (dk dtk_X11_linear 27 rfl) rfl rfl ?_
  obtain ⟨u1, eu1⟩ : ∃ z, z = (kf q).1 0 8 := ⟨_, rfl⟩
  have h := h u1 eu1
  refine T_getO 0 8 (dk dtk_X11_linear 28 rfl) kfl_X11_280 kk_0 (kl_0 hq) (by decide) rfl ?_
  rw [← eu1]
  refine T_aload_n 0 (dk dtk_X11_linear 29 rfl) rfl rfl ?_
  refine T_getR 0 5 160 (dk dtk_X11_linear 30 rfl) kfl_X11_53 kk_0 (kl_0 hq) (by decide) rfl kr_0_5 ?_
  obtain ⟨rfl, hh, h⟩ := h
  refine KC_Vv [vr 160] [] rfl (dk dtk_X11_linear 31 rfl) kcv_X11_285 rfl kk_180 rfl (kl_180 hq hh) (Nat.le_of_ble_eq_true rfl) (Nat.le_of_ble_eq_true rfl) (gok_i (av_c (gkr (kl_0 hq)) (av_c rfl av_n)) as_n) rfl h (fun x2 h => ?_)
  refine T_aload_n 0 (dk dtk_X11_linear 32 rfl) rfl rfl ?_
  obtain ⟨u3, eu3⟩ : ∃ z, z = (kf q).1 0 8 := ⟨_, rfl⟩
  have h := h u3 eu3
  refine T_getO 0 8 (dk dtk_X11_linear 33 rfl) kfl_X11_280 kk_0 (kl_0 hq) (by decide) rfl ?_
  rw [← eu3]
  refine T_iload_n 1 (dk dtk_X11_linear 34 rfl) rfl rfl ?_
  obtain ⟨rfl, hh, h⟩ := h
  refine T_sub (lv2 := []) [] rfl ?_
  refine KC_Vi [vi l1] [] rfl (dk dtk_X11_linear 35 rfl) kcv_X11_289 rfl kk_180 rfl (kl_180 hq hh) (Nat.le_of_ble_eq_true rfl) (Nat.le_of_ble_eq_true rfl) (gok_i av_n as_n) rfl h (fun r5 x4 h => ?_)
  refine T_istore_n (lv2 := [(2, vi r5)]) (dk dtk_X11_linear 36 rfl) rfl (by decide) rfl ?_
  refine T_iload_n 0 (dk dtk_X11_linear 37 rfl) rfl rfl ?_
  refine T_iconst (v := (-1)) (dk dtk_X11_linear 38 rfl) (by decide +kernel) ?_
  refine T_icmp_ne 85 (dk dtk_X11_linear 39 rfl) (by decide) (fun c6 => ?_) (fun c6 => ?_)
  · have h := h.1 c6
    refine T_bipush (v := (-2)) (dk dtk_X11_linear 42 rfl) (by decide +kernel) ?_
    refine T_iload_n 0 (dk dtk_X11_linear 43 rfl) rfl rfl ?_
    refine T_isub (dk dtk_X11_linear 44 rfl) ?_
    exact KM_iret (dk dtk_X11_linear 45 rfl) rfl rfl h
  · have h := h.2 c6
    refine T_iconst (v := 1) (dk dtk_X11_linear 40 rfl) (by decide +kernel) ?_
    refine T_goto 89 (dk dtk_X11_linear 41 rfl) (by decide) ?_
    exact KM_iret (dk dtk_X11_linear 45 rfl) rfl rfl h
set_option maxRecDepth 100000 in
set_option maxHeartbeats 4000000 in
theorem kg_X11_attempt_0 {G : kG} {q : kP} {d : Nat} {x : gd} {P : Option gv → gd → kP → Prop} {X : String → gd → kP → Prop} (hu : kU q) (l1 : Int32) (l2 : Int32)
    (h : KE G q (d + 6) zk_X11_needCompiled 0 [(0, vr 0)] [] x (rv (fun x1 => KE G q (d + 6) zk_X11_needWay 0 [(0, vi l1)] [] x1 (rv (fun x2 => ((l2 < (1 : Int32) → KM G q (d + 7) zk_X11_attempt 20 [] [] x2 P X) ∧ (¬ (l2 < (1 : Int32)) → ((l2 ≤ (3000 : Int32) → (∀ u5, u5 = (kf q).1 0 7 → ((u5 = none → q.ex = false ∧ (∀ q8 x9, q8 = kEx q → x9 = xops (znew x2 200) ops_200 → kU q8 → kle q q8 → KM G q8 (d + 7) zk_X11_attempt 53 [(0, vr 0), (1, vi l1), (2, vi l2)] [] x9 P X)) ∧ (∀ c7, u5 = some c7 → KM G q (d + 7) zk_X11_attempt 53 [(0, vr 0), (1, vi l1), (2, vi l2)] [] x2 P X)))) ∧ (¬ (l2 ≤ (3000 : Int32)) → KM G q (d + 7) zk_X11_attempt 20 [] [] x2 P X)))))) (fun c9 x9 => X c9 x9 q))) (fun c9 x9 => X c9 x9 q)) :
    KM G q (d + 7) zk_X11_attempt 0 [(0, vr 0), (1, vi l1), (2, vi l2)] [] x P X := by
  have hq := hu.1
  refine T_aload_n 0 (dk dtk_X11_attempt 0 rfl) rfl rfl ?_
  refine KN_Vv [] [] rfl (dk dtk_X11_attempt 1 rfl) kcv_X11_148 rfl kk_0 rfl (kl_0 hq) (Nat.le_of_ble_eq_true rfl) (Nat.le_of_ble_eq_true rfl) (gok_i (av_c (gkr (kl_0 hq)) (av_c rfl (av_c rfl av_n))) as_n) rfl h (fun x1 h => ?_)
  refine T_iload_n 1 (dk dtk_X11_attempt 2 rfl) rfl rfl ?_
  refine KN_Sv [vi l1] [] rfl (dk dtk_X11_attempt 3 rfl) kcs_X11_151 rfl (Nat.le_of_ble_eq_true rfl) (Nat.le_of_ble_eq_true rfl) (gok_i (av_c (gkr (kl_0 hq)) (av_c rfl (av_c rfl av_n))) as_n) rfl h (fun x2 h => ?_)
  refine T_iload_n 2 (dk dtk_X11_attempt 4 rfl) rfl rfl ?_
  refine T_iconst (v := 1) (dk dtk_X11_attempt 5 rfl) (by decide +kernel) ?_
  refine T_icmp_lt 20 (dk dtk_X11_attempt 6 rfl) (by decide) (fun c3 => ?_) (fun c3 => ?_)
  · have h := h.1 c3
    exact T_sub [] rfl h
  · have h := h.2 c3
    refine T_iload_n 2 (dk dtk_X11_attempt 7 rfl) rfl rfl ?_
    refine T_sipush (v := 3000) (dk dtk_X11_attempt 8 rfl) (by decide +kernel) ?_
    refine T_icmp_le 31 (dk dtk_X11_attempt 9 rfl) (by decide) (fun c4 => ?_) (fun c4 => ?_)
    · have h := h.1 c4
      refine T_aload_n 0 (dk dtk_X11_attempt 15 rfl) rfl rfl ?_
      obtain ⟨u5, eu5⟩ : ∃ z, z = (kf q).1 0 7 := ⟨_, rfl⟩
      have h := h u5 eu5
      refine T_getO 0 7 (dk dtk_X11_attempt 16 rfl) kfl_X11_294 kk_0 (kl_0 hq) (by decide) rfl ?_
      rw [← eu5]
      refine T_ifnonnull 53 (dk dtk_X11_attempt 17 rfl) (by decide) (fun c7 c6 => ?_) (fun c6 => ?_)
      · have h := h.2 c7 c6
        exact h
      · have h := h.1 c6
        refine T_aload_n 0 (dk dtk_X11_attempt 18 rfl) rfl rfl ?_
        obtain ⟨h0, h⟩ := h
        obtain ⟨q8, eq8⟩ : ∃ z, z = kEx q := ⟨_, rfl⟩
        obtain ⟨x9, ex9⟩ : ∃ z, z = xops (znew x2 200) ops_200 := ⟨_, rfl⟩
        have hu2 : kU q8 := by rw [eq8]; exact kEx_U hu h0
        have hle : kle q q8 := by rw [eq8]; exact kEx_le h0
        have h := h q8 x9 eq8 ex9 hu2 hle
        refine T_mkE (d := d + 3) hu h0 (gok_i (av_c (gkr (kl_0 hq)) (av_c rfl (av_c rfl av_n))) (as_c (gkr (kl_0 hq)) as_n)) rfl ?_
        rw [← eq8, ← ex9]
        have hu := hu2
        have hq := hu.1
        exact h
    · have h := h.2 c4
      exact T_sub [] rfl h
set_option maxRecDepth 100000 in
set_option maxHeartbeats 4000000 in
theorem kg_X11_attempt_20 {G : kG} {q : kP} {d : Nat} {x : gd} {P : Option gv → gd → kP → Prop} {X : String → gd → kP → Prop} (hu : kU q) 
    (h : X iAE x q) :
    KM G q (d + 7) zk_X11_attempt 20 [] [] x P X := by
  have hq := hu.1
  exact T_thrW kth_X11_70_292 (dk dtk_X11_attempt 10 rfl) (dk dtk_X11_attempt 11 rfl) (dk dtk_X11_attempt 12 rfl) (dk dtk_X11_attempt 13 rfl) (dk dtk_X11_attempt 14 rfl) (by intro z hz; cases hz) (by omega) (Nat.le_of_ble_eq_true rfl) ⟨_, Or.inr ⟨rfl, _, rfl, h⟩⟩
set_option maxRecDepth 100000 in
set_option maxHeartbeats 4000000 in
theorem kg_X11_attempt_53 {G : kG} {q : kP} {d : Nat} {x : gd} {P : Option gv → gd → kP → Prop} {X : String → gd → kP → Prop} (hu : kU q) (l1 : Int32) (l2 : Int32)
    (h : vp_in l1 2 ∧ (∀ u2, u2 = (kf q).1 7 (l1 : Int32).toNatClampNeg → ((u2 = none → vp_in l1 2 ∧ (((l1 : Int32).toNatClampNeg = 0 → q.t0 = false ∧ (∀ q5 x6, q5 = kT0 q → x6 = xops (znew x 260) ops_260 → kU q5 → kle q q5 → KM G q5 (d + 7) zk_X11_attempt 75 [(0, vr 0), (1, vi l1), (2, vi l2)] [] x6 P X)) ∧ ((l1 : Int32).toNatClampNeg = 1 → q.t1 = false ∧ (∀ q7 x8, q7 = kT1 q → x8 = xops (znew x 280) ops_280 → kU q7 → kle q q7 → KM G q7 (d + 7) zk_X11_attempt 75 [(0, vr 0), (1, vi l1), (2, vi l2)] [] x8 P X)))) ∧ (∀ c4, u2 = some c4 → KM G q (d + 7) zk_X11_attempt 75 [(0, vr 0), (1, vi l1), (2, vi l2)] [] x P X)))) :
    KM G q (d + 7) zk_X11_attempt 53 [(0, vr 0), (1, vi l1), (2, vi l2)] [] x P X := by
  have hq := hu.1
  refine T_aload_n 0 (dk dtk_X11_attempt 25 rfl) rfl rfl ?_
  refine T_getR 0 6 7 (dk dtk_X11_attempt 26 rfl) kfl_X11_59 kk_0 (kl_0 hq) (by decide) rfl kr_0_6 ?_
  refine T_iload_n 1 (dk dtk_X11_attempt 27 rfl) rfl rfl ?_
  obtain ⟨h1, h⟩ := h
  obtain ⟨u2, eu2⟩ : ∃ z, z = (kf q).1 7 (l1 : Int32).toNatClampNeg := ⟨_, rfl⟩
  have h := h u2 eu2
  refine T_aaldT 7 2 (dk dtk_X11_attempt 28 rfl) kk_7 (kl_7 hq) h1 ?_
  rw [← eu2]
  refine T_ifnonnull 75 (dk dtk_X11_attempt 29 rfl) (by decide) (fun c4 c3 => ?_) (fun c3 => ?_)
  · have h := h.2 c4 c3
    exact h
  · have h := h.1 c3
    refine T_aload_n 0 (dk dtk_X11_attempt 30 rfl) rfl rfl ?_
    refine T_getR 0 6 7 (dk dtk_X11_attempt 31 rfl) kfl_X11_59 kk_0 (kl_0 hq) (by decide) rfl kr_0_6 ?_
    refine T_iload_n 1 (dk dtk_X11_attempt 32 rfl) rfl rfl ?_
    obtain ⟨hin9, h⟩ := h
    have hc9 : (l1 : Int32).toNatClampNeg = 0 ∨ (l1 : Int32).toNatClampNeg = 1 := by have := vp_lt hin9; omega
    rcases hc9 with hi9 | hi9
    · obtain ⟨h0, h⟩ := h.1 hi9
      obtain ⟨q5, eq5⟩ : ∃ z, z = kT0 q := ⟨_, rfl⟩
      obtain ⟨x6, ex6⟩ : ∃ z, z = xops (znew x 260) ops_260 := ⟨_, rfl⟩
      have hu2 : kU q5 := by rw [eq5]; exact kT0_U hu h0
      have hle : kle q q5 := by rw [eq5]; exact kT0_le h0
      have h := h q5 x6 eq5 ex6 hu2 hle
      refine T_mkT0 (d := d + 5) hu h0 hi9 hin9 (gok_i (av_c (gkr (kl_0 hq)) (av_c rfl (av_c rfl av_n))) (as_c rfl (as_c (gkr (kl_7 hq)) as_n))) ?_
      rw [← eq5, ← ex6]
      have hu := hu2
      have hq := hu.1
      exact h
    · obtain ⟨h0, h⟩ := h.2 hi9
      obtain ⟨q7, eq7⟩ : ∃ z, z = kT1 q := ⟨_, rfl⟩
      obtain ⟨x8, ex8⟩ : ∃ z, z = xops (znew x 280) ops_280 := ⟨_, rfl⟩
      have hu2 : kU q7 := by rw [eq7]; exact kT1_U hu h0
      have hle : kle q q7 := by rw [eq7]; exact kT1_le h0
      have h := h q7 x8 eq7 ex8 hu2 hle
      refine T_mkT1 (d := d + 5) hu h0 hi9 hin9 (gok_i (av_c (gkr (kl_0 hq)) (av_c rfl (av_c rfl av_n))) (as_c rfl (as_c (gkr (kl_7 hq)) as_n))) ?_
      rw [← eq7, ← ex8]
      have hu := hu2
      have hq := hu.1
      exact h
set_option maxRecDepth 100000 in
set_option maxHeartbeats 4000000 in
theorem kg_X11_attempt_75 {G : kG} {q : kP} {d : Nat} {x : gd} {P : Option gv → gd → kP → Prop} {X : String → gd → kP → Prop} (hu : kU q) (l1 : Int32) (l2 : Int32)
    (h : (∀ u1, u1 = (kf q).1 0 7 → vp_in l1 2 ∧ (∀ u3, u3 = (kf q).1 7 (l1 : Int32).toNatClampNeg → ∃ c4, u3 = some c4 ∧ kiT q c4 ∧ u1 = some 200 ∧ q.ex = true ∧ KM G q (d + 6) zk_X2_explore 0 [(0, vr 200), (1, vi l1), (2, vi l2), (3, vr c4)] [] x (rm q (fun x6 q7 => vp_in l1 2 ∧ (∀ u9, u9 = (kf q7).1 7 (l1 : Int32).toNatClampNeg → ∃ c10, u9 = some c10 ∧ kiT q7 c10 ∧ P (some (vi (x6.1 c10 0))) x6 q7))) X))) :
    KM G q (d + 7) zk_X11_attempt 75 [(0, vr 0), (1, vi l1), (2, vi l2)] [] x P X := by
  have hq := hu.1
  refine T_aload_n 0 (dk dtk_X11_attempt 37 rfl) rfl rfl ?_
  obtain ⟨u1, eu1⟩ : ∃ z, z = (kf q).1 0 7 := ⟨_, rfl⟩
  have h := h u1 eu1
  refine T_getO 0 7 (dk dtk_X11_attempt 38 rfl) kfl_X11_294 kk_0 (kl_0 hq) (by decide) rfl ?_
  rw [← eu1]
  refine T_iload_n 1 (dk dtk_X11_attempt 39 rfl) rfl rfl ?_
  refine T_iload_n 2 (dk dtk_X11_attempt 40 rfl) rfl rfl ?_
  refine T_aload_n 0 (dk dtk_X11_attempt 41 rfl) rfl rfl ?_
  refine T_getR 0 6 7 (dk dtk_X11_attempt 42 rfl) kfl_X11_59 kk_0 (kl_0 hq) (by decide) rfl kr_0_6 ?_
  refine T_iload_n 1 (dk dtk_X11_attempt 43 rfl) rfl rfl ?_
  obtain ⟨h2, h⟩ := h
  obtain ⟨u3, eu3⟩ : ∃ z, z = (kf q).1 7 (l1 : Int32).toNatClampNeg := ⟨_, rfl⟩
  have h := h u3 eu3
  refine T_aaldT 7 2 (dk dtk_X11_attempt 44 rfl) kk_7 (kl_7 hq) h2 ?_
  rw [← eu3]
  obtain ⟨c4, rfl, g5, h⟩ := h
  obtain ⟨rfl, he, h⟩ := h
  refine T_sub (lv2 := [(0, vr 0), (1, vi l1)]) [0, 1] rfl ?_
  refine KM_Vv [vi l1, vi l2, vr c4] [] rfl (dk dtk_X11_attempt 45 rfl) kcv_X11_302 rfl kk_200 rfl (kl_200 hq he) (Nat.le_of_ble_eq_true rfl) (Nat.le_of_ble_eq_true rfl) (gok_i (av_c (gkr (kl_0 hq)) (av_c rfl av_n)) as_n) rfl h (fun x6 q7 hu hle h => ?_)
  have hq := hu.1
  have g5 := kle_T hle g5
  have he := hle.2.1.2.1 he
  refine T_aload_n 0 (dk dtk_X11_attempt 46 rfl) rfl rfl ?_
  refine T_getR 0 6 7 (dk dtk_X11_attempt 47 rfl) kfl_X11_59 kk_0 (kl_0 hq) (by decide) rfl kr_0_6 ?_
  refine T_iload_n 1 (dk dtk_X11_attempt 48 rfl) rfl rfl ?_
  obtain ⟨h8, h⟩ := h
  obtain ⟨u9, eu9⟩ : ∃ z, z = (kf q7).1 7 (l1 : Int32).toNatClampNeg := ⟨_, rfl⟩
  have h := h u9 eu9
  refine T_aaldT 7 2 (dk dtk_X11_attempt 49 rfl) kk_7 (kl_7 hq) h8 ?_
  rw [← eu9]
  obtain ⟨c10, rfl, g11, h⟩ := h
  refine T_getI c10 0 (dk dtk_X11_attempt 50 rfl) kfl_X11_306 (kk_T0 g11) (kl_T0 hq g11) (by decide) rfl ?_
  exact KM_iret (dk dtk_X11_attempt 51 rfl) rfl rfl h
set_option maxRecDepth 100000 in
set_option maxHeartbeats 4000000 in
theorem kg_X11_compile_0 {G : kG} {q : kP} {d : Nat} {x : gd} {P : Option gv → gd → kP → Prop} {X : String → gd → kP → Prop} (hu : kU q) 
    (h : KT G q d zk_X11_forgetAll 0 [(0, vr 0)] [] x (rv (fun x1 => KT G q d zk_X9_cut 0 [(0, vr 20)] [] x1 (rv (fun x2 => KE G q d zk_X7_readAll 0 [(0, vr 100)] [] x2 (rv (fun x3 => KT G q d zk_X6_judge 0 [(0, vr 40)] [] x3 (ri (fun r5 x4 => KM G q (d + 1) zk_X11_compile 58 [(0, vr 0), (1, vi r5), (2, vi (x4.1 40 11))] [] x4 P X)))) (fun c9 x9 => c9 = iSE ∧ KM G (kTh q) (d + 1) zk_X11_compile 42 [(0, vr 0)] [] x9 P X)))))) :
    KM G q (d + 1) zk_X11_compile 0 [(0, vr 0)] [] x P X := by
  have hq := hu.1
  refine T_aload_n 0 (dk dtk_X11_compile 0 rfl) rfl rfl ?_
  refine KH_Vv [] [] rfl (dk dtk_X11_compile 1 rfl) kcv_X11_86 rfl kk_0 rfl (kl_0 hq) (Nat.le_of_ble_eq_true rfl) (Nat.le_of_ble_eq_true rfl) (gok_i (av_c (gkr (kl_0 hq)) av_n) as_n) (by intro z hz; cases hz with | head => rfl | tail _ hz => cases hz) h (fun x1 h => ?_)
  refine T_aload_n 0 (dk dtk_X11_compile 2 rfl) rfl rfl ?_
  refine T_getR 0 0 20 (dk dtk_X11_compile 3 rfl) kfl_X11_10 kk_0 (kl_0 hq) (by decide) rfl kr_0_0 ?_
  refine KH_Vv [] [] rfl (dk dtk_X11_compile 4 rfl) kcv_X11_89 rfl kk_20 rfl (kl_20 hq) (Nat.le_of_ble_eq_true rfl) (Nat.le_of_ble_eq_true rfl) (gok_i (av_c (gkr (kl_0 hq)) av_n) as_n) (by intro z hz; cases hz with | head => rfl | tail _ hz => cases hz) h (fun x2 h => ?_)
  refine T_iconst (v := 0) (dk dtk_X11_compile 5 rfl) (by decide +kernel) ?_
  refine T_istore_n (lv2 := [(1, vi 0), (0, vr 0)]) (dk dtk_X11_compile 6 rfl) rfl (by decide) rfl ?_
  refine T_iconst (v := (-1)) (dk dtk_X11_compile 7 rfl) (by decide +kernel) ?_
  refine T_istore_n (lv2 := [(2, vi (-1)), (1, vi 0), (0, vr 0)]) (dk dtk_X11_compile 8 rfl) rfl (by decide) rfl ?_
  refine T_aload_n 2 (dk dtk_X11_compile 9 rfl) rfl rfl ?_
  refine T_getR 0 3 100 (dk dtk_X11_compile 10 rfl) kfl_X11_37 kk_0 (kl_0 hq) (by decide) rfl kr_0_3 ?_
  refine T_sub (lv2 := [(0, vr 0)]) [2] rfl ?_
  refine KJ_cat [] [] rfl (dk dtk_X11_compile 11 rfl) kcv_X11_92 rfl kk_100 rfl (kl_100 hq) (Nat.le_of_ble_eq_true rfl) (Nat.le_of_ble_eq_true rfl) (gok_i (av_c (gkr (kl_0 hq)) av_n) as_n) rfl rfl rfl h (fun x3 h => ?_)
  refine T_aload_n 0 (dk dtk_X11_compile 12 rfl) rfl rfl ?_
  refine T_getR 0 1 40 (dk dtk_X11_compile 13 rfl) kfl_X11_21 kk_0 (kl_0 hq) (by decide) rfl kr_0_1 ?_
  refine KJ_Vi [] [] rfl (dk dtk_X11_compile 14 rfl) kcv_X11_95 rfl kk_40 rfl (kl_40 hq) (Nat.le_of_ble_eq_true rfl) (Nat.le_of_ble_eq_true rfl) (gok_i (av_c (gkr (kl_0 hq)) av_n) as_n) rfl rfl rfl h (fun r5 x4 h => ?_)
  refine T_istore_n (lv2 := [(1, vi r5), (0, vr 0)]) (dk dtk_X11_compile 15 rfl) rfl (by decide) rfl ?_
  refine T_aload_n 1 (dk dtk_X11_compile 16 rfl) rfl rfl ?_
  refine T_getR 0 1 40 (dk dtk_X11_compile 17 rfl) kfl_X11_21 kk_0 (kl_0 hq) (by decide) rfl kr_0_1 ?_
  refine T_getI 40 11 (dk dtk_X11_compile 18 rfl) kfl_X11_99 kk_40 (kl_40 hq) (by decide) rfl ?_
  refine T_istore_n (lv2 := [(2, vi (x4.1 40 11)), (1, vi r5), (0, vr 0)]) (dk dtk_X11_compile 19 rfl) rfl (by decide) rfl ?_
  refine T_goto 58 (dk dtk_X11_compile 20 rfl) (by decide) ?_
  exact T_sub [2, 1, 0] rfl h
set_option maxRecDepth 100000 in
set_option maxHeartbeats 4000000 in
theorem kg_X11_compile_42 {G : kG} {q : kP} {d : Nat} {x : gd} {P : Option gv → gd → kP → Prop} {X : String → gd → kP → Prop} (hu : kU q) 
    (h : KT G q d zk_X7_tokenHere 0 [(0, vr 100)] [] x (ri (fun r2 x1 => KM G q (d + 1) zk_X11_compile 58 [(0, vr 0), (1, vi (x.1 100 6)), (2, vi r2)] [] x1 P X))) :
    KM G q (d + 1) zk_X11_compile 42 [(0, vr 0)] [] x P X := by
  have hq := hu.1
  refine T_aload_n 0 (dk dtk_X11_compile 22 rfl) rfl rfl ?_
  refine T_getR 0 3 100 (dk dtk_X11_compile 23 rfl) kfl_X11_37 kk_0 (kl_0 hq) (by decide) rfl kr_0_3 ?_
  refine T_getI 100 6 (dk dtk_X11_compile 24 rfl) kfl_X11_104 kk_100 (kl_100 hq) (by decide) rfl ?_
  refine T_istore_n (lv2 := [(1, vi (x.1 100 6)), (0, vr 0)]) (dk dtk_X11_compile 25 rfl) rfl (by decide) rfl ?_
  refine T_aload_n 1 (dk dtk_X11_compile 26 rfl) rfl rfl ?_
  refine T_getR 0 3 100 (dk dtk_X11_compile 27 rfl) kfl_X11_37 kk_0 (kl_0 hq) (by decide) rfl kr_0_3 ?_
  refine KH_Vi [] [] rfl (dk dtk_X11_compile 28 rfl) kcv_X11_107 rfl kk_100 rfl (kl_100 hq) (Nat.le_of_ble_eq_true rfl) (Nat.le_of_ble_eq_true rfl) (gok_i (av_c rfl (av_c (gkr (kl_0 hq)) av_n)) as_n) (by intro z hz; cases hz with | head => rfl | tail _ hz => cases hz) h (fun r2 x1 h => ?_)
  refine T_istore_n (lv2 := [(2, vi r2), (1, vi (x.1 100 6)), (0, vr 0)]) (dk dtk_X11_compile 29 rfl) rfl (by decide) rfl ?_
  exact T_sub [2, 1, 0] rfl h
set_option maxRecDepth 100000 in
set_option maxHeartbeats 4000000 in
theorem kg_X11_compile_58 {G : kG} {q : kP} {d : Nat} {x : gd} {P : Option gv → gd → kP → Prop} {X : String → gd → kP → Prop} (hu : kU q) (l1 : Int32) (l2 : Int32)
    (h : ((¬ (l1 = (0 : Int32)) → KM G q (d + 1) zk_X11_compile 68 [(0, vr 0), (1, vi l1), (2, vi l2)] [vi 0, vr 0] x P X) ∧ (l1 = (0 : Int32) → KM G q (d + 1) zk_X11_compile 68 [(0, vr 0), (1, vi l1), (2, vi l2)] [vi 1, vr 0] x P X))) :
    KM G q (d + 1) zk_X11_compile 58 [(0, vr 0), (1, vi l1), (2, vi l2)] [] x P X := by
  have hq := hu.1
  refine T_aload_n 0 (dk dtk_X11_compile 30 rfl) rfl rfl ?_
  refine T_iload_n 1 (dk dtk_X11_compile 31 rfl) rfl rfl ?_
  refine T_if_ne 67 (dk dtk_X11_compile 32 rfl) (by decide) (fun c1 => ?_) (fun c1 => ?_)
  · have h := h.1 c1
    refine T_iconst (v := 0) (dk dtk_X11_compile 35 rfl) (by decide +kernel) ?_
    exact h
  · have h := h.2 c1
    refine T_iconst (v := 1) (dk dtk_X11_compile 33 rfl) (by decide +kernel) ?_
    refine T_goto 68 (dk dtk_X11_compile 34 rfl) (by decide) ?_
    exact h
set_option maxRecDepth 100000 in
set_option maxHeartbeats 4000000 in
theorem kg_X11_compile_68 {G : kG} {q : kP} {d : Nat} {x : gd} {P : Option gv → gd → kP → Prop} {X : String → gd → kP → Prop} (hu : kU q) (l1 : Int32) (l2 : Int32) (s0 : Int32)
    (h : gbool s0 ∧ (∀ x1 : gd, x1 = si x 0 9 s0 → (((x1.1 0 9) = (0 : Int32) → vp_in l2 702 ∧ KM G q (d + 1) zk_X11_compile 92 [(0, vr 0), (1, vi l1), (2, vi l2)] [vi (x1.1 24 (l2 : Int32).toNatClampNeg), vr 0] x1 P X) ∧ (¬ ((x1.1 0 9) = (0 : Int32)) → KM G q (d + 1) zk_X11_compile 92 [(0, vr 0), (1, vi l1), (2, vi l2)] [vi (-1), vr 0] x1 P X)))) :
    KM G q (d + 1) zk_X11_compile 68 [(0, vr 0), (1, vi l1), (2, vi l2)] [vi s0, vr 0] x P X := by
  have hq := hu.1
  obtain ⟨h2, h⟩ := h
  obtain ⟨x1, ex1⟩ : ∃ z, z = si x 0 9 s0 := ⟨_, rfl⟩
  have h := h x1 ex1
  refine T_putI 0 9 (dk dtk_X11_compile 36 rfl) kfl_X11_110 kk_0 (kl_0 hq) (by decide) rfl h2 ?_
  rw [← ex1]
  refine T_aload_n 0 (dk dtk_X11_compile 37 rfl) rfl rfl ?_
  refine T_aload_n 0 (dk dtk_X11_compile 38 rfl) rfl rfl ?_
  refine T_getI 0 9 (dk dtk_X11_compile 39 rfl) kfl_X11_110 kk_0 (kl_0 hq) (by decide) rfl ?_
  refine T_if_eq 83 (dk dtk_X11_compile 40 rfl) (by decide) (fun c3 => ?_) (fun c3 => ?_)
  · have h := h.1 c3
    refine T_aload_n 0 (dk dtk_X11_compile 43 rfl) rfl rfl ?_
    refine T_getR 0 0 20 (dk dtk_X11_compile 44 rfl) kfl_X11_10 kk_0 (kl_0 hq) (by decide) rfl kr_0_0 ?_
    refine T_getR 20 3 24 (dk dtk_X11_compile 45 rfl) kfl_X11_114 kk_20 (kl_20 hq) (by decide) rfl kr_20_3 ?_
    refine T_iload_n 2 (dk dtk_X11_compile 46 rfl) rfl rfl ?_
    obtain ⟨h4, h⟩ := h
    refine T_iald 24 702 (dk dtk_X11_compile 47 rfl) kk_24 (kl_24 hq) h4 ?_
    exact h
  · have h := h.2 c3
    refine T_iconst (v := (-1)) (dk dtk_X11_compile 41 rfl) (by decide +kernel) ?_
    refine T_goto 92 (dk dtk_X11_compile 42 rfl) (by decide) ?_
    exact h
set_option maxRecDepth 100000 in
set_option maxHeartbeats 4000000 in
theorem kg_X11_compile_92 {G : kG} {q : kP} {d : Nat} {x : gd} {P : Option gv → gd → kP → Prop} {X : String → gd → kP → Prop} (hu : kU q) (l1 : Int32) (l2 : Int32) (s0 : Int32)
    (h : (∀ x1 : gd, x1 = si x 0 11 s0 → (((x1.1 0 9) = (0 : Int32) → vp_in l2 702 ∧ KM G q (d + 1) zk_X11_compile 116 [(0, vr 0), (1, vi l1)] [vi (x1.1 25 (l2 : Int32).toNatClampNeg), vr 0] x1 P X) ∧ (¬ ((x1.1 0 9) = (0 : Int32)) → KM G q (d + 1) zk_X11_compile 116 [(0, vr 0), (1, vi l1)] [vi (-1), vr 0] x1 P X)))) :
    KM G q (d + 1) zk_X11_compile 92 [(0, vr 0), (1, vi l1), (2, vi l2)] [vi s0, vr 0] x P X := by
  have hq := hu.1
  obtain ⟨x1, ex1⟩ : ∃ z, z = si x 0 11 s0 := ⟨_, rfl⟩
  have h := h x1 ex1
  refine T_putI 0 11 (dk dtk_X11_compile 48 rfl) kfl_X11_63 kk_0 (kl_0 hq) (by decide) rfl ⟨rfl, rfl⟩ ?_
  rw [← ex1]
  refine T_aload_n 0 (dk dtk_X11_compile 49 rfl) rfl rfl ?_
  refine T_aload_n 0 (dk dtk_X11_compile 50 rfl) rfl rfl ?_
  refine T_getI 0 9 (dk dtk_X11_compile 51 rfl) kfl_X11_110 kk_0 (kl_0 hq) (by decide) rfl ?_
  refine T_if_eq 107 (dk dtk_X11_compile 52 rfl) (by decide) (fun c2 => ?_) (fun c2 => ?_)
  · have h := h.1 c2
    refine T_aload_n 0 (dk dtk_X11_compile 55 rfl) rfl rfl ?_
    refine T_getR 0 0 20 (dk dtk_X11_compile 56 rfl) kfl_X11_10 kk_0 (kl_0 hq) (by decide) rfl kr_0_0 ?_
    refine T_getR 20 4 25 (dk dtk_X11_compile 57 rfl) kfl_X11_118 kk_20 (kl_20 hq) (by decide) rfl kr_20_4 ?_
    refine T_iload_n 2 (dk dtk_X11_compile 58 rfl) rfl rfl ?_
    obtain ⟨h3, h⟩ := h
    refine T_iald 25 702 (dk dtk_X11_compile 59 rfl) kk_25 (kl_25 hq) h3 ?_
    exact T_sub [0, 1] rfl h
  · have h := h.2 c2
    refine T_iconst (v := (-1)) (dk dtk_X11_compile 53 rfl) (by decide +kernel) ?_
    refine T_goto 116 (dk dtk_X11_compile 54 rfl) (by decide) ?_
    exact T_sub [0, 1] rfl h
set_option maxRecDepth 100000 in
set_option maxHeartbeats 4000000 in
theorem kg_X11_compile_116 {G : kG} {q : kP} {d : Nat} {x : gd} {P : Option gv → gd → kP → Prop} {X : String → gd → kP → Prop} (hu : kU q) (l1 : Int32) (s0 : Int32)
    (h : (∀ x1 : gd, x1 = si x 0 12 s0 → ((¬ ((x1.1 0 9) = (0 : Int32)) → KT G q d zk_X7_link 0 [(0, vr 100)] [] x1 (rv (fun x3 => P (some (vi (x3.1 60 10))) x3 q))) ∧ ((x1.1 0 9) = (0 : Int32) → P (some (vi (-l1))) x1 q)))) :
    KM G q (d + 1) zk_X11_compile 116 [(0, vr 0), (1, vi l1)] [vi s0, vr 0] x P X := by
  have hq := hu.1
  obtain ⟨x1, ex1⟩ : ∃ z, z = si x 0 12 s0 := ⟨_, rfl⟩
  have h := h x1 ex1
  refine T_putI 0 12 (dk dtk_X11_compile 60 rfl) kfl_X11_67 kk_0 (kl_0 hq) (by decide) rfl ⟨rfl, rfl⟩ ?_
  rw [← ex1]
  refine T_aload_n 0 (dk dtk_X11_compile 61 rfl) rfl rfl ?_
  refine T_getI 0 9 (dk dtk_X11_compile 62 rfl) kfl_X11_110 kk_0 (kl_0 hq) (by decide) rfl ?_
  refine T_if_ne 129 (dk dtk_X11_compile 63 rfl) (by decide) (fun c2 => ?_) (fun c2 => ?_)
  · have h := h.1 c2
    refine T_aload_n 0 (dk dtk_X11_compile 67 rfl) rfl rfl ?_
    refine T_getR 0 3 100 (dk dtk_X11_compile 68 rfl) kfl_X11_37 kk_0 (kl_0 hq) (by decide) rfl kr_0_3 ?_
    refine T_sub (lv2 := [(0, vr 0)]) [0] rfl ?_
    refine KH_Vv [] [] rfl (dk dtk_X11_compile 69 rfl) kcv_X11_121 rfl kk_100 rfl (kl_100 hq) (Nat.le_of_ble_eq_true rfl) (Nat.le_of_ble_eq_true rfl) (gok_i (av_c (gkr (kl_0 hq)) av_n) as_n) (by intro z hz; cases hz with | head => rfl | tail _ hz => cases hz) h (fun x3 h => ?_)
    refine T_aload_n 0 (dk dtk_X11_compile 70 rfl) rfl rfl ?_
    refine T_getR 0 2 60 (dk dtk_X11_compile 71 rfl) kfl_X11_28 kk_0 (kl_0 hq) (by decide) rfl kr_0_2 ?_
    refine T_getI 60 10 (dk dtk_X11_compile 72 rfl) kfl_X11_124 kk_60 (kl_60 hq) (by decide) rfl ?_
    exact KM_iret (dk dtk_X11_compile 73 rfl) rfl rfl h
  · have h := h.2 c2
    refine T_iload_n 1 (dk dtk_X11_compile 64 rfl) rfl rfl ?_
    refine T_ineg (dk dtk_X11_compile 65 rfl) ?_
    exact KM_iret (dk dtk_X11_compile 66 rfl) rfl rfl h
end
section
/-! the class: what changes, tokens -/
theorem tm1 : (-1 : Int32).toInt = -1 := rfl
theorem bm {z : Int} (h1 : -2147483648 ≤ z) (h2 : z ≤ 2147483647) : Int.bmod z 4294967296 = z := Int.bmod_eq_of_le (by omega) (by omega)
theorem sfl_get {x : gd} {c c' j n : Nat} {v : Int32} : (sfl x c v n).1 c' j = if c' = c ∧ j < n then v else x.1 c' j := by
  show (if c' = c then (fun j => if j < n then v else x.1 c j) else x.1 c') j = _
  by_cases h : c' = c
  · subst h
    rw [if_pos rfl]
    show (if j < n then v else x.1 c' j) = _
    by_cases h2 : j < n
    · rw [if_pos h2, if_pos ⟨rfl, h2⟩]
    · rw [if_neg h2, if_neg (fun q => h2 q.2)]
  · rw [if_neg h, if_neg (fun q => h q.1)]
/-- x' is x but where S says -/
def fm (S : Nat → Nat → Prop) (x x' : gd) : Prop := ∀ c k, ¬ S c k → x'.1 c k = x.1 c k
theorem fm_rf (S : Nat → Nat → Prop) (x : gd) : fm S x x := fun _ _ _ => rfl
theorem fm_tr {S : Nat → Nat → Prop} {x y z : gd} (a : fm S x y) (b : fm S y z) : fm S x z := fun c k h => (b c k h).trans (a c k h)
theorem fm_w {S S' : Nat → Nat → Prop} {x y : gd} (a : fm S x y) (h : ∀ c k, S c k → S' c k) : fm S' x y := fun c k n => a c k (fun q => n (h c k q))
theorem fm_si {S : Nat → Nat → Prop} {x y : gd} {c k : Nat} {v : Int32} (a : fm S x y) (h : S c k) : fm S x (si y c k v) := fun c' k' n => by
  rw [si_get, if_neg (fun q => n (by rw [q.1, q.2]; exact h))]; exact a c' k' n
theorem fm_fl {S : Nat → Nat → Prop} {x y : gd} {c n : Nat} {v : Int32} (a : fm S x y) (h : ∀ k, k < n → S c k) : fm S x (sfl y c v n) := fun c' k' m => by
  rw [sfl_get, if_neg (fun q => m (by rw [q.1]; exact h k' q.2))]; exact a c' k' m
/-- the text's length -/
def kL (x : gd) : Prop := 0 ≤ (x.1 20 1).toInt ∧ (x.1 20 1).toInt ≤ 3000
section KTOK
variable {G : kG} {q : kP} {d : Nat} {x : gd} {F : Int32 → gd → Prop} {Fv : gd → Prop}
/-- the new token's size and, where it is a whole, its value -/
def skO (m c k : Nat) : Prop := (c = 20 ∧ k = 8) ∨ ((c = 26 ∨ c = 27) ∧ k = m)
end KTOK
end
section
/-! the class's tokens are those of the text -/
def cby0 (b : Nat → Int32) (n p : Nat) : Int32 := if p < n then b p else 0
def kby (x : gd) (p : Nat) : Int32 := x.1 21 p &&& 255
def kln (x : gd) : Nat := (x.1 20 1).toNatClampNeg
/-- the class's numbers of kinds, by the model's -/
def kc (s : Int32) : Int32 := if s = 0 then 0 else if s = 1 then 3 else if s = 2 then 1 else if s = 3 then 2 else if 40 ≤ s ∧ s < 80 then s - 30 else if 10 ≤ s ∧ s < 40 then s + 40 else -1
theorem kc_z (s : Int32) : (s.toInt = 0 ∧ (kc s).toInt = 0) ∨ (s.toInt = 1 ∧ (kc s).toInt = 3) ∨ (s.toInt = 2 ∧ (kc s).toInt = 1) ∨ (s.toInt = 3 ∧ (kc s).toInt = 2) ∨ (40 ≤ s.toInt ∧ s.toInt < 80 ∧ (kc s).toInt = s.toInt - 30) ∨ (10 ≤ s.toInt ∧ s.toInt < 40 ∧ (kc s).toInt = s.toInt + 40) ∨ (kc s).toInt = -1 := by
  have k10 : (10 : Int32).toInt = 10 := rfl
  have k30 : (30 : Int32).toInt = 30 := rfl
  have k40 : (40 : Int32).toInt = 40 := rfl
  have k80 : (80 : Int32).toInt = 80 := rfl
  unfold kc
  by_cases c0 : s = 0
  · rw [if_pos c0, c0]; exact Or.inl ⟨rfl, rfl⟩
  rw [if_neg c0]
  by_cases c1 : s = 1
  · rw [if_pos c1, c1]; exact Or.inr (Or.inl ⟨rfl, rfl⟩)
  rw [if_neg c1]
  by_cases c2 : s = 2
  · rw [if_pos c2, c2]; exact Or.inr (Or.inr (Or.inl ⟨rfl, rfl⟩))
  rw [if_neg c2]
  by_cases c3 : s = 3
  · rw [if_pos c3, c3]; exact Or.inr (Or.inr (Or.inr (Or.inl ⟨rfl, rfl⟩)))
  rw [if_neg c3]
  by_cases c4 : 40 ≤ s ∧ s < 80
  · rw [if_pos c4]
    rw [t_le, t_lt, k40, k80] at c4
    refine Or.inr (Or.inr (Or.inr (Or.inr (Or.inl ⟨c4.1, c4.2, ?_⟩))))
    rw [t_sub (by omega) (by omega), k30]
  rw [if_neg c4]
  by_cases c5 : 10 ≤ s ∧ s < 40
  · rw [if_pos c5]
    rw [t_le, t_lt, k40, k10] at c5
    refine Or.inr (Or.inr (Or.inr (Or.inr (Or.inr (Or.inl ⟨c5.1, c5.2, ?_⟩)))))
    rw [t_add (by omega) (by omega), k40]
  rw [if_neg c5]
  exact Or.inr (Or.inr (Or.inr (Or.inr (Or.inr (Or.inr rfl)))))
theorem kc_i {s c : Int32} (h : kc s = kc c) (n : ¬ kc c = -1) : s = c := by
  have a := kc_z s
  have b := kc_z c
  have m1 : (-1 : Int32).toInt = -1 := rfl
  rw [t_eq] at n h
  rw [t_eq]
  omega
theorem kc_i1 {s : Int32} (h : kc s = 3) : s = 1 := kc_i (c := 1) (h.trans (by decide)) (by decide)
/-- a name's number -/
def hsh (b : Nat → Int32) (p : Nat) : Nat → Int32
  | 0 => 0
  | m + 1 => hsh b p m * 31 + b (p + m)
theorem cby0_lt {b : Nat → Int32} {n p : Nat} (h : p < n) : cby0 b n p = b p := if_pos h
theorem cby0_no {b : Nat → Int32} {n p : Nat} (h : ¬ p < n) : cby0 b n p = 0 := if_neg h
theorem k_ch : ∀ w, w < 32 → ∀ i, i < 7 → cch 0 (w * 7 + i) = wch w i := by decide +kernel
theorem wch_32 {w i : Nat} (hw : w < 32) (hi : i < 8) : wch w i = 32 ↔ wln w ≤ i := by
  have a := w_small w hw i hi
  rw [← w_blank w hw i hi]
  have e1 : (Int32.ofNat ((wtab.getD w []).getD i 32)).toInt = ((wtab.getD w []).getD i 32 : Nat) := Int32.toInt_ofNat_of_lt (by omega)
  have k32 : (32 : Int32).toInt = 32 := rfl
  unfold wch
  rw [t_eq, e1, k32]
  omega
theorem isLD_32 {c : Int32} (h : isLD c) : ¬ c = 32 := fun e => by rw [e] at h; exact absurd h (by decide)
theorem sgk_0 {c d : Int32} (h : ¬ d = 61) : sgk c d = sgk c 0 := by
  have a : ¬ (d = 61 ∧ (c = 61 ∨ c = 33 ∨ c = 60 ∨ c = 62)) := fun q => h q.1
  have b : ¬ ((0 : Int32) = 61 ∧ (c = 61 ∨ c = 33 ∨ c = 60 ∨ c = 62)) := fun q => absurd q.1 (by decide)
  unfold sgk
  rw [if_neg a, if_neg b]
theorem sgk_c {b : Nat → Int32} {n p : Nat} {c : Int32} : sgk c (cby0 b n p) = sgk c (cby1 b n p) := by
  by_cases q : p < n
  · rw [cby0_lt q, cby1_lt q]
  · rw [cby0_no q, cby1_no q]
    exact (sgk_0 (by decide)).symm
theorem sg2_c {b : Nat → Int32} {n p : Nat} {c : Int32} : sg2 c (cby0 b n p) ↔ sg2 c (cby1 b n p) := by
  by_cases q : p < n
  · rw [cby0_lt q, cby1_lt q]
  · rw [cby0_no q, cby1_no q]
    exact ⟨fun z => absurd z.1 (by decide), fun z => absurd z.1 (by decide)⟩
section KTF
variable {G : kG} {q : kP} {d : Nat} {x : gd} {F : Int32 → gd → Prop} {Fv : gd → Prop}
theorem kf_isLetter (hq : kV q) (c : Int32) (h : ∀ r, (¬ r = 0 ↔ isL c) → F r x) : KT G q d zk_X9_isLetter 0 [(0, vi c)] [] x (ri F) := by
  have no : ∀ r : Int32, r = 0 → ¬ isL c → F r x := fun r e n => h r ⟨fun z => absurd e z, fun z => absurd z n⟩
  have yes : ∀ r : Int32, r = 1 → isL c → F r x := fun r e n => h r ⟨fun _ => n, fun _ => by rw [e]; decide⟩
  have g : ¬ (97 ≤ c ∧ c ≤ 122) → KT G q d zk_X9_isLetter 12 [(0, vi c)] [] x (ri F) := by
    intro n
    refine kg_X9_isLetter_12 hq _ ⟨fun c1 => ri_i (no _ rfl ?_), fun c1 => ⟨fun c2 => ri_i (no _ rfl ?_), fun c2 => ri_i (yes _ rfl (Or.inr ⟨?_, ?_⟩))⟩⟩
    · rintro (z | ⟨z, _⟩)
      · exact n z
      · rw [t_lt] at c1; rw [t_le] at z; omega
    · rintro (z | ⟨_, z⟩)
      · exact n z
      · rw [t_lt] at c2; rw [t_le] at z; omega
    · rw [t_lt] at c1; rw [t_le]; omega
    · rw [t_lt] at c2; rw [t_le]; omega
  refine kg_X9_isLetter_0 hq _ ⟨fun c1 => g (fun z => ?_), fun c1 => ⟨fun c2 => ri_i (yes _ rfl (Or.inl ⟨?_, c2⟩)), fun c2 => g (fun z => c2 z.2)⟩⟩
  · have z1 := z.1
    rw [t_lt] at c1; rw [t_le] at z1; omega
  · rw [t_lt] at c1; rw [t_le]; omega
theorem kf_isDigit (hq : kV q) (c : Int32) (h : ∀ r, (¬ r = 0 ↔ isD c) → F r x) : KT G q d zk_X9_isDigit 0 [(0, vi c)] [] x (ri F) := by
  have no : ∀ r : Int32, r = 0 → ¬ isD c → F r x := fun r e n => h r ⟨fun z => absurd e z, fun z => absurd z n⟩
  refine kg_X9_isDigit_0 hq _ ⟨fun c1 => ri_i (no _ rfl (fun z => ?_)), fun c1 => ⟨fun c2 => ri_i (no _ rfl (fun z => ?_)), fun c2 => ri_i (h _ ⟨fun _ => ⟨?_, ?_⟩, fun _ => by decide⟩)⟩⟩
  · have z1 := z.1
    rw [t_lt] at c1; rw [t_le] at z1; omega
  · have z1 := z.2
    rw [t_lt] at c2; rw [t_le] at z1; omega
  · rw [t_lt] at c1; rw [t_le]; omega
  · rw [t_lt] at c2; rw [t_le]; omega
theorem kf_byteAt (hq : kV q) (i : Int32) (hl : kL x) (h0 : 0 ≤ i.toInt) (h : F (cby0 (kby x) (kln x) i.toNatClampNeg) x) : KT G q d zk_X9_byteAt 0 [(0, vr 20), (1, vi i)] [] x (ri F) := by
  obtain ⟨l0, l1⟩ := hl
  have u1 := t_cl i
  have u2 : kln x = (x.1 20 1).toInt.toNat := rfl
  refine kg_X9_byteAt_0 hq _ ⟨fun c => ri_i ?_, fun c => ⟨?_, ri_i ?_⟩⟩
  · rw [t_le] at c
    rwa [cby0_no (by omega)] at h
  · rw [t_le] at c
    rw [vp_in_iff]; omega
  · rw [t_le] at c
    rwa [cby0_lt (by omega)] at h
theorem kf_skip (hq : kV q) (hl : kL x) (h0 : 0 ≤ (x.1 20 8).toInt) (h1 : (x.1 20 8).toInt ≤ (x.1 20 1).toInt) (h : ∀ x', fm (fun c k => c = 20 ∧ (k = 8 ∨ k = 9)) x x' → (x.1 20 8).toInt ≤ (x'.1 20 8).toInt → (x'.1 20 8).toInt ≤ (x.1 20 1).toInt → (x'.1 20 8).toNatClampNeg = lx (kby x) (kln x) (x.1 20 8).toNatClampNeg → Fv x') : KT G q (d + 1) zk_X9_skipBlanks 0 [(0, vr 20)] [] x (rv Fv) := by
  obtain ⟨b, eb⟩ : ∃ b, b = kby x := ⟨_, rfl⟩
  obtain ⟨N, eN⟩ : ∃ N, N = kln x := ⟨_, rfl⟩
  rw [← eb, ← eN] at h
  have uN : (N : Int) = (x.1 20 1).toInt := by
    rw [eN]
    show (((x.1 20 1).toNatClampNeg : Nat) : Int) = _
    rw [t_cl]; have := hl.1; omega
  have k1 : (1 : Int32).toInt = 1 := rfl
  have g1 := hl.2
  have loop : ∀ (n : Nat) (l1 : Int32) (r : Bool) (y : gd), (r = true ↔ ¬ l1 = 0) → fm (fun c k => c = 20 ∧ (k = 8 ∨ k = 9)) x y → (x.1 20 8).toInt ≤ (y.1 20 8).toInt → (y.1 20 8).toInt ≤ (x.1 20 1).toInt → (x.1 20 1).toInt - (y.1 20 8).toInt ≤ n → lx b N (x.1 20 8).toNatClampNeg = lxr b N r (y.1 20 8).toNatClampNeg → KT G q (d + 1) zk_X9_skipBlanks 2 [(0, vr 20), (1, vi l1)] [] y (rv Fv) := by
    intro n
    induction n with
    | zero =>
      intro l1 r y hr hf a1 a2 a3 hx
      have el : y.1 20 1 = x.1 20 1 := hf _ _ (by omega)
      have u8 := t_cl (y.1 20 8)
      refine kg_X9_skipBlanks_2 hq _ ⟨fun c => rv_i (h y hf a1 a2 ?_), fun c => ?_⟩
      · rw [hx, lxr_end (by omega)]
      · rw [t_le, el] at c; omega
    | succ n ih =>
      intro l1 r y hr hf a1 a2 a3 hx
      have el : y.1 20 1 = x.1 20 1 := hf _ _ (by omega)
      have hly : kL y := by unfold kL; rw [el]; exact hl
      have u8 := t_cl (y.1 20 8)
      have eby : kby y = b := by rw [eb]; funext p; unfold kby; rw [hf 21 p (by omega)]
      have eln : kln y = N := by rw [eN]; unfold kln; rw [el]
      refine kg_X9_skipBlanks_2 hq _ ⟨fun c => rv_i (h y hf a1 a2 ?_), fun c => ?_⟩
      · rw [t_le, el] at c
        rw [hx, lxr_end (by omega)]
      rw [t_le, el] at c
      have lt : (y.1 20 8).toNatClampNeg < N := by omega
      have e1 : (y.1 20 8 + 1).toInt = (y.1 20 8).toInt + 1 := by rw [t_add (by omega) (by omega), k1]
      have e2 : (y.1 20 8 + 1).toNatClampNeg = (y.1 20 8).toNatClampNeg + 1 := by rw [t_cl]; omega
      have st := lxr_step (b := b) (n := N) (r := r) lt
      have next : ∀ (l2 : Int32) (r2 : Bool) (z : gd), (r2 = true ↔ ¬ l2 = 0) → fm (fun c k => c = 20 ∧ (k = 8 ∨ k = 9)) x z → z.1 20 8 = y.1 20 8 + 1 → lxr b N r (y.1 20 8).toNatClampNeg = lxr b N r2 ((y.1 20 8).toNatClampNeg + 1) → KT G q (d + 1) zk_X9_skipBlanks 2 [(0, vr 20), (1, vi l2)] [] z (rv Fv) := by
        intro l2 r2 z hr2 fz ez hx2
        refine ih l2 r2 z hr2 fz ?_ ?_ ?_ ?_
        · rw [ez, e1]; omega
        · rw [ez, e1]; omega
        · rw [ez, e1]; omega
        · rw [hx, hx2, ez, e2]
      have fm1 : ∀ z, z = si y 20 8 (y.1 20 8 + 1) → fm (fun c k => c = 20 ∧ (k = 8 ∨ k = 9)) x z ∧ z.1 20 8 = y.1 20 8 + 1 := fun z ez => ⟨by rw [ez]; exact fm_si hf ⟨rfl, Or.inl rfl⟩, by rw [ez]; (simp only [si_get, sfl_get, Nat.reduceEqDiff, eq_self, and_false, false_and, and_true, true_and, if_true, if_false, reduceIte, reduceCtorEq])⟩
      have tail : ¬ b (y.1 20 8).toNatClampNeg = 10 → ¬ (b (y.1 20 8).toNatClampNeg = 47 ∧ (if (y.1 20 8).toNatClampNeg + 1 < N then b ((y.1 20 8).toNatClampNeg + 1) else 0) = 47) → KT G q (d + 1) zk_X9_skipBlanks 69 [(0, vr 20), (1, vi l1), (2, vi (b (y.1 20 8).toNatClampNeg))] [] y (rv Fv) := by
        intro n10 n47
        rw [if_neg n10, if_neg n47] at st
        have one : ¬ (r = false ∧ ¬ b (y.1 20 8).toNatClampNeg = 32 ∧ ¬ b (y.1 20 8).toNatClampNeg = 9 ∧ ¬ b (y.1 20 8).toNatClampNeg = 13) → ∀ z, z = si y 20 8 (y.1 20 8 + 1) → KT G q (d + 1) zk_X9_skipBlanks 2 [(0, vr 20), (1, vi l1)] [] z (rv Fv) := by
          intro no z ez
          rw [if_neg no] at st
          exact next l1 r z hr (fm1 z ez).1 (fm1 z ez).2 st
        refine kg_X9_skipBlanks_69 hq _ _ ⟨fun c1 => one (fun z => ?_), fun c1 => ⟨fun c2 => one (fun z => z.2.1 c2), fun c2 => ⟨fun c3 => one (fun z => z.2.2.1 c3), fun c3 => ⟨fun c4 => one (fun z => z.2.2.2 c4), fun c4 => rv_i (h y hf a1 a2 ?_)⟩⟩⟩⟩
        · have := hr.mpr c1
          rw [z.1] at this
          exact absurd this (by decide)
        · have rf : r = false := by
            cases r with
            | false => rfl
            | true => exact absurd c1 (hr.mp rfl)
          rw [if_pos ⟨rf, c2, c3, c4⟩] at st
          rw [hx, st]
      refine kf_byteAt hq _ hly (by omega) ?_
      rw [eby, eln, cby0_lt lt]
      refine ⟨fun n10 => ⟨fun n47 => tail n10 (fun z => n47 z.1), fun c47 => kf_byteAt hq _ hly (by omega) ?_⟩, fun c10 z ez w ew => ?_⟩
      · rw [eby, eln, e2]
        refine ⟨fun n47 => tail n10 (fun z => n47 z.2), fun d47 z ez => ?_⟩
        rw [if_neg n10, if_pos ⟨c47, d47⟩] at st
        exact next 1 true z ⟨fun _ => by decide, fun _ => rfl⟩ (fm1 z ez).1 (fm1 z ez).2 st
      · rw [if_pos c10] at st
        refine next 0 false w ⟨fun z => absurd z (by decide), fun z => absurd rfl z⟩ ?_ ?_ st
        · rw [ew, ez]; exact fm_si (fm_si hf ⟨rfl, Or.inr rfl⟩) ⟨rfl, Or.inl rfl⟩
        · rw [ew, ez]; (simp only [si_get, sfl_get, Nat.reduceEqDiff, eq_self, and_false, false_and, and_true, true_and, if_true, if_false, reduceIte, reduceCtorEq])
  exact kg_X9_skipBlanks_0 hq (loop ((x.1 20 1).toInt - (x.1 20 8).toInt).toNat 0 false x ⟨fun z => absurd z (by decide), fun z => absurd rfl z⟩ (fm_rf _ _) (Int.le_refl _) h1 (by omega) rfl)
theorem kf_passLD (hq : kV q) (hl : kL x) (hm : vp_in (x.1 20 7) 702) (h0 : 0 ≤ (x.1 20 8).toInt) (h1 : (x.1 20 8).toInt ≤ (x.1 20 1).toInt) (h : ∀ x' (m : Nat), fm (fun c k => (c = 20 ∧ k = 8) ∨ (c = 26 ∧ k = (x.1 20 7).toNatClampNeg)) x x' → RUNq isLD (kby x) (kln x) (x.1 20 8).toNatClampNeg m → (x'.1 20 8).toInt = (x.1 20 8).toInt + m → (x'.1 26 (x.1 20 7).toNatClampNeg).toInt = m → Fv x') : KT G q (d + 1) zk_X9_passLettersAndDigits 0 [(0, vr 20)] [] x (rv Fv) := by
  obtain ⟨b, eb⟩ : ∃ b, b = kby x := ⟨_, rfl⟩
  obtain ⟨N, eN⟩ : ∃ N, N = kln x := ⟨_, rfl⟩
  rw [← eb, ← eN] at h
  have uN : (N : Int) = (x.1 20 1).toInt := by
    rw [eN]
    show (((x.1 20 1).toNatClampNeg : Nat) : Int) = _
    rw [t_cl]; have := hl.1; omega
  have u0 := t_cl (x.1 20 8)
  have k1 : (1 : Int32).toInt = 1 := rfl
  have g1 := hl.2
  have last : ∀ (m : Nat) (y z : gd), fm (fun c k => c = 20 ∧ k = 8) x y → (y.1 20 8).toInt = (x.1 20 8).toInt + m → (x.1 20 8).toInt + m ≤ (x.1 20 1).toInt → RUNq isLD b N (x.1 20 8).toNatClampNeg m → z = si y 26 (y.1 20 7).toNatClampNeg (y.1 20 8 - x.1 20 8) → rv Fv none z := by
    intro m y z hf a1 a2 run ez
    have em : y.1 20 7 = x.1 20 7 := hf _ _ (by omega)
    rw [em] at ez
    refine rv_i (h z m ?_ run ?_ ?_)
    · rw [ez]; exact fm_si (fm_w hf (fun c k q => Or.inl q)) (Or.inr ⟨rfl, rfl⟩)
    · have : z.1 20 8 = y.1 20 8 := by rw [ez]; (simp only [si_get, sfl_get, Nat.reduceEqDiff, eq_self, and_false, false_and, and_true, true_and, if_true, if_false, reduceIte, reduceCtorEq])
      rw [this]; exact a1
    · have e6 : z.1 26 (x.1 20 7).toNatClampNeg = y.1 20 8 - x.1 20 8 := by rw [ez]; (simp only [si_get, sfl_get, Nat.reduceEqDiff, eq_self, and_false, false_and, and_true, true_and, if_true, if_false, reduceIte, reduceCtorEq])
      rw [e6, t_sub (by omega) (by omega)]
      omega
  have loop : ∀ (n m : Nat) (y : gd), fm (fun c k => c = 20 ∧ k = 8) x y → (y.1 20 8).toInt = (x.1 20 8).toInt + m → (x.1 20 8).toInt + m ≤ (x.1 20 1).toInt → (x.1 20 1).toInt - (y.1 20 8).toInt ≤ n → (∀ i, i < m → isLD (b ((x.1 20 8).toNatClampNeg + i))) → KT G q (d + 1) zk_X9_passLettersAndDigits 5 [(0, vr 20), (1, vi (x.1 20 8))] [] y (rv Fv) := by
    intro n
    induction n with
    | zero =>
      intro m y hf a1 a2 a3 hr
      have el : y.1 20 1 = x.1 20 1 := hf _ _ (by omega)
      have em : y.1 20 7 = x.1 20 7 := hf _ _ (by omega)
      refine kg_X9_passLettersAndDigits_5 hq _ ⟨fun c => ⟨by rw [em]; exact hm, fun z ez => last m y z hf a1 a2 ⟨by omega, hr, fun z => by omega⟩ ez⟩, fun c => ?_⟩
      rw [t_le, el] at c; omega
    | succ n ih =>
      intro m y hf a1 a2 a3 hr
      have el : y.1 20 1 = x.1 20 1 := hf _ _ (by omega)
      have em : y.1 20 7 = x.1 20 7 := hf _ _ (by omega)
      have hly : kL y := by unfold kL; rw [el]; exact hl
      have eby : kby y = b := by rw [eb]; funext p; unfold kby; rw [hf 21 p (by omega)]
      have eln : kln y = N := by rw [eN]; unfold kln; rw [el]
      have u8 := t_cl (y.1 20 8)
      have ep : (y.1 20 8).toNatClampNeg = (x.1 20 8).toNatClampNeg + m := by omega
      refine kg_X9_passLettersAndDigits_5 hq _ ⟨fun c => ⟨by rw [em]; exact hm, fun z ez => last m y z hf a1 a2 ⟨by omega, hr, fun z => by rw [t_le, el] at c; omega⟩ ez⟩, fun c => ?_⟩
      rw [t_le, el] at c
      have lt : (x.1 20 8).toNatClampNeg + m < N := by omega
      have e1 : (y.1 20 8 + 1).toInt = (y.1 20 8).toInt + 1 := by rw [t_add (by omega) (by omega), k1]
      have next : isLD (b ((x.1 20 8).toNatClampNeg + m)) → ∀ z, z = si y 20 8 (y.1 20 8 + 1) → KT G q (d + 1) zk_X9_passLettersAndDigits 5 [(0, vr 20), (1, vi (x.1 20 8))] [] z (rv Fv) := by
        intro hb z ez
        have e8 : z.1 20 8 = y.1 20 8 + 1 := by rw [ez]; (simp only [si_get, sfl_get, Nat.reduceEqDiff, eq_self, and_false, false_and, and_true, true_and, if_true, if_false, reduceIte, reduceCtorEq])
        refine ih (m + 1) z (by rw [ez]; exact fm_si hf ⟨rfl, rfl⟩) ?_ (by omega) ?_ (fun i hi => ?_)
        · rw [e8, e1]; omega
        · rw [e8, e1]; omega
        · by_cases ci : i = m
          · rw [ci]; exact hb
          · exact hr i (by omega)
      refine kf_byteAt hq _ hly (by omega) ?_
      rw [eby, eln, ep, cby0_lt lt]
      exact kf_isLetter hq _ (fun r7 h7 => ⟨fun c7 z ez => next (Or.inl (h7.mp c7)) z ez, fun c7 => kf_isDigit hq _ (fun r11 h11 => ⟨fun c11 z ez => next (Or.inr (h11.mp c11)) z ez, fun c11 => ⟨by rw [em]; exact hm, fun z ez => last m y z hf a1 a2 ⟨by omega, hr, fun w => w.2.elim (fun w => h7.mpr w c7) (fun w => h11.mpr w c11)⟩ ez⟩⟩)⟩)
  exact kg_X9_passLettersAndDigits_0 hq (loop ((x.1 20 1).toInt - (x.1 20 8).toInt).toNat 0 x (fm_rf _ _) (by omega) (by omega) (by omega) (fun i hi => absurd hi (Nat.not_lt_zero _)))
theorem kf_isWord (hq : kV q) (w f s : Int32) (wn : Nat) (hl : kL x) (ew : w.toInt = wn) (hw2 : wn < 32) (hf : 0 ≤ f.toInt) (hs : 0 ≤ s.toInt) (hfs : f.toInt + s.toInt ≤ (x.1 20 1).toInt) (hb : ∀ i, i < s.toNatClampNeg → ¬ kby x (f.toNatClampNeg + i) = 32) (h : ∀ r, (¬ r = 0 ↔ WD (kby x) f.toNatClampNeg s.toNatClampNeg wn) → F r x) : KT G q (d + 7) zk_X9_isWord 0 [(0, vr 20), (1, vi w), (2, vi f), (3, vi s)] [] x (ri F) := by
  obtain ⟨b, eb⟩ : ∃ b, b = kby x := ⟨_, rfl⟩
  rw [← eb] at h hb
  have uN : (kln x : Int) = (x.1 20 1).toInt := by
    show (((x.1 20 1).toNatClampNeg : Nat) : Int) = _
    rw [t_cl]; have := hl.1; omega
  have g1 := hl.2
  have k1 : (1 : Int32).toInt = 1 := rfl
  have k7 : (7 : Int32).toInt = 7 := rfl
  have uf := t_cl f
  have us := t_cl s
  have w7 := w_seven wn hw2
  obtain ⟨pd, hpd⟩ : ∃ pd : Nat → Int32, ∀ j, pd j = if j < s.toNatClampNeg then b (f.toNatClampNeg + j) else 32 := ⟨_, fun _ => rfl⟩
  have toWD : s.toInt ≤ 7 → ((∀ j, j < 7 → pd j = wch wn j) ↔ WD b f.toNatClampNeg s.toNatClampNeg wn) := by
    intro s7
    refine ⟨fun a => ?_, fun a j hj => ?_⟩
    · have el : wln wn = s.toNatClampNeg := by
        by_cases c1 : wln wn < s.toNatClampNeg
        · have z := a (wln wn) (by omega)
          rw [hpd, if_pos c1, (wch_32 hw2 (by omega)).mpr (Nat.le_refl _)] at z
          exact absurd z (hb _ c1)
        · by_cases c2 : s.toNatClampNeg < wln wn
          · have z := a s.toNatClampNeg (by omega)
            rw [hpd, if_neg (by omega)] at z
            have := (wch_32 hw2 (by omega)).mp z.symm
            omega
          · omega
      refine ⟨el, fun i hi => ?_⟩
      have z := a i (by omega)
      rw [hpd, if_pos hi] at z
      exact z
    · rw [hpd]
      by_cases c1 : j < s.toNatClampNeg
      · rw [if_pos c1]; exact a.2 j c1
      · rw [if_neg c1]
        exact ((wch_32 hw2 (by omega)).mpr (by rw [a.1]; omega)).symm
  have loop : ∀ (n : Nat) (i : Int32), 0 ≤ i.toInt → i.toInt ≤ 7 → 7 - i.toInt ≤ n → s.toInt ≤ 7 → (∀ j, j < i.toNatClampNeg → pd j = wch wn j) → KT G q (d + 7) zk_X9_isWord 11 [(0, vr 20), (1, vi w), (2, vi f), (3, vi s), (4, vi i)] [] x (ri F) := by
    intro n
    induction n with
    | zero =>
      intro i i0 i7 hn s7 ha
      have ui := t_cl i
      refine kg_X9_isWord_11 hq _ _ _ _ ⟨fun _ => ri_i (h _ ⟨fun _ => (toWD s7).mp (fun j hj => ha j (by omega)), fun _ => by decide⟩), fun c => ?_⟩
      rw [t_le, k7] at c; omega
    | succ n ih =>
      intro i i0 i7 hn s7 ha
      have ui := t_cl i
      refine kg_X9_isWord_11 hq _ _ _ _ ⟨fun c => ri_i (h _ ⟨fun _ => (toWD s7).mp (fun j hj => ha j (by rw [t_le, k7] at c; omega)), fun _ => by decide⟩), fun c => ?_⟩
      rw [t_le, k7] at c
      have e1 : (i + 1).toInt = i.toInt + 1 := by rw [t_add (by omega) (by omega), k1]
      have e1c : (i + 1).toNatClampNeg = i.toNatClampNeg + 1 := by rw [t_cl]; omega
      have e2 : (f + i).toInt = f.toInt + i.toInt := t_add (by omega) (by omega)
      have e2c : (f + i).toNatClampNeg = f.toNatClampNeg + i.toNatClampNeg := by rw [t_cl]; omega
      have e3 : (w * 7).toInt = wn * 7 := by rw [t_mul (by rw [k7]; omega) (by rw [k7]; omega), k7]; omega
      have e4 : (w * 7 + i).toInt = wn * 7 + i.toInt := by rw [t_add (by omega) (by omega), e3]
      have e4c : (w * 7 + i).toNatClampNeg = wn * 7 + i.toNatClampNeg := by rw [t_cl]; omega
      have mid : ∀ v : Int32, v = pd i.toNatClampNeg → KT G q (d + 7) zk_X9_isWord 37 [(0, vr 20), (1, vi w), (2, vi f), (3, vi s), (4, vi i)] [vi v] x (ri F) := by
        intro v ev
        have ch := k_ch wn hw2 i.toNatClampNeg (by omega)
        refine kg_X9_isWord_37 hq _ _ _ _ _ ⟨by rw [vp_in_iff]; omega, fun c5 => ih _ (by omega) (by omega) (by omega) s7 (fun j hj => ?_), fun c5 => ri_i (h _ ⟨fun z => absurd rfl z, fun z => ?_⟩)⟩
        · by_cases cj : j = i.toNatClampNeg
          · rw [e4c, ch] at c5
            rw [cj, ← ev, ← c5]
          · exact ha j (by omega)
        · rw [e4c, ch] at c5
          exact absurd ((toWD s7).mpr z i.toNatClampNeg (by omega)).symm (by rw [← ev]; exact c5)
      refine ⟨fun c6 => mid _ ?_, fun c6 => kf_byteAt hq _ hl (by omega) (mid _ ?_)⟩
      · rw [t_le] at c6
        rw [hpd, if_neg (by omega)]
      · rw [t_le] at c6
        rw [hpd, if_pos (by omega), e2c, cby0_lt (by omega), eb]
  refine kg_X9_isWord_0 hq _ _ _ ⟨fun c => loop 7 0 (by decide) (by decide) (by decide) (by rw [t_le, k7] at c; exact c) (fun j hj => absurd hj (Nat.not_lt_zero _)), fun c => ri_i (h _ ⟨fun z => absurd rfl z, fun z => ?_⟩)⟩
  rw [t_le, k7] at c
  have := z.1
  omega
end KTF
end
section
/-! cutting the text: its tokens, one by one -/
theorem kc_w {w : Nat} {l : Int32} (hw : w < 32) (h : l.toInt = w) : kc (40 + l) = Int32.ofNat (10 + w) := by
  have k40 : (40 : Int32).toInt = 40 := rfl
  have k30 : (30 : Int32).toInt = 30 := rfl
  have k80 : (80 : Int32).toInt = 80 := rfl
  have e : (40 + l).toInt = 40 + w := by rw [t_add (by rw [k40]; omega) (by rw [k40]; omega), k40, h]
  have ne : ∀ v : Int32, v.toInt < 40 → ¬ 40 + l = v := fun v hv q => by rw [← q, e] at hv; omega
  unfold kc
  rw [if_neg (ne 0 (by decide)), if_neg (ne 1 (by decide)), if_neg (ne 2 (by decide)), if_neg (ne 3 (by decide)), if_pos ⟨by rw [t_le, e, k40]; omega, by rw [t_lt, e, k80]; omega⟩, t_eq, t_sub (by rw [e, k30]; omega) (by rw [e, k30]; omega), e, k30]
  have e1 : (Int32.ofNat (10 + w)).toInt = ((10 + w : Nat) : Int) := Int32.toInt_ofNat_of_lt (by omega)
  rw [e1]
  omega
theorem wh_up {v c : Int32} : v * 10 + (c - 48) = 10 * v + c - 48 := by
  rw [Int32.mul_comm v 10, Int32.sub_eq_add_neg, Int32.sub_eq_add_neg, Int32.add_assoc]
section KCF
variable {G : kG} {q : kP} {d : Nat} {x : gd} {F : Int32 → gd → Prop} {Fv : gd → Prop}
theorem kf_nameOrWord (hq : kV q) (f : Int32) (m : Nat) (hl : kL x) (hm : vp_in (x.1 20 7) 702) (hf : 0 ≤ f.toInt) (hs : (x.1 26 (x.1 20 7).toNatClampNeg).toInt = m) (hL : isL (kby x f.toNatClampNeg)) (pn : f.toNatClampNeg < kln x) (run : RUNq isLD (kby x) (kln x) f.toNatClampNeg m) (h : ∀ r x', fm (fun c k => c = 27 ∧ k = (x.1 20 7).toNatClampNeg) x x' → TOK (kby x) (kln x) f.toNatClampNeg (kc r) m (x'.1 27 (x.1 20 7).toNatClampNeg) → ¬ r = 0 → ¬ r = 3 → (r = 2 → x'.1 27 (x.1 20 7).toNatClampNeg = hsh (kby x) f.toNatClampNeg m) → F r x') : KT G q (d + 8) zk_X9_nameOrWord 0 [(0, vr 20), (1, vi f)] [] x (ri F) := by
  obtain ⟨b, eb⟩ : ∃ b, b = kby x := ⟨_, rfl⟩
  obtain ⟨N, eN⟩ : ∃ N, N = kln x := ⟨_, rfl⟩
  rw [← eb] at hL run h
  rw [← eN] at run h pn
  have uN : (N : Int) = (x.1 20 1).toInt := by
    rw [eN]
    show (((x.1 20 1).toNatClampNeg : Nat) : Int) = _
    rw [t_cl]; have := hl.1; omega
  have g1 := hl.2
  have k1 : (1 : Int32).toInt = 1 := rfl
  have k12 : (12 : Int32).toInt = 12 := rfl
  have k32 : (32 : Int32).toInt = 32 := rfl
  have uf := t_cl f
  have us := t_cl (x.1 26 (x.1 20 7).toNatClampNeg)
  have r1 := run.1
  have tk : ∀ {k v : Int32}, ((∃ w, w < 32 ∧ WD b f.toNatClampNeg m w ∧ k = Int32.ofNat (10 + w)) ∨ ((∀ w, w < 32 → ¬ WD b f.toNatClampNeg m w) ∧ ((m ≤ 12 ∧ k = 1) ∨ (12 < m ∧ k = 3)))) → TOK b N f.toNatClampNeg k m v := fun z => Or.inr (Or.inl ⟨pn, hL, run, z⟩)
  have l57 : ∀ (n j : Nat) (v i : Int32), i.toInt = j → j + n = m → m ≤ 12 → v = hsh b f.toNatClampNeg j → (∀ w, w < 32 → ¬ WD b f.toNatClampNeg m w) → KT G q (d + 8) zk_X9_nameOrWord 57 [(0, vr 20), (1, vi f), (2, vi v), (3, vi i)] [] x (ri F) := by
    intro n
    induction n with
    | zero =>
      intro j v i ei hj m12 ev no
      refine kg_X9_nameOrWord_57 hq _ _ _ ⟨hm, fun _ => ⟨hm, fun z ez => ?_⟩, fun c => ?_⟩
      · have z7 : z.1 27 (x.1 20 7).toNatClampNeg = v := by rw [ez, si_get, if_pos ⟨rfl, rfl⟩]
        refine ri_i (h _ z (by rw [ez]; exact fm_si (fm_rf _ _) ⟨rfl, rfl⟩) (tk (Or.inr ⟨no, Or.inl ⟨m12, by decide⟩⟩)) (by decide) (by decide) (fun _ => ?_))
        rw [z7, ev, show j = m by omega]
      · rw [t_le] at c; omega
    | succ n ih =>
      intro j v i ei hj m12 ev no
      refine kg_X9_nameOrWord_57 hq _ _ _ ⟨hm, fun c => ?_, fun c => ?_⟩
      · rw [t_le] at c; omega
      have e1 : (i + 1).toInt = ((j + 1 : Nat) : Int) := by rw [t_add (by omega) (by omega), k1, ei]; rfl
      have e2 : (f + i).toInt = f.toInt + j := by rw [t_add (by omega) (by omega), ei]
      have e2c : (f + i).toNatClampNeg = f.toNatClampNeg + j := by rw [t_cl]; omega
      refine kf_byteAt hq _ hl (by omega) ?_
      rw [e2c, ← eb, ← eN, cby0_lt (by omega)]
      exact ih (j + 1) _ _ e1 (by omega) m12 (by rw [ev]; rfl) no
  have l18 : ∀ (n w : Nat) (i : Int32), i.toInt = w → w + n = 32 → m ≤ 12 → (∀ v, v < w → ¬ WD b f.toNatClampNeg m v) → KT G q (d + 8) zk_X9_nameOrWord 18 [(0, vr 20), (1, vi f), (2, vi i)] [] x (ri F) := by
    intro n
    induction n with
    | zero =>
      intro w i ei hw m12 no
      refine kg_X9_nameOrWord_18 hq _ _ ⟨fun _ => l57 m 0 0 0 rfl (by omega) m12 rfl (fun v hv => no v (by omega)), fun c => ?_⟩
      rw [t_le, k32] at c; omega
    | succ n ih =>
      intro w i ei hw m12 no
      refine kg_X9_nameOrWord_18 hq _ _ ⟨fun c => ?_, fun c => ⟨hm, ?_⟩⟩
      · rw [t_le, k32] at c; omega
      have e1 : (i + 1).toInt = ((w + 1 : Nat) : Int) := by rw [t_add (by omega) (by omega), k1, ei]; rfl
      have sm : (x.1 26 (x.1 20 7).toNatClampNeg).toNatClampNeg = m := by omega
      refine kf_isWord hq _ _ _ w hl ei (by omega) hf (by omega) (by omega) (fun j hj => ?_) (fun r hr => ?_)
      · rw [sm] at hj
        rw [← eb]
        exact isLD_32 (run.2.1 j hj)
      · rw [sm, ← eb] at hr
        refine ⟨fun c4 => ih (w + 1) _ e1 (by omega) m12 (fun v hv => ?_), fun c4 => ri_i (h _ x (fm_rf _ _) (tk (Or.inl ⟨w, by omega, hr.mp c4, kc_w (by omega) ei⟩)) ?_ ?_ (fun q2 => ?_))⟩
        · by_cases cv : v = w
          · rw [cv]; exact fun z => hr.mpr z c4
          · exact no v (by omega)
        all_goals
          have k40 : (40 : Int32).toInt = 40 := rfl
          have e4 : (40 + i).toInt = 40 + w := by rw [t_add (by rw [k40]; omega) (by rw [k40]; omega), k40, ei]
        · intro z; rw [z] at e4; have : (0 : Int32).toInt = 0 := rfl; omega
        · intro z; rw [z] at e4; have : (3 : Int32).toInt = 3 := rfl; omega
        · rw [q2] at e4; have : (2 : Int32).toInt = 2 := rfl; omega
  refine kg_X9_nameOrWord_0 hq _ ⟨hm, fun c => l18 32 0 0 rfl rfl ?_ (fun v hv => absurd hv (Nat.not_lt_zero _)), fun c => ri_i (h _ x (fm_rf _ _) (tk (Or.inr ⟨fun w hw z => ?_, Or.inr ⟨?_, by decide⟩⟩)) (by decide) (by decide) (fun q2 => absurd q2 (by decide)))⟩
  · rw [t_le, k12] at c; omega
  · have := w_seven w hw
    have := z.1
    rw [t_le, k12] at c; omega
  · rw [t_le, k12] at c; omega
theorem kf_wholeOrBad (hq : kV q) (f : Int32) (m : Nat) (hl : kL x) (hm : vp_in (x.1 20 7) 702) (hf : 0 ≤ f.toInt) (hs : (x.1 26 (x.1 20 7).toNatClampNeg).toInt = m) (hD : isD (kby x f.toNatClampNeg)) (pn : f.toNatClampNeg < kln x) (run : RUNq isLD (kby x) (kln x) f.toNatClampNeg m) (h : ∀ r x', fm (fun c k => c = 27 ∧ k = (x.1 20 7).toNatClampNeg) x x' → TOK (kby x) (kln x) f.toNatClampNeg (kc r) m (x'.1 27 (x.1 20 7).toNatClampNeg) → ¬ r = 0 → ¬ r = 2 → F r x') : KT G q (d + 1) zk_X9_wholeOrBad 0 [(0, vr 20), (1, vi f)] [] x (ri F) := by
  obtain ⟨b, eb⟩ : ∃ b, b = kby x := ⟨_, rfl⟩
  obtain ⟨N, eN⟩ : ∃ N, N = kln x := ⟨_, rfl⟩
  rw [← eb] at hD run h
  rw [← eN] at run h pn
  have uN : (N : Int) = (x.1 20 1).toInt := by
    rw [eN]
    show (((x.1 20 1).toNatClampNeg : Nat) : Int) = _
    rw [t_cl]; have := hl.1; omega
  have g1 := hl.2
  have k1 : (1 : Int32).toInt = 1 := rfl
  have k9 : (9 : Int32).toInt = 9 := rfl
  have uf := t_cl f
  have r1 := run.1
  have bad : ∀ v : Int32, (9 < m ∨ ∃ i, i < m ∧ ¬ isD (b (f.toNatClampNeg + i))) → TOK b N f.toNatClampNeg 3 m v := fun v z => Or.inr (Or.inr (Or.inl ⟨pn, hD, Or.inr ⟨rfl, m, run, z⟩⟩))
  have loop : ∀ (n j : Nat) (v i : Int32), i.toInt = j → j + n = m → m ≤ 9 → v = whv b f.toNatClampNeg j → (∀ t, t < j → isD (b (f.toNatClampNeg + t))) → KT G q (d + 1) zk_X9_wholeOrBad 20 [(0, vr 20), (1, vi f), (2, vi v), (3, vi i)] [] x (ri F) := by
    intro n
    induction n with
    | zero =>
      intro j v i ei hj m9 ev hd
      refine kg_X9_wholeOrBad_20 hq _ _ _ ⟨hm, fun _ => ⟨hm, fun z ez => ?_⟩, fun c => ?_⟩
      · have z7 : z.1 27 (x.1 20 7).toNatClampNeg = v := by rw [ez, si_get, if_pos ⟨rfl, rfl⟩]
        have jm : j = m := by omega
        refine ri_i (h _ z (by rw [ez]; exact fm_si (fm_rf _ _) ⟨rfl, rfl⟩) ?_ (by decide) (by decide))
        rw [z7]
        exact Or.inr (Or.inr (Or.inl ⟨pn, hD, Or.inl ⟨by decide, run, m9, fun t ht => hd t (by omega), by rw [ev, jm]⟩⟩))
      · rw [t_le] at c; omega
    | succ n ih =>
      intro j v i ei hj m9 ev hd
      refine kg_X9_wholeOrBad_20 hq _ _ _ ⟨hm, fun c => ?_, fun c => ?_⟩
      · rw [t_le] at c; omega
      have e1 : (i + 1).toInt = ((j + 1 : Nat) : Int) := by rw [t_add (by omega) (by omega), k1, ei]; rfl
      have e2 : (f + i).toInt = f.toInt + j := by rw [t_add (by omega) (by omega), ei]
      have e2c : (f + i).toNatClampNeg = f.toNatClampNeg + j := by rw [t_cl]; omega
      refine kf_byteAt hq _ hl (by omega) ?_
      rw [e2c, ← eb, ← eN, cby0_lt (by omega)]
      refine kf_isDigit hq _ (fun r8 h8 => ⟨fun c8 => ih (j + 1) _ _ e1 (by omega) m9 ?_ (fun t ht => ?_), fun c8 => ri_i (h _ x (fm_rf _ _) (bad _ (Or.inr ⟨j, by omega, fun z => h8.mpr z c8⟩)) (by decide) (by decide))⟩)
      · rw [wh_up, ev]; rfl
      · by_cases ct : t = j
        · rw [ct]; exact h8.mp c8
        · exact hd t (by omega)
  refine kg_X9_wholeOrBad_0 hq _ ⟨hm, fun c => loop m 0 0 0 rfl (by omega) ?_ rfl (fun t ht => absurd ht (Nat.not_lt_zero _)), fun c => ri_i (h _ x (fm_rf _ _) (bad _ (Or.inl ?_)) (by decide) (by decide))⟩
  · rw [t_le, k9] at c; omega
  · rw [t_le, k9] at c; omega
theorem kf_singleSign (hq : kV q) (c : Int32) (n61 : ¬ c = 61) (n33 : ¬ c = 33) (n60 : ¬ c = 60) (n62 : ¬ c = 62) (h : ∀ r, kc r = sgk c 0 → ¬ r = 0 → ¬ r = 2 → F r x) : KT G q d zk_X9_singleSign 0 [(0, vi c)] [] x (ri F) := by
  have no : ¬ ((0 : Int32) = 61 ∧ (c = 61 ∨ c = 33 ∨ c = 60 ∨ c = 62)) := fun z => absurd z.1 (by decide)
  refine kg_X9_singleSign_0 hq _ ⟨fun e => ?_, fun e => ?_, fun e => ?_, fun e => ?_, fun e => ?_, fun e => ?_, fun e => ?_, fun e => ?_, fun e => ?_, fun e => ?_, fun e => ?_, fun e => ?_, fun e => ?_⟩
  case' refine_13 =>
    refine ri_i (h _ ?_ (by decide) (by decide))
    unfold sgk
    rw [if_neg no, if_neg n61, if_neg n60, if_neg n62, if_neg (e 43 (by decide)), if_neg (e 45 (by decide)), if_neg (e 42 (by decide)), if_neg (e 47 (by decide)), if_neg (e 40 (by decide)), if_neg (e 41 (by decide)), if_neg (e 123 (by decide)), if_neg (e 125 (by decide)), if_neg (e 91 (by decide)), if_neg (e 93 (by decide)), if_neg (e 59 (by decide)), if_neg (e 44 (by decide))]
    rfl
  all_goals
    refine ri_i (h _ ?_ (by decide) (by decide))
    rw [e]
    decide
theorem kf_sign (hq : kV q) (b0 : Nat → Int32) (N p : Nat) (hl : kL x) (hm : vp_in (x.1 20 7) 702) (eb : b0 = kby x) (eN : N = kln x) (ep : (x.1 20 8).toInt = p) (pn : p < N) (nld : ¬ isLD (b0 p))
    (h : ∀ r x' (m : Nat), fm (skO (x.1 20 7).toNatClampNeg) x x' → TOK b0 N p (kc r) m (x'.1 27 (x.1 20 7).toNatClampNeg) → ¬ r = 0 → ¬ r = 2 → (x'.1 26 (x.1 20 7).toNatClampNeg).toInt = m → (x'.1 20 8).toInt = p + m → p + m ≤ N → F r x') : KT G q (d + 1) zk_X9_sign 0 [(0, vr 20), (1, vi (b0 p)), (2, vi (cby0 b0 N (p + 1)))] [] x (ri F) := by
  have g1 := hl.2
  have uN : (N : Int) = (x.1 20 1).toInt := by
    rw [eN]
    show (((x.1 20 1).toNatClampNeg : Nat) : Int) = _
    rw [t_cl]; have := hl.1; omega
  have k1 : (1 : Int32).toInt = 1 := rfl
  have k2 : (2 : Int32).toInt = 2 := rfl
  obtain ⟨c, ec⟩ : ∃ c, c = b0 p := ⟨_, rfl⟩
  obtain ⟨e, ee⟩ : ∃ e, e = cby0 b0 N (p + 1) := ⟨_, rfl⟩
  rw [← ec, ← ee]
  have two : sg2 c e → p + 2 ≤ N := fun z => by
    have z1 := z.1
    rw [ee] at z1
    by_cases cq : p + 1 < N
    · omega
    · rw [cby0_no cq] at z1; exact absurd z1 (by decide)
  have p53 : ∀ (l3 s : Int32), ((l3 = 0 ∧ s = 1 ∧ ¬ sg2 c e) ∨ (¬ l3 = 0 ∧ s = 2 ∧ sg2 c e)) → KT G q (d + 1) zk_X9_sign 53 [(0, vr 20), (1, vi c), (3, vi l3)] [vi s, vi (x.1 20 7), vr 26] x (ri F) := by
    intro l3 s hs
    refine kg_X9_sign_53 hq _ _ _ _ ⟨hm, fun x2 e2 => ?_⟩
    have m2 : x2.1 20 7 = x.1 20 7 := by rw [e2]; (simp only [si_get, sfl_get, Nat.reduceEqDiff, eq_self, and_false, false_and, and_true, true_and, if_true, if_false, reduceIte, reduceCtorEq])
    refine ⟨by rw [m2]; exact hm, fun x4 e4 => ?_⟩
    have fin : ∀ r : Int32, kc r = sgk c e → ¬ r = 0 → ¬ r = 2 → F r x4 := by
      intro r hr r0 r2
      have s6 : x4.1 26 (x.1 20 7).toNatClampNeg = s := by rw [e4, e2]; (simp only [si_get, sfl_get, Nat.reduceEqDiff, eq_self, and_false, false_and, and_true, true_and, if_true, if_false, reduceIte, reduceCtorEq])
      have s8 : x4.1 20 8 = x.1 20 8 + s := by rw [e4, m2, e2]; (simp only [si_get, sfl_get, Nat.reduceEqDiff, eq_self, and_false, false_and, and_true, true_and, if_true, if_false, reduceIte, reduceCtorEq])
      obtain ⟨m, em, hm2, hN⟩ : ∃ m : Nat, s.toInt = m ∧ ((sg2 c e ∧ m = 2) ∨ (¬ sg2 c e ∧ m = 1)) ∧ p + m ≤ N := by
        rcases hs with ⟨_, rfl, z⟩ | ⟨_, rfl, z⟩
        · exact ⟨1, rfl, Or.inr ⟨z, rfl⟩, by omega⟩
        · exact ⟨2, rfl, Or.inl ⟨z, rfl⟩, two z⟩
      refine h r x4 m ?_ ?_ r0 r2 (by rw [s6]; exact em) (by rw [s8, t_add (by omega) (by omega)]; omega) hN
      · rw [e4, e2]; exact fm_si (fm_si (fm_rf _ _) (Or.inr ⟨Or.inl rfl, rfl⟩)) (Or.inl ⟨rfl, rfl⟩)
      · refine Or.inr (Or.inr (Or.inr ⟨pn, nld, ?_, ?_⟩))
        · rw [hr, ← ec, ee, sgk_c]
        · rw [← ec, ← sg2_c, ← ee]; exact hm2
    have one : ¬ sg2 c e → ∀ v : Int32, sgk c 0 = v → sgk c e = v := fun z v hv => by
      by_cases q61 : e = 61
      · rw [← hv]
        unfold sgk
        unfold sg2 at z
        rw [if_neg z, if_neg (fun w : (0 : Int32) = 61 ∧ _ => absurd w.1 (by decide))]
      · rw [sgk_0 q61]; exact hv
    have sgt : ∀ v w : Int32, sg2 c e → c = w → (if w = 61 then (51 : Int32) else if w = 33 then 52 else if w = 60 then 54 else 56) = v → sgk c e = v := fun v w z hw hv => by
      unfold sgk
      unfold sg2 at z
      rw [if_pos z, hw, hv]
    refine ⟨fun c1 => ⟨fun z => ri_i (fin _ ?_ (by decide) (by decide)), fun z => ri_i (fin _ ?_ (by decide) (by decide))⟩, fun c1 => ⟨fun z => ri_i (fin _ ?_ (by decide) (by decide)), fun z => ri_i (fin _ ?_ (by decide) (by decide))⟩, fun c1 => ⟨fun z => ri_i (fin _ ?_ (by decide) (by decide)), fun z => ri_i (fin _ ?_ (by decide) (by decide))⟩, fun c1 => ⟨fun z => ri_i (fin _ ?_ (by decide) (by decide)), fun z => ri_i (fin _ ?_ (by decide) (by decide))⟩, fun c1 => kf_singleSign hq _ (c1 61 (by decide)) (c1 33 (by decide)) (c1 60 (by decide)) (c1 62 (by decide)) (fun r hr r0 r2 => ri_i (fin r ?_ r0 r2))⟩
    rotate_right
    · have ns : ¬ sg2 c e := fun z => z.2.elim (c1 61 (by decide)) (fun z => z.elim (c1 33 (by decide)) (fun z => z.elim (c1 60 (by decide)) (c1 62 (by decide))))
      rw [hr]
      exact (one ns _ rfl).symm
    all_goals
      rcases hs with ⟨a1, -, a3⟩ | ⟨a1, -, a3⟩
    all_goals first
      | exact absurd a1 z
      | exact absurd z a1
      | (refine (one a3 _ ?_).symm; rw [c1]; decide)
      | (refine (sgt _ _ a3 c1 ?_).symm; decide)
  have p35 : ∀ s : Int32, (s = 0 → ¬ sg2 c e) → (¬ s = 0 → sg2 c e) → KT G q (d + 1) zk_X9_sign 35 [(0, vr 20), (1, vi c)] [vi s] x (ri F) := by
    intro s h0 h1
    exact kg_X9_sign_35 hq _ _ ⟨fun z => p53 _ _ (Or.inl ⟨z, rfl, h0 z⟩), fun z => p53 _ _ (Or.inr ⟨z, rfl, h1 z⟩)⟩
  have p0 : ¬ sg2 c e → KT G q (d + 1) zk_X9_sign 35 [(0, vr 20), (1, vi c)] [vi 0] x (ri F) := fun z => p35 0 (fun _ => z) (fun q => absurd rfl q)
  have p1 : sg2 c e → KT G q (d + 1) zk_X9_sign 35 [(0, vr 20), (1, vi c)] [vi 1] x (ri F) := fun z => p35 1 (fun q => absurd q (by decide)) (fun _ => z)
  exact kg_X9_sign_0 hq _ _ ⟨fun z => p0 (fun w => z w.1), fun z => ⟨fun c1 => p1 ⟨z, Or.inl c1⟩, fun c1 => ⟨fun c2 => p1 ⟨z, Or.inr (Or.inl c2)⟩, fun c2 => ⟨fun c3 => p1 ⟨z, Or.inr (Or.inr (Or.inl c3))⟩, fun c3 => ⟨fun c4 => p0 (fun w => w.2.elim c1 (fun w => w.elim c2 (fun w => w.elim c3 c4))), fun c4 => p1 ⟨z, Or.inr (Or.inr (Or.inr c4))⟩⟩⟩⟩⟩⟩
theorem kf_cutOne (hq : kV q) (b : Nat → Int32) (N p : Nat) (hl : kL x) (hm : vp_in (x.1 20 7) 702) (eb : b = kby x) (eN : N = kln x) (ep : (x.1 20 8).toInt = p) (pn : p < N)
    (h : ∀ r x' (m : Nat), fm (skO (x.1 20 7).toNatClampNeg) x x' → TOK b N p (kc r) m (x'.1 27 (x.1 20 7).toNatClampNeg) → ¬ r = 0 → (r = 2 → x'.1 27 (x.1 20 7).toNatClampNeg = hsh b p m) → (x'.1 26 (x.1 20 7).toNatClampNeg).toInt = m → (x'.1 20 8).toInt = p + m → p + m ≤ N → F r x') : KT G q (d + 9) zk_X9_cutOne 0 [(0, vr 20)] [] x (ri F) := by
  have g1 := hl.2
  have uN : (N : Int) = (x.1 20 1).toInt := by
    rw [eN]
    show (((x.1 20 1).toNatClampNeg : Nat) : Int) = _
    rw [t_cl]; have := hl.1; omega
  have k1 : (1 : Int32).toInt = 1 := rfl
  have cp : (x.1 20 8).toNatClampNeg = p := by rw [t_cl]; omega
  have e1 : (x.1 20 8 + 1).toInt = (x.1 20 8).toInt + 1 := by rw [t_add (by omega) (by omega), k1]
  have e1c : (x.1 20 8 + 1).toNatClampNeg = p + 1 := by rw [t_cl]; omega
  have ld : ∀ {P : gd → Prop}, (∀ y (m : Nat), fm (fun c k => (c = 20 ∧ k = 8) ∨ (c = 26 ∧ k = (x.1 20 7).toNatClampNeg)) x y → RUNq isLD b N p m → (y.1 20 8).toInt = p + m → (y.1 26 (y.1 20 7).toNatClampNeg).toInt = m → kL y → y.1 20 7 = x.1 20 7 → kby y = b → kln y = N → P y) → KT G q (d + 8) zk_X9_passLettersAndDigits 0 [(0, vr 20)] [] x (rv P) := by
    intro P hP
    refine kf_passLD hq hl hm (by omega) (by omega) (fun y m hf run a1 a2 => ?_)
    have em : y.1 20 7 = x.1 20 7 := hf _ _ (by omega)
    have el : y.1 20 1 = x.1 20 1 := hf _ _ (by omega)
    rw [cp, ← eb, ← eN] at run
    refine hP y m hf run (by rw [a1, ep]) (by rw [em]; exact a2) (by unfold kL; rw [el]; exact hl) em ?_ ?_
    · rw [eb]; funext t; unfold kby; rw [hf 21 t (by omega)]
    · rw [eN]; unfold kln; rw [el]
  refine kg_X9_cutOne_0 hq (kf_byteAt hq _ hl (by omega) ?_)
  rw [cp, ← eb, ← eN, cby0_lt pn]
  refine kf_isLetter hq _ (fun r4 h4 => ⟨fun c4 => kf_isDigit hq _ (fun r7 h7 => ⟨fun c7 => kf_byteAt hq _ hl (by omega) ?_, fun c7 => ld (fun y m hf run a1 a2 hly em eby eln => ?_)⟩), fun c4 => ld (fun y m hf run a1 a2 hly em eby eln => ?_)⟩)
  · rw [e1c, ← eb, ← eN]
    exact kf_sign hq b N p hl hm eb eN ep pn (fun z => z.elim (fun z => h4.mpr z c4) (fun z => h7.mpr z c7)) (fun r x' m f1 t1 r0 r2 s0 s1 s2 => ri_i (h r x' m f1 t1 r0 (fun z => absurd z r2) s0 s1 s2))
  · refine kf_wholeOrBad hq _ m hly (by rw [em]; exact hm) (by omega) a2 (by rw [cp, eby]; exact h7.mp c7) (by rw [cp, eln]; exact pn) (by rw [cp, eby, eln]; exact run) (fun r z hz t1 r0 r2 => ri_i ?_)
    rw [em] at hz t1 a2
    rw [cp, eby, eln] at t1
    have z6 : z.1 26 (x.1 20 7).toNatClampNeg = y.1 26 (x.1 20 7).toNatClampNeg := hz _ _ (by omega)
    have z8 : z.1 20 8 = y.1 20 8 := hz _ _ (by omega)
    refine h r z m (fm_tr (fm_w hf (fun c k q => ?_)) (fm_w hz (fun c k q => ?_))) t1 r0 (fun q => absurd q r2) (by rw [z6]; exact a2) (by rw [z8]; exact a1) run.1
    · unfold skO; omega
    · unfold skO; omega
  · refine kf_nameOrWord hq _ m hly (by rw [em]; exact hm) (by omega) a2 (by rw [cp, eby]; exact h4.mp c4) (by rw [cp, eln]; exact pn) (by rw [cp, eby, eln]; exact run) (fun r z hz t1 r0 r3 r2 => ri_i ?_)
    rw [em] at hz t1 a2 r2
    rw [cp, eby] at r2
    rw [cp, eby, eln] at t1
    have z6 : z.1 26 (x.1 20 7).toNatClampNeg = y.1 26 (x.1 20 7).toNatClampNeg := hz _ _ (by omega)
    have z8 : z.1 20 8 = y.1 20 8 := hz _ _ (by omega)
    refine h r z m (fm_tr (fm_w hf (fun c k q => ?_)) (fm_w hz (fun c k q => ?_))) t1 r0 r2 (by rw [z6]; exact a2) (by rw [z8]; exact a1) run.1
    · unfold skO; omega
    · unfold skO; omega
end KCF
end
section
/-! the class: the cut text, names -/
/-- n tokens are well -/
def kTw (x : gd) (n : Nat) : Prop := ∀ j, j < n → (0 ≤ (x.1 24 j).toInt ∧ 0 ≤ (x.1 26 j).toInt ∧ (x.1 24 j).toInt + (x.1 26 j).toInt ≤ 3000) ∧ ¬ x.1 23 j = 0 ∧ (x.1 23 j = 3 → 0 ≤ (x.1 27 j).toInt)
def kT (x : gd) : Prop := kL x ∧ ∃ n : Nat, (x.1 20 7).toInt = n ∧ n ≤ 701 ∧ kTw x n ∧ x.1 23 n = 0
/-- a token of the text -/
def tk (x : gd) (a : Int32) : Prop := 0 ≤ a.toInt ∧ a.toInt < (x.1 20 7).toInt
/-- what cutting changes -/
def skC (c k : Nat) : Prop := (23 ≤ c ∧ c ≤ 27) ∨ (c = 20 ∧ 7 ≤ k)
section KNM
variable {G : kG} {q : kP} {d : Nat} {x : gd} {F : Int32 → gd → Prop} {Fv : gd → Prop}
theorem kT_at (hT : kT x) {a : Int32} (ha : tk x a) : vp_in a 702 ∧ (0 ≤ (x.1 24 a.toNatClampNeg).toInt ∧ 0 ≤ (x.1 26 a.toNatClampNeg).toInt ∧ (x.1 24 a.toNatClampNeg).toInt + (x.1 26 a.toNatClampNeg).toInt ≤ 3000) := by
  obtain ⟨hl, n, en, hn, hw, -⟩ := hT
  obtain ⟨h0, h1⟩ := ha
  exact ⟨by rw [vp_in_iff]; omega, (hw _ (by rw [t_cl]; omega)).1⟩
/-- what was told -/
def NM (x : gd) : Prop := (0 ≤ (x.1 40 6).toInt ∧ (x.1 40 6).toInt ≤ 24) ∧ (0 ≤ (x.1 40 8).toInt ∧ (x.1 40 8).toInt ≤ 6) ∧ (0 ≤ (x.1 40 10).toInt ∧ (x.1 40 10).toInt ≤ 6) ∧ (∀ i : Nat, (i : Int) < (x.1 40 6).toInt → tk x (x.1 44 i) ∧ 0 ≤ (x.1 45 i).toInt ∧ 0 ≤ (x.1 46 i).toInt ∧ (x.1 46 i).toInt ≤ 8 ∧ (x.1 45 i).toInt + 1 ≤ (x.1 60 6).toInt ∧ (x.1 45 i).toInt + (x.1 46 i).toInt ≤ (x.1 60 6).toInt) ∧ (∀ i : Nat, (i : Int) < (x.1 40 8).toInt → tk x (x.1 48 i)) ∧ ∀ i : Nat, (i : Int) < (x.1 40 10).toInt → tk x (x.1 50 i)
theorem kp_isRowSize (hq : kV q) (v : Int32) (h : ∀ r : Int32, (¬ r = 0 → 1 ≤ v.toInt ∧ v.toInt ≤ 8) → F r x) : KT G q d zk_X6_isRowSize 0 [(0, vi v)] [] x (ri F) := by
  refine kg_X6_isRowSize_0 hq _ ⟨fun c1 => ri_i (h _ (fun q => absurd rfl q)), fun c1 => ⟨fun c2 => ri_i (h _ (fun q => absurd rfl q)), fun c2 => ri_i (h _ (fun _ => ?_))⟩⟩
  clear h; constructor <;> ((try simp only [t_lt, t_le, t_eq, t_cl, tm1, vp_in_iff, Int32.toInt_add, Int32.toInt_sub, Int32.toInt_mul, Int32.reduceToInt, Nat.reducePow] at *) <;> (try simp (disch := omega) only [bm] at *) <;> omega)
/-- a token that was judged -/
def JM (x : gd) (j : Nat) : Prop := (x.1 42 j = 0 ∨ x.1 42 j = 1 ∨ x.1 42 j = 4 ∨ x.1 42 j = 5 ∨ x.1 42 j = 6 ∨ x.1 42 j = 7 ∨ x.1 42 j = 11 ∨ x.1 42 j = 12 ∨ x.1 42 j = 13) ∧ (x.1 42 j = 4 → 0 ≤ (x.1 43 j).toInt ∧ (x.1 43 j).toInt < (x.1 40 8).toInt) ∧ (x.1 42 j = 5 → 0 ≤ (x.1 43 j).toInt ∧ (x.1 43 j).toInt < (x.1 40 10).toInt) ∧ (x.1 42 j = 6 ∨ x.1 42 j = 7 → 0 ≤ (x.1 43 j).toInt ∧ (x.1 43 j).toInt < (x.1 40 6).toInt) ∧ (x.1 42 j = 12 → (x.1 27 j).toInt < (x.1 46 (x.1 43 (j - 2)).toNatClampNeg).toInt)
theorem JM_of {j : Nat} {u : Int32} (e : x.1 42 j = u) (h1 : u = 0 ∨ u = 1 ∨ u = 11 ∨ u = 13) : JM x j := by
  unfold JM
  rw [e]
  rcases h1 with rfl | rfl | rfl | rfl <;> refine ⟨by decide, fun q => absurd q (by decide), fun q => absurd q (by decide), fun q => absurd q (by decide), fun q => absurd q (by decide)⟩
end KNM
end
section
/-! cutting the whole text -/
theorem TSq_cg {b : Nat → Int32} {n e : Nat} {K K' V V' : Nat → Int32} {P P' Z Z' : Nat → Nat} (h : TSq b n e K P Z V) (g : ∀ j, j ≤ e → K' j = K j ∧ P' j = P j ∧ Z' j = Z j ∧ V' j = V j) : TSq b n e K' P' Z' V' := by
  obtain ⟨h0, h1, h2, h3, h4, h5⟩ := h
  refine ⟨h0, by rw [(g 0 (by omega)).2.1]; exact h1, fun j hj => ?_, fun j hj => ?_, fun j hj => ?_, by rw [(g e (by omega)).1]; exact h5⟩
  · rw [(g (j + 1) (by omega)).2.1, (g j (by omega)).2.1, (g j (by omega)).2.2.1]; exact h2 j hj
  · obtain ⟨a1, a2, a3, a4⟩ := g j hj
    rw [a1, a2, a3, a4]; exact h3 j hj
  · rw [(g j (by omega)).1]; exact h4 j hj
theorem TC_701 {b : Nat → Int32} {n p : Nat} {K V : Nat → Int32} {P Z : Nat → Nat} (h : TC b n 701 p K P Z V) : TSq b n 700 K P Z V := by
  obtain ⟨h1, h2, h3, h4⟩ := h
  exact ⟨by omega, (h2 (by omega)).1, fun j hj => h3 j (by omega), fun j hj => (h4 j (by omega)).1, fun j hj => (h4 j (by omega)).2, Or.inr (Or.inr rfl)⟩
theorem whv_0 {b : Nat → Int32} {p : Nat} : ∀ m, m ≤ 9 → (∀ i, i < m → isD (b (p + i))) → vW (Int32.ofNat m) (whv b p m) := by
  intro m
  induction m with
  | zero => intro _ _; exact vW_0
  | succ m ih =>
    intro hm hd
    have e1 : (Int32.ofNat m).toInt = m := Int32.toInt_ofNat_of_lt (by omega)
    have e2 : (Int32.ofNat (m + 1)).toInt = ((m + 1 : Nat) : Int) := Int32.toInt_ofNat_of_lt (by omega)
    have k1 : (1 : Int32).toInt = 1 := rfl
    have k9 : (9 : Int32).toInt = 9 := rfl
    have e3 : (Int32.ofNat m + 1).toInt = (Int32.ofNat m).toInt + 1 := by rw [t_add (by omega) (by omega), k1]
    have e4 : Int32.ofNat (m + 1) = Int32.ofNat m + 1 := by rw [t_eq, e2, e3, e1]; omega
    rw [e4]
    exact vW_up (by omega) (by rw [t_le, k9]; omega) e3 (hd m (by omega)) (ih (by omega) (fun i hi => hd i (by omega)))
theorem sgk_2 {c d : Int32} : ¬ sgk c d = 2 := by
  unfold sgk
  repeat' (first | apply ite_n | decide)
theorem TOK_v {b : Nat → Int32} {n p m : Nat} {k v : Int32} (h : TOK b n p k m v) (hk : k = 2) : 0 ≤ v.toInt := by
  rcases h with ⟨-, h⟩ | ⟨-, -, -, ⟨w, hw, -, h⟩ | ⟨-, ⟨-, h⟩ | ⟨-, h⟩⟩⟩ | ⟨-, -, ⟨-, -, h9, hd, hv⟩ | ⟨h, -⟩⟩ | ⟨-, -, h, -⟩
  · rw [hk] at h; exact absurd h (by decide)
  · rw [hk] at h
    have e : (Int32.ofNat (10 + w)).toInt = ((10 + w : Nat) : Int) := Int32.toInt_ofNat_of_lt (by omega)
    rw [← h] at e
    have : (2 : Int32).toInt = 2 := rfl
    omega
  · rw [hk] at h; exact absurd h (by decide)
  · rw [hk] at h; exact absurd h (by decide)
  · rw [hv]; exact (whv_0 m h9 hd).1
  · rw [hk] at h; exact absurd h (by decide)
  · rw [hk] at h; exact absurd h.symm sgk_2
abbrev kP' (x : gd) : Nat → Nat := fun j => (x.1 24 j).toNatClampNeg
abbrev kZ' (x : gd) : Nat → Nat := fun j => (x.1 26 j).toNatClampNeg
abbrev kK' (x : gd) : Nat → Int32 := fun j => kc (x.1 23 j)
theorem kc_1 {s : Int32} (h : s = 1) : kc s = 3 := by rw [h]; decide
theorem kc_3 {s : Int32} (h : s = 3) : kc s = 2 := by rw [h]; decide
theorem TOK_01 {b : Nat → Int32} {n p m : Nat} {k v : Int32} (h : TOK b n p k m v) (hp : p < n) : ¬ k = 0 := by
  rcases h with ⟨h, -⟩ | ⟨-, -, -, ⟨w, hw, -, h⟩ | ⟨-, ⟨-, h⟩ | ⟨-, h⟩⟩⟩ | ⟨-, -, ⟨h, -⟩ | ⟨h, -⟩⟩ | ⟨-, -, h, -⟩
  · omega
  · have e : (Int32.ofNat (10 + w)).toInt = ((10 + w : Nat) : Int) := Int32.toInt_ofNat_of_lt (by omega)
    rw [← h] at e
    intro q
    rw [q] at e
    have : (0 : Int32).toInt = 0 := rfl
    omega
  · rw [h]; decide
  · rw [h]; decide
  · rw [h]; decide
  · rw [h]; decide
  · rw [h]
    unfold sgk
    repeat' (first | apply ite_n | decide)
/-- what the class cut: e tokens that go on, and the last -/
def KCUT (b : Nat → Int32) (N : Nat) (x : gd) (e : Nat) : Prop := TSq b N e (kK' x) (kP' x) (kZ' x) (x.1 27) ∧ ((x.1 23 e = 0 ∧ (x.1 20 7).toInt = e) ∨ (¬ x.1 23 e = 0 ∧ (x.1 20 7).toInt = e + 1)) ∧ (∀ j, j ≤ e → x.1 23 j = 2 → x.1 27 j = hsh b (kP' x j) (kZ' x j)) ∧ kT x
section KCA
variable {G : kG} {q : kP} {d : Nat} {x : gd} {F : Int32 → gd → Prop} {Fv : gd → Prop}
theorem kf_cut (hq : kV q) (hl : kL x) (h : ∀ x' e, fm skC x x' → KCUT (kby x) (kln x) x' e → Fv x') : KT G q (d + 10) zk_X9_cut 0 [(0, vr 20)] [] x (rv Fv) := by
  obtain ⟨b, eb⟩ : ∃ b, b = kby x := ⟨_, rfl⟩
  obtain ⟨N, eN⟩ : ∃ N, N = kln x := ⟨_, rfl⟩
  rw [← eb, ← eN] at h
  have uN : (N : Int) = (x.1 20 1).toInt := by
    rw [eN]
    show (((x.1 20 1).toNatClampNeg : Nat) : Int) = _
    rw [t_cl]; have := hl.1; omega
  have g1 := hl.2
  have fin : ∀ (n : Nat) (y : gd), fm skC x y → (y.1 20 7).toInt = n → n ≤ 701 → kTw y n → (∀ j, j < n → y.1 23 j = 2 → y.1 27 j = hsh b (kP' y j) (kZ' y j)) → ((0 < n ∧ TSq b N (n - 1) (kK' y) (kP' y) (kZ' y) (y.1 27)) ∨ (n ≤ 700 ∧ ∃ p, lx b N p = N ∧ TC b N n p (kK' y) (kP' y) (kZ' y) (y.1 27))) → KT G q (d + 10) zk_X9_cut 122 [(0, vr 20)] [] y (rv Fv) := by
    intro n y hf en hn hw hh hT
    have em : (y.1 20 7).toNatClampNeg = n := by rw [t_cl, en]; rfl
    have vin : vp_in (y.1 20 7) 702 := by rw [vp_in_iff]; omega
    refine kg_X9_cut_122 hq ⟨vin, fun x2 e2 => ?_⟩
    rw [em] at e2
    have m2 : x2.1 20 7 = y.1 20 7 := by rw [e2]; (simp only [si_get, sfl_get, Nat.reduceEqDiff, eq_self, and_false, false_and, and_true, true_and, if_true, if_false, reduceIte, reduceCtorEq])
    refine ⟨by rw [m2]; exact vin, fun x4 e4 => ?_⟩
    rw [m2, em] at e4
    have m4 : x4.1 20 7 = y.1 20 7 := by rw [e4, ← m2]; (simp only [si_get, sfl_get, Nat.reduceEqDiff, eq_self, and_false, false_and, and_true, true_and, if_true, if_false, reduceIte, reduceCtorEq])
    refine ⟨by rw [m4]; exact vin, fun x6 e6 => rv_i ?_⟩
    have hf6 : fm skC x x6 := by
      rw [e6, e4, e2]
      exact fm_si (fm_si (fm_si hf (Or.inl (by omega))) (Or.inl (by omega))) (Or.inl (by omega))
    rw [m4, em] at e6
    have m6 : x6.1 20 7 = y.1 20 7 := by rw [e6, ← m4]; (simp only [si_get, sfl_get, Nat.reduceEqDiff, eq_self, and_false, false_and, and_true, true_and, if_true, if_false, reduceIte, reduceCtorEq])
    have g : ∀ c j, 23 ≤ c → c ≤ 27 → j ≠ n → x6.1 c j = y.1 c j := by
      intro c j c1 c2 hj
      rw [e6, si_get, if_neg (fun q => hj q.2), e4, si_get, if_neg (fun q => hj q.2), e2, si_get, if_neg (fun q => hj q.2)]
    have s23 : x6.1 23 n = 0 := by rw [e6, e4, e2]; (simp only [si_get, sfl_get, Nat.reduceEqDiff, eq_self, and_false, false_and, and_true, true_and, if_true, if_false, reduceIte, reduceCtorEq])
    have s24 : x6.1 24 n = x.1 20 1 := by rw [e6, e4, e2]; (simp only [si_get, sfl_get, Nat.reduceEqDiff, eq_self, and_false, false_and, and_true, true_and, if_true, if_false, reduceIte, reduceCtorEq]); exact hf _ _ (by unfold skC; omega)
    have s26 : ∀ j, x6.1 26 j = y.1 26 j := fun j => by rw [e6, e4, e2]; (simp only [si_get, sfl_get, Nat.reduceEqDiff, eq_self, and_false, false_and, and_true, true_and, if_true, if_false, reduceIte, reduceCtorEq])
    have s27 : ∀ j, x6.1 27 j = y.1 27 j := fun j => by rw [e6, e4, e2]; (simp only [si_get, sfl_get, Nat.reduceEqDiff, eq_self, and_false, false_and, and_true, true_and, if_true, if_false, reduceIte, reduceCtorEq])
    have hT6 : kT x6 := by
      refine ⟨?_, n, by rw [m6]; exact en, hn, fun j hj => ?_, s23⟩
      · unfold kL
        have : x6.1 20 1 = x.1 20 1 := hf6 _ _ (by unfold skC; omega)
        rw [this]; exact hl
      · rw [g 24 j (by omega) (by omega) (by omega), g 26 j (by omega) (by omega) (by omega), g 23 j (by omega) (by omega) (by omega), g 27 j (by omega) (by omega) (by omega)]
        exact hw j hj
    have hh6 : ∀ j, j < n → x6.1 23 j = 2 → x6.1 27 j = hsh b (kP' x6 j) (kZ' x6 j) := by
      intro j hj
      unfold kP' kZ'
      rw [g 24 j (by omega) (by omega) (by omega), g 26 j (by omega) (by omega) (by omega), g 23 j (by omega) (by omega) (by omega), g 27 j (by omega) (by omega) (by omega)]
      exact hh j hj
    rcases hT with ⟨n0, hT⟩ | ⟨n7, p, hp, hT⟩
    · refine h x6 (n - 1) hf6 ⟨TSq_cg hT (fun j hj => ?_), Or.inr ⟨?_, by rw [m6, en]; omega⟩, fun j hj => hh6 j (by omega), hT6⟩
      · unfold kK' kP' kZ'
        rw [g 24 j (by omega) (by omega) (by omega), g 26 j (by omega) (by omega) (by omega), g 23 j (by omega) (by omega) (by omega), g 27 j (by omega) (by omega) (by omega)]
        exact ⟨rfl, rfl, rfl, rfl⟩
      · rw [g 23 _ (by omega) (by omega) (by omega)]
        exact (hw (n - 1) (by omega)).2.1
    · have u1 : (x.1 20 1).toNatClampNeg = N := eN.symm
      have up := TC_up (K' := kK' x6) (P' := kP' x6) (Z' := kZ' x6) (V' := x6.1 27) (k := 0) (q := N) (m := kZ' x6 n) (v := x6.1 27 n) hT (fun j => ?_) (fun j => ?_) (fun j => ?_) (fun j => ?_) hp.symm (Or.inl ⟨Nat.le_refl _, rfl⟩)
      · obtain ⟨u2, u3, u4, u5, -, -, u6⟩ := up
        refine h x6 n hf6 ⟨⟨n7, u3, u4, fun j hj => ?_, fun j hj => (u2 j hj).2, Or.inl u6⟩, Or.inl ⟨s23, by rw [m6, en]⟩, fun j hj => ?_, hT6⟩
        · by_cases cj : j = n
          · rw [cj]; exact u5
          · exact (u2 j (by omega)).1
        · by_cases cj : j = n
          · rw [cj, s23]; exact fun z => absurd z (by decide)
          · exact hh6 j (by omega)
      · by_cases cj : j = n
        · rw [if_pos cj, cj]
          show kc (x6.1 23 n) = 0
          rw [s23]; decide
        · rw [if_neg cj]
          show kc (x6.1 23 j) = kc (y.1 23 j)
          rw [g 23 j (by omega) (by omega) cj]
      · by_cases cj : j = n
        · rw [if_pos cj, cj]
          show (x6.1 24 n).toNatClampNeg = N
          rw [s24]; exact u1
        · rw [if_neg cj]
          show (x6.1 24 j).toNatClampNeg = (y.1 24 j).toNatClampNeg
          rw [g 24 j (by omega) (by omega) cj]
      · by_cases cj : j = n
        · rw [if_pos cj, cj]
        · rw [if_neg cj]
          show (x6.1 26 j).toNatClampNeg = (y.1 26 j).toNatClampNeg
          rw [s26]
      · by_cases cj : j = n
        · rw [if_pos cj, cj]
        · rw [if_neg cj, s27]
  have loop : ∀ (m n : Nat) (l1 l2 : Int32) (y : gd), n + m = 701 → l2.toInt = n → fm skC x y → (y.1 20 7).toInt = n → kTw y n → 0 ≤ (y.1 20 8).toInt → (y.1 20 8).toInt ≤ (x.1 20 1).toInt → (∀ j, j < n → y.1 23 j = 2 → y.1 27 j = hsh b (kP' y j) (kZ' y j)) → (¬ l1 = 0 → TC b N n (y.1 20 8).toNatClampNeg (kK' y) (kP' y) (kZ' y) (y.1 27)) → (l1 = 0 → 0 < n ∧ TSq b N (n - 1) (kK' y) (kP' y) (kZ' y) (y.1 27)) → KT G q (d + 10) zk_X9_cut 19 [(0, vr 20), (1, vi l1), (2, vi l2)] [] y (rv Fv) := by
    intro m
    induction m with
    | zero =>
      intro n l1 l2 y hn el hf en hw a0 a1 hh t1 t0
      refine kg_X9_cut_19 hq _ _ ⟨fun _ => fin n y hf en (by omega) hw hh ?_, fun c => ?_⟩
      · by_cases c0 : l1 = 0
        · exact Or.inl (t0 c0)
        · have n701 : n = 701 := by omega
          have := t1 c0
          rw [n701] at this ⊢
          exact Or.inl ⟨by omega, TC_701 this⟩
      · exfalso; clear h fin hf hw hh t1 t0; ((try simp only [t_lt, t_le, t_eq, t_cl, tm1, vp_in_iff, Int32.toInt_add, Int32.toInt_sub, Int32.toInt_mul, Int32.reduceToInt, Nat.reducePow] at *) <;> (try simp (disch := omega) only [bm] at *) <;> omega)
    | succ m ih =>
      intro n l1 l2 y hn el hf en hw a0 a1 hh t1 t0
      have ely : y.1 20 1 = x.1 20 1 := hf _ _ (by unfold skC; omega)
      have hly : kL y := by unfold kL; rw [ely]; exact hl
      have eby : kby y = b := by rw [eb]; funext p; unfold kby; rw [hf 21 p (by unfold skC; omega)]
      have eln : kln y = N := by rw [eN]; unfold kln; rw [ely]
      refine kg_X9_cut_19 hq _ _ ⟨fun c => ?_, fun c => ⟨fun c0 => fin n y hf en (by omega) hw hh (Or.inl (t0 c0)), fun c0 => ?_⟩⟩
      · exfalso; clear h fin hf hw hh t1 t0 ih; ((try simp only [t_lt, t_le, t_eq, t_cl, tm1, vp_in_iff, Int32.toInt_add, Int32.toInt_sub, Int32.toInt_mul, Int32.reduceToInt, Nat.reducePow] at *) <;> (try simp (disch := omega) only [bm] at *) <;> omega)
      have tc := t1 c0
      have e1 : (l2 + 1).toInt = ((n + 1 : Nat) : Int) := by
        have k1 : (1 : Int32).toInt = 1 := rfl
        rw [t_add (by omega) (by omega), k1, el]; rfl
      refine kf_skip hq hly a0 (by rw [ely]; exact a1) (fun x3 f3 b1 b2 b3 => ?_)
      rw [eby, eln] at b3
      have m3 : x3.1 20 7 = y.1 20 7 := f3 _ _ (by omega)
      have l3 : x3.1 20 1 = x.1 20 1 := by rw [f3 _ _ (by omega), ely]
      have hf3 : fm skC x x3 := fm_tr hf (fm_w f3 (fun c k q => Or.inr ⟨q.1, by omega⟩))
      have em : (x3.1 20 7).toNatClampNeg = n := by rw [m3, t_cl, en]; rfl
      have w3 : kTw x3 n := fun j hj => by rw [f3 24 j (by omega), f3 26 j (by omega), f3 23 j (by omega), f3 27 j (by omega)]; exact hw j hj
      have q23 : kK' x3 = kK' y := by funext j; show kc (x3.1 23 j) = kc (y.1 23 j); rw [f3 23 j (by omega)]
      have q24 : kP' x3 = kP' y := by funext j; show (x3.1 24 j).toNatClampNeg = (y.1 24 j).toNatClampNeg; rw [f3 24 j (by omega)]
      have q26 : kZ' x3 = kZ' y := by funext j; show (x3.1 26 j).toNatClampNeg = (y.1 26 j).toNatClampNeg; rw [f3 26 j (by omega)]
      have q27 : x3.1 27 = y.1 27 := by funext j; rw [f3 27 j (by omega)]
      have u3 := t_cl (x3.1 20 8)
      rw [ely] at b2
      refine ⟨fun c3 => ?_, fun c3 => fin n x3 hf3 (by rw [m3]; exact en) (by omega) w3 (fun j hj => ?_) (Or.inr ⟨by omega, (y.1 20 8).toNatClampNeg, ?_, ?_⟩)⟩
      rotate_left
      · rw [q24, q26, q27, f3 23 j (by omega)]; exact hh j hj
      · rw [← b3]
        rw [l3, t_lt] at c3
        omega
      · rw [q23, q24, q26, q27]; exact tc
      have vin : vp_in (x3.1 20 7) 702 := by rw [m3, vp_in_iff]; omega
      refine ⟨vin, fun x6 e6 => ?_⟩
      have m6 : x6.1 20 7 = x3.1 20 7 := by rw [e6]; (simp only [si_get, sfl_get, Nat.reduceEqDiff, eq_self, and_false, false_and, and_true, true_and, if_true, if_false, reduceIte, reduceCtorEq])
      refine ⟨by rw [m6]; exact vin, fun x8 e8 => ?_⟩
      have m8 : x8.1 20 7 = x3.1 20 7 := by rw [e8, ← m6]; (simp only [si_get, sfl_get, Nat.reduceEqDiff, eq_self, and_false, false_and, and_true, true_and, if_true, if_false, reduceIte, reduceCtorEq])
      have a8 : x8.1 20 8 = x3.1 20 8 := by rw [e8, e6]; (simp only [si_get, sfl_get, Nat.reduceEqDiff, eq_self, and_false, false_and, and_true, true_and, if_true, if_false, reduceIte, reduceCtorEq])
      have l8 : x8.1 20 1 = x.1 20 1 := by rw [e8, e6, ← l3]; (simp only [si_get, sfl_get, Nat.reduceEqDiff, eq_self, and_false, false_and, and_true, true_and, if_true, if_false, reduceIte, reduceCtorEq])
      rw [em] at e6
      rw [m6, em] at e8
      have hl8 : kL x8 := by unfold kL; rw [l8]; exact hl
      have lt3 : (x3.1 20 8).toInt < (x.1 20 1).toInt := by rw [l3, t_lt] at c3; exact c3
      have f6 : fm skC x x8 := by rw [e8, e6]; exact fm_si (fm_si hf3 (Or.inl (by omega))) (Or.inl (by omega))
      have eb8 : b = kby x8 := by rw [eb]; funext p; unfold kby; rw [f6 21 p (by unfold skC; omega)]
      have eN8 : N = kln x8 := by rw [eN]; unfold kln; rw [l8]
      refine kf_cutOne hq b N (x3.1 20 8).toNatClampNeg hl8 (by rw [m8]; exact vin) eb8 eN8 (by rw [a8]; omega) (by omega) (fun r x9 k f9 tk9 r0 r2 s0 t0' t1' => ?_)
      rw [m8, em] at tk9 f9 s0 r2
      refine ⟨by rw [m8]; exact vin, fun x12 e12 => ?_⟩
      rw [m8, em] at e12
      have m12 : x12.1 20 7 = x3.1 20 7 := by rw [e12, si_cell (by decide), f9 _ _ (by unfold skO; omega), m8]
      have next : ∀ l z, z = si x12 20 7 (x12.1 20 7 + 1) → (¬ l = 0 ↔ ¬ r = 1) → KT G q (d + 10) zk_X9_cut 19 [(0, vr 20), (1, vi l), (2, vi (l2 + 1))] [] z (rv Fv) := by
        intro l z ez hlr
        have g : ∀ c j, 23 ≤ c → c ≤ 27 → j ≠ n → z.1 c j = y.1 c j := by
          intro c j c1 c2 hj
          rw [ez, si_get, if_neg (by omega), e12, si_get, if_neg (fun q => hj q.2), f9 _ _ (by unfold skO; omega), e8, si_get, if_neg (fun q => hj q.2), e6, si_get, if_neg (fun q => hj q.2), f3 _ _ (by omega)]
        have z24 : z.1 24 n = x3.1 20 8 := by rw [ez, si_get, if_neg (by omega), e12, si_get, if_neg (by omega), f9 _ _ (by unfold skO; omega), e8, e6]; (simp only [si_get, sfl_get, Nat.reduceEqDiff, eq_self, and_false, false_and, and_true, true_and, if_true, if_false, reduceIte, reduceCtorEq])
        have z26 : z.1 26 n = x9.1 26 n := by rw [ez, e12]; (simp only [si_get, sfl_get, Nat.reduceEqDiff, eq_self, and_false, false_and, and_true, true_and, if_true, if_false, reduceIte, reduceCtorEq])
        have z27 : z.1 27 n = x9.1 27 n := by rw [ez, e12]; (simp only [si_get, sfl_get, Nat.reduceEqDiff, eq_self, and_false, false_and, and_true, true_and, if_true, if_false, reduceIte, reduceCtorEq])
        have z23 : z.1 23 n = r := by rw [ez, e12]; (simp only [si_get, sfl_get, Nat.reduceEqDiff, eq_self, and_false, false_and, and_true, true_and, if_true, if_false, reduceIte, reduceCtorEq])
        have z8 : z.1 20 8 = x9.1 20 8 := by rw [ez, e12]; (simp only [si_get, sfl_get, Nat.reduceEqDiff, eq_self, and_false, false_and, and_true, true_and, if_true, if_false, reduceIte, reduceCtorEq])
        have cz : (z.1 20 8).toNatClampNeg = (x3.1 20 8).toNatClampNeg + k := by rw [z8, t_cl, t0']; rfl
        have c26 : (z.1 26 n).toNatClampNeg = k := by rw [z26, t_cl, s0]; rfl
        have up := TC_up (K' := kK' z) (P' := kP' z) (Z' := kZ' z) (V' := z.1 27) (k := kc r) (q := (x3.1 20 8).toNatClampNeg) (m := k) (v := x9.1 27 n) tc (fun j => by
          by_cases cj : j = n
          · rw [if_pos cj, cj]; show kc (z.1 23 n) = _; rw [z23]
          · rw [if_neg cj]; show kc (z.1 23 j) = kc (y.1 23 j); rw [g 23 j (by omega) (by omega) cj]) (fun j => by
          by_cases cj : j = n
          · rw [if_pos cj, cj]; show (z.1 24 n).toNatClampNeg = _; rw [z24]
          · rw [if_neg cj]; show (z.1 24 j).toNatClampNeg = (y.1 24 j).toNatClampNeg; rw [g 24 j (by omega) (by omega) cj]) (fun j => by
          by_cases cj : j = n
          · rw [if_pos cj, cj]; exact c26
          · rw [if_neg cj]; show (z.1 26 j).toNatClampNeg = (y.1 26 j).toNatClampNeg; rw [g 26 j (by omega) (by omega) cj]) (fun j => by
          by_cases cj : j = n
          · rw [if_pos cj, cj, z27]
          · rw [if_neg cj, g 27 j (by omega) (by omega) cj]) b3 tk9
        obtain ⟨u2, uP, u4, u5, v1, v2, v3⟩ := up
        have k0 : ¬ kc r = 0 := TOK_01 tk9 (by omega)
        refine ih (n + 1) l (l2 + 1) z (by omega) e1 ?_ ?_ ?_ ?_ ?_ ?_ ?_ ?_
        · have f10 : fm skC x x9 := fm_tr f6 (fm_w f9 (fun c k q => by unfold skO at q; unfold skC; omega))
          rw [ez, e12]
          exact fm_si (fm_si f10 (Or.inl (by omega))) (Or.inr ⟨rfl, by omega⟩)
        · have : z.1 20 7 = x12.1 20 7 + 1 := by rw [ez]; (simp only [si_get, sfl_get, Nat.reduceEqDiff, eq_self, and_false, false_and, and_true, true_and, if_true, if_false, reduceIte, reduceCtorEq])
          have g2 : (y.1 20 7 + 1).toInt = ((n + 1 : Nat) : Int) := by
            rw [t_add (by show _ ≤ _ + (1 : Int); omega) (by show _ + (1 : Int) ≤ _; omega), en]; rfl
          rw [this, m12, m3, g2]
        · intro j hj
          by_cases hjn : j = n
          · subst hjn
            rw [z24, z26, z23, z27]
            exact ⟨⟨by omega, by omega, by omega⟩, r0, fun r3 => TOK_v tk9 (kc_3 r3)⟩
          · rw [g 24 j (by omega) (by omega) hjn, g 26 j (by omega) (by omega) hjn, g 23 j (by omega) (by omega) hjn, g 27 j (by omega) (by omega) hjn]
            exact hw j (by omega)
        · rw [z8]; omega
        · rw [z8]; omega
        · intro j hj
          by_cases hjn : j = n
          · rw [hjn, z23, v1, v2, z27]; exact r2
          · show z.1 23 j = 2 → z.1 27 j = hsh b (z.1 24 j).toNatClampNeg (z.1 26 j).toNatClampNeg
            rw [g 24 j (by omega) (by omega) hjn, g 26 j (by omega) (by omega) hjn, g 23 j (by omega) (by omega) hjn, g 27 j (by omega) (by omega) hjn]
            exact hh j (by omega)
        · intro l0
          have r1 := hlr.mp l0
          refine ⟨fun q => absurd q (by omega), fun _ => ⟨uP, by rw [cz, show n + 1 - 1 = n by omega, v1, v2]⟩, fun j hj => u4 j (by omega), fun j hj => ?_⟩
          by_cases hjn : j = n
          · rw [hjn]
            refine ⟨u5, by rw [v3]; exact k0, ?_⟩
            rw [v3]
            exact fun z => r1 (kc_i1 z)
          · exact u2 j (by omega)
        · intro l0
          have r1 : r = 1 := by
            by_cases c : r = 1
            · exact c
            · exact absurd l0 (hlr.mpr c)
          refine ⟨by omega, ?_⟩
          rw [show n + 1 - 1 = n by omega]
          refine ⟨by omega, uP, u4, fun j hj => ?_, fun j hj => (u2 j hj).2, Or.inr (Or.inl ?_)⟩
          · by_cases cj : j = n
            · rw [cj]; exact u5
            · exact (u2 j (by omega)).1
          · rw [v3]; exact kc_1 r1
      have s23 : x12.1 23 n = r := by rw [e12]; (simp only [si_get, sfl_get, Nat.reduceEqDiff, eq_self, and_false, false_and, and_true, true_and, if_true, if_false, reduceIte, reduceCtorEq])
      refine ⟨by rw [m12]; exact vin, fun c9 z ez => next _ z ez ?_, fun c9 z ez => next _ z ez ?_⟩
      all_goals
        rw [m12, em, s23] at c9
      · exact ⟨fun z => absurd rfl z, fun z => absurd c9 z⟩
      · exact ⟨fun _ => c9, fun _ => by decide⟩
  refine kg_X9_cut_0 hq (fun x1 e1 x2 e2 x3 e3 => ?_)
  have z8 : x3.1 20 8 = 0 := by rw [e3, e2, e1]; (simp only [si_get, sfl_get, Nat.reduceEqDiff, eq_self, and_false, false_and, and_true, true_and, if_true, if_false, reduceIte, reduceCtorEq])
  refine loop 701 0 _ _ x3 rfl rfl ?_ ?_ ?_ ?_ ?_ ?_ ?_ ?_
  · rw [e3, e2, e1]; exact fm_si (fm_si (fm_si (fm_rf _ _) (Or.inr ⟨rfl, by omega⟩)) (Or.inr ⟨rfl, by omega⟩)) (Or.inr ⟨rfl, by omega⟩)
  · rw [e3]; (simp only [si_get, sfl_get, Nat.reduceEqDiff, eq_self, and_false, false_and, and_true, true_and, if_true, if_false, reduceIte, reduceCtorEq]); rfl
  · intro j hj; omega
  · rw [z8]; decide
  · rw [z8]; exact hl.1
  · intro j hj; omega
  · intro _
    rw [z8]
    exact ⟨fun _ => rfl, fun q => absurd q (by omega), fun j hj => absurd hj (by omega), fun j hj => absurd hj (by omega)⟩
  · intro q; exact absurd q (by decide)
end KCA
end
section
/-! the class: the reader's small steps -/
/-- where reading is, how many tokens there are -/
abbrev nx (x : gd) : Int := (x.1 100 4).toInt
abbrev mt (x : gd) : Int := (x.1 20 7).toInt
def RB (x : gd) : Prop := kT x ∧ 0 ≤ nx x ∧ nx x ≤ 700 ∧ nx x ≤ mt x
/-- a use that is a fault -/
def BU (x : gd) : Prop := ∃ j : Nat, (j : Int) < nx x ∧ (x.1 42 j = 3 ∨ x.1 42 j = 8 ∨ x.1 42 j = 9 ∨ x.1 42 j = 10)
def US (x : gd) : Prop := (∀ j : Nat, nx x < j → j < 702 → x.1 42 j = 0) ∧ ∀ j : Nat, (j : Int) < nx x → x.1 42 j = 12 → 2 ≤ j ∧ x.1 42 (j - 2) = 7
/-- a part of a sum -/
def PQ (x : gd) (i : Nat) : Prop := (x.1 62 i = 2 → (0 ≤ (x.1 63 i).toInt ∧ (x.1 63 i).toInt < 24) ∨ BU x) ∧ (x.1 62 i = 6 → ∃ t : Nat, (x.1 63 i).toInt = t ∧ (t : Int) < nx x ∧ (x.1 42 t = 6 ∨ (x.1 42 t = 7 ∧ (t : Int) + 2 < nx x ∧ x.1 42 (t + 2) = 12 ∧ x.1 23 (t + 2) = 3)))
def SV (x : gd) (m : Int) : Prop := RB x ∧ US x ∧ (0 ≤ (x.1 60 3).toInt ∧ (x.1 60 3).toInt ≤ 800) ∧ ∀ i : Nat, (i : Int) < m → PQ x i
/-- later in reading -/
def La (x y : gd) : Prop := (∀ c k, 20 ≤ c → c < 40 → y.1 c k = x.1 c k) ∧ nx x ≤ nx y ∧ ∀ j : Nat, (j : Int) < nx x → y.1 42 j = x.1 42 j
/-- what reading changes -/
def sR (c k : Nat) : Prop := 40 ≤ c ∧ c < 120
def RX (x0 : gd) (X : String → gd → Prop) : Prop := ∀ y, fm sR x0 y → vp_in (y.1 100 4) 702 → ¬ y.1 100 6 = 0 → X iSE y
def FR (x : gd) : Prop := x.1 42 (x.1 100 4).toNatClampNeg = 0
section KRD
variable {G : kG} {q : kP} {d : Nat} {x x0 y z : gd} {F : Int32 → gd → Prop} {Fv : gd → Prop} {X : String → gd → Prop} {P : Option gv → gd → Prop} {m : Int}
theorem La_rf : La x x := ⟨fun _ _ _ _ => rfl, Int.le_refl _, fun _ _ => rfl⟩
theorem La_tr (a : La x y) (b : La y z) : La x z := ⟨fun c k h1 h2 => (b.1 c k h1 h2).trans (a.1 c k h1 h2), Int.le_trans a.2.1 b.2.1, fun j hj => (b.2.2 j (Int.lt_of_lt_of_le hj a.2.1)).trans (a.2.2 j hj)⟩
theorem La_BU (a : La x y) (h : BU x) : BU y := by
  obtain ⟨j, h1, h2⟩ := h
  exact ⟨j, Int.lt_of_lt_of_le h1 a.2.1, by rw [a.2.2 j h1]; exact h2⟩
theorem La_PQ (a : La x y) {i : Nat} (e1 : y.1 62 i = x.1 62 i) (e2 : y.1 63 i = x.1 63 i) (h : PQ x i) : PQ y i := by
  unfold PQ at h ⊢
  rw [e1, e2]
  refine ⟨fun c => (h.1 c).imp id (La_BU a), fun c => ?_⟩
  obtain ⟨t, h1, h2, h3⟩ := h.2 c
  have := a.2.1
  refine ⟨t, h1, by omega, ?_⟩
  rw [a.2.2 t h2]
  rcases h3 with h3 | ⟨h3, h4, h5, h6⟩
  · exact Or.inl h3
  · refine Or.inr ⟨h3, by omega, ?_, ?_⟩
    · rw [a.2.2 _ (by omega)]; exact h5
    · rw [a.1 23 _ (by omega) (by omega)]; exact h6
theorem kT_fm (h : kT x) (f : ∀ c k, 20 ≤ c → c < 40 → y.1 c k = x.1 c k) : kT y := by
  obtain ⟨q1, n2, q2, q3, q4, q5⟩ := h
  refine ⟨by unfold kL; rw [f 20 1 (by omega) (by omega)]; exact q1, n2, by rw [f 20 7 (by omega) (by omega)]; exact q2, q3, fun k hk => ?_, by rw [f 23 _ (by omega) (by omega)]; exact q5⟩
  rw [f 24 k (by omega) (by omega), f 26 k (by omega) (by omega), f 23 k (by omega) (by omega), f 27 k (by omega) (by omega)]
  exact q4 k hk
theorem RB_at (h : RB x) : vp_in (x.1 100 4) 702 := by rw [vp_in_iff]; have := h.2.1; have := h.2.2.1; unfold nx at *; omega
theorem RB_lt (h : RB x) (hs : ¬ x.1 23 (x.1 100 4).toNatClampNeg = 0) : nx x < mt x := by
  obtain ⟨⟨-, n, e1, e2, e3, e4⟩, h1, h2, h3⟩ := h
  unfold nx mt at *
  refine Int.lt_iff_le_and_ne.mpr ⟨h3, fun q => hs ?_⟩
  have : (x.1 100 4).toNatClampNeg = n := by rw [t_cl, q, e1]; rfl
  rw [this]; exact e4
/-- on to the next token; the one that is passed has the use u -/
theorem SV_adv (h : SV x m) (hs : ¬ x.1 23 (x.1 100 4).toNatClampNeg = 0) (h7 : nx x < 700) {u : Int32} (hu : u = 12 → 2 ≤ (x.1 100 4).toNatClampNeg ∧ x.1 42 ((x.1 100 4).toNatClampNeg - 2) = 7) (f : fm (fun c k => (c = 42 ∧ k = (x.1 100 4).toNatClampNeg) ∨ (c = 100 ∧ k = 4)) x y) (e1 : y.1 42 (x.1 100 4).toNatClampNeg = u) (e2 : nx y = nx x + 1) : SV y m ∧ FR y ∧ La x y := by
  have hlt := RB_lt h.1 hs
  obtain ⟨⟨hT, b1, b2, b3⟩, ⟨u1, u2⟩, hp, hP⟩ := h
  have eN : ((x.1 100 4).toNatClampNeg : Int) = nx x := by rw [t_cl]; unfold nx at *; omega
  have la : La x y := ⟨fun c k q1 q2 => f c k (by omega), by omega, fun j hj => f 42 j (by omega)⟩
  have e7 : mt y = mt x := by unfold mt; rw [f 20 7 (by omega)]
  refine ⟨⟨⟨kT_fm hT la.1, by omega, by omega, by omega⟩, ⟨fun j h1 h2 => ?_, fun j h1 h2 => ?_⟩, ?_, fun i hi => La_PQ la (f _ _ (by omega)) (f _ _ (by omega)) (hP i hi)⟩, ?_, la⟩
  · rw [f 42 j (by omega)]; exact u1 j (by omega) h2
  · by_cases hj : j = (x.1 100 4).toNatClampNeg
    · rw [hj, e1] at h2
      obtain ⟨g1, g2⟩ := hu h2
      rw [hj, f 42 _ (by omega)]
      exact ⟨g1, g2⟩
    · rw [f 42 j (by omega)] at h2
      obtain ⟨g1, g2⟩ := u2 j (by omega) h2
      rw [f 42 _ (by omega)]
      exact ⟨g1, g2⟩
  · rw [f 60 3 (by omega)]; exact hp
  · unfold FR
    have : (y.1 100 4).toNatClampNeg = (x.1 100 4).toNatClampNeg + 1 := by
      have : ((y.1 100 4).toNatClampNeg : Int) = nx y := by rw [t_cl]; unfold nx at *; omega
      omega
    rw [this, f 42 _ (by omega)]
    exact u1 _ (by omega) (by omega)
theorem kp_refuse (hq : kV q) (n : Int32) (h1 : vp_in (x.1 100 4) 702) (h0 : fm sR x0 x) (hx : RX x0 X) (hn : ¬ n = 0 := by decide) : KE G q (d + 6) zk_X7_refuse 0 [(0, vr 100), (1, vi n)] [] x P X := by
  have g : ∀ v : Int32, ¬ v = 0 → KE G q (d + 6) zk_X7_refuse 22 [] [vi v, vr 100] x P X := fun v hv => kg_X7_refuse_22 hq _ (fun z ez => by
    refine hx z ?_ ?_ (by rw [ez, si_get, if_pos ⟨rfl, rfl⟩]; exact hv)
    · rw [ez]; exact fm_si h0 (by unfold sR; omega)
    · have : z.1 100 4 = x.1 100 4 := by rw [ez]; (simp only [si_get, sfl_get, Nat.reduceEqDiff, eq_self, and_false, false_and, and_true, true_and, if_true, if_false, reduceIte, reduceCtorEq])
      rw [this]; exact h1)
  exact kg_X7_refuse_0 hq _ ⟨h1, fun _ => g _ hn, fun _ => g _ (by decide)⟩
theorem kp_sort (hq : kV q) (h1 : RB x) (h : F (x.1 23 (x.1 100 4).toNatClampNeg) x) : KT G q d zk_X7_sort 0 [(0, vr 100)] [] x (ri F) := kg_X7_sort_0 hq ⟨RB_at h1, ri_i h⟩
theorem nx_1 (h : RB x) : (x.1 100 4 + 1).toInt = nx x + 1 ∧ (x.1 100 4 + 1).toNatClampNeg = (x.1 100 4).toNatClampNeg + 1 := by
  have h1 := h.2.1
  have h2 := h.2.2.1
  have e : (x.1 100 4 + 1).toInt = nx x + 1 := t_add (by show _ ≤ _ + (1 : Int); unfold nx at *; omega) (by show _ + (1 : Int) ≤ _; unfold nx at *; omega)
  exact ⟨e, by rw [t_cl, e, t_cl]; unfold nx at *; omega⟩
theorem kp_sortBehind (hq : kV q) (h1 : RB x) (h : F (x.1 23 ((x.1 100 4).toNatClampNeg + 1)) x) : KT G q d zk_X7_sortBehind 0 [(0, vr 100)] [] x (ri F) := by
  obtain ⟨e1, e2⟩ := nx_1 h1
  refine kg_X7_sortBehind_0 hq ⟨?_, ?_⟩
  · rw [vp_in_iff]; have := h1.2.1; have := h1.2.2.1; omega
  · rw [e2]; exact ri_i h
theorem nx_si (h : RB x) (ey : y = si x 100 4 (x.1 100 4 + 1)) : nx y = nx x + 1 ∧ fm (fun c k => (c = 42 ∧ k = (x.1 100 4).toNatClampNeg) ∨ (c = 100 ∧ k = 4)) x y ∧ y.1 42 (x.1 100 4).toNatClampNeg = x.1 42 (x.1 100 4).toNatClampNeg := by
  refine ⟨?_, ?_, ?_⟩
  · have : y.1 100 4 = x.1 100 4 + 1 := by rw [ey]; (simp only [si_get, sfl_get, Nat.reduceEqDiff, eq_self, and_false, false_and, and_true, true_and, if_true, if_false, reduceIte, reduceCtorEq])
    unfold nx
    rw [this]; exact (nx_1 h).1
  · rw [ey]; exact fm_si (fm_rf _ _) (Or.inr ⟨rfl, rfl⟩)
  · rw [ey]; (simp only [si_get, sfl_get, Nat.reduceEqDiff, eq_self, and_false, false_and, and_true, true_and, if_true, if_false, reduceIte, reduceCtorEq])
/-- a part more -/
def AP (x y : gd) (p a : Int32) : Prop := fm (fun c k => (c = 60 ∧ k = 3) ∨ c = 62 ∨ c = 63) x y ∧ (0 ≤ (y.1 60 3).toInt ∧ (y.1 60 3).toInt ≤ 800) ∧ (x.1 60 3).toInt ≤ (y.1 60 3).toInt ∧ (∀ i : Nat, (i : Int) < (x.1 60 3).toInt → y.1 62 i = x.1 62 i ∧ y.1 63 i = x.1 63 i) ∧ ∀ i : Nat, (i : Int) < (y.1 60 3).toInt → (i : Int) < (x.1 60 3).toInt ∨ (y.1 62 i = p ∧ y.1 63 i = a)
theorem AP_La {p a : Int32} (h : AP x y p a) : La x y := ⟨fun c k q1 q2 => h.1 c k (by omega), by unfold nx; rw [h.1 100 4 (by omega)]; exact Int.le_refl _, fun j _ => h.1 42 j (by omega)⟩
theorem AP_SV {p a : Int32} (hm : m ≤ (x.1 60 3).toInt) (hS : SV x m) (h : AP x y p a) : SV y m := by
  have la := AP_La h
  obtain ⟨⟨hT, b1, b2, b3⟩, ⟨u1, u2⟩, hp, hP⟩ := hS
  have e4 : y.1 100 4 = x.1 100 4 := h.1 _ _ (by omega)
  have e7 : y.1 20 7 = x.1 20 7 := h.1 _ _ (by omega)
  refine ⟨⟨kT_fm hT la.1, by unfold nx; rw [e4]; exact b1, by unfold nx; rw [e4]; exact b2, by unfold nx mt; rw [e4, e7]; exact b3⟩, ⟨fun j h1 h2 => ?_, fun j h1 h2 => ?_⟩, h.2.1, fun i hi => La_PQ la (h.2.2.2.1 i (by omega)).1 (h.2.2.2.1 i (by omega)).2 (hP i hi)⟩
  · rw [h.1 42 j (by omega)]; exact u1 j (by unfold nx at h1; rw [e4] at h1; exact h1) h2
  · rw [h.1 42 j (by omega)] at h2
    rw [h.1 42 _ (by omega)]
    exact u2 j (by unfold nx at h1; rw [e4] at h1; exact h1) h2
/-- all parts are well -/
abbrev SU (x : gd) : Prop := SV x (x.1 60 3).toInt
theorem AP_SU {p a : Int32} (hS : SU x) (h : AP x y p a) (hp2 : p = 2 → (0 ≤ a.toInt ∧ a.toInt < 24) ∨ BU y) (hp6 : ¬ p = 6) : SU y := by
  obtain ⟨g1, g2, g3, g4⟩ := AP_SV (Int.le_refl _) hS h
  refine ⟨g1, g2, g3, fun i hi => ?_⟩
  rcases h.2.2.2.2 i hi with e | ⟨e1, e2⟩
  · exact g4 i e
  · unfold PQ
    rw [e1, e2]
    exact ⟨hp2, fun c => absurd c hp6⟩
/-- locals that are known -/
def KN (x : gd) : Prop := (0 ≤ (x.1 100 9).toInt ∧ (x.1 100 9).toInt ≤ 8) ∧ ∀ i : Nat, (i : Int) < (x.1 100 9).toInt → tk x (x.1 109 i)
end KRD
end
section
/-! the class: the reader's small steps, and when they refuse -/
section KRDF
variable {G : kG} {q : kP} {d : Nat} {x x0 y z : gd} {F : Int32 → gd → Prop} {Fv : gd → Prop} {X : String → gd → Prop} {P : Option gv → gd → Prop} {m : Int}
theorem kf_pass (hq : kV q) (h0 : fm sR x0 x) (hx : 700 ≤ nx x → RX x0 X) (hS : SV x m) (hs : ¬ x.1 23 (x.1 100 4).toNatClampNeg = 0) (hu : ¬ x.1 42 (x.1 100 4).toNatClampNeg = 12) (h : nx x < 700 → ∀ y, fm (fun c k => c = 100 ∧ k = 4) x y → nx y = nx x + 1 → SV y m → FR y → La x y → fm sR x0 y → Fv y) : KE G q (d + 7) zk_X7_pass 0 [(0, vr 100)] [] x (rv Fv) X := by
  refine kg_X7_pass_0 hq ⟨fun c y ey => rv_i ?_, fun c => kp_refuse hq _ (RB_at hS.1) h0 (hx (by rw [t_lt] at c; have : (700 : Int32).toInt = 700 := rfl; unfold nx; omega))⟩
  obtain ⟨e1, e2, e3⟩ := nx_si hS.1 ey
  obtain ⟨g1, g2, g3⟩ := SV_adv hS hs (by rw [t_lt] at c; exact c) (u := x.1 42 (x.1 100 4).toNatClampNeg) (fun q => absurd q hu) e2 e3 e1
  exact h (by rw [t_lt] at c; exact c) y (by rw [ey]; exact fm_si (fm_rf _ _) ⟨rfl, rfl⟩) e1 g1 g2 g3 (by rw [ey]; exact fm_si h0 (by unfold sR; omega))
theorem kf_need (hq : kV q) (h0 : fm sR x0 x) (w : Int32) (hx : (¬ x.1 23 (x.1 100 4).toNatClampNeg = w ∨ 700 ≤ nx x) → RX x0 X) (hS : SV x m) (hw : ¬ w = 0) (hu : FR x) (h : x.1 23 (x.1 100 4).toNatClampNeg = w → nx x < 700 → ∀ y, fm (fun c k => c = 100 ∧ k = 4) x y → nx y = nx x + 1 → SV y m → FR y → La x y → fm sR x0 y → Fv y) : KE G q (d + 7) zk_X7_need 0 [(0, vr 100), (1, vi w)] [] x (rv Fv) X := by
  have k7 : (700 : Int32).toInt = 700 := rfl
  have g32 : RX x0 X → ∀ s : Int32, ¬ s = 0 → KE G q (d + 7) zk_X7_need 32 [(0, vr 100)] [vi s, vr 100] x (rv Fv) X := fun hx s hs9 => kg_X7_need_32 hq _ (kp_refuse hq _ (RB_at hS.1) h0 hx hs9)
  have g18 : RX x0 X → KE G q (d + 7) zk_X7_need 18 [(0, vr 100), (1, vi w)] [] x (rv Fv) X := fun hx => kg_X7_need_18 hq _ (kp_sort hq hS.1 ⟨fun _ => g32 hx _ (by decide), fun _ => g32 hx _ (by decide)⟩)
  refine kg_X7_need_0 hq _ (kp_sort hq hS.1 ⟨fun c => g18 (hx (Or.inl c)), fun cw => ⟨fun c y ey => rv_i ?_, fun c => g18 (hx (Or.inr (by rw [t_lt, k7] at c; unfold nx; omega)))⟩⟩)
  obtain ⟨e1, e2, e3⟩ := nx_si hS.1 ey
  unfold FR at hu
  obtain ⟨g1, g2, g3⟩ := SV_adv hS (by rw [cw]; exact hw) (by rw [t_lt] at c; exact c) (u := x.1 42 (x.1 100 4).toNatClampNeg) (fun q => absurd q (by rw [hu]; decide)) e2 e3 e1
  exact h cw (by rw [t_lt] at c; exact c) y (by rw [ey]; exact fm_si (fm_rf _ _) ⟨rfl, rfl⟩) e1 g1 g2 g3 (by rw [ey]; exact fm_si h0 (by unfold sR; omega))
theorem kf_needFor (hq : kV q) (h0 : fm sR x0 x) (w u : Int32) (hx : (¬ x.1 23 (x.1 100 4).toNatClampNeg = w ∨ 700 ≤ nx x) → RX x0 X) (hS : SV x m) (hw : ¬ w = 0) (hu : u = 12 → 2 ≤ (x.1 100 4).toNatClampNeg ∧ x.1 42 ((x.1 100 4).toNatClampNeg - 2) = 7) (h : x.1 23 (x.1 100 4).toNatClampNeg = w → nx x < 700 → ∀ y, fm (fun c k => (c = 42 ∧ k = (x.1 100 4).toNatClampNeg) ∨ (c = 100 ∧ k = 4)) x y → y.1 42 (x.1 100 4).toNatClampNeg = u → nx y = nx x + 1 → SV y m → FR y → La x y → fm sR x0 y → tk y (x.1 100 4) → F (x.1 100 4) y) : KE G q (d + 7) zk_X7_needFor 0 [(0, vr 100), (1, vi w), (2, vi u)] [] x (ri F) X := by
  have g35 : x.1 23 (x.1 100 4).toNatClampNeg = w → (x.1 100 4).toInt < 700 → KE G q (d + 7) zk_X7_needFor 35 [(0, vr 100), (2, vi u)] [] x (ri F) X := by
    intro cw c
    refine kg_X7_needFor_35 hq _ ⟨RB_at hS.1, fun x2 e2 y ey => ?_⟩
    have f4 : x2.1 100 4 = x.1 100 4 := by rw [e2]; (simp only [si_get, sfl_get, Nat.reduceEqDiff, eq_self, and_false, false_and, and_true, true_and, if_true, if_false, reduceIte, reduceCtorEq])
    rw [f4] at ey
    have y4 : y.1 100 4 = x.1 100 4 + 1 := by rw [ey]; (simp only [si_get, sfl_get, Nat.reduceEqDiff, eq_self, and_false, false_and, and_true, true_and, if_true, if_false, reduceIte, reduceCtorEq])
    have yN : nx y = nx x + 1 := by unfold nx; rw [y4]; exact (nx_1 hS.1).1
    have er : y.1 100 4 - 1 = x.1 100 4 := by rw [y4]; exact Int32.add_sub_cancel _ _
    have ff : fm (fun c k => (c = 42 ∧ k = (x.1 100 4).toNatClampNeg) ∨ (c = 100 ∧ k = 4)) x y := by rw [ey, e2]; exact fm_si (fm_si (fm_rf _ _) (Or.inl ⟨rfl, rfl⟩)) (Or.inr ⟨rfl, rfl⟩)
    have eu : y.1 42 (x.1 100 4).toNatClampNeg = u := by rw [ey, e2]; (simp only [si_get, sfl_get, Nat.reduceEqDiff, eq_self, and_false, false_and, and_true, true_and, if_true, if_false, reduceIte, reduceCtorEq])
    have hlt := RB_lt hS.1 (by rw [cw]; exact hw)
    obtain ⟨g1, g2, g3⟩ := SV_adv hS (by rw [cw]; exact hw) c hu ff eu yN
    rw [er]
    refine ri_i (h cw c y ff eu yN g1 g2 g3 (by rw [ey, e2]; exact fm_si (fm_si h0 (by unfold sR; omega)) (by unfold sR; omega)) ⟨hS.1.2.1, ?_⟩)
    rw [ff 20 7 (by omega)]; exact hlt
  have g18 : (¬ x.1 23 (x.1 100 4).toNatClampNeg = w ∨ ¬ (x.1 100 4).toInt < 700) → KE G q (d + 7) zk_X7_needFor 18 [(0, vr 100), (1, vi w), (2, vi u)] [] x (ri F) X := by
    intro ho
    have k7 : (700 : Int32).toInt = 700 := rfl
    have hx := hx (ho.imp id (fun z => by unfold nx; omega))
    have g32 : ∀ s : Int32, ¬ s = 0 → KE G q (d + 7) zk_X7_needFor 32 [(0, vr 100), (2, vi u)] [vi s, vr 100] x (ri F) X := fun s hs9 => kg_X7_needFor_32 hq _ _ (kp_refuse hq _ (RB_at hS.1) h0 hx hs9)
    exact kg_X7_needFor_18 hq _ _ (kp_sort hq hS.1 ⟨fun _ => g32 _ (by decide), fun _ => g32 _ (by decide)⟩)
  exact kg_X7_needFor_0 hq _ _ (kp_sort hq hS.1 ⟨fun c => g18 (Or.inl c), fun cw => ⟨fun c => g35 cw (by rw [t_lt] at c; exact c), fun c => g18 (Or.inr (by rw [t_lt] at c; exact c))⟩⟩)
end KRDF
end
section
/-! what the class notes of names' uses, by what is told: HAw, what an event makes of the uses; HB, whether an event tells of a use -/
abbrev nn (x : gd) : Nat := (x.1 100 4).toNatClampNeg
def HAw (sN : Nat → Nat → Bool) (U : Nat → Int32) (n : Nat) (E : gV) (v : Nat × Nat × Nat) : Prop :=
  (v.1 = 3 → v.2.1 < n ∧ (kfi sN E.1 v.2.1 = none → U v.2.1 = 3)) ∧
  (v.1 = 6 → v.2.1 < n ∧ U v.2.1 = 6) ∧
  (v.1 = 7 → v.2.1 < n ∧ (U v.2.1 = 7 ∨ U v.2.1 = 9)) ∧
  (v.1 = 12 → v.2.1 < n ∧ U v.2.1 = 12 ∧ v.2.1 = v.2.2 + 2) ∧
  (v.1 = 23 → v.2.1 < n ∧ ((∃ k ∈ E.1.take (E.1.length - E.2.1.headD 0), sN k.1 v.2.1 = true) → U v.2.1 = 2)) ∧
  (v.1 = 24 ∨ v.1 = 25 → v.2.1 < n ∧ (kfi sN E.1 v.2.1 = none → U v.2.1 = 6)) ∧
  (v.1 = 26 → kfi sN E.1 v.2.1 = none → ∃ j, j < n ∧ (U j = 9 ∨ U j = 10)) ∧
  (v.1 = 27 → v.2.2 < n ∧ (kfi sN E.1 v.2.2 = none → (kfi sN E.1 v.2.1 = none → U v.2.2 = 8) ∧ (¬ kfi sN E.1 v.2.1 = none → U v.2.2 = 6))) ∧
  (v.1 = 27 → v.2.1 < n ∧ (kfi sN E.1 v.2.1 = none → U v.2.1 = 6)) ∧
  (v.1 = 65 ∨ v.1 = 66 → v.2.2 < n ∧ U v.2.2 = 4) ∧
  (v.1 = 67 → v.2.2 < n ∧ U v.2.2 = 5) ∧
  (v.1 = 70 → v.2.2 < n ∧ U v.2.2 = 13) ∧
  (v.1 = 31 ∨ v.1 = 32 ∨ v.1 = 33 ∨ v.1 = 34 → v.2.1 < n ∧ U v.2.1 = 1) ∧
  (v.1 = 32 → v.2.2 < n ∧ U v.2.2 = 11)
def HB (sN : Nat → Nat → Bool) (E : gV) (v : Nat × Nat × Nat) (j : Nat) (u : Int32) : Prop :=
  (v.1 = 3 ∧ u = 3 ∧ j = v.2.1 ∧ kfi sN E.1 v.2.1 = none) ∨
  (v.1 = 6 ∧ u = 6 ∧ j = v.2.1) ∨
  (v.1 = 7 ∧ u = 7 ∧ j = v.2.1) ∨
  (v.1 = 12 ∧ u = 12 ∧ j = v.2.1 ∧ j = v.2.2 + 2) ∨
  (v.1 = 23 ∧ u = 2 ∧ ∃ k ∈ E.1.take (E.1.length - E.2.1.headD 0), sN k.1 v.2.1 = true) ∨
  ((v.1 = 24 ∨ v.1 = 25) ∧ u = 6 ∧ j = v.2.1 ∧ kfi sN E.1 v.2.1 = none) ∨
  (v.1 = 26 ∧ kfi sN E.1 v.2.1 = none ∧ (u = 6 ∨ u = 9 ∨ u = 10)) ∨
  (v.1 = 27 ∧ u = 8 ∧ kfi sN E.1 v.2.2 = none ∧ kfi sN E.1 v.2.1 = none) ∨
  (v.1 = 27 ∧ u = 6 ∧ j = v.2.2 ∧ kfi sN E.1 v.2.2 = none ∧ ¬ kfi sN E.1 v.2.1 = none) ∨
  (v.1 = 27 ∧ u = 6 ∧ j = v.2.1 ∧ kfi sN E.1 v.2.1 = none) ∨
  ((v.1 = 65 ∨ v.1 = 66) ∧ u = 4 ∧ j = v.2.2) ∨
  (v.1 = 67 ∧ u = 5 ∧ j = v.2.2) ∨
  (v.1 = 70 ∧ u = 13 ∧ j = v.2.2) ∨
  ((v.1 = 31 ∨ v.1 = 32 ∨ v.1 = 33 ∨ v.1 = 34) ∧ u = 1 ∧ j = v.2.1) ∨
  (v.1 = 32 ∧ u = 11 ∧ j = v.2.2)
def HAs (sN : Nat → Nat → Bool) (U : Nat → Int32) (n : Nat) : gU → gV → Prop
  | [], _ => True
  | v :: L, E => HAw sN U n E v ∧ HAs sN U n L (exV E v)
def HBs (sN : Nat → Nat → Bool) : gU → gV → Nat → Int32 → Prop
  | [], _, _, _ => False
  | v :: L, E, j, u => HB sN E v j u ∨ HBs sN L (exV E v) j u
section MRK
variable {sN : Nat → Nat → Bool} {U U' : Nat → Int32} {n n' : Nat} {E : gV} {v : Nat × Nat × Nat} {L M : gU} {j : Nat} {u : Int32}
theorem HAs_app : ∀ {L : gU} {E : gV}, HAs sN U n (L ++ M) E ↔ HAs sN U n L E ∧ HAs sN U n M (exs L E) := by
  intro L
  induction L with
  | nil => intro E; exact ⟨fun h => ⟨trivial, h⟩, fun h => h.2⟩
  | cons v L ih =>
    intro E
    show HAw sN U n E v ∧ HAs sN U n (L ++ M) (exV E v) ↔ (HAw sN U n E v ∧ HAs sN U n L (exV E v)) ∧ HAs sN U n M (exs L (exV E v))
    rw [ih, and_assoc]
theorem HBs_app : ∀ {L : gU} {E : gV}, HBs sN (L ++ M) E j u ↔ HBs sN L E j u ∨ HBs sN M (exs L E) j u := by
  intro L
  induction L with
  | nil => intro E; exact ⟨Or.inr, fun h => h.elim (fun q => q.elim) id⟩
  | cons v L ih =>
    intro E
    show HB sN E v j u ∨ HBs sN (L ++ M) (exV E v) j u ↔ (HB sN E v j u ∨ HBs sN L (exV E v) j u) ∨ HBs sN M (exs L (exV E v)) j u
    rw [ih, or_assoc]
theorem HAs_one : HAs sN U n [v] E ↔ HAw sN U n E v := ⟨fun h => h.1, fun h => ⟨h, trivial⟩⟩
theorem HBs_one : HBs sN [v] E j u ↔ HB sN E v j u := ⟨fun h => h.elim id (fun q => q.elim), Or.inl⟩
theorem HA_up (h : HAw sN U n E v) (hn : n ≤ n') (e : ∀ j, j < n → U' j = U j) : HAw sN U' n' E v := by
  obtain ⟨h1, h2, h3, h4, h5, h6, h7, h8, h9, h10, h11, h12, h13, h14⟩ := h
  have up : ∀ {t : Nat}, t < n → t < n' := fun q => Nat.lt_of_lt_of_le q hn
  refine ⟨fun c => ⟨up (h1 c).1, fun z => ?_⟩, fun c => ⟨up (h2 c).1, ?_⟩, fun c => ⟨up (h3 c).1, ?_⟩, fun c => ⟨up (h4 c).1, ?_, (h4 c).2.2⟩, fun c => ⟨up (h5 c).1, fun z => ?_⟩, fun c => ⟨up (h6 c).1, fun z => ?_⟩, fun c z => ?_, fun c => ⟨up (h8 c).1, fun z => ⟨fun z1 => ?_, fun z1 => ?_⟩⟩, fun c => ⟨up (h9 c).1, fun z => ?_⟩, fun c => ⟨up (h10 c).1, ?_⟩, fun c => ⟨up (h11 c).1, ?_⟩, fun c => ⟨up (h12 c).1, ?_⟩, fun c => ⟨up (h13 c).1, ?_⟩, fun c => ⟨up (h14 c).1, ?_⟩⟩
  · rw [e _ (h1 c).1]; exact (h1 c).2 z
  · rw [e _ (h2 c).1]; exact (h2 c).2
  · rw [e _ (h3 c).1]; exact (h3 c).2
  · rw [e _ (h4 c).1]; exact (h4 c).2.1
  · rw [e _ (h5 c).1]; exact (h5 c).2 z
  · rw [e _ (h6 c).1]; exact (h6 c).2 z
  · obtain ⟨j, a, b⟩ := h7 c z
    exact ⟨j, up a, by rw [e _ a]; exact b⟩
  · rw [e _ (h8 c).1]; exact ((h8 c).2 z).1 z1
  · rw [e _ (h8 c).1]; exact ((h8 c).2 z).2 z1
  · rw [e _ (h9 c).1]; exact (h9 c).2 z
  · rw [e _ (h10 c).1]; exact (h10 c).2
  · rw [e _ (h11 c).1]; exact (h11 c).2
  · rw [e _ (h12 c).1]; exact (h12 c).2
  · rw [e _ (h13 c).1]; exact (h13 c).2
  · rw [e _ (h14 c).1]; exact (h14 c).2
theorem HAs_up (hn : n ≤ n') (e : ∀ j, j < n → U' j = U j) : ∀ {L : gU} {E : gV}, HAs sN U n L E → HAs sN U' n' L E := by
  intro L
  induction L with
  | nil => intro E _; exact trivial
  | cons v L ih => intro E h; exact ⟨HA_up h.1 hn e, ih h.2⟩
/-- events that tell of no use -/
def dull (v : Nat × Nat × Nat) : Prop := ∀ k ∈ [3, 6, 7, 12, 23, 24, 25, 26, 27, 65, 66, 67, 70, 31, 32, 33, 34], ¬ v.1 = k
theorem HA_dull (h : dull v) : HAw sN U n E v := by
  have no : ∀ k : Nat, k ∈ [3, 6, 7, 12, 23, 24, 25, 26, 27, 65, 66, 67, 70, 31, 32, 33, 34] → v.1 = k → False := fun k hk c => h k hk c
  refine ⟨fun c => (no 3 (by decide) c).elim, fun c => (no 6 (by decide) c).elim, fun c => (no 7 (by decide) c).elim, fun c => (no 12 (by decide) c).elim, fun c => (no 23 (by decide) c).elim, fun c => (c.elim (no 24 (by decide)) (no 25 (by decide))).elim, fun c => (no 26 (by decide) c).elim, fun c => (no 27 (by decide) c).elim, fun c => (no 27 (by decide) c).elim, fun c => (c.elim (no 65 (by decide)) (no 66 (by decide))).elim, fun c => (no 67 (by decide) c).elim, fun c => (no 70 (by decide) c).elim, fun c => ?_, fun c => (no 32 (by decide) c).elim⟩
  rcases c with c | c | c | c
  · exact (no 31 (by decide) c).elim
  · exact (no 32 (by decide) c).elim
  · exact (no 33 (by decide) c).elim
  · exact (no 34 (by decide) c).elim
theorem HA_3 {a b : Nat} : HAw sN U n E (3, a, b) ↔ a < n ∧ (kfi sN E.1 a = none → U a = 3) := by unfold HAw; simp
theorem HA_6 {a b : Nat} : HAw sN U n E (6, a, b) ↔ a < n ∧ U a = 6 := by unfold HAw; simp
theorem HA_7 {a b : Nat} : HAw sN U n E (7, a, b) ↔ a < n ∧ (U a = 7 ∨ U a = 9) := by unfold HAw; simp
theorem HA_12 {a b : Nat} : HAw sN U n E (12, a, b) ↔ a < n ∧ U a = 12 ∧ a = b + 2 := by unfold HAw; simp
end MRK
/-- from x to y, M was read and noted -/
def UR (sN : Nat → Nat → Bool) (E : gV) (x y : gd) (M : gU) : Prop := HAs sN (y.1 42) (nn y) M E ∧ ∀ j, nn x ≤ j → j < nn y → ¬ y.1 42 j = 0 → HBs sN M E j (y.1 42 j)
section URS
variable {sN : Nat → Nat → Bool} {E : gV} {v : Nat × Nat × Nat} {M N : gU} {x y z : gd}
theorem nn_is (h : 0 ≤ nx x) : ((nn x : Nat) : Int) = nx x := by
  unfold nn nx at *
  rw [t_cl]; omega
theorem La_nn (h0 : 0 ≤ nx x) (h : La x y) : nn x ≤ nn y ∧ ∀ j, j < nn x → y.1 42 j = x.1 42 j := by
  have a := nn_is h0
  have b := nn_is (x := y) (by have := h.2.1; omega)
  have c := h.2.1
  exact ⟨by omega, fun j hj => h.2.2 j (by omega)⟩
theorem UR_app (h0 : 0 ≤ nx y) (h : UR sN E x y M) (l : La y z) (g : UR sN (exs M E) y z N) : UR sN E x z (M ++ N) := by
  obtain ⟨n1, n2⟩ := La_nn h0 l
  refine ⟨HAs_app.mpr ⟨HAs_up n1 n2 h.1, g.1⟩, fun j h1 h2 h3 => HBs_app.mpr ?_⟩
  by_cases c : j < nn y
  · rw [n2 j c] at h3 ⊢
    exact Or.inl (h.2 j h1 c h3)
  · exact Or.inr (g.2 j (by omega) h2 h3)
/-- nothing but the place is the same -/
theorem UR_0 (e : nn y = nn x) : UR sN E x y [] := ⟨trivial, fun j h1 h2 => by omega⟩
theorem UR_same (h : UR sN E x y M) (e4 : nn z = nn y) (e : ∀ j, j < nn y → z.1 42 j = y.1 42 j) : UR sN E x z M := by
  refine ⟨by rw [e4]; exact HAs_up (Nat.le_refl _) e h.1, fun j h1 h2 h3 => ?_⟩
  rw [e4] at h2
  rw [e j h2] at h3 ⊢
  exact h.2 j h1 h2 h3
theorem UR_dull (h : UR sN E x y M) (hv : dull v) : UR sN E x y (M ++ [v]) := ⟨HAs_app.mpr ⟨h.1, HAs_one.mpr (HA_dull hv)⟩, fun j h1 h2 h3 => HBs_app.mpr (Or.inl (h.2 j h1 h2 h3))⟩
/-- a token without a use is passed -/
theorem UR_tok (h0 : 0 ≤ nx y) (h : UR sN E x y M) (l : La y z) (e : nn z = nn y + 1) (u : z.1 42 (nn y) = 0) : UR sN E x z M := by
  obtain ⟨n1, n2⟩ := La_nn h0 l
  refine ⟨HAs_up n1 n2 h.1, fun j h1 h2 h3 => ?_⟩
  by_cases c : j < nn y
  · rw [n2 j c] at h3 ⊢
    exact h.2 j h1 c h3
  · have : j = nn y := by omega
    rw [this] at h3
    exact absurd u h3
end URS
/-- the class's tokens, up to e, are those of K and V; names alike by sN -/
def smk (x : gd) (a b : Nat) : Prop := x.1 27 a = x.1 27 b ∧ x.1 26 a = x.1 26 b ∧ ∀ i, i < (x.1 26 a).toNatClampNeg → x.1 21 ((x.1 24 a).toNatClampNeg + i) = x.1 21 ((x.1 24 b).toNatClampNeg + i)
def KA (K V : Nat → Int32) (sN : Nat → Nat → Bool) (e : Nat) (x : gd) : Prop := (∀ j, j ≤ e → kc (x.1 23 j) = K j) ∧ (∀ j, j ≤ e → K j = 2 → x.1 27 j = V j) ∧ (∀ a b, a ≤ e → b ≤ e → K a = 1 → K b = 1 → (smk x a b ↔ sN a b = true)) ∧ e ≤ 700 ∧ (K e = 0 ∨ K e = 3 ∨ e = 700)
section KAS
variable {K V : Nat → Int32} {sN : Nat → Nat → Bool} {e : Nat} {x y : gd}
theorem KA_fm (h : KA K V sN e x) (f : ∀ c k, 20 ≤ c → c < 40 → y.1 c k = x.1 c k) : KA K V sN e y := by
  have r : ∀ c, 20 ≤ c → c < 40 → y.1 c = x.1 c := fun c h1 h2 => by funext k; exact f c k h1 h2
  unfold KA smk at h ⊢
  rw [r 23 (by omega) (by omega), r 27 (by omega) (by omega), r 26 (by omega) (by omega), r 24 (by omega) (by omega), r 21 (by omega) (by omega)]
  exact h
/-- a kind, and the class's number of it -/
theorem KA_k (h : KA K V sN e x) {j : Nat} (hj : j ≤ e) (c : Int32) (hc : ¬ kc c = -1) : x.1 23 j = c ↔ K j = kc c := by
  rw [← h.1 j hj]
  exact ⟨fun q => by rw [q], fun q => kc_i q hc⟩
/-- behind a token that is one, and not one too many, there is another -/
theorem KA_on (h : KA K V sN e x) {j : Nat} (hj : j ≤ e) (h7 : j < 700) (h0 : ¬ K j = 0) (h3 : ¬ K j = 3) : j + 1 ≤ e := by
  by_cases c : j = e
  · rw [c] at h0 h3 h7
    rcases h.2.2.2.2 with z | z | z
    · exact absurd z h0
    · exact absurd z h3
    · omega
  · omega
end KAS
section KSN
variable {G : kG} {q : kP} {d : Nat} {x : gd} {F : Int32 → gd → Prop} {K V : Nat → Int32} {sN : Nat → Nat → Bool} {e : Nat}
theorem kf_sameName (hq : kV q) (hT : kT x) (a b : Int32) (ha : tk x a) (hb : tk x b) (h : ∀ r, (¬ r = 0 ↔ smk x a.toNatClampNeg b.toNatClampNeg) → F r x) : KT G q d zk_X9_sameName 0 [(0, vr 20), (1, vi a), (2, vi b)] [] x (ri F) := by
  obtain ⟨va, a1, a2, a3⟩ := kT_at hT ha
  obtain ⟨vb, b1, b2, b3⟩ := kT_at hT hb
  have no : ∀ r : Int32, r = 0 → ¬ smk x a.toNatClampNeg b.toNatClampNeg → F r x := fun r e n => h r ⟨fun z => absurd e z, fun z => absurd z n⟩
  have ua := t_cl (x.1 26 a.toNatClampNeg)
  have pa := t_cl (x.1 24 a.toNatClampNeg)
  have pb := t_cl (x.1 24 b.toNatClampNeg)
  have loop : ∀ (n : Nat) (i : Int32), 0 ≤ i.toInt → x.1 27 a.toNatClampNeg = x.1 27 b.toNatClampNeg → x.1 26 a.toNatClampNeg = x.1 26 b.toNatClampNeg → (x.1 26 a.toNatClampNeg).toInt - i.toInt ≤ n → (∀ t, t < i.toNatClampNeg → x.1 21 ((x.1 24 a.toNatClampNeg).toNatClampNeg + t) = x.1 21 ((x.1 24 b.toNatClampNeg).toNatClampNeg + t)) → KT G q d zk_X9_sameName 34 [(0, vr 20), (1, vi a), (2, vi b), (3, vi i)] [] x (ri F) := by
    intro n
    induction n with
    | zero =>
      intro i i0 hv hs hn ht
      have ui := t_cl i
      refine kg_X9_sameName_34 hq _ _ _ ⟨va, fun _ => ri_i (h _ ⟨fun _ => ⟨hv, hs, fun t hl => ht t (by omega)⟩, fun _ => by decide⟩), fun c => ?_⟩
      exfalso; rw [t_le] at c; omega
    | succ n ih =>
      intro i i0 hv hs hn ht
      have ui := t_cl i
      refine kg_X9_sameName_34 hq _ _ _ ⟨va, fun c => ri_i (h _ ⟨fun _ => ⟨hv, hs, fun t hl => ht t (by rw [t_le] at c; omega)⟩, fun _ => by decide⟩), fun c => ?_⟩
      rw [t_le] at c
      have e1 : (i + 1).toInt = i.toInt + 1 := t_add (by show _ ≤ _ + (1 : Int); omega) (by show _ + (1 : Int) ≤ _; omega)
      have e1c : (i + 1).toNatClampNeg = i.toNatClampNeg + 1 := by rw [t_cl]; omega
      have hs2 : (x.1 26 a.toNatClampNeg).toInt = (x.1 26 b.toNatClampNeg).toInt := by rw [hs]
      have e2 := t_add (a := x.1 24 a.toNatClampNeg) (b := i) (by omega) (by omega)
      have e3 := t_add (a := x.1 24 b.toNatClampNeg) (b := i) (by omega) (by omega)
      have e2c : (x.1 24 a.toNatClampNeg + i).toNatClampNeg = (x.1 24 a.toNatClampNeg).toNatClampNeg + i.toNatClampNeg := by rw [t_cl]; omega
      have e3c : (x.1 24 b.toNatClampNeg + i).toNatClampNeg = (x.1 24 b.toNatClampNeg).toNatClampNeg + i.toNatClampNeg := by rw [t_cl]; omega
      rw [e2c, e3c]
      refine ⟨va, by rw [vp_in_iff]; omega, vb, by rw [vp_in_iff]; omega, fun c2 => ih _ (by omega) hv hs (by omega) (fun t hl => ?_), fun c2 => ri_i (no _ rfl (fun z => c2 (z.2.2 i.toNatClampNeg (by omega))))⟩
      by_cases ct : t = i.toNatClampNeg
      · rw [ct]; exact c2
      · exact ht t (by omega)
  exact kg_X9_sameName_0 hq _ _ ⟨va, vb, fun c => ri_i (no _ rfl (fun z => c z.1)), fun cv => ⟨va, vb, fun c => loop ((x.1 26 a.toNatClampNeg).toInt).toNat _ (by decide) cv c (by show _ - (0 : Int) ≤ _; omega) (fun t hl => absurd hl (Nat.not_lt_zero _)), fun c => ri_i (no _ rfl (fun z => c z.2.1))⟩⟩
end KSN
end
section
/-! the locals that are known, on the class's side -/
section KSO
variable {G : kG} {q : kP} {d : Nat} {x : gd} {F : Int32 → gd → Prop} {K V : Nat → Int32} {sN : Nat → Nat → Bool} {e : Nat}
/-- the locals that are known, told last first -/
def KV' (K : Nat → Int32) (e : Nat) (x : gd) (E : gV) : Prop := (x.1 100 9).toInt = E.1.length ∧ ∀ p k, E.1[p]? = some k → (x.1 109 (E.1.length - 1 - p)).toNatClampNeg = k.1 ∧ K k.1 = 1 ∧ k.1 ≤ e
theorem KV_fm {y : gd} {E : gV} (h : KV' K e x E) (f9 : y.1 100 9 = x.1 100 9) (f : ∀ k, y.1 109 k = x.1 109 k) : KV' K e y E := by
  unfold KV' at h ⊢
  rw [f9]
  exact ⟨h.1, fun p k hp => by rw [f]; exact h.2 p k hp⟩
theorem kfi_at : ∀ {l : gK} {p : Nat} {k : Nat × Nat} {t : Nat}, (∀ p' k', p' < p → l[p']? = some k' → ¬ sN k'.1 t = true) → l[p]? = some k → sN k.1 t = true → kfi sN l t = some (l.length - 1 - p) := by
  intro l
  induction l with
  | nil => intro p k t _ h; exact absurd h (by simp)
  | cons a l ih =>
    intro p k t no hk hs
    cases p with
    | zero =>
      have e1 : a = k := Option.some.inj hk
      show (if sN a.1 t = true then some l.length else kfi sN l t) = _
      rw [e1, if_pos hs]
      rfl
    | succ p =>
      have na := no 0 a (by omega) rfl
      show (if sN a.1 t = true then some l.length else kfi sN l t) = _
      have r := ih (p := p) (k := k) (t := t) (fun p' k' hp' hk' => no (p' + 1) k' (Nat.succ_lt_succ hp') hk') hk hs
      rw [if_neg na, r, List.length_cons]
      congr 1
      omega
theorem kfi_none : ∀ {l : gK} {t : Nat}, (∀ (p : Nat) (k : Nat × Nat), l[p]? = some k → ¬ sN k.1 t = true) → kfi sN l t = none := by
  intro l
  induction l with
  | nil => intro t _; rfl
  | cons a l ih =>
    intro t no
    show (if sN a.1 t = true then some l.length else kfi sN l t) = _
    rw [if_neg (no 0 a rfl), ih (fun p k hk => no (p + 1) k hk)]
theorem take_ex {l : gK} {m : Nat} {P : Nat × Nat → Prop} : (∃ k ∈ l.take m, P k) ↔ ∃ p k, p < m ∧ l[p]? = some k ∧ P k := by
  constructor
  · rintro ⟨k, hk, hp⟩
    obtain ⟨i, hi, e⟩ := List.getElem_of_mem hk
    rw [List.length_take] at hi
    refine ⟨i, k, by omega, ?_, hp⟩
    rw [List.getElem_take] at e
    rw [List.getElem?_eq_getElem (by omega), e]
  · rintro ⟨i, k, hi, hk, hp⟩
    refine ⟨k, List.mem_of_getElem? (i := i) ?_, hp⟩
    rw [List.getElem?_take, if_pos hi]
    exact hk
end KSO
end
section
/-! the search of a local -/
section KSO
variable {G : kG} {q : kP} {d : Nat} {x : gd} {F : Int32 → gd → Prop} {K V : Nat → Int32} {sN : Nat → Nat → Bool} {e : Nat}
theorem kk_dn {i : Int32} (h0 : 0 ≤ i.toInt) (h8 : i.toInt ≤ 8) : (i + (-1)).toInt = i.toInt + (-1) := by rw [t_add (by rw [tm1]; omega) (by rw [tm1]; omega), tm1]
theorem kf_knownFrom {E : gV} (hq : kV q) (hT : kT x) (hK : KN x) (hA : KA K V sN e x) (hE : KV' K e x E) (f t : Int32) (hf : 0 ≤ f.toInt) (ht : tk x t) (hte : t.toNatClampNeg ≤ e) (ht1 : K t.toNatClampNeg = 1) (h : ∀ r : Int32, ((r = -1 ∧ ∀ (p : Nat) (k : Nat × Nat), p < E.1.length - f.toNatClampNeg → E.1[p]? = some k → ¬ sN k.1 t.toNatClampNeg = true) ∨ ∃ n : Nat, r.toInt = n ∧ f.toInt ≤ n ∧ n < E.1.length ∧ kfi sN E.1 t.toNatClampNeg = some n ∧ ∃ (p : Nat) (k : Nat × Nat), p < E.1.length - f.toNatClampNeg ∧ E.1[p]? = some k ∧ sN k.1 t.toNatClampNeg = true) → F r x) : KT G q (d + 1) zk_X7_knownFrom 0 [(0, vr 100), (1, vi f), (2, vi t)] [] x (ri F) := by
  obtain ⟨⟨k0, k8⟩, hk⟩ := hK
  obtain ⟨e9, he⟩ := hE
  have uf := t_cl f
  have loop : ∀ (n p : Nat) (i : Int32), i.toInt + 1 + p = E.1.length → p + n = E.1.length → (∀ p' k', p' < p → E.1[p']? = some k' → ¬ sN k'.1 t.toNatClampNeg = true) → KT G q (d + 1) zk_X7_knownFrom 7 [(0, vr 100), (1, vi f), (2, vi t), (3, vi i)] [] x (ri F) := by
    intro n
    induction n with
    | zero =>
      intro p i hi hp no
      refine kg_X7_knownFrom_7 hq _ _ _ ⟨fun _ => ri_i (h _ (Or.inl ⟨rfl, fun p' k' a b => no p' k' (by omega) b⟩)), fun c => ?_⟩
      exfalso; rw [t_lt] at c; omega
    | succ n ih =>
      intro p i hi hp no
      refine kg_X7_knownFrom_7 hq _ _ _ ⟨fun c => ri_i (h _ (Or.inl ⟨rfl, fun p' k' a b => no p' k' ?_ b⟩)), fun c => ?_⟩
      · rw [t_lt] at c; omega
      rw [t_lt] at c
      have ui := t_cl i
      have f0 : 0 ≤ i.toInt := by omega
      have f8 : i.toInt ≤ 8 := by omega
      have pl : p < E.1.length := by omega
      obtain ⟨k, ek⟩ : ∃ k, E.1[p]? = some k := ⟨_, List.getElem?_eq_getElem pl⟩
      have ei : E.1.length - 1 - p = i.toNatClampNeg := by omega
      have v1 : vp_in i 8 := by rw [vp_in_iff]; omega
      have v2 : ((i.toNatClampNeg : Nat) : Int) < (x.1 100 9).toInt := by omega
      have v3 : i.toInt + (-1) + 1 + ((p + 1 : Nat) : Int) = E.1.length := by omega
      have v4 : i.toInt = ((i.toNatClampNeg : Nat) : Int) ∧ f.toInt ≤ ((i.toNatClampNeg : Nat) : Int) ∧ i.toNatClampNeg < E.1.length ∧ p < E.1.length - f.toNatClampNeg := by omega
      have v5 : p + 1 + n = E.1.length := by omega
      obtain ⟨q1, q2, q3⟩ := he p k ek
      rw [ei] at q1
      refine ⟨v1, kf_sameName hq hT _ _ (hk _ v2) ht (fun r hr => ?_)⟩
      rw [q1, hA.2.2.1 _ _ q3 hte q2 ht1] at hr
      refine ⟨fun c0 => ih (p + 1) _ (by rw [kk_dn f0 f8]; exact v3) v5 (fun p' k' a b => ?_), fun c0 => ri_i (h _ (Or.inr ⟨i.toNatClampNeg, v4.1, v4.2.1, v4.2.2.1, ?_, p, k, v4.2.2.2, ek, hr.mp c0⟩))⟩
      · by_cases cp : p' = p
        · rw [cp, ek] at b
          rw [← Option.some.inj b]
          exact fun z => hr.mpr z c0
        · exact no p' k' (Nat.lt_of_le_of_ne (Nat.le_of_lt_succ a) cp) b
      · rw [kfi_at no ek (hr.mp c0), ei]
  have e1 : (x.1 100 9 - 1).toInt = (x.1 100 9).toInt - 1 := t_sub (by show _ ≤ _ - (1 : Int); omega) (by show _ - (1 : Int) ≤ _; omega)
  exact kg_X7_knownFrom_0 hq _ _ (loop E.1.length 0 _ (by omega) (by omega) (fun p' k' a => absurd a (Nat.not_lt_zero _)))
end KSO
end
section
/-! the class: sums are read -/
def zc (x : gd) : Nat → Nat
  | 0 => 0
  | n + 1 => zc x n + (if x.1 116 n = 0 then 1 else 0)
/-- operators that are held -/
def HI (x : gd) : Prop := (0 ≤ (x.1 100 17).toInt ∧ (x.1 100 17).toInt ≤ 18) ∧ (∀ i : Nat, (i : Int) < (x.1 100 17).toInt → (¬ x.1 115 i = 2 ∧ ¬ x.1 115 i = 6) ∧ 0 ≤ (x.1 116 i).toInt ∧ (i : Int) + 1 ≤ (x.1 117 i).toInt ∧ (x.1 117 i).toInt ≤ 18) ∧ ∀ i j : Nat, i ≤ j → (j : Int) < (x.1 100 17).toInt → (x.1 117 i).toInt ≤ (x.1 117 j).toInt
def hz (x : gd) : Nat := zc x (x.1 100 17).toNatClampNeg
def DL (x : gd) : Prop := ∀ i : Nat, (i : Int) < (x.1 100 17).toInt → (x.1 117 i).toInt ≤ 16
def sSum (c k : Nat) : Prop := c = 42 ∨ (c = 60 ∧ k = 3) ∨ c = 62 ∨ c = 63 ∨ (c = 100 ∧ (k = 4 ∨ k = 17)) ∨ (115 ≤ c ∧ c ≤ 117)
def SM (x y : gd) : Prop := SU y ∧ HI y ∧ La x y ∧ fm sSum x y
section KSU
variable {G : kG} {q : kP} {d : Nat} {x x0 y z : gd} {F : Int32 → gd → Prop} {Fv : gd → Prop} {X : String → gd → Prop} {P : Option gv → gd → Prop} {m : Int}
theorem zc_eq : ∀ n : Nat, (∀ i, i < n → z.1 116 i = y.1 116 i) → zc z n = zc y n := by
  intro n
  induction n with
  | zero => intro _; rfl
  | succ n ih =>
    intro h
    show zc z n + (if z.1 116 n = 0 then 1 else 0) = zc y n + (if y.1 116 n = 0 then 1 else 0)
    rw [ih (fun i hi => h i (by omega)), h n (by omega)]
theorem HI_eq (h : HI y) (e : z.1 100 17 = y.1 100 17) (f : ∀ c k, 115 ≤ c → c ≤ 117 → z.1 c k = y.1 c k) : HI z ∧ hz z = hz y := by
  refine ⟨?_, ?_⟩
  · unfold HI at h ⊢
    rw [e]
    refine ⟨h.1, fun i hi => ?_, fun i j h1 h2 => ?_⟩
    · rw [f 115 i (by omega) (by omega), f 116 i (by omega) (by omega), f 117 i (by omega) (by omega)]; exact h.2.1 i hi
    · rw [f 117 i (by omega) (by omega), f 117 j (by omega) (by omega)]; exact h.2.2 i j h1 h2
  · unfold hz
    rw [e]
    exact zc_eq _ (fun i _ => f 116 i (by omega) (by omega))
theorem sSum_R {c k : Nat} (h : sSum c k) : sR c k := by unfold sSum at h; unfold sR; omega
def dh (x : gd) : Int32 := if x.1 100 17 ≤ 0 then 0 else x.1 117 (x.1 100 17 - 1).toNatClampNeg
theorem dh_is (hH : HI x) : (x.1 100 17).toInt ≤ (dh x).toInt ∧ 0 ≤ (dh x).toInt ∧ (dh x).toInt ≤ 18 ∧ (∀ i : Nat, (i : Int) < (x.1 100 17).toInt → (x.1 117 i).toInt ≤ (dh x).toInt) := by
  obtain ⟨⟨a0, a1⟩, a2, a3⟩ := hH
  have k0 : (0 : Int32).toInt = 0 := rfl
  unfold dh
  by_cases c : x.1 100 17 ≤ 0
  · rw [if_pos c, k0]
    rw [t_le, k0] at c
    exact ⟨by omega, by omega, by omega, fun i hi => by omega⟩
  · rw [if_neg c]
    rw [t_le, k0] at c
    have e1 : (x.1 100 17 - 1).toInt = (x.1 100 17).toInt - 1 := t_sub (by show _ ≤ _ - (1 : Int); omega) (by show _ - (1 : Int) ≤ _; omega)
    have e2 : ((x.1 100 17 - 1).toNatClampNeg : Int) = (x.1 100 17).toInt - 1 := by rw [t_cl, e1]; omega
    have g := a2 _ (show (((x.1 100 17 - 1).toNatClampNeg : Nat) : Int) < _ by omega)
    exact ⟨by omega, by omega, by omega, fun i hi => a3 _ _ (by omega) (by omega)⟩
theorem kp_depthHere (hq : kV q) (hH : HI x) (h : F (dh x) x) : KT G q d zk_X7_depthHere 0 [(0, vr 100)] [] x (ri F) := by
  obtain ⟨⟨a0, a1⟩, a2, a3⟩ := hH
  have k0 : (0 : Int32).toInt = 0 := rfl
  unfold dh at h
  refine kg_X7_depthHere_0 hq ⟨fun c => ri_i ?_, fun c => ⟨?_, ri_i ?_⟩⟩
  · rw [if_pos c] at h; exact h
  · rw [t_le, k0] at c
    have e1 : (x.1 100 17 - 1).toInt = (x.1 100 17).toInt - 1 := t_sub (by show _ ≤ _ - (1 : Int); omega) (by show _ - (1 : Int) ≤ _; omega)
    rw [vp_in_iff]; omega
  · rw [if_neg c] at h; exact h
theorem SM_rf (hS : SU x) (hH : HI x) : SM x x := ⟨hS, hH, La_rf, fm_rf _ _⟩
theorem SM_tr (a : SM x y) (b : SM y z) : SM x z := ⟨b.1, b.2.1, La_tr a.2.2.1 b.2.2.1, fm_tr a.2.2.2 b.2.2.2⟩
theorem SM_hold (a : SM x y) (f : fm (fun c k => (c = 100 ∧ k = 17) ∨ (115 ≤ c ∧ c ≤ 117)) y z) (hH : HI z) : SM x z ∧ (FR y → FR z) ∧ z.1 100 4 = y.1 100 4 := by
  have q4 : z.1 100 4 = y.1 100 4 := f _ _ (by omega)
  have la : La y z := ⟨fun c k q1 q2 => f c k (by omega), by unfold nx; rw [q4]; exact Int.le_refl _, fun j _ => f 42 j (by omega)⟩
  have S : SU z := by
    obtain ⟨⟨hT, b1, b2, b3⟩, ⟨u1, u2⟩, hp, hP⟩ := a.1
    have q7 : z.1 20 7 = y.1 20 7 := f _ _ (by omega)
    have q3 : z.1 60 3 = y.1 60 3 := f _ _ (by omega)
    unfold SU SV US RB nx mt
    rw [q4, q7, q3]
    refine ⟨⟨kT_fm hT la.1, b1, b2, b3⟩, ⟨fun j h1 h2 => ?_, fun j h1 h2 => ?_⟩, hp, fun i hi => La_PQ la (f _ _ (by omega)) (f _ _ (by omega)) (hP i hi)⟩
    · rw [f 42 j (by omega)]; exact u1 j h1 h2
    · rw [f 42 j (by omega)] at h2; rw [f 42 _ (by omega)]; exact u2 j h1 h2
  refine ⟨SM_tr a ⟨S, hH, la, fm_w f (fun c k q => by unfold sSum; omega)⟩, fun hF => ?_, q4⟩
  unfold FR at hF ⊢
  rw [q4, f 42 _ (by omega)]; exact hF
theorem SM_pass (a : SM x y) (f : fm (fun c k => c = 100 ∧ k = 4) y z) (hS : SV z (y.1 60 3).toInt) (hl : La y z) : SM x z ∧ hz z = hz y := by
  obtain ⟨g1, g2⟩ := HI_eq (z := z) a.2.1 (f _ _ (by omega)) (fun c k q1 q2 => f c k (by omega))
  refine ⟨SM_tr a ⟨?_, g1, hl, fm_w f (fun c k q => by unfold sSum; omega)⟩, g2⟩
  unfold SU
  rw [f 60 3 (by omega)]; exact hS
theorem FR_12 (h : FR x) : ¬ x.1 42 (x.1 100 4).toNatClampNeg = 12 := by unfold FR at h; rw [h]; decide
theorem zc_le : ∀ n : Nat, zc x n ≤ n := by
  intro n
  induction n with
  | zero => exact Nat.le_refl _
  | succ n ih =>
    show zc x n + (if x.1 116 n = 0 then 1 else 0) ≤ n + 1
    split <;> omega
theorem SM_rel (a : SM x y) (f : fm (fun c k => (c = 100 ∧ k = 17) ∨ (c = 60 ∧ k = 3) ∨ c = 62 ∨ c = 63) y z) (hS : SU z) (hH : HI z) : SM x z ∧ (FR y → FR z) ∧ z.1 100 4 = y.1 100 4 := by
  have q4 : z.1 100 4 = y.1 100 4 := f _ _ (by omega)
  refine ⟨SM_tr a ⟨hS, hH, ⟨fun c k q1 q2 => f c k (by omega), by unfold nx; rw [q4]; exact Int.le_refl _, fun j _ => f 42 j (by omega)⟩, fm_w f (fun c k q => by unfold sSum; omega)⟩, fun hF => ?_, q4⟩
  unfold FR at hF ⊢
  rw [q4, f 42 _ (by omega)]; exact hF
theorem KN_fm (h : KN x) (e : y.1 100 9 = x.1 100 9) (e7 : y.1 20 7 = x.1 20 7) (f : ∀ k, y.1 109 k = x.1 109 k) : KN y := by
  unfold KN tk at h ⊢
  rw [e, e7]
  exact ⟨h.1, fun i hi => by rw [f i]; exact h.2 i hi⟩
end KSU
end
section
/-! the class: the parts of sums, as the events say them -/
/-- what is told at an operator's end -/
def opE (M : gU) : Prop := ∀ v ∈ M, v.1 = 50 ∨ v.1 = 51
theorem opE_nil : opE [] := fun _ h => by cases h
theorem opE_app {M N : gU} (h : opE M) (g : opE N) : opE (M ++ N) := fun v hv => (List.mem_append.mp hv).elim (h v) (g v)
theorem opE_one {v : Nat × Nat × Nat} (h : v.1 = 50 ∨ v.1 = 51) : opE [v] := fun w hw => by rw [List.mem_singleton.mp hw]; exact h
theorem pst_c {k : Int32} (h : ∀ w ∈ [(30 : Int32), 12, 51, 52, 53, 54, 55, 56, 57, 58, 59, 60, 28], ¬ k = w) : pst k = 0 := by
  have lo : ¬ (51 ≤ k ∧ k ≤ 56) := by
    rintro ⟨a, b⟩
    rw [t_le] at a b
    have k51 : (51 : Int32).toInt = 51 := rfl
    have k52 : (52 : Int32).toInt = 52 := rfl
    have k53 : (53 : Int32).toInt = 53 := rfl
    have k54 : (54 : Int32).toInt = 54 := rfl
    have k55 : (55 : Int32).toInt = 55 := rfl
    have k56 : (56 : Int32).toInt = 56 := rfl
    have h1 := h 51 (by decide)
    have h2 := h 52 (by decide)
    have h3 := h 53 (by decide)
    have h4 := h 54 (by decide)
    have h5 := h 55 (by decide)
    have h6 := h 56 (by decide)
    rw [t_eq] at h1 h2 h3 h4 h5 h6
    omega
  unfold pst
  rw [if_neg (h 30 (by decide)), if_neg (h 12 (by decide)), if_neg lo, if_neg (fun c => c.elim (h 57 (by decide)) (h 58 (by decide))), if_neg (fun c => c.elim (h 59 (by decide)) (fun c => c.elim (h 60 (by decide)) (h 28 (by decide))))]
/-- the class's number of a kind that is a word or a sign -/
def kcv (k : Int32) : Int32 := if k < 50 then k + 30 else k - 40
/-- what an operator is in a sum -/
def oP (K : Nat → Int32) (v : Nat × Nat × Nat) : Int32 := if v.1 = 50 then (if K v.2.1 = 29 then 5 else 4) else kcv (K v.2.1)
def oPs (K : Nat → Int32) (M : gU) : List (Int32 × Int32) := M.map (fun v => (oP K v, 0))
def cPt (sN : Nat → Nat → Bool) (V K : Nat → Int32) (E : gV) (v : Nat × Nat × Nat) : Option (Int32 × Int32) :=
  if v.1 = 50 ∨ v.1 = 51 then some (oP K v, 0)
  else if v.1 = 52 then some (1, V v.2.1)
  else if v.1 = 53 then some (3, 0)
  else if v.1 = 3 then some (2, match kfi sN E.1 v.2.1 with | some p => Int32.ofNat p | none => -1)
  else if v.1 = 6 ∨ v.1 = 7 then (if E.2.1 = [] then some (6, Int32.ofNat v.2.1) else none)
  else if v.1 = 54 then some (0, 0)
  else none
def sPs (sN : Nat → Nat → Bool) (V K : Nat → Int32) (E : gV) (M : gU) : List (Int32 × Int32) := M.filterMap (cPt sN V K E)
/-- the parts written so far: no more than 800 have room -/
def PR (x : gd) (P : List (Int32 × Int32)) : Prop := (x.1 60 3).toInt = (min P.length 800 : Nat) ∧ ∀ i q, i < 800 → P[i]? = some q → x.1 62 i = q.1 ∧ x.1 63 i = q.2
/-- from x to y the parts Q were added -/
def CPl (x y : gd) (Q : List (Int32 × Int32)) : Prop := ∀ P, PR x P → PR y (P ++ Q)
/-- the operators held, as parts -/
def HP (K : Nat → Int32) (x : gd) : Nat → gH → Prop
  | 0, _ => True
  | n + 1, s => match s with
    | [] => True
    | z :: s' => (¬ z.1 = 0 → x.1 115 n = oP K z.2.2) ∧ HP K x n s'
section CPS
variable {sN : Nat → Nat → Bool} {V K : Nat → Int32} {E : gV} {x y z w : gd} {M N : gU} {P Q : List (Int32 × Int32)}
theorem sPs_app : sPs sN V K E (M ++ N) = sPs sN V K E M ++ sPs sN V K E N := List.filterMap_append
theorem sPs_op (h : opE M) : sPs sN V K E M = oPs K M := by
  induction M with
  | nil => rfl
  | cons v M ih =>
    have e : cPt sN V K E v = some (oP K v, 0) := if_pos (h v List.mem_cons_self)
    show (v :: M).filterMap (cPt sN V K E) = _
    rw [List.filterMap_cons, e]
    show _ :: sPs sN V K E M = _ :: _
    rw [ih (fun w hw => h w (List.mem_cons_of_mem _ hw))]
    rfl
theorem oPs_app : oPs K (M ++ N) = oPs K M ++ oPs K N := List.map_append
theorem CPl_rf : CPl x x [] := fun P h => by rw [List.append_nil]; exact h
theorem CPl_st (h : CPl x y P) (e3 : z.1 60 3 = y.1 60 3) (e : ∀ k, z.1 62 k = y.1 62 k ∧ z.1 63 k = y.1 63 k) : CPl x z P := fun P0 h0 => by
  obtain ⟨h1, h2⟩ := h P0 h0
  exact ⟨by rw [e3]; exact h1, fun i q hi hq => ⟨(e i).1.trans (h2 i q hi hq).1, (e i).2.trans (h2 i q hi hq).2⟩⟩
theorem CPl_app (h : CPl x y P) (g : CPl y z Q) : CPl x z (P ++ Q) := fun P0 h0 => by
  rw [← List.append_assoc]
  exact g _ (h P0 h0)
theorem HP_eq : ∀ {n : Nat} {s : gH}, (∀ k, k < n → y.1 115 k = x.1 115 k) → HP K x n s → HP K y n s := by
  intro n
  induction n with
  | zero => intro s _ _; trivial
  | succ n ih =>
    intro s e h
    cases s with
    | nil => trivial
    | cons z s' => exact ⟨fun q => by rw [e n (Nat.lt_succ_self _)]; exact h.1 q, ih (fun k hk => e k (Nat.lt_succ_of_lt hk)) h.2⟩
theorem kcv_is {s k : Int32} (hk : kc s = k) (h : ¬ pst k = 0) : kcv k = s := by
  have key : ∀ w ∈ [(30 : Int32), 12, 51, 52, 53, 54, 55, 56, 57, 58, 59, 60, 28], kc (kcv w) = w ∧ ¬ kc (kcv w) = -1 := by decide
  have hw : k ∈ [(30 : Int32), 12, 51, 52, 53, 54, 55, 56, 57, 58, 59, 60, 28] := by
    apply Classical.byContradiction
    intro c
    exact h (pst_c (fun w hw e => c (by rw [e]; exact hw)))
  obtain ⟨a, b⟩ := key k hw
  exact (kc_i (hk.trans a.symm) b).symm
end CPS
section CPA
variable {G : kG} {q : kP} {d : Nat} {x y : gd} {Fv : gd → Prop}
theorem kf_addPart (hq : kV q) (p a : Int32) (hp : 0 ≤ (x.1 60 3).toInt ∧ (x.1 60 3).toInt ≤ 800) (h : ∀ y, AP x y p a → CPl x y [(p, a)] → Fv y) : KT G q d zk_X0_addPart 0 [(0, vr 60), (1, vi p), (2, vi a)] [] x (rv Fv) := by
  have k8 : (800 : Int32).toInt = 800 := rfl
  refine kg_X0_addPart_0 hq _ _ ⟨fun c => rv_i (h x ⟨fm_rf _ _, hp, Int.le_refl _, fun _ _ => ⟨rfl, rfl⟩, fun i hi => Or.inl hi⟩ (fun P hP => ?_)), fun c => ?_⟩
  · rw [t_le, k8] at c
    obtain ⟨h1, h2⟩ := hP
    refine ⟨by rw [List.length_append]; show _ = ((min (P.length + 1) 800 : Nat) : Int); omega, fun i r hi hr => h2 i r hi ?_⟩
    rw [List.getElem?_append_left (by omega)] at hr
    exact hr
  rw [t_le, k8] at c
  have vin : vp_in (x.1 60 3) 800 := by rw [vp_in_iff]; omega
  refine ⟨vin, fun x3 e3 => ?_⟩
  have f3 : x3.1 60 3 = x.1 60 3 := by rw [e3]; (simp only [si_get, sfl_get, Nat.reduceEqDiff, eq_self, and_false, false_and, and_true, true_and, if_true, if_false, reduceIte, reduceCtorEq])
  refine ⟨by rw [f3]; exact vin, fun x5 e5 y ey => ?_⟩
  rw [f3] at e5
  have f5 : x5.1 60 3 = x.1 60 3 := by rw [e5, ← f3]; (simp only [si_get, sfl_get, Nat.reduceEqDiff, eq_self, and_false, false_and, and_true, true_and, if_true, if_false, reduceIte, reduceCtorEq])
  rw [f5] at ey
  have fy : y.1 60 3 = x.1 60 3 + 1 := by rw [ey]; (simp only [si_get, sfl_get, Nat.reduceEqDiff, eq_self, and_false, false_and, and_true, true_and, if_true, if_false, reduceIte, reduceCtorEq])
  have ty : (y.1 60 3).toInt = (x.1 60 3).toInt + 1 := by rw [fy, t_add (by show _ ≤ _ + (1 : Int); omega) (by show _ + (1 : Int) ≤ _; omega)]; rfl
  have eN : ((x.1 60 3).toNatClampNeg : Int) = (x.1 60 3).toInt := by rw [t_cl]; omega
  have lo : ∀ i : Nat, (i : Int) < (x.1 60 3).toInt → y.1 62 i = x.1 62 i ∧ y.1 63 i = x.1 63 i := fun i hi => by
    refine ⟨?_, ?_⟩
    · rw [ey, e5, e3, si_get, if_neg (by omega), si_get, if_neg (by omega), si_get, if_neg (by omega)]
    · rw [ey, e5, e3, si_get, if_neg (by omega), si_get, if_neg (by omega), si_get, if_neg (by omega)]
  have a2 : y.1 62 (x.1 60 3).toNatClampNeg = p := by rw [ey, e5, e3]; (simp only [si_get, sfl_get, Nat.reduceEqDiff, eq_self, and_false, false_and, and_true, true_and, if_true, if_false, reduceIte, reduceCtorEq])
  have a3 : y.1 63 (x.1 60 3).toNatClampNeg = a := by rw [ey, e5, e3]; (simp only [si_get, sfl_get, Nat.reduceEqDiff, eq_self, and_false, false_and, and_true, true_and, if_true, if_false, reduceIte, reduceCtorEq])
  refine rv_i (h y ⟨?_, by omega, by omega, lo, fun i hi => ?_⟩ (fun P hP => ?_))
  · rw [ey, e5, e3]; exact fm_si (fm_si (fm_si (fm_rf _ _) (Or.inr (Or.inl rfl))) (Or.inr (Or.inr rfl))) (Or.inl ⟨rfl, rfl⟩)
  · by_cases hi2 : (i : Int) < (x.1 60 3).toInt
    · exact Or.inl hi2
    · have : i = (x.1 60 3).toNatClampNeg := by omega
      subst this
      exact Or.inr ⟨a2, a3⟩
  · obtain ⟨h1, h2⟩ := hP
    refine ⟨by rw [List.length_append]; show _ = ((min (P.length + 1) 800 : Nat) : Int); omega, fun i r hi hr => ?_⟩
    by_cases ci : i < P.length
    · rw [List.getElem?_append_left ci] at hr
      have b := lo i (by omega)
      have b2 := h2 i r hi hr
      exact ⟨b.1.trans b2.1, b.2.trans b2.2⟩
    · have hlt := gt_lt hr
      rw [List.length_append] at hlt
      have hlt : i < P.length + 1 := hlt
      have ei : i = P.length := by omega
      rw [ei, List.getElem?_append_right (Nat.le_refl _), Nat.sub_self] at hr
      have hr : (p, a) = r := Option.some.inj hr
      have en : i = (x.1 60 3).toNatClampNeg := by omega
      rw [en, a2, a3, ← hr]
      exact ⟨rfl, rfl⟩
end CPA
end
section
/-! the class: sums are read as the grammar says -/
theorem opE_dull {v : Nat × Nat × Nat} (h : v.1 = 50 ∨ v.1 = 51) : dull v := by
  intro k hk c
  rw [c] at h
  rcases h with rfl | rfl <;> exact absurd hk (by decide)
theorem UR_op {sN : Nat → Nat → Bool} {E : gV} {x y : gd} : ∀ {N M : gU}, UR sN E x y M → opE N → UR sN E x y (M ++ N) := by
  intro N
  induction N with
  | nil => intro M h _; rw [List.append_nil]; exact h
  | cons v N ih =>
    intro M h g
    have := ih (UR_dull h (opE_dull (g v List.mem_cons_self))) (fun w hw => g w (List.mem_cons_of_mem _ hw))
    rw [List.append_assoc] at this
    exact this
/-- the operators held, as the grammar's stack -/
def HD (x : gd) : Nat → gH → Prop
  | 0, s => s = []
  | n + 1, s => ∃ a r v s', s = (a, r, v) :: s' ∧ ((x.1 117 n).toNatClampNeg + r = 17 ∨ (17 ≤ (x.1 117 n).toNatClampNeg ∧ r = 0)) ∧ ((x.1 116 n).toInt = (a : Nat) ∨ ((x.1 116 n).toInt = 6 ∧ a = 5)) ∧ (a ≤ 5 ∧ (n = 0 → a = 0)) ∧ (v.1 = 50 ∨ v.1 = 51) ∧ HD x n s'
theorem HD_eq {x y : gd} : ∀ {n : Nat} {s : gH}, (∀ k, k < n → y.1 116 k = x.1 116 k ∧ y.1 117 k = x.1 117 k) → HD x n s → HD y n s := by
  intro n
  induction n with
  | zero => intro s _ h; exact h
  | succ n ih =>
    intro s e h
    obtain ⟨a, r, v, s', h1, h2, h3, h4, h5, h6⟩ := h
    obtain ⟨e1, e2⟩ := e n (Nat.lt_succ_self _)
    exact ⟨a, r, v, s', h1, by rw [e2]; exact h2, by rw [e1]; exact h3, h4, h5, ih (fun k hk => e k (Nat.lt_succ_of_lt hk)) h6⟩
/-- how many parentheses -/
def zs : gH → Nat
  | [] => 0
  | z :: s => zs s + (if z.1 = 0 then 1 else 0)
theorem HD_zs {x : gd} : ∀ {n : Nat} {s : gH}, HD x n s → zc x n = zs s := by
  intro n
  induction n with
  | zero => intro s h; have h : s = [] := h; rw [h]; rfl
  | succ n ih =>
    intro s h
    obtain ⟨a, r, v, s', h1, h2, h3, h4, h5, h6⟩ := h
    rw [h1]
    show zc x n + (if x.1 116 n = 0 then 1 else 0) = zs s' + (if a = 0 then 1 else 0)
    rw [ih h6]
    have k0 : (0 : Int32).toInt = 0 := rfl
    congr 1
    by_cases c : a = 0
    · rw [if_pos c, if_pos]
      rw [t_eq, k0]; omega
    · rw [if_neg c, if_neg]
      rw [t_eq, k0]; omega
theorem HD_b {x : gd} : ∀ {n : Nat} {s : gH}, HD x (n + 1) s → 1 ≤ zs s := by
  intro n
  induction n with
  | zero =>
    intro s h
    obtain ⟨a, r, v, s', h1, h2, h3, h4, h5, h6⟩ := h
    rw [h1]
    show 1 ≤ zs s' + (if a = 0 then 1 else 0)
    rw [if_pos (h4.2 rfl)]; omega
  | succ n ih =>
    intro s h
    obtain ⟨a, r, v, s', h1, h2, h3, h4, h5, h6⟩ := h
    rw [h1]
    show 1 ≤ zs s' + (if a = 0 then 1 else 0)
    have := ih h6
    omega
theorem dW_stuck {K : Nat → Int32} {o : Bool} {j : Nat} (h : pst (K j) = 0) (hn : ¬ (K j = 62 ∧ j < 700)) : ∀ {s : gH} {L : gU}, 2 ≤ zs s → dW K o s j L = none := by
  intro s
  induction s with
  | nil => intro L h2; exact absurd h2 (by decide)
  | cons z s ih =>
    intro L h2
    obtain ⟨a, r, v⟩ := z
    have h2 : 2 ≤ zs s + (if a = 0 then 1 else 0) := h2
    cases s with
    | nil =>
      exfalso
      have : zs ([] : gH) = 0 := rfl
      rw [this] at h2
      split at h2 <;> omega
    | cons y s =>
      by_cases c : a = 0
      · subst c
        rw [dW_par h, if_neg hn]
      · rw [if_neg c] at h2
        rw [dW_pop c (by omega)]
        exact ih h2
section KSF
variable {G : kG} {q : kP} {d : Nat} {x x0 y z : gd} {F : Int32 → gd → Prop} {Fv : gd → Prop} {X : String → gd → Prop} {P : Option gv → gd → Prop} {m : Int}
theorem kf_hold (hq : kV q) (p s t : Int32) (hH : HI x) (hp : ¬ p = 2 ∧ ¬ p = 6) (hs : 0 ≤ s.toInt) (h1 : (x.1 100 17).toInt + 1 ≤ t.toInt) (h2 : t.toInt ≤ 18) (h3 : ∀ i : Nat, (i : Int) < (x.1 100 17).toInt → (x.1 117 i).toInt ≤ t.toInt) (h : ∀ y, fm (fun c k => (c = 100 ∧ k = 17) ∨ (115 ≤ c ∧ c ≤ 117)) x y → HI y → hz y = hz x + (if s = 0 then 1 else 0) → (y.1 100 17).toInt = (x.1 100 17).toInt + 1 → y.1 116 (x.1 100 17).toNatClampNeg = s → y.1 117 (x.1 100 17).toNatClampNeg = t → (∀ k, k < (x.1 100 17).toNatClampNeg → y.1 116 k = x.1 116 k ∧ y.1 117 k = x.1 117 k) → y.1 115 (x.1 100 17).toNatClampNeg = p → (∀ k, k < (x.1 100 17).toNatClampNeg → y.1 115 k = x.1 115 k) → Fv y) : KT G q d zk_X7_hold 0 [(0, vr 100), (1, vi p), (2, vi s), (3, vi t)] [] x (rv Fv) := by
  obtain ⟨⟨a0, a1⟩, a2, a3⟩ := hH
  have k20 : (20 : Int32).toInt = 20 := rfl
  have eN : ((x.1 100 17).toNatClampNeg : Int) = (x.1 100 17).toInt := by rw [t_cl]; omega
  have vin : vp_in (x.1 100 17) 20 := by rw [vp_in_iff]; omega
  refine kg_X7_hold_0 hq _ _ _ ⟨fun c => ?_, fun c => ⟨vin, fun x3 e3 => ?_⟩⟩
  · exfalso; rw [t_le, k20] at c; omega
  have f3 : x3.1 100 17 = x.1 100 17 := by rw [e3]; (simp only [si_get, sfl_get, Nat.reduceEqDiff, eq_self, and_false, false_and, and_true, true_and, if_true, if_false, reduceIte, reduceCtorEq])
  refine ⟨by rw [f3]; exact vin, fun x5 e5 => ?_⟩
  rw [f3] at e5
  have f5 : x5.1 100 17 = x.1 100 17 := by rw [e5, ← f3]; (simp only [si_get, sfl_get, Nat.reduceEqDiff, eq_self, and_false, false_and, and_true, true_and, if_true, if_false, reduceIte, reduceCtorEq])
  refine ⟨by rw [f5]; exact vin, fun x7 e7 y ey => rv_i (h y ?_ ?_ ?_ ?_ ?_ ?_ ?_ ?_ ?_)⟩
  · rw [ey, e7, e5, e3]
    exact fm_si (fm_si (fm_si (fm_si (fm_rf _ _) (Or.inr (by omega))) (Or.inr (by omega))) (Or.inr (by omega))) (Or.inl ⟨rfl, rfl⟩)
  all_goals
    rw [f5] at e7
    have f7 : x7.1 100 17 = x.1 100 17 := by rw [e7, ← f5]; (simp only [si_get, sfl_get, Nat.reduceEqDiff, eq_self, and_false, false_and, and_true, true_and, if_true, if_false, reduceIte, reduceCtorEq])
    rw [f7] at ey
    have fy : y.1 100 17 = x.1 100 17 + 1 := by rw [ey]; (simp only [si_get, sfl_get, Nat.reduceEqDiff, eq_self, and_false, false_and, and_true, true_and, if_true, if_false, reduceIte, reduceCtorEq])
    have ty : (y.1 100 17).toInt = (x.1 100 17).toInt + 1 := by rw [fy, t_add (by show _ ≤ _ + (1 : Int); omega) (by show _ + (1 : Int) ≤ _; omega)]; rfl
    have g : ∀ c k, 115 ≤ c → c ≤ 117 → k ≠ (x.1 100 17).toNatClampNeg → y.1 c k = x.1 c k := by
      intro c k c1 c2 hk
      rw [ey, e7, e5, e3, si_get, if_neg (by omega), si_get, if_neg (fun q => hk q.2), si_get, if_neg (fun q => hk q.2), si_get, if_neg (fun q => hk q.2)]
    have g5 : y.1 115 (x.1 100 17).toNatClampNeg = p := by rw [ey, e7, e5, e3]; (simp only [si_get, sfl_get, Nat.reduceEqDiff, eq_self, and_false, false_and, and_true, true_and, if_true, if_false, reduceIte, reduceCtorEq])
    have g6 : y.1 116 (x.1 100 17).toNatClampNeg = s := by rw [ey, e7, e5, e3]; (simp only [si_get, sfl_get, Nat.reduceEqDiff, eq_self, and_false, false_and, and_true, true_and, if_true, if_false, reduceIte, reduceCtorEq])
    have g7 : y.1 117 (x.1 100 17).toNatClampNeg = t := by rw [ey, e7, e5, e3]; (simp only [si_get, sfl_get, Nat.reduceEqDiff, eq_self, and_false, false_and, and_true, true_and, if_true, if_false, reduceIte, reduceCtorEq])
  · refine ⟨by omega, fun i hi => ?_, fun i j hij hj => ?_⟩
    · by_cases hi2 : i = (x.1 100 17).toNatClampNeg
      · subst hi2
        rw [g5, g6, g7]
        exact ⟨hp, hs, by omega, h2⟩
      · rw [g 115 i (by omega) (by omega) hi2, g 116 i (by omega) (by omega) hi2, g 117 i (by omega) (by omega) hi2]
        exact a2 i (by omega)
    · by_cases hj2 : j = (x.1 100 17).toNatClampNeg
      · by_cases hi2 : i = (x.1 100 17).toNatClampNeg
        · rw [hi2, hj2]; exact Int.le_refl _
        · rw [hj2, g7, g 117 i (by omega) (by omega) hi2]; exact h3 i (by omega)
      · rw [g 117 i (by omega) (by omega) (by omega), g 117 j (by omega) (by omega) hj2]; exact a3 i j hij (by omega)
  · unfold hz
    have : (y.1 100 17).toNatClampNeg = (x.1 100 17).toNatClampNeg + 1 := by
      have : ((y.1 100 17).toNatClampNeg : Int) = (y.1 100 17).toInt := by rw [t_cl]; omega
      omega
    rw [this]
    show zc y _ + (if y.1 116 _ = 0 then 1 else 0) = _
    rw [g6, zc_eq (z := y) (y := x) _ (fun i hi => g 116 i (by omega) (by omega) (by omega))]
  · exact ty
  · exact g6
  · exact g7
  · exact fun k hk => ⟨g 116 k (by omega) (by omega) (by omega), g 117 k (by omega) (by omega) (by omega)⟩
  · exact g5
  · exact fun k hk => g 115 k (by omega) (by omega) (by omega)
theorem kf_beginsSum (hq : kV q) (s : Int32) (o : Bool) (ho : o = true ↔ x.1 100 5 = 0) (h : ∀ r : Int32, (¬ r = 0 ↔ s = 3 ∨ s = 2 ∨ s = 21 ∨ s = 59 ∨ s = 18 ∨ (s = 62 ∧ o = false)) → F r x) : KT G q d zk_X7_beginsSum 0 [(0, vr 100), (1, vi s)] [] x (ri F) := by
  have yes : ∀ r : Int32, r = 1 → (s = 3 ∨ s = 2 ∨ s = 21 ∨ s = 59 ∨ s = 18 ∨ (s = 62 ∧ o = false)) → F r x := fun r e c => h r ⟨fun _ => c, fun _ => by rw [e]; decide⟩
  refine kg_X7_beginsSum_0 hq _ ⟨fun c => ri_i (yes _ rfl (Or.inl c)), fun n1 => ⟨fun c => ri_i (yes _ rfl (Or.inr (Or.inl c))), fun n2 => ⟨fun c => ri_i (yes _ rfl (Or.inr (Or.inr (Or.inl c)))), fun n3 => ⟨fun c => ri_i (yes _ rfl (Or.inr (Or.inr (Or.inr (Or.inl c))))), fun n4 => ⟨fun c => ri_i (yes _ rfl (Or.inr (Or.inr (Or.inr (Or.inr (Or.inl c)))))), fun n5 => ⟨fun n6 => ri_i (h _ ⟨fun z => absurd rfl z, fun z => ?_⟩), fun c => ⟨fun c5 => ri_i (h _ ⟨fun z => absurd rfl z, fun z => ?_⟩), fun c5 => ri_i (yes _ rfl (Or.inr (Or.inr (Or.inr (Or.inr (Or.inr ⟨c, ?_⟩))))))⟩⟩⟩⟩⟩⟩⟩
  · rcases z with z | z | z | z | z | z
    · exact absurd z n1
    · exact absurd z n2
    · exact absurd z n3
    · exact absurd z n4
    · exact absurd z n5
    · exact absurd z.1 n6
  · rcases z with z | z | z | z | z | z
    · exact absurd z n1
    · exact absurd z n2
    · exact absurd z n3
    · exact absurd z n4
    · exact absurd z n5
    · have := ho.mpr c5
      rw [z.2] at this
      exact absurd this (by decide)
  · cases o with
    | false => rfl
    | true => exact absurd (ho.mp rfl) c5
theorem kf_strengthOf (hq : kV q) (s k : Int32) (hk : kc s = k) (h : ∀ r : Int32, r.toInt = (pst k : Nat) → (¬ r = 0 → (1 ≤ r.toInt ∧ r.toInt ≤ 5) ∧ ¬ s = 2 ∧ ¬ s = 6 ∧ ¬ s = 0) → F r x) : KT G q d zk_X7_strengthOf 0 [(0, vi s)] [] x (ri F) := by
  refine kg_X7_strengthOf_0 hq _ ⟨fun c => ri_i (h _ ?_ (fun _ => ⟨by decide, ?_⟩)), fun c => ri_i (h _ ?_ (fun _ => ⟨by decide, ?_⟩)), fun c => ri_i (h _ ?_ (fun _ => ⟨by decide, ?_⟩)), fun c => ri_i (h _ ?_ (fun _ => ⟨by decide, ?_⟩)), fun c => ri_i (h _ ?_ (fun _ => ⟨by decide, ?_⟩)), fun c => ri_i (h _ ?_ (fun q => absurd rfl q))⟩
  · rw [← hk, c]; decide
  · rw [c]; decide
  · rw [← hk, c]; decide
  · rw [c]; decide
  · rcases c with e | e | e | e | e | e <;> rw [← hk, e] <;> decide
  · rcases c with e | e | e | e | e | e <;> rw [e] <;> decide
  · rcases c with e | e <;> rw [← hk, e] <;> decide
  · rcases c with e | e <;> rw [e] <;> decide
  · rcases c with e | e | e <;> rw [← hk, e] <;> decide
  · rcases c with e | e | e <;> rw [e] <;> decide
  · have kn : ∀ w ∈ [(60 : Int32), 42, 11, 12, 13, 14, 15, 16, 17, 18, 19, 20, 58], ¬ kc w = -1 := by decide
    have no : ∀ w ∈ [(60 : Int32), 42, 11, 12, 13, 14, 15, 16, 17, 18, 19, 20, 58], ¬ k = kc w := fun w hw e => c w hw (kc_i (hk.trans e) (kn w hw))
    have : pst k = 0 := pst_c (fun w hw => by
      rcases (by simpa using hw : w = 30 ∨ w = 12 ∨ w = 51 ∨ w = 52 ∨ w = 53 ∨ w = 54 ∨ w = 55 ∨ w = 56 ∨ w = 57 ∨ w = 58 ∨ w = 59 ∨ w = 60 ∨ w = 28) with e | e | e | e | e | e | e | e | e | e | e | e | e <;> rw [e]
      · exact no 60 (by decide)
      · exact no 42 (by decide)
      · exact no 11 (by decide)
      · exact no 12 (by decide)
      · exact no 13 (by decide)
      · exact no 14 (by decide)
      · exact no 15 (by decide)
      · exact no 16 (by decide)
      · exact no 17 (by decide)
      · exact no 18 (by decide)
      · exact no 19 (by decide)
      · exact no 20 (by decide)
      · exact no 58 (by decide))
    rw [this]
    decide
theorem kf_release (hq : kV q) (s : Int32) (hs : 1 ≤ s.toInt) (hs5 : s.toInt ≤ 5) (K : Nat → Int32) (o : Bool) (j : Nat) (st : gH) (L : gU) (hst : HD x (x.1 100 17).toNatClampNeg st) (hhp : HP K x (x.1 100 17).toNatClampNeg st) (hj : (pst (K j) : Int) ≤ s.toInt) (h2 : 1 ≤ hz x) (hS : SU x) (hH : HI x) (h : ∀ y, fm (fun c k => (c = 100 ∧ k = 17) ∨ (c = 60 ∧ k = 3) ∨ c = 62 ∨ c = 63) x y → SU y → HI y → hz y = hz x → (y.1 100 17).toInt ≤ (x.1 100 17).toInt → ((y.1 100 17).toInt = 0 ∨ (y.1 116 ((y.1 100 17).toInt.toNat - 1)).toInt < s.toInt) → (∀ k, y.1 116 k = x.1 116 k ∧ y.1 117 k = x.1 117 k) → ∀ a r v s' M, HD y (y.1 100 17).toNatClampNeg ((a, r, v) :: s') → (a : Int) < s.toInt → opE M → dW K o st j L = dW K o ((a, r, v) :: s') j (L ++ M) → HP K y (y.1 100 17).toNatClampNeg ((a, r, v) :: s') → CPl x y (oPs K M) → (∀ k, y.1 115 k = x.1 115 k) → Fv y) : KT G q (d + 1) zk_X7_release 0 [(0, vr 100), (1, vi s)] [] x (rv Fv) := by
  have k0 : (0 : Int32).toInt = 0 := rfl
  have k20 : (20 : Int32).toInt = 20 := rfl
  have loop : ∀ (n : Nat) (k : Int32) (y : gd) (sy : gH) (M : gU), HD y (y.1 100 17).toNatClampNeg sy → opE M → dW K o st j L = dW K o sy j (L ++ M) → HP K y (y.1 100 17).toNatClampNeg sy → CPl x y (oPs K M) → (∀ k, y.1 115 k = x.1 115 k) → (∀ k, y.1 116 k = x.1 116 k ∧ y.1 117 k = x.1 117 k) → fm (fun c k => (c = 100 ∧ k = 17) ∨ (c = 60 ∧ k = 3) ∨ c = 62 ∨ c = 63) x y → SU y → HI y → hz y = hz x → (y.1 100 17).toInt ≤ (x.1 100 17).toInt → (y.1 100 17).toInt ≤ n → 0 ≤ k.toInt → k.toInt + (y.1 100 17).toInt ≤ 18 → KT G q (d + 1) zk_X7_release 2 [(0, vr 100), (1, vi s), (2, vi k)] [] y (rv Fv) := by
    intro n
    induction n with
    | zero =>
      intro k y sy M hHD hM hdW hHP hCP h115 hsa hf hSy hHy hzy hle hn k0' kk
      have a0 := hHy.1.1
      refine kg_X7_release_2 hq _ _ ⟨fun c => ?_, fun c => ⟨fun c2 => ?_, fun c2 => ?_⟩⟩
      · exfalso; rw [t_le, k20] at c; omega
      · exfalso
        have e0 : (y.1 100 17).toNatClampNeg = 0 := by rw [t_cl]; omega
        unfold hz at hzy
        rw [e0] at hzy
        have : zc y 0 = 0 := rfl
        unfold hz at h2
        omega
      · exfalso; rw [t_le, k0] at c2; omega
    | succ n ih =>
      intro k y sy M hHD hM hdW hHP hCP h115 hsa hf hSy hHy hzy hle hn k0' kk
      obtain ⟨⟨a0, a1⟩, a2, a3⟩ := id hHy
      refine kg_X7_release_2 hq _ _ ⟨fun c => ?_, fun c => ⟨fun c2 => ?_, fun c2 => ?_⟩⟩
      · exfalso; rw [t_le, k20] at c; omega
      · exfalso
        rw [t_le, k0] at c2
        have e0 : (y.1 100 17).toNatClampNeg = 0 := by rw [t_cl]; omega
        unfold hz at hzy
        rw [e0] at hzy
        have : zc y 0 = 0 := rfl
        unfold hz at h2
        omega
      rw [t_le, k0] at c2
      have n9 : (y.1 100 17).toNatClampNeg = ((y.1 100 17).toInt.toNat - 1) + 1 := by rw [t_cl]; omega
      have hHD9 := hHD
      rw [n9] at hHD9
      obtain ⟨a, r, v, s', es, w1, w2, w3, w4, w5⟩ := hHD9
      have e1 : (y.1 100 17 - 1).toInt = (y.1 100 17).toInt - 1 := t_sub (by show _ ≤ _ - (1 : Int); omega) (by show _ - (1 : Int) ≤ _; omega)
      have e2 : (y.1 100 17 - 1).toNatClampNeg = (y.1 100 17).toInt.toNat - 1 := by rw [t_cl, e1]; omega
      refine ⟨by rw [vp_in_iff]; omega, fun c3 => rv_i (h y hf hSy hHy hzy hle (Or.inr ?_) hsa a r v s' M (by rw [← es]; exact hHD) ?_ hM (by rw [← es]; exact hdW) (by rw [← es]; exact hHP) hCP h115), fun c3 x5 e5 => ?_⟩
      · rw [t_lt, e2] at c3; exact c3
      · rw [t_lt, e2] at c3; omega
      rw [t_lt, e2] at c3
      have f5 : x5.1 100 17 = y.1 100 17 - 1 := by rw [e5]; (simp only [si_get, sfl_get, Nat.reduceEqDiff, eq_self, and_false, false_and, and_true, true_and, if_true, if_false, reduceIte, reduceCtorEq])
      have i5 : (x5.1 100 17).toInt = (y.1 100 17).toInt - 1 := by rw [f5]; exact e1
      have m5 : fm (fun c k => c = 100 ∧ k = 17) y x5 := by rw [e5]; exact fm_si (fm_rf _ _) ⟨rfl, rfl⟩
      have la5 : La y x5 := ⟨fun c k q1 q2 => m5 c k (by omega), by unfold nx; rw [m5 100 4 (by omega)]; exact Int.le_refl _, fun j _ => m5 42 j (by omega)⟩
      have H5 : HI x5 := by
        refine ⟨by omega, fun i hi => ?_, fun i j hij hj => ?_⟩
        · rw [m5 115 i (by omega), m5 116 i (by omega), m5 117 i (by omega)]; exact a2 i (by omega)
        · rw [m5 117 i (by omega), m5 117 j (by omega)]; exact a3 i j hij (by omega)
      have S5 : SU x5 := by
        obtain ⟨⟨hT, b1, b2, b3⟩, ⟨u1, u2⟩, hp, hP⟩ := hSy
        have q4 : x5.1 100 4 = y.1 100 4 := m5 _ _ (by omega)
        have q7 : x5.1 20 7 = y.1 20 7 := m5 _ _ (by omega)
        have q3 : x5.1 60 3 = y.1 60 3 := m5 _ _ (by omega)
        unfold SU SV US RB nx mt
        rw [q4, q7, q3]
        refine ⟨⟨kT_fm hT la5.1, b1, b2, b3⟩, ⟨fun j h1 h2 => ?_, fun j h1 h2 => ?_⟩, hp, fun i hi => La_PQ la5 (m5 _ _ (by omega)) (m5 _ _ (by omega)) (hP i hi)⟩
        · rw [m5 42 j (by omega)]; exact u1 j h1 h2
        · rw [m5 42 j (by omega)] at h2; rw [m5 42 _ (by omega)]; exact u2 j h1 h2
      have z5 : hz x5 = hz y := by
        unfold hz
        have n5 : (y.1 100 17).toNatClampNeg = (x5.1 100 17).toNatClampNeg + 1 := by rw [t_cl, t_cl]; omega
        have n6 : (x5.1 100 17).toNatClampNeg = (y.1 100 17).toInt.toNat - 1 := by rw [t_cl]; omega
        rw [n5]
        show _ = zc y _ + (if y.1 116 _ = 0 then 1 else 0)
        rw [n6, if_neg (fun q => by rw [q] at c3; rw [k0] at c3; omega), zc_eq (z := x5) (y := y) _ (fun i _ => m5 116 i (by omega))]
        rfl
      have v5 : vp_in (x5.1 100 17) 20 := by rw [vp_in_iff]; omega
      have e6 : (k + 1).toInt = k.toInt + 1 := t_add (by show _ ≤ _ + (1 : Int); omega) (by show _ + (1 : Int) ≤ _; omega)
      have h5 := a2 ((y.1 100 17).toInt.toNat - 1) (by omega)
      have n6 : (x5.1 100 17).toNatClampNeg = (y.1 100 17).toInt.toNat - 1 := by rw [t_cl]; omega
      have a0' : ¬ a = 0 := by omega
      have x53 : x5.1 60 3 = y.1 60 3 := m5 60 3 (by omega)
      refine ⟨v5, kf_addPart hq _ _ S5.2.2.1 (fun z hz9 hcz => ?_)⟩
      rw [n6, m5 115 _ (by omega)] at hz9 hcz
      have hv9 : y.1 115 ((y.1 100 17).toInt.toNat - 1) = oP K v := by
        have hq9 := hHP
        rw [n9, es] at hq9
        exact hq9.1 a0'
      have S6 : SU z := AP_SU S5 hz9 (fun c => absurd c h5.1.1) h5.1.2
      obtain ⟨H6, z6⟩ := HI_eq (z := z) H5 (hz9.1 _ _ (by omega)) (fun c k q1 q2 => hz9.1 c k (by omega))
      have w6 : z.1 100 17 = x5.1 100 17 := hz9.1 _ _ (by omega)
      have a0 : ¬ a = 0 := by omega
      have sz : zs s' = hz y := by
        unfold hz
        rw [HD_zs hHD, es]
        show zs s' = zs s' + (if a = 0 then 1 else 0)
        rw [if_neg a0]; rfl
      obtain ⟨y1, s1, es1⟩ : ∃ y1 s1, s' = y1 :: s1 := by
        cases s' with
        | nil => rw [hzy] at sz; exact absurd (show hz x = 0 from sz.symm) (by omega)
        | cons y1 s1 => exact ⟨y1, s1, rfl⟩
      have dp : dW K o st j L = dW K o s' j (L ++ (M ++ [v])) := by
        rw [hdW, es, es1, dW_pop a0 (by omega), List.append_assoc]
      have nz : (z.1 100 17).toNatClampNeg = (y.1 100 17).toInt.toNat - 1 := by rw [w6]; exact n6
      have sz9 : ∀ k, z.1 116 k = y.1 116 k ∧ z.1 117 k = y.1 117 k := fun k => ⟨by rw [hz9.1 _ _ (by omega), m5 _ _ (by omega)], by rw [hz9.1 _ _ (by omega), m5 _ _ (by omega)]⟩
      have z115 : ∀ k, z.1 115 k = y.1 115 k := fun k => by rw [hz9.1 _ _ (by omega), m5 _ _ (by omega)]
      have hHPz : HP K z (z.1 100 17).toNatClampNeg s' := by
        rw [nz]
        have hq9 := hHP
        rw [n9, es] at hq9
        exact HP_eq (fun k _ => z115 k) hq9.2
      have hCPz : CPl x z (oPs K (M ++ [v])) := by
        rw [oPs_app]
        refine CPl_app (CPl_st hCP x53 (fun k => ⟨m5 62 k (by omega), m5 63 k (by omega)⟩)) ?_
        rw [hv9] at hcz
        exact hcz
      refine ih _ z s' (M ++ [v]) (by rw [nz]; exact HD_eq (fun k _ => sz9 k) w5) (opE_app hM (opE_one w4)) dp hHPz hCPz (fun k => (z115 k).trans (h115 k)) (fun k => ⟨(sz9 k).1.trans (hsa k).1, (sz9 k).2.trans (hsa k).2⟩) (fm_tr (fm_tr hf (fm_w m5 (fun c k q => Or.inl q))) (fm_w hz9.1 (fun c k q => by omega))) S6 H6 (by rw [z6, z5, hzy]) ?_ ?_ ?_ ?_ <;> (try rw [w6]) <;> omega
  exact kg_X7_release_0 hq _ (loop 18 _ x st [] hst opE_nil (by rw [List.append_nil]) hhp CPl_rf (fun _ => rfl) (fun k => ⟨rfl, rfl⟩) (fm_rf _ _) hS hH rfl (Int.le_refl _) hH.1.2 (by decide) (by rw [k0]; have := hH.1.2; omega))
end KSF
end
section
/-! the class: what may stand before an operand -/
/-- from x to y, M was read -/
def RIw (K V : Nat → Int32) (sN : Nat → Nat → Bool) (e : Nat) (E : gV) (x y : gd) (M : gU) : Prop := KA K V sN e y ∧ nn y ≤ e ∧ UR sN E x y M
theorem pbg_k {s k : Int32} {o : Bool} (hk : kc s = k) : pbg o k ↔ (s = 3 ∨ s = 2 ∨ s = 21 ∨ s = 59 ∨ s = 18 ∨ (s = 62 ∧ o = false)) := by
  have i : ∀ {c v : Int32}, kc c = v → ¬ kc c = -1 → (k = v ↔ s = c) := fun {c v} hc hn => ⟨fun q => kc_i (by rw [hk, q, hc]) hn, fun q => by rw [← hk, q, hc]⟩
  have e2 : k = 2 ↔ s = 3 := i (by decide) (by decide)
  have e32 : k = 32 ↔ s = 62 := i (by decide) (by decide)
  have e1 : k = 1 ↔ s = 2 := i (by decide) (by decide)
  have e61 : k = 61 ↔ s = 21 := i (by decide) (by decide)
  have e29 : k = 29 ↔ s = 59 := i (by decide) (by decide)
  have e58 : k = 58 ↔ s = 18 := i (by decide) (by decide)
  unfold pbg
  rw [e2, e32, e1, e61, e29, e58]
  constructor
  · rintro (h | h | h | h | h | h)
    · exact Or.inl h
    · exact Or.inr (Or.inr (Or.inr (Or.inr (Or.inr h))))
    · exact Or.inr (Or.inl h)
    · exact Or.inr (Or.inr (Or.inl h))
    · exact Or.inr (Or.inr (Or.inr (Or.inl h)))
    · exact Or.inr (Or.inr (Or.inr (Or.inr (Or.inl h))))
  · rintro (h | h | h | h | h | h)
    · exact Or.inl h
    · exact Or.inr (Or.inr (Or.inl h))
    · exact Or.inr (Or.inr (Or.inr (Or.inl h)))
    · exact Or.inr (Or.inr (Or.inr (Or.inr (Or.inl h))))
    · exact Or.inr (Or.inr (Or.inr (Or.inr (Or.inr h))))
    · exact Or.inr (Or.inl h)
section KOF
variable {G : kG} {q : kP} {d : Nat} {x x0 y z : gd} {F : Int32 → gd → Prop} {Fv : gd → Prop} {X : String → gd → Prop} {P : Option gv → gd → Prop} {m : Int} {K V : Nat → Int32} {sN : Nat → Nat → Bool} {e : Nat} {E : gV} {M : gU} {o : Bool}
theorem RI_st (h : RIw K V sN e E x y M) (e4 : z.1 100 4 = y.1 100 4) (eu : ∀ j, z.1 42 j = y.1 42 j) (f : ∀ c k, 20 ≤ c → c < 40 → z.1 c k = y.1 c k) : RIw K V sN e E x z M := by
  have en : nn z = nn y := by unfold nn; rw [e4]
  exact ⟨KA_fm h.1 f, by rw [en]; exact h.2.1, UR_same h.2.2 en (fun j _ => eu j)⟩
theorem nn_up (h0 : 0 ≤ nx y) (e1 : nx z = nx y + 1) : nn z = nn y + 1 := by
  have a := nn_is h0
  have b := nn_is (x := z) (by omega)
  omega
theorem RI_tok (h : RIw K V sN e E x y M) (h0 : 0 ≤ nx y) (h7 : nx y < 700) (k0 : ¬ K (nn y) = 0) (k3 : ¬ K (nn y) = 3) (l : La y z) (e1 : nx z = nx y + 1) (u : z.1 42 (nn y) = 0) : RIw K V sN e E x z M := by
  have a := nn_is h0
  have en := nn_up h0 e1
  exact ⟨KA_fm h.1 l.1, by rw [en]; exact KA_on h.1 h.2.1 (by omega) k0 k3, UR_tok h0 h.2.2 l en u⟩
/-- the stack's top, and how deep it is here -/
theorem HD_top {s : gH} (hH : HI y) (h1 : 1 ≤ hz y) (h : HD y (y.1 100 17).toNatClampNeg s) : ∃ a r v s', s = (a, r, v) :: s' ∧ ((dh y).toInt + r = 17 ∨ (17 ≤ (dh y).toInt ∧ r = 0)) := by
  obtain ⟨⟨a0, a1⟩, a2, a3⟩ := hH
  have k0 : (0 : Int32).toInt = 0 := rfl
  have k1 : (1 : Int32).toInt = 1 := rfl
  have hn : hz y ≤ (y.1 100 17).toNatClampNeg := zc_le _
  have u := t_cl (y.1 100 17)
  obtain ⟨n, en⟩ : ∃ n, (y.1 100 17).toNatClampNeg = n + 1 := ⟨(y.1 100 17).toNatClampNeg - 1, by omega⟩
  rw [en] at h
  obtain ⟨a, r, v, s', e1, e2, -⟩ := h
  refine ⟨a, r, v, s', e1, ?_⟩
  have e3 : (y.1 100 17 - 1).toInt = (y.1 100 17).toInt - 1 := by rw [t_sub (by rw [k1]; omega) (by rw [k1]; omega), k1]
  have e4 : (y.1 100 17 - 1).toNatClampNeg = n := by rw [t_cl, e3]; omega
  have ed : dh y = y.1 117 n := by
    unfold dh
    rw [if_neg (by rw [t_le, k0]; omega), e4]
  have g := a2 n (by omega)
  have ut := t_cl (y.1 117 n)
  rw [ed]
  omega
theorem kf_openOperand (hq : kV q) (h0 : fm sR x0 x) (st : gH) (L : gU) (hx : dAk K o st (nn x) L = none → RX x0 X) (hS : SU x) (hH : HI x) (hf : FR x) (ho : o = true ↔ x.1 100 5 = 0) (hR : RIw K V sN e E x x []) (h1 : 1 ≤ hz x) (hst : HD x (x.1 100 17).toNatClampNeg st) (hhp : HP K x (x.1 100 17).toNatClampNeg st)
    (h : ∀ r y, SM x y → FR y → 0 ≤ r.toInt → r.toInt ≤ 701 → (hz y : Int) = hz x + r.toInt → DL y → (y.1 23 (y.1 100 4).toNatClampNeg = 2 ∨ y.1 23 (y.1 100 4).toNatClampNeg = 3 ∨ (y.1 23 (y.1 100 4).toNatClampNeg = 62 ∧ o = false)) → RIw K V sN e E x y [] → ∀ a f v s', HD y (y.1 100 17).toNatClampNeg ((a, f + 1, v) :: s') → dAk K o st (nn x) L = dAk K o ((a, f + 1, v) :: s') (nn y) L → HP K y (y.1 100 17).toNatClampNeg ((a, f + 1, v) :: s') → CPl x y [] → F r y) : KE G q (d + 8) zk_X7_openOperand 0 [(0, vr 100)] [] x (ri F) X := by
  have k700 : (700 : Int32).toInt = 700 := rfl
  have k16 : (16 : Int32).toInt = 16 := rfl
  have k1 : (1 : Int32).toInt = 1 := rfl
  have k0 : (0 : Int32).toInt = 0 := rfl
  have hn0 := hS.1.2.1
  have loop : ∀ (n : Nat) (o2 k : Int32) (y : gd) (sy : gH), SM x y → FR y → 0 ≤ o2.toInt → o2.toInt ≤ k.toInt → (hz y : Int) = hz x + o2.toInt → 0 ≤ k.toInt → nx y = nx x + k.toInt → 700 - nx y < n → RIw K V sN e E x y [] → HD y (y.1 100 17).toNatClampNeg sy → dAk K o st (nn x) L = dAk K o sy (nn y) L → HP K y (y.1 100 17).toNatClampNeg sy → CPl x y [] → KE G q (d + 8) zk_X7_openOperand 4 [(0, vr 100), (1, vi o2), (2, vi k)] [] y (ri F) X := by
    intro n
    induction n with
    | zero =>
      intro o2 k y sy hM hF o0 o1 hzy kp hk hn hRy hDy hdy hPy hCy
      have b2 := hM.1.1.2.2.1
      omega
    | succ n ih =>
      intro o2 k y sy hM hF o0 o1 hzy kp hk hn hRy hDy hdy hPy hCy
      have b1 := hM.1.1.2.1
      have b2 := hM.1.1.2.2.1
      have un := nn_is b1
      have h0y : fm sR x0 y := fm_tr h0 (fm_w hM.2.2.2 (fun c k q => sSum_R q))
      have rs : dAk K o sy (nn y) L = none → ∀ {P : Option gv → gd → Prop} {v : Int32} (hv9 : ¬ v = 0 := by decide), KE G q (d + 7) zk_X7_refuse 0 [(0, vr 100), (1, vi v)] [] y P X := fun hw _ _ hv9 => kp_refuse hq _ (RB_at hM.1.1) h0y (hx (hdy.trans hw)) hv9
      have ek : (k + 1).toInt = k.toInt + 1 := t_add (by rw [k1]; omega) (by rw [k1]; omega)
      have hoy : o = true ↔ y.1 100 5 = 0 := by rw [hM.2.2.2 100 5 (by unfold sSum; omega)]; exact ho
      have hKi : kc (y.1 23 (y.1 100 4).toNatClampNeg) = K (nn y) := hRy.1.1 _ hRy.2.1
      obtain ⟨a, r, v, s', es, hr⟩ := HD_top hM.2.1 (by omega) hDy
      have p133 : ∀ (o3 : Int32) (z : gd) (sz : gH), SM x z → FR z → z.1 100 4 = y.1 100 4 → ¬ y.1 23 (y.1 100 4).toNatClampNeg = 0 → ¬ y.1 23 (y.1 100 4).toNatClampNeg = 1 → 0 ≤ o3.toInt → o3.toInt ≤ k.toInt + 1 → (hz z : Int) = hz x + o3.toInt → RIw K V sN e E x z [] → HD z (z.1 100 17).toNatClampNeg sz → (nn y < 700 → dAk K o sy (nn y) L = dAk K o sz (nn y + 1) L) → HP K z (z.1 100 17).toNatClampNeg sz → CPl x z [] → KE G q (d + 8) zk_X7_openOperand 133 [(0, vr 100), (1, vi o3), (2, vi k)] [] z (ri F) X := by
        intro o3 z sz hMz hFz e4 hs hs1 q1 q2 q3 hRz hDz hdz hPz hCz
        have hs2 : z.1 23 (z.1 100 4).toNatClampNeg = y.1 23 (y.1 100 4).toNatClampNeg := by
          rw [e4, hMz.2.2.2 23 _ (by unfold sSum; omega), ← hM.2.2.2 23 _ (by unfold sSum; omega)]
        have n1 : nx z = nx y := by unfold nx; rw [e4]
        have n2 : nn z = nn y := by unfold nn; rw [e4]
        have kk0 : ¬ K (nn z) = 0 := by
          rw [n2, ← hKi]
          exact fun z => hs (kc_i (c := 0) (z.trans (by decide)) (by decide))
        have kk3 : ¬ K (nn z) = 3 := by
          rw [n2, ← hKi]
          exact fun z => hs1 (kc_i1 z)
        refine kg_X7_openOperand_133 hq _ _ (kf_pass hq (fm_tr h0 (fm_w hMz.2.2.2 (fun c k q => sSum_R q))) (fun c7 => hx (hdy.trans ?_)) hMz.1 (by rw [hs2]; exact hs) (FR_12 hFz) (fun c7 w f e1 S fr la _ => ?_))
        · rw [es]; exact dA_7 (by omega)
        · obtain ⟨g1, g2⟩ := SM_pass hMz f S la
          have nw := nn_up (y := z) (z := w) (by omega) e1
          have uw : w.1 42 (nn z) = 0 := by rw [f 42 _ (by omega)]; exact hFz
          refine ih o3 (k + 1) w sz g1 fr q1 (by omega) (by rw [g2]; exact q3) (by omega) (by omega) (by omega) (RI_tok hRz (by omega) (by omega) kk0 kk3 la e1 uw) ?_ ?_ (by rw [f 100 17 (by omega)]; exact HP_eq (fun k _ => f _ _ (by omega)) hPz) (CPl_st hCz (f _ _ (by omega)) (fun k => ⟨f _ _ (by omega), f _ _ (by omega)⟩))
          · rw [f 100 17 (by omega)]
            exact HD_eq (fun k _ => ⟨f _ _ (by omega), f _ _ (by omega)⟩) hDz
          · rw [nw, n2, hdy]; exact hdz (by omega)
      have dd := dh_is hM.2.1
      have p33 : ∀ s : Int32, (s = 0 ∧ ¬ y.1 23 (y.1 100 4).toNatClampNeg = 59 ∧ ¬ y.1 23 (y.1 100 4).toNatClampNeg = 18 ∨ s = 1 ∧ (y.1 23 (y.1 100 4).toNatClampNeg = 59 ∨ y.1 23 (y.1 100 4).toNatClampNeg = 18)) → KE G q (d + 8) zk_X7_openOperand 33 [(0, vr 100), (1, vi o2), (2, vi k), (3, vi (y.1 23 (y.1 100 4).toNatClampNeg))] [vi s] y (ri F) X := by
        intro s hs02
        have hs01 : s = 0 ∨ s = 1 := hs02.imp (fun q => q.1) (fun q => q.1)
        have pre : s = 1 → K (nn y) = 29 ∨ K (nn y) = 58 := fun q => by
          rcases hs02 with ⟨c, -⟩ | ⟨-, c | c⟩
          · rw [q] at c; exact absurd c (by decide)
          · exact Or.inl (by rw [← hKi, c]; decide)
          · exact Or.inr (by rw [← hKi, c]; decide)
        refine kg_X7_openOperand_33 hq _ _ _ _ (kf_beginsSum hq _ o hoy (fun r9 hr9 => ⟨fun c => ?_, fun c => rs ?_⟩))
        rotate_left
        · rw [es]
          exact dA_no (fun z => hr9.mpr ((pbg_k hKi).mp z) c)
        have hbs := hr9.mp c
        have hsort : ¬ y.1 23 (y.1 100 4).toNatClampNeg = 0 ∧ ¬ y.1 23 (y.1 100 4).toNatClampNeg = 1 := by
          rcases hbs with e | e | e | e | e | ⟨e, -⟩ <;> rw [e] <;> decide
        have p73 : ((dh y).toInt + s.toInt ≤ 16) → KE G q (d + 8) zk_X7_openOperand 73 [(0, vr 100), (1, vi o2), (2, vi k), (3, vi (y.1 23 (y.1 100 4).toNatClampNeg)), (4, vi s)] [] y (ri F) X := by
          intro hd
          have hs0 : 0 ≤ s.toInt := by rcases hs01 with rfl | rfl <;> decide
          have e1 : (dh y + 1).toInt = (dh y).toInt + 1 := t_add (by rw [k1]; omega) (by rw [k1]; omega)
          obtain ⟨f9, ef9⟩ : ∃ f9, r = f9 + 1 := ⟨r - 1, by omega⟩
          have ht : (dh y).toInt + (f9 + 1 : Nat) = 17 := by omega
          have top : ∀ (z : gd) (s9 : Int32) (a9 : Nat) (v9 : Nat × Nat × Nat), (z.1 100 17).toInt = (y.1 100 17).toInt + 1 → z.1 116 (y.1 100 17).toNatClampNeg = s9 → z.1 117 (y.1 100 17).toNatClampNeg = dh y + 1 → (∀ k, k < (y.1 100 17).toNatClampNeg → z.1 116 k = y.1 116 k ∧ z.1 117 k = y.1 117 k) → (s9.toInt = a9 ∨ (s9.toInt = 6 ∧ a9 = 5)) → a9 ≤ 5 → (v9.1 = 50 ∨ v9.1 = 51) → HD z (z.1 100 17).toNatClampNeg ((a9, f9, v9) :: sy) := by
            intro z s9 a9 v9 t1 t2 t3 t4 t5 t6 t7
            have a0 := hM.2.1.1.1
            have nz : (z.1 100 17).toNatClampNeg = (y.1 100 17).toNatClampNeg + 1 := by rw [t_cl, t_cl]; omega
            rw [nz]
            have ud := t_cl (dh y + 1)
            have hzn : hz y ≤ (y.1 100 17).toNatClampNeg := zc_le _
            exact ⟨a9, f9, v9, sy, rfl, Or.inl (by rw [t3]; omega), by rw [t2]; exact t5, ⟨t6, fun q => absurd q (by omega)⟩, t7, HD_eq t4 hDy⟩
          have topP : ∀ (z : gd) (s9 : Int32) (a9 : Nat) (v9 : Nat × Nat × Nat), (z.1 100 17).toInt = (y.1 100 17).toInt + 1 → z.1 115 (y.1 100 17).toNatClampNeg = s9 → (∀ k, k < (y.1 100 17).toNatClampNeg → z.1 115 k = y.1 115 k) → (¬ a9 = 0 → s9 = oP K v9) → HP K z (z.1 100 17).toNatClampNeg ((a9, f9, v9) :: sy) := by
            intro z s9 a9 v9 t1 t2 t3 t4
            have a0 := hM.2.1.1.1
            have nz : (z.1 100 17).toNatClampNeg = (y.1 100 17).toNatClampNeg + 1 := by rw [t_cl, t_cl]; omega
            rw [nz]
            exact ⟨fun q => by rw [t2]; exact t4 q, HP_eq t3 hPy⟩
          have p104 : ∀ v8 : Int32, (¬ v8 = 2 ∧ ¬ v8 = 6) → v8 = oP K (50, nn y, 0) → s = 1 → KE G q (d + 8) zk_X7_openOperand 104 [(0, vr 100), (1, vi o2), (2, vi k)] [vi v8, vr 100] y (ri F) X := by
            intro v8 hv hv9 hs1
            refine kg_X7_openOperand_104 hq _ _ _ (kp_depthHere hq hM.2.1 (kf_hold hq _ _ _ hM.2.1 hv (by decide) (by omega) (by omega) (fun i hi => ?_) (fun z fz Hz zz t1 t2 t3 t4 t5 t6 => ?_)))
            · have := dd.2.2.2 i hi; omega
            · obtain ⟨g1, g2, g3⟩ := SM_hold hM fz Hz
              refine p133 o2 z _ g1 (g2 hF) g3 hsort.1 hsort.2 o0 (by omega) (by rw [zz, if_neg (by decide)]; exact hzy) (RI_st hRy g3 (fun j => fz _ _ (by omega)) (fun c k q1 q2 => fz _ _ (by omega))) (top z _ 5 (50, nn y, 0) t1 t2 t3 t4 (Or.inr ⟨rfl, rfl⟩) (by decide) (Or.inl rfl)) (fun h7 => ?_) (topP z _ 5 (50, nn y, 0) t1 t5 t6 (fun _ => hv9)) (CPl_st hCy (fz _ _ (by omega)) (fun k => ⟨fz _ _ (by omega), fz _ _ (by omega)⟩))
              rw [es, ef9]
              exact dA_pre (pre hs1) h7
          have p87 : (s = 0 → y.1 23 (y.1 100 4).toNatClampNeg = 21) → KE G q (d + 8) zk_X7_openOperand 87 [(0, vr 100), (1, vi o2), (2, vi k), (3, vi (y.1 23 (y.1 100 4).toNatClampNeg)), (4, vi s)] [] y (ri F) X := by
            intro h21
            refine kg_X7_openOperand_87 hq _ _ _ _ ⟨fun cs => kp_depthHere hq hM.2.1 (kf_hold hq _ _ _ hM.2.1 (by decide) (by decide) (by omega) (by omega) (fun i hi => ?_) (fun z fz Hz zz t1 t2 t3 t4 t5 t6 => ?_)), fun cs => ⟨fun c59 => p104 _ (by decide) ?_ (hs01.resolve_left cs), fun c59 => p104 _ (by decide) ?_ (hs01.resolve_left cs)⟩⟩
            · have := dd.2.2.2 i hi; omega
            · obtain ⟨g1, g2, g3⟩ := SM_hold hM fz Hz
              have eo : (o2 + 1).toInt = o2.toInt + 1 := t_add (by rw [k1]; omega) (by rw [k1]; omega)
              refine p133 (o2 + 1) z _ g1 (g2 hF) g3 hsort.1 hsort.2 (by omega) (by omega) ?_ (RI_st hRy g3 (fun j => fz _ _ (by omega)) (fun c k q1 q2 => fz _ _ (by omega))) (top z _ 0 (50, 0, 0) t1 t2 t3 t4 (Or.inl rfl) (by decide) (Or.inl rfl)) (fun h7 => ?_) (topP z _ 0 (50, 0, 0) t1 t5 t6 (fun q => absurd rfl q)) (CPl_st hCy (fz _ _ (by omega)) (fun k => ⟨fz _ _ (by omega), fz _ _ (by omega)⟩))
              · rw [zz, if_pos rfl, eo]
                push_cast
                omega
              · rw [es, ef9]
                exact dA_par (by rw [← hKi, h21 cs]; decide) h7
            · show (4 : Int32) = if K (nn y) = 29 then 5 else 4
              rw [if_neg (fun q => c59 (kc_i (c := 59) (by rw [hKi, q]; decide) (by decide)))]
            · show (5 : Int32) = if K (nn y) = 29 then 5 else 4
              rw [if_pos (by rw [← hKi, c59]; decide)]
          refine kg_X7_openOperand_73 hq _ _ _ _ ⟨fun cs => p87 (fun q => absurd q cs), fun cs => ⟨fun c21 => p87 (fun _ => c21), fun c21 => ri_i (h o2 y hM hF o0 (by omega) hzy (fun i hi => ?_) ?_ hRy a f9 v s' (by rw [← ef9, ← es]; exact hDy) (by rw [← ef9, ← es]; exact hdy) (by rw [← ef9, ← es]; exact hPy) hCy)⟩⟩
          · have := dd.2.2.2 i hi
            omega
          · rcases hs02 with ⟨-, n59, n18⟩ | ⟨e1, -⟩
            · rcases hbs with e | e | e | e | e | e
              · exact Or.inr (Or.inl e)
              · exact Or.inl e
              · exact absurd e c21
              · exact absurd e n59
              · exact absurd e n18
              · exact Or.inr (Or.inr e)
            · rw [e1] at cs; exact absurd cs (by decide)
        have p62 : ∀ v8 : Int32, v8 = s → KE G q (d + 8) zk_X7_openOperand 62 [(0, vr 100), (1, vi o2), (2, vi k), (3, vi (y.1 23 (y.1 100 4).toNatClampNeg)), (4, vi s)] [vi v8, vi (dh y)] y (ri F) X := by
          rintro v8 rfl
          have hv8 : v8.toInt ≤ 1 ∧ 0 ≤ v8.toInt := by rcases hs01 with rfl | rfl <;> decide
          have es8 : (dh y + v8).toInt = (dh y).toInt + v8.toInt := t_add (by omega) (by omega)
          refine kg_X7_openOperand_62 hq _ _ _ _ _ _ ⟨fun c2 => p73 ?_, fun c2 => rs ?_⟩
          · rw [t_le, es8, k16] at c2
            exact c2
          · rw [t_le, es8, k16] at c2
            rw [es]
            rcases hs01 with e9 | e9
            · rw [e9, k0] at c2
              have r0 : r = 0 := by omega
              rw [r0]; exact dA_0
            · rw [e9, k1] at c2
              by_cases r0 : r = 0
              · rw [r0]; exact dA_0
              · have r1 : r = 1 := by omega
                rw [r1]; exact dA_pre0 (pre e9)
        refine kg_X7_openOperand_48 hq _ _ _ _ (kp_depthHere hq hM.2.1 ⟨fun c3 => p62 _ c3.symm, fun c3 => p62 _ ?_⟩)
        rcases hs01 with e | e
        · exact absurd e c3
        · exact e.symm
      refine kg_X7_openOperand_4 hq _ _ ⟨fun c => ?_, fun c => kp_sort hq hM.1.1 ⟨fun c59 => p33 _ (Or.inr ⟨rfl, Or.inl c59⟩), fun n59 => ⟨fun n18 => p33 _ (Or.inl ⟨rfl, n59, n18⟩), fun c18 => p33 _ (Or.inr ⟨rfl, Or.inr c18⟩)⟩⟩⟩
      exfalso; rw [t_lt, k700] at c; omega
  exact kg_X7_openOperand_0 hq (loop 701 _ _ x st (SM_rf hS hH) hf (by decide) (by decide) (by rw [k0]; omega) (by decide) (by rw [k0]; omega) (by omega) hR hst rfl hhp CPl_rf)
end KOF
end
section
/-! the class: an operand is read -/
section KPF
variable {G : kG} {q : kP} {d : Nat} {x x0 y z : gd} {F : Int32 → gd → Prop} {Fv : gd → Prop} {X : String → gd → Prop} {P : Option gv → gd → Prop} {m : Int} {K V : Nat → Int32} {sN : Nat → Nat → Bool} {e : Nat} {E : gV} {M N : gU} {o : Bool}
theorem dull_k {k a b : Nat} (h : ∀ u ∈ [3, 6, 7, 12, 23, 24, 25, 26, 27, 65, 66, 67, 70, 31, 32, 33, 34], ¬ k = u) : dull (k, a, b) := h
theorem stl_k {k a b : Nat} (h : ¬ k = 20 ∧ ¬ k = 21 ∧ ¬ k = 22) : still [(k, a, b)] := still_one h
theorem RI_app (h0 : 0 ≤ nx y) (hM : still M) (h : RIw K V sN e E x y M) (l : La y z) (g : RIw K V sN e E y z N) : RIw K V sN e E x z (M ++ N) := ⟨g.1, g.2.1, UR_app h0 h.2.2 l (by rw [exs_still hM]; exact g.2.2)⟩
theorem RI_0 (h : RIw K V sN e E x y M) : RIw K V sN e E y y [] := ⟨h.1, h.2.1, UR_0 rfl⟩
/-- a local is known, or not -/
theorem kfi_of {t : Nat} (h : ∀ (p : Nat) (k : Nat × Nat), p < E.1.length - (0 : Int32).toNatClampNeg → E.1[p]? = some k → ¬ sN k.1 t = true) : kfi sN E.1 t = none := kfi_none (fun p k hk => h p k (by
  obtain ⟨hp, -⟩ := List.getElem?_eq_some_iff.mp hk
  have : (0 : Int32).toNatClampNeg = 0 := rfl
  omega) hk)
theorem kf_readOperand (hq : kV q) (h0 : fm sR x0 x) (L : gU) (f : Nat) (hx : pO (pE K o f) K o (nn x) L = none → RX x0 X) (hS : SU x) (hH : HI x) (hf : FR x) (hK : x.1 23 (x.1 100 4).toNatClampNeg = 3 ∨ x.1 23 (x.1 100 4).toNatClampNeg = 62 ∨ (x.1 23 (x.1 100 4).toNatClampNeg = 2 ∧ o = false ∧ KN x ∧ KV' K e x E)) (hR : RIw K V sN e E x x []) (h : ∀ y, SM x y → FR y → hz y = hz x → y.1 100 17 = x.1 100 17 → (∀ k, y.1 116 k = x.1 116 k ∧ y.1 117 k = x.1 117 k) → nx y = nx x + 1 → ∀ M, RIw K V sN e E x y M → still M → pO (pE K o f) K o (nn x) L = some (nn y, L ++ M) → CPl x y (sPs sN V K E M) → (∀ k, y.1 115 k = x.1 115 k) → Fv y) : KE G q (d + 8) zk_X7_readOperand 0 [(0, vr 100)] [] x (rv Fv) X := by
  have hs : ¬ x.1 23 (x.1 100 4).toNatClampNeg = 0 ∧ ¬ x.1 23 (x.1 100 4).toNatClampNeg = 1 := by
    rcases hK with e | e | ⟨e, -⟩ <;> rw [e] <;> decide
  have hlt := RB_lt hS.1 hs.1
  have htk : tk x (x.1 100 4) := ⟨hS.1.2.1, hlt⟩
  have hKi : kc (x.1 23 (x.1 100 4).toNatClampNeg) = K (nn x) := hR.1.1 _ hR.2.1
  have kk0 : ¬ K (nn x) = 0 := by
    rw [← hKi]
    exact fun z => hs.1 (kc_i (c := 0) (z.trans (by decide)) (by decide))
  have kk3 : ¬ K (nn x) = 3 := by
    rw [← hKi]
    exact fun z => hs.2 (kc_i1 z)
  have b1 := hS.1.2.1
  have un := nn_is b1
  have fin : ∀ (z w : gd) (u : Int32) (M : gU), ¬ u = 12 → fm (fun c k => c = 42 ∧ k = (x.1 100 4).toNatClampNeg) x z → z.1 42 (x.1 100 4).toNatClampNeg = u → SU z → ∀ p a : Int32, AP z w p a → CPl z w [(p, a)] → sPs sN V K E M = [(p, a)] → ((p = 2 → (0 ≤ a.toInt ∧ a.toInt < 24) ∨ z.1 42 (x.1 100 4).toNatClampNeg = 3) ∧ ¬ p = 6) → (∀ (U : Nat → Int32) (n : Nat), U (nn x) = u → nn x < n → HAs sN U n M E) → (¬ u = 0 → HBs sN M E (nn x) u) → still M → (nn x < 700 → pO (pE K o f) K o (nn x) L = some (nn x + 1, L ++ M)) → KE G q (d + 8) zk_X7_readOperand 93 [(0, vr 100)] [] w (rv Fv) X := by
    intro z w u M hu12 fz eu hSz p a hA hCA hsp hp26 mA mB hst hpO
    obtain ⟨hp2, hp6⟩ := hp26
    have e4 : w.1 100 4 = x.1 100 4 := by rw [hA.1 _ _ (by omega), fz _ _ (by omega)]
    have Sw : SV w (z.1 60 3).toInt := AP_SV (Int.le_refl _) hSz hA
    have us : w.1 42 (w.1 100 4).toNatClampNeg = u := by rw [e4, hA.1 42 _ (by omega)]; exact eu
    have f0 : fm sSum x w := fm_tr (fm_w fz (fun c k q => by unfold sSum; omega)) (fm_w hA.1 (fun c k q => by unfold sSum; omega))
    have e5 : nx w = nx x := by unfold nx; rw [e4]
    refine kg_X7_readOperand_93 hq (kf_pass hq (fm_tr h0 (fm_w f0 (fun c k q => sSum_R q))) (fun c7 => hx ?_) Sw (by rw [e4, f0 23 _ (by unfold sSum; omega)]; exact hs.1) (by rw [us]; exact hu12) (fun c7 y f n1 S fr la _ => ?_))
    · unfold pO
      rw [if_pos (by omega)]
    have fx : fm sSum x y := fm_tr f0 (fm_w f (fun c k q => by unfold sSum; omega))
    have SUy : SU y := by
      refine ⟨S.1, S.2.1, S.2.2.1, fun i hi => ?_⟩
      rw [f 60 3 (by omega)] at hi
      rcases hA.2.2.2.2 i hi with e | ⟨e1, e2⟩
      · exact S.2.2.2 i e
      · unfold PQ
        rw [f 62 i (by omega), f 63 i (by omega), e1, e2]
        refine ⟨fun c => ?_, fun c => absurd c hp6⟩
        rcases hp2 c with g | g
        · exact Or.inl g
        · refine Or.inr ⟨(x.1 100 4).toNatClampNeg, ?_, Or.inl ?_⟩
          · have b1 := hS.1.2.1
            rw [n1, e5, t_cl]; unfold nx at *; omega
          · rw [f 42 _ (by omega), hA.1 42 _ (by omega)]; exact g
    obtain ⟨g1, g2⟩ := HI_eq (z := y) hH (by rw [f _ _ (by omega), hA.1 _ _ (by omega), fz _ _ (by omega)]) (fun c k q1 q2 => by rw [f _ _ (by omega), hA.1 _ _ (by omega), fz _ _ (by omega)])
    have laxy : La x y := ⟨fun c k q1 q2 => fx c k (by unfold sSum; omega), by omega, fun j hj => by rw [f 42 j (by omega), hA.1 42 j (by omega), fz 42 j (by rw [t_cl]; have b1 := hS.1.2.1; unfold nx at *; omega)]⟩
    have ny := nn_up (y := x) (z := y) b1 (by omega)
    have uy : y.1 42 (nn x) = u := by rw [f 42 _ (by omega), hA.1 42 _ (by omega)]; exact eu
    refine rv_i (h y ⟨SUy, g1, laxy, fx⟩ fr g2 (by rw [f _ _ (by omega), hA.1 _ _ (by omega), fz _ _ (by omega)]) (fun k => ⟨by rw [f _ _ (by omega), hA.1 _ _ (by omega), fz _ _ (by omega)], by rw [f _ _ (by omega), hA.1 _ _ (by omega), fz _ _ (by omega)]⟩) (by omega) M ⟨KA_fm hR.1 laxy.1, by rw [ny]; exact KA_on hR.1 hR.2.1 (by omega) kk0 kk3, mA _ _ uy (by omega), fun j h1 h2 h3 => ?_⟩ hst (by rw [ny]; exact hpO (by omega)) ?_ (fun k => by rw [f _ _ (by omega), hA.1 _ _ (by omega), fz _ _ (by omega)]))
    rotate_left
    · rw [hsp]
      have c1 : CPl x z [] := CPl_st CPl_rf (fz _ _ (by omega)) (fun k => ⟨fz _ _ (by omega), fz _ _ (by omega)⟩)
      exact CPl_st (CPl_app c1 hCA) (f _ _ (by omega)) (fun k => ⟨f _ _ (by omega), f _ _ (by omega)⟩)
    have ej : j = nn x := by omega
    rw [ej, uy] at h3 ⊢
    exact mB h3
  have pO2 : x.1 23 (x.1 100 4).toNatClampNeg = 3 → nn x < 700 → pO (pE K o f) K o (nn x) L = some (nn x + 1, L ++ [(52, nn x, 0)]) := fun c h7 => by
    have : K (nn x) = 2 := by rw [← hKi, c]; decide
    unfold pO
    rw [if_neg (by omega), if_pos this]
  have pO62 : x.1 23 (x.1 100 4).toNatClampNeg = 62 → nn x < 700 → pO (pE K o f) K o (nn x) L = some (nn x + 1, L ++ [(53, nn x, 0)]) := fun c h7 => by
    have : K (nn x) = 32 := by rw [← hKi, c]; decide
    unfold pO
    rw [if_neg (by omega), if_neg (by rw [this]; decide), if_pos this]
  have dl : ∀ {v : Nat × Nat × Nat} {u : Int32}, dull v → u = 0 → (∀ (U : Nat → Int32) (n : Nat), U (nn x) = u → nn x < n → HAs sN U n [v] E) ∧ (¬ u = 0 → HBs sN [v] E (nn x) u) := fun hv hu => ⟨fun U n _ _ => HAs_one.mpr (HA_dull hv), fun z => absurd hu z⟩
  have p83 : x.1 23 (x.1 100 4).toNatClampNeg = 2 → o = false → ∀ l s : Int32, (l = -1 ∧ s = 3 ∧ kfi sN E.1 (nn x) = none ∨ (0 ≤ l.toInt ∧ l.toInt < 24) ∧ s = 0 ∧ ¬ kfi sN E.1 (nn x) = none) → l = (match kfi sN E.1 (nn x) with | some p => Int32.ofNat p | none => -1) → KE G q (d + 8) zk_X7_readOperand 83 [(0, vr 100), (1, vi l)] [vi s, vi (x.1 100 4), vr 42] x (rv Fv) X := by
    intro c2 co l s hls hl9
    refine kg_X7_readOperand_83 hq _ _ _ ⟨RB_at hS.1, fun z ez => ?_⟩
    have fz : fm (fun c k => c = 42 ∧ k = (x.1 100 4).toNatClampNeg) x z := by rw [ez]; exact fm_si (fm_rf _ _) ⟨rfl, rfl⟩
    have eu : z.1 42 (x.1 100 4).toNatClampNeg = s := by rw [ez]; (simp only [si_get, sfl_get, Nat.reduceEqDiff, eq_self, and_false, false_and, and_true, true_and, if_true, if_false, reduceIte, reduceCtorEq])
    have e4 : z.1 100 4 = x.1 100 4 := fz _ _ (by omega)
    have e7 : z.1 20 7 = x.1 20 7 := fz _ _ (by omega)
    have b1 := hS.1.2.1
    have eN : ((x.1 100 4).toNatClampNeg : Int) = nx x := by rw [t_cl]; unfold nx at *; omega
    have la : La x z := ⟨fun c k q1 q2 => fz c k (by omega), by unfold nx; rw [e4]; exact Int.le_refl _, fun j hj => fz 42 j (by omega)⟩
    have Sz : SU z := by
      obtain ⟨⟨hT, b1, b2, b3⟩, ⟨u1, u2⟩, hp, hP⟩ := hS
      unfold SU SV US RB mt
      have q3 : z.1 60 3 = x.1 60 3 := fz _ _ (by omega)
      have nn : nx z = nx x := by unfold nx; rw [e4]
      rw [e7, q3, nn]
      refine ⟨⟨kT_fm hT la.1, b1, b2, b3⟩, ⟨fun j h1 h2 => ?_, fun j h1 h2 => ?_⟩, hp, fun i hi => La_PQ la (fz _ _ (by omega)) (fz _ _ (by omega)) (hP i hi)⟩
      · rw [fz 42 j (by omega)]; exact u1 j h1 h2
      · rw [fz 42 j (by omega)] at h2; rw [fz 42 _ (by omega)]; exact u2 j h1 h2
    refine kf_addPart hq _ _ Sz.2.2.1 (fun w hA hCA => fin z w s [(3, nn x, 0)] ?_ fz eu Sz 2 l hA hCA (by rw [hl9]; rfl) ⟨fun _ => ?_, by decide⟩ (fun U n hU hn => HAs_one.mpr (HA_3.mpr ⟨hn, fun hk => ?_⟩)) (fun z => HBs_one.mpr (Or.inl ⟨rfl, ?_, rfl, ?_⟩)) (stl_k (by decide)) (fun h7 => ?_))
    · rcases hls with ⟨-, rfl, -⟩ | ⟨-, rfl, -⟩ <;> decide
    · rcases hls with ⟨-, e, -⟩ | ⟨e, -⟩
      · exact Or.inr (by rw [eu, e])
      · exact Or.inl e
    · rcases hls with ⟨-, e, -⟩ | ⟨-, -, e⟩
      · rw [hU, e]
      · exact absurd hk e
    · rcases hls with ⟨-, e, -⟩ | ⟨-, e, -⟩
      · exact e
      · exact absurd e z
    · rcases hls with ⟨-, -, e⟩ | ⟨-, e, -⟩
      · exact e
      · exact absurd e z
    · have k1 : K (nn x) = 1 := by rw [← hKi, c2]; decide
      unfold pO
      rw [if_neg (by omega), if_neg (by rw [k1]; decide), if_neg (by rw [k1]; decide), if_neg (by rw [k1]; decide), if_pos k1, if_neg (by rw [co]; decide)]
  have k0 : (0 : Int32).toInt = 0 := rfl
  have p0 : x.1 23 (x.1 100 4).toNatClampNeg = 2 → o = false → KN x → KV' K e x E → KT G q (d + 7) zk_X7_knownFrom 0 [(0, vr 100), (1, vi 0), (2, vi (x.1 100 4))] [] x (ri (fun r8 x7 => ((¬ (r8 = (-1 : Int32)) → KE G q (d + 8) zk_X7_readOperand 83 [(0, vr 100), (1, vi r8)] [vi 0, vi (x7.1 100 4), vr 42] x7 (rv Fv) X) ∧ (r8 = (-1 : Int32) → KE G q (d + 8) zk_X7_readOperand 83 [(0, vr 100), (1, vi r8)] [vi 3, vi (x7.1 100 4), vr 42] x7 (rv Fv) X)))) := by
    intro c2 co hN hE
    have k8 := hN.1.2
    have e9 := hE.1
    refine kf_knownFrom hq hS.1.1 hN hR.1 hE _ _ (by decide) htk hR.2.1 (by rw [show K (x.1 100 4).toNatClampNeg = K (nn x) from rfl, ← hKi, c2]; decide) (fun r hr => ⟨fun c => p83 c2 co _ _ (Or.inr ?_) ?_, fun c => p83 c2 co _ _ (Or.inl ⟨c, rfl, ?_⟩) ?_⟩)
    · rcases hr with ⟨e, -⟩ | ⟨n, e1, e2, e3, e4, -⟩
      · exact absurd e c
      · exact ⟨⟨by omega, by omega⟩, rfl, by rw [show nn x = (x.1 100 4).toNatClampNeg from rfl, e4]; simp⟩
    · rcases hr with ⟨e, -⟩ | ⟨n, e1, e2, e3, e4, -⟩
      · exact absurd e c
      · rw [show nn x = (x.1 100 4).toNatClampNeg from rfl, e4]
        exact i32_of e1
    · rcases hr with ⟨-, e⟩ | ⟨n, e1, e2, e3, e4, -⟩
      · exact kfi_of e
      · exfalso
        rw [c, tm1] at e1
        omega
    · rcases hr with ⟨e0, e⟩ | ⟨n, e1, e2, e3, e4, -⟩
      · rw [show kfi sN E.1 (nn x) = none from kfi_of e]; exact e0
      · exfalso
        rw [c, tm1] at e1
        omega
  refine kg_X7_readOperand_0 hq (kp_sort hq hS.1 ⟨fun c3 => kp_sort hq hS.1 ⟨fun c62 => ?_, fun c62 => kf_addPart hq _ _ hS.2.2.1 (fun w hA hCA => fin x w 0 [(53, nn x, 0)] (by decide) (fm_rf _ _) hf hS 3 0 hA hCA rfl ⟨fun c => absurd c (by decide), by decide⟩ (dl (dull_k (by decide)) rfl).1 (dl (dull_k (by decide)) rfl).2 (stl_k (by decide)) (pO62 c62))⟩, fun c3 => ⟨RB_at hS.1, kf_addPart hq _ _ hS.2.2.1 (fun w hA hCA => fin x w 0 [(52, nn x, 0)] (by decide) (fm_rf _ _) hf hS 1 _ hA hCA (by rw [show x.1 27 (x.1 100 4).toNatClampNeg = V (nn x) from hR.1.2.1 _ hR.2.1 (by rw [← hKi, c3]; decide)]; rfl) ⟨fun c => absurd c (by decide), by decide⟩ (dl (dull_k (by decide)) rfl).1 (dl (dull_k (by decide)) rfl).2 (stl_k (by decide)) (pO2 c3))⟩⟩)
  rcases hK with e | e | ⟨e1, e2, e3, e4⟩
  · exact absurd e c3
  · exact absurd e c62
  · exact p0 e1 e2 e3 e4
end KPF
end
section
/-! the class: a cell in a claim -/
section KCF2
variable {G : kG} {q : kP} {d : Nat} {x x0 y z : gd} {F : Int32 → gd → Prop} {Fv : gd → Prop} {X : String → gd → Prop} {P : Option gv → gd → Prop} {m : Int} {K V : Nat → Int32} {sN : Nat → Nat → Bool} {e : Nat} {E : gV} {M N : gU} {o : Bool}
theorem exV_k {k a b : Nat} (h : ¬ k = 20 ∧ ¬ k = 21 ∧ ¬ k = 22) : exV E (k, a, b) = E := exV_still h
theorem UR_row (N8 : nn y = nn x + 4) (v0 : y.1 42 (nn x) = 7) (v1 : y.1 42 (nn x + 1) = 0) (v2 : y.1 42 (nn x + 2) = 12) (v3 : y.1 42 (nn x + 3) = 0) : UR sN E x y [(7, nn x, 0), (12, nn x + 2, nn x)] := by
  have x7 : exV E (7, nn x, 0) = E := exV_k (by decide)
  refine ⟨⟨HA_7.mpr ⟨by omega, Or.inl v0⟩, by rw [x7]; exact HAs_one.mpr (HA_12.mpr ⟨by omega, v2, rfl⟩)⟩, fun j h1 h2 h3 => ?_⟩
  have hj : j = nn x ∨ j = nn x + 1 ∨ j = nn x + 2 ∨ j = nn x + 3 := by omega
  rcases hj with ej | ej | ej | ej
  · rw [ej, v0]
    exact Or.inl (Or.inr (Or.inr (Or.inl ⟨rfl, rfl, rfl⟩)))
  · rw [ej] at h3; exact absurd v1 h3
  · rw [ej, v2]
    exact Or.inr (HBs_one.mpr (Or.inr (Or.inr (Or.inr (Or.inl ⟨rfl, rfl, rfl, rfl⟩)))))
  · rw [ej] at h3; exact absurd v3 h3
theorem kf_claimRow {y3 : gd} (hq : kV q) (z3 : fm sR x0 y3) (S3 : SV y3 m) (r3 : FR y3) (N3 : nn y3 = nn x + 1) (b1 : 0 ≤ nx x) (hA : KA K V sN e x) (La3 : La x y3) (on1 : nn x + 1 ≤ e) (hK1 : K (nn x + 1) = 65) (u3 : y3.1 42 (nn x) = 7) (hx : ¬ (nn x + 1 < 700 ∧ (K (nn x + 2) = 2 ∧ nn x + 2 < 700) ∧ K (nn x + 3) = 66 ∧ nn x + 3 < 700) → RX x0 X)
    (h : ∀ y8, (nn x + 1 < 700 ∧ (K (nn x + 2) = 2 ∧ nn x + 2 < 700) ∧ K (nn x + 3) = 66 ∧ nn x + 3 < 700) → SV y8 m → FR y8 → La x y8 → fm (fun c k => c = 42 ∨ (c = 100 ∧ k = 4)) y3 y8 → nn y8 = nn x + 4 → RIw K V sN e E x y8 [(7, nn x, 0), (12, nn x + 2, nn x)] → y8.1 23 (nn x + 2) = 3 → y8.1 42 (nn x) = 7 → y8.1 42 (nn x + 2) = 12 → Fv y8) :
    KE G q (d + 7) zk_X7_pass 0 [(0, vr 100)] [] y3 (rv (fun x5 => KE G q (d + 7) zk_X7_needFor 0 [(0, vr 100), (1, vi 3), (2, vi 12)] [] x5 (ri (fun r7 x6 => KE G q (d + 7) zk_X7_need 0 [(0, vr 100), (1, vi 26)] [] x6 (rv Fv) X)) X)) X := by
  have hA3 : KA K V sN e y3 := KA_fm hA La3.1
  have b3 := S3.1.2.1
  have c3 := nn_is b3
  have m3 : (y3.1 100 4).toNatClampNeg = nn x + 1 := N3
  have q1 : kc (y3.1 23 (nn x + 1)) = 65 := by rw [hA3.1 _ on1]; exact hK1
  have q1n : ¬ y3.1 23 (y3.1 100 4).toNatClampNeg = 0 := by
    rw [m3]; intro z; rw [z] at q1; exact absurd q1 (by decide)
  refine kf_pass hq z3 (fun c9 => hx (by omega)) S3 q1n (FR_12 r3) (fun c9 y5 f5 n5 S5 r5 l5 z5 => ?_)
  have i1 : nn x + 1 < 700 := by omega
  have N5 : nn y5 = nn x + 2 := by have := nn_up (y := y3) (z := y5) b3 n5; omega
  have m5 : (y5.1 100 4).toNatClampNeg = nn x + 2 := N5
  have on2 : nn x + 2 ≤ e := KA_on hA on1 i1 (by rw [hK1]; decide) (by rw [hK1]; decide)
  have hA5 : KA K V sN e y5 := KA_fm hA3 l5.1
  have b5 := S5.1.2.1
  have c5 := nn_is b5
  have k3 : y5.1 23 (nn x + 2) = 3 ↔ K (nn x + 2) = 2 := KA_k hA5 on2 3 (by decide)
  have u5 : ∀ j, y5.1 42 j = y3.1 42 j := fun j => f5 _ _ (fun q => absurd q.1 (by decide))
  clear c9 n5 c3 b3
  refine kf_needFor hq z5 3 12 (fun c10 => hx ?_) S5 (by decide) (fun _ => ⟨by omega, ?_⟩) (fun cw c10 y6 f6 u6 n6 S6 r6 l6 z6 _ => ?_)
  · rintro ⟨-, ⟨d1, d2⟩, -⟩
    rcases c10 with c10 | c10
    · rw [m5] at c10
      exact c10 (k3.mpr d1)
    · omega
  · rw [m5, Nat.add_sub_cancel, u5]
    exact u3
  rw [m5] at cw u6 f6
  have hK2 : K (nn x + 2) = 2 := k3.mp cw
  have i2 : nn x + 2 < 700 := by omega
  have N6 : nn y6 = nn x + 3 := by have := nn_up (y := y5) (z := y6) b5 n6; omega
  have m6 : (y6.1 100 4).toNatClampNeg = nn x + 3 := N6
  have on3 : nn x + 3 ≤ e := KA_on hA on2 i2 (by rw [hK2]; decide) (by rw [hK2]; decide)
  have hA6 : KA K V sN e y6 := KA_fm hA5 l6.1
  have b6 := S6.1.2.1
  have c6 := nn_is b6
  have k26 : y6.1 23 (nn x + 3) = 26 ↔ K (nn x + 3) = 66 := KA_k hA6 on3 26 (by decide)
  have e6 : ∀ j, ¬ j = nn x + 2 → y6.1 42 j = y5.1 42 j := fun j hj => f6 _ _ (fun q => q.elim (fun q => hj q.2) (fun q => absurd q.1 (by decide)))
  have t6 : y6.1 23 (nn x + 2) = 3 := by rw [f6 _ _ (fun q => q.elim (fun q => absurd q.1 (by decide)) (fun q => absurd q.1 (by decide)))]; exact cw
  clear n6 c5 c10
  refine kf_need hq z6 26 (fun c11 => hx ?_) S6 (by decide) r6 (fun cw3 c11 y8 f8 n8 S8 r8 l8 z8 => ?_)
  · rintro ⟨-, -, d1, d2⟩
    rcases c11 with c11 | c11
    · rw [m6] at c11
      exact c11 (k26.mpr d1)
    · omega
  rw [m6] at cw3
  have hK3 : K (nn x + 3) = 66 := k26.mp cw3
  have i3 : nn x + 3 < 700 := by omega
  have N8 : nn y8 = nn x + 4 := by have := nn_up (y := y6) (z := y8) b6 n8; omega
  have on4 : nn x + 4 ≤ e := KA_on hA on3 i3 (by rw [hK3]; decide) (by rw [hK3]; decide)
  have La8 : La x y8 := La_tr (La_tr (La_tr La3 l5) l6) l8
  have e8 : ∀ j, y8.1 42 j = y6.1 42 j := fun j => f8 _ _ (fun q => absurd q.1 (by decide))
  have v0 : y8.1 42 (nn x) = 7 := by rw [e8, e6 _ (by omega), u5]; exact u3
  have v1 : y8.1 42 (nn x + 1) = 0 := by
    rw [e8, e6 _ (by omega), u5, ← m3]
    exact r3
  have v2 : y8.1 42 (nn x + 2) = 12 := by rw [e8]; exact u6
  have v3 : y8.1 42 (nn x + 3) = 0 := by
    rw [e8, ← m6]
    exact r6
  refine h y8 ⟨i1, ⟨hK2, i2⟩, hK3, i3⟩ S8 r8 La8 ?_ N8 ⟨KA_fm hA La8.1, by rw [N8]; exact on4, UR_row N8 v0 v1 v2 v3⟩ ?_ v0 v2
  · exact fm_tr (fm_tr (fm_w f5 (fun c k q => Or.inr q)) (fm_w f6 (fun c k q => q.imp (fun q => q.1) id))) (fm_w f8 (fun c k q => Or.inr q))
  · rw [f8 _ _ (fun q => absurd q.1 (by decide))]; exact t6
theorem kf_claimedCell (hq : kV q) (h0 : fm sR x0 x) (L : gU) (f : Nat) (ho : o = true) (hx : pO (pE K o f) K o (nn x) L = none → RX x0 X) (hS : SU x) (hH : HI x) (hs : x.1 23 (x.1 100 4).toNatClampNeg = 2) (hR : RIw K V sN e E x x []) (h : ∀ y, SM x y → FR y → hz y = hz x → y.1 100 17 = x.1 100 17 → (∀ k, y.1 116 k = x.1 116 k ∧ y.1 117 k = x.1 117 k) → nx x < nx y → ∀ M, RIw K V sN e E x y M → still M → pO (pE K o f) K o (nn x) L = some (nn y, L ++ M) → (E.2.1 = [] → CPl x y (sPs sN V K E M)) → (∀ k, y.1 115 k = x.1 115 k) → Fv y) : KE G q (d + 8) zk_X7_claimedCell 0 [(0, vr 100)] [] x (rv Fv) X := by
  have b1 := hS.1.2.1
  have eN : ((x.1 100 4).toNatClampNeg : Int) = nx x := by rw [t_cl]; unfold nx at *; omega
  have un := nn_is b1
  have nx0 : (x.1 100 4).toNatClampNeg = nn x := rfl
  have hKi : K (nn x) = 1 := by rw [← hR.1.1 _ hR.2.1, show x.1 23 (nn x) = 2 from hs]; decide
  have pO7 : 700 ≤ nn x → pO (pE K o f) K o (nn x) L = none := fun c => by unfold pO; rw [if_pos c]
  have pOe : nn x < 700 → pO (pE K o f) K o (nn x) L = if K (nn x + 1) = 65 then (if nn x + 1 < 700 ∧ (K (nn x + 2) = 2 ∧ nn x + 2 < 700) ∧ K (nn x + 3) = 66 ∧ nn x + 3 < 700 then some (nn x + 4, L ++ [(7, nn x, 0), (12, nn x + 2, nn x)]) else none) else some (nn x + 1, L ++ [(6, nn x, 0)]) := fun c => by
    unfold pO
    rw [if_neg (by omega), if_neg (by rw [hKi]; decide), if_neg (by rw [hKi]; decide), if_neg (by rw [hKi]; decide), if_pos hKi, if_pos ho]
  have on1 : nn x < 700 → nn x + 1 ≤ e := fun c => KA_on hR.1 hR.2.1 c (by rw [hKi]; decide) (by rw [hKi]; decide)
  have e6 : Int32.ofNat (nn x) = x.1 100 4 := (i32_of (by have := un; unfold nx at this b1; omega)).symm
  have fin : ∀ (w y : gd) (M : gU), AP x w 6 (x.1 100 4) → CPl x w [(6, x.1 100 4)] → (E.2.1 = [] → sPs sN V K E M = [(6, Int32.ofNat (nn x))]) → SV y (x.1 60 3).toInt → fm (fun c k => c = 42 ∨ (c = 100 ∧ k = 4)) w y → La x y → FR y → nx x < nx y → (y.1 42 (x.1 100 4).toNatClampNeg = 6 ∨ (y.1 42 (x.1 100 4).toNatClampNeg = 7 ∧ nx x + 2 < nx y ∧ y.1 42 ((x.1 100 4).toNatClampNeg + 2) = 12 ∧ y.1 23 ((x.1 100 4).toNatClampNeg + 2) = 3)) → RIw K V sN e E x y M → still M → pO (pE K o f) K o (nn x) L = some (nn y, L ++ M) → Fv y := by
    intro w y M hA hCA hsp Sy fy la fr hn hp hRy hM hpO
    have fx : fm sSum x y := fm_tr (fm_w hA.1 (fun c k q => by unfold sSum; omega)) (fm_w fy (fun c k q => by unfold sSum; omega))
    have SUy : SU y := by
      refine ⟨Sy.1, Sy.2.1, Sy.2.2.1, fun i hi => ?_⟩
      rw [fy 60 3 (by omega)] at hi
      rcases hA.2.2.2.2 i hi with e | ⟨e1, e2⟩
      · exact Sy.2.2.2 i e
      · unfold PQ
        rw [fy 62 i (by omega), fy 63 i (by omega), e1, e2]
        refine ⟨fun c => absurd c (by decide), fun _ => ⟨(x.1 100 4).toNatClampNeg, eN.symm, by omega, ?_⟩⟩
        rcases hp with g | ⟨g1, g2, g3, g4⟩
        · exact Or.inl g
        · exact Or.inr ⟨g1, by omega, g3, g4⟩
    obtain ⟨g1, g2⟩ := HI_eq (z := y) hH (by rw [fy _ _ (by omega), hA.1 _ _ (by omega)]) (fun c k q1 q2 => by rw [fy _ _ (by omega), hA.1 _ _ (by omega)])
    exact h y ⟨SUy, g1, la, fx⟩ fr g2 (by rw [fy _ _ (by omega), hA.1 _ _ (by omega)]) (fun k => ⟨by rw [fy _ _ (by omega), hA.1 _ _ (by omega)], by rw [fy _ _ (by omega), hA.1 _ _ (by omega)]⟩) hn M hRy hM hpO (fun hb9 => by rw [hsp hb9, e6]; exact CPl_st hCA (fy _ _ (by omega)) (fun k => ⟨fy _ _ (by omega), fy _ _ (by omega)⟩)) (fun k => by rw [fy _ _ (by omega), hA.1 _ _ (by omega)])
  have p50 : ∀ (l s : Int32) (w : gd), AP x w 6 (x.1 100 4) → CPl x w [(6, x.1 100 4)] → (l = 0 ∧ s = 6 ∧ ¬ x.1 23 ((x.1 100 4).toNatClampNeg + 1) = 25 ∨ ¬ l = 0 ∧ s = 7 ∧ x.1 23 ((x.1 100 4).toNatClampNeg + 1) = 25) → KE G q (d + 8) zk_X7_claimedCell 50 [(0, vr 100), (1, vi l)] [vi s, vi (w.1 100 4), vr 42] w (rv Fv) X := by
    intro l s w hA hCA hls
    have w4 : w.1 100 4 = x.1 100 4 := hA.1 _ _ (by omega)
    rw [w4]
    refine kg_X7_claimedCell_50 hq _ _ _ ⟨RB_at hS.1, fun x2 e2 => ?_⟩
    have f2 : fm (fun c k => c = 42 ∧ k = (x.1 100 4).toNatClampNeg) w x2 := by rw [e2]; exact fm_si (fm_rf _ _) ⟨rfl, rfl⟩
    have u2 : x2.1 42 (x.1 100 4).toNatClampNeg = s := by rw [e2]; (simp only [si_get, sfl_get, Nat.reduceEqDiff, eq_self, and_false, false_and, and_true, true_and, if_true, if_false, reduceIte, reduceCtorEq])
    have q4 : x2.1 100 4 = x.1 100 4 := by rw [f2 _ _ (by omega)]; exact w4
    have Sw : SV w (x.1 60 3).toInt := AP_SV (Int.le_refl _) hS hA
    have nw : nx w = nx x := by unfold nx; rw [w4]
    have la2 : La w x2 := ⟨fun c k q1 q2 => f2 c k (by omega), by unfold nx; rw [f2 100 4 (by omega)]; exact Int.le_refl _, fun j hj => f2 42 j (by omega)⟩
    have S2 : SV x2 (x.1 60 3).toInt := by
      obtain ⟨⟨hT, b1, b2, b3⟩, ⟨u1, u2⟩, hp, hP⟩ := Sw
      have nn : nx x2 = nx w := by unfold nx; rw [f2 100 4 (by omega)]
      unfold SV US RB mt
      rw [f2 20 7 (by omega), f2 60 3 (by omega), nn]
      refine ⟨⟨kT_fm hT la2.1, b1, b2, b3⟩, ⟨fun j h1 h2 => ?_, fun j h1 h2 => ?_⟩, hp, fun i hi => La_PQ la2 (f2 _ _ (by omega)) (f2 _ _ (by omega)) (hP i hi)⟩
      · rw [f2 42 j (by omega)]; exact u1 j h1 h2
      · rw [f2 42 j (by omega)] at h2; rw [f2 42 _ (by omega)]; exact u2 j h1 h2
    have t2 : ∀ k, x2.1 23 k = x.1 23 k := fun k => by rw [f2 _ _ (by omega), hA.1 _ _ (by omega)]
    have fx2 : fm sSum x x2 := fm_tr (fm_w hA.1 (fun c k q => by unfold sSum; omega)) (fm_w f2 (fun c k q => by unfold sSum; omega))
    have n2 : nx x2 = nx x := by unfold nx; rw [q4]
    refine kf_pass hq (fm_tr h0 (fm_w fx2 (fun c k q => sSum_R q))) (fun c7 => hx (pO7 (by omega))) S2 (by rw [q4, t2, hs]; decide) ?_ (fun c7 y3 f3 n3 S3 r3 l3 z3 => ?_)
    · rw [q4, u2]
      rcases hls with ⟨-, rfl, -⟩ | ⟨-, rfl, -⟩ <;> decide
    have i7 : nn x < 700 := by omega
    have hpe := pOe i7
    have La3 : La x y3 := La_tr (La_tr (AP_La hA) la2) l3
    have u3 : y3.1 42 (x.1 100 4).toNatClampNeg = s := by rw [f3 _ _ (by omega)]; exact u2
    have N3 : nn y3 = nn x + 1 := nn_up (y := x) b1 (by omega)
    have m3 : (y3.1 100 4).toNatClampNeg = nn x + 1 := N3
    have k25 : x.1 23 (nn x + 1) = 25 ↔ K (nn x + 1) = 65 := KA_k hR.1 (on1 i7) 25 (by decide)
    refine ⟨fun c => rv_i ?_, fun c => ?_⟩
    · obtain ⟨-, es, e25⟩ : l = 0 ∧ s = 6 ∧ ¬ x.1 23 ((x.1 100 4).toNatClampNeg + 1) = 25 := by
        rcases hls with e | ⟨e, -⟩
        · exact e
        · exact absurd c e
      rw [if_neg (fun z => e25 (k25.mpr z))] at hpe
      have hsp : E.2.1 = [] → sPs sN V K E [(6, nn x, 0)] = [(6, Int32.ofNat (nn x))] := fun hE0 => by
        show [(6, nn x, 0)].filterMap (cPt sN V K E) = _
        have e9 : cPt sN V K E (6, nn x, 0) = some (6, Int32.ofNat (nn x)) := if_pos hE0
        simp [e9]
      refine fin w y3 [(6, nn x, 0)] hA hCA hsp S3 (fm_tr (fm_w f2 (fun c k q => Or.inl q.1)) (fm_w f3 (fun c k q => Or.inr q))) La3 r3 (by omega) (Or.inl (by rw [u3, es])) ⟨KA_fm hR.1 La3.1, by rw [N3]; exact on1 i7, HAs_one.mpr (HA_6.mpr ⟨by omega, by rw [show y3.1 42 (nn x) = s from u3, es]⟩), fun j h1 h2 h3 => ?_⟩ (stl_k (by decide)) (by rw [N3]; exact hpe)
      have ej : j = nn x := by omega
      rw [ej]
      exact HBs_one.mpr (Or.inr (Or.inl ⟨rfl, by rw [show y3.1 42 (nn x) = s from u3, es], rfl⟩))
    obtain ⟨es, e25⟩ : s = 7 ∧ x.1 23 ((x.1 100 4).toNatClampNeg + 1) = 25 := by
      rcases hls with ⟨e, -⟩ | ⟨-, e⟩
      · exact absurd e c
      · exact e
    have hK1 : K (nn x + 1) = 65 := k25.mp e25
    rw [if_pos hK1] at hpe
    refine kf_claimRow (E := E) hq z3 S3 r3 N3 b1 hR.1 La3 (on1 i7) hK1 (u3.trans es) (fun no => hx (by rw [hpe, if_neg no])) (fun y8 yes S8 r8 La8 f8 N8 hR8 c8 u8 u82 => rv_i ?_)
    rw [if_pos yes] at hpe
    have c8n := nn_is S8.1.2.1
    have hsp : E.2.1 = [] → sPs sN V K E [(7, nn x, 0), (12, nn x + 2, nn x)] = [(6, Int32.ofNat (nn x))] := fun hE0 => by
      show [(7, nn x, 0), (12, nn x + 2, nn x)].filterMap (cPt sN V K E) = _
      have e9 : cPt sN V K E (7, nn x, 0) = some (6, Int32.ofNat (nn x)) := if_pos hE0
      have e10 : cPt sN V K E (12, nn x + 2, nn x) = none := rfl
      simp [e9, e10]
    exact fin w y8 [(7, nn x, 0), (12, nn x + 2, nn x)] hA hCA hsp S8 (fm_tr (fm_tr (fm_w f2 (fun c k q => Or.inl q.1)) (fm_w f3 (fun c k q => Or.inr q))) f8) La8 r8 (by omega) (Or.inr ⟨u8, by omega, u82, c8⟩) hR8 (still_app (L := [(7, nn x, 0)]) (M := [(12, nn x + 2, nn x)]) (stl_k (by decide)) (stl_k (by decide))) (by rw [N8]; exact hpe)
  have p14 : ∀ s : Int32, (s = 0 ∧ ¬ x.1 23 ((x.1 100 4).toNatClampNeg + 1) = 25 ∨ s = 1 ∧ x.1 23 ((x.1 100 4).toNatClampNeg + 1) = 25) → KE G q (d + 8) zk_X7_claimedCell 14 [(0, vr 100)] [vi s] x (rv Fv) X := by
    intro s hs1
    refine kg_X7_claimedCell_14 hq _ (kf_addPart hq _ _ hS.2.2.1 (fun w hA hCA => ⟨fun c => p50 _ _ w hA hCA (Or.inl ⟨c, rfl, ?_⟩), fun c => p50 _ _ w hA hCA (Or.inr ⟨c, rfl, ?_⟩)⟩))
    · rcases hs1 with ⟨-, e⟩ | ⟨e, -⟩
      · exact e
      · rw [e] at c; exact absurd c (by decide)
    · rcases hs1 with ⟨e, -⟩ | ⟨-, e⟩
      · exact absurd e c
      · exact e
  exact kg_X7_claimedCell_0 hq (kp_sortBehind hq hS.1 ⟨fun c => p14 _ (Or.inl ⟨rfl, c⟩), fun c => p14 _ (Or.inr ⟨rfl, c⟩)⟩)
end KCF2
end
section
/-! the class: a sum is read as the grammar says -/
theorem dAk_1 {K : Nat → Int32} {o : Bool} {f i : Nat} {v : Nat × Nat × Nat} {L : gU} : dAk K o [(0, f, v)] i L = pE K o f 0 i L := by
  show (pE K o f 0 i L).bind (fun q => some (q.1, q.2)) = _
  cases pE K o f 0 i L with
  | none => rfl
  | some q => rfl
theorem pst_03 {k : Int32} (h : ¬ pst k = 0) : ¬ k = 0 ∧ ¬ k = 3 := ⟨fun z => h (by rw [z]; decide), fun z => h (by rw [z]; decide)⟩
theorem opE_still {M : gU} (h : opE M) : still M := fun v hv => by
  rcases h v hv with e | e <;> rw [e] <;> decide
section KSG
variable {G : kG} {q : kP} {d : Nat} {x x0 y z : gd} {F : Int32 → gd → Prop} {Fv : gd → Prop} {X : String → gd → Prop} {P : Option gv → gd → Prop} {m : Int} {K V : Nat → Int32} {sN : Nat → Nat → Bool} {e : Nat} {E : gV} {M N : gU} {o : Bool}
theorem RI_op (h : RIw K V sN e E x y M) (hN : opE N) : RIw K V sN e E x y (M ++ N) := ⟨h.1, h.2.1, UR_op h.2.2 hN⟩
/-- the parts of a sum under way: what is held, what is written (in a claim: where no block is open) -/
def SXg (sN : Nat → Nat → Bool) (V K : Nat → Int32) (E : gV) (H : Prop) (x y : gd) (sy : gH) (M : gU) : Prop := HP K y (y.1 100 17).toNatClampNeg sy ∧ (H → CPl x y (sPs sN V K E M))
theorem SX_rel {H : Prop} {sy s2 : gH} (h : SXg sN V K E H x y sy M) (hN : opE N) (hp : HP K z (z.1 100 17).toNatClampNeg s2) (hc : CPl y z (oPs K N)) : SXg sN V K E H x z s2 (M ++ N) :=
  ⟨hp, fun q => by rw [sPs_app, sPs_op hN]; exact CPl_app (h.2 q) hc⟩
theorem SX_st {H : Prop} {sy : gH} (h : SXg sN V K E H x y sy M) (e17 : z.1 100 17 = y.1 100 17) (e115 : ∀ k, z.1 115 k = y.1 115 k) (e3 : z.1 60 3 = y.1 60 3) (e6 : ∀ k, z.1 62 k = y.1 62 k ∧ z.1 63 k = y.1 63 k) : SXg sN V K E H x z sy M :=
  ⟨by rw [e17]; exact HP_eq (fun k _ => e115 k) h.1, fun q => CPl_st (h.2 q) e3 e6⟩
theorem kf_sum (hq : kV q) (h0 : fm sR x0 x) (D : Int32) (L : gU) (hx : pX K o (17 - D.toNatClampNeg) (nn x) L = none → RX x0 X) (hS : SU x) (hf : FR x) (hK : ¬ x.1 100 5 = 0 → KN x ∧ KV' K e x E) (ho : o = true ↔ x.1 100 5 = 0) (hR : RIw K V sN e E x x []) (hD : 1 ≤ D.toInt) (hD2 : D.toInt ≤ 18) (h : ∀ r y, SU y → FR y → La x y → fm sSum x y → nx x < nx y → ∀ M, RIw K V sN e E x y M → still M → pX K o (17 - D.toNatClampNeg) (nn x) L = some (nn y, L ++ M) → ((o = true → E.2.1 = []) → CPl x y (sPs sN V K E M)) → r = x.1 60 3 → F r y) : KE G q (d + 9) zk_X7_sum 0 [(0, vr 100), (1, vi D)] [] x (ri F) X := by
  have k700 : (700 : Int32).toInt = 700 := rfl
  have k1 : (1 : Int32).toInt = 1 := rfl
  have k0 : (0 : Int32).toInt = 0 := rfl
  have hn0 := hS.1.2.1
  obtain ⟨H, hH⟩ : ∃ H : Prop, H ↔ (o = true → E.2.1 = []) := ⟨_, Iff.rfl⟩
  have h0y : ∀ {y : gd}, SM x y → fm sR x0 y := fun hM => fm_tr h0 (fm_w hM.2.2.2 (fun c k q => sSum_R q))
  obtain ⟨W, eW⟩ : ∃ W, W = pE K o (17 - D.toNatClampNeg) 0 (nn x) L := ⟨_, rfl⟩
  have hxW : W = none → RX x0 X := fun z => hx (by unfold pX; rw [← eW, z]; rfl)
  have p162 : ∀ (l2 : Int32) (y : gd) (sy : gH) (M : gU), SM x y → FR y → nx x < nx y → hz y = 1 → HD y (y.1 100 17).toNatClampNeg sy → RIw K V sN e E x y M → still M → pst (K (nn y)) = 0 → W = dW K o sy (nn y) (L ++ M) → SXg sN V K E H x y sy M → l2 = x.1 60 3 → KE G q (d + 9) zk_X7_sum 162 [(0, vr 100), (2, vi l2)] [] y (ri F) X := by
    intro l2 y sy M hM hF hn hz1 hDy hRy hMs hp hW hsx hl2
    refine kg_X7_sum_162 hq _ (kf_release hq _ (by decide) (by decide) K o (nn y) sy (L ++ M) hDy hsx.1 (by rw [hp]; decide) (by omega) hM.1 hM.2.1 (fun z fz Sz Hz zz _ _ hsa a r v s' N hDz ha hN hdz hPz hCz _ => kf_addPart hq _ _ Sz.2.2.1 (fun w hA hCA => ri_i ?_)))
    obtain ⟨g1, g2, g3⟩ := SM_rel hM fz Sz Hz
    have Sw : SU w := AP_SU Sz hA (fun c => absurd c (by decide)) (by decide)
    have w4 : w.1 100 4 = z.1 100 4 := hA.1 _ _ (by omega)
    have a0 : a = 0 := by rw [k1] at ha; omega
    have se : s' = [] := by
      have e1 := HD_zs hDz
      have e2 : zc z (z.1 100 17).toNatClampNeg = 1 := by show hz z = 1; rw [zz]; exact hz1
      rw [e2] at e1
      have e3 : (1 : Nat) = zs s' + (if a = 0 then 1 else 0) := e1
      rw [if_pos a0] at e3
      cases hn9 : (z.1 100 17).toNatClampNeg with
      | zero => rw [hn9] at hDz; exact absurd hDz (by show ¬ (a, r, v) :: s' = []; simp)
      | succ n =>
        rw [hn9] at hDz
        obtain ⟨a9, r9, v9, s9, q1, q2, q3, q4, q5, q6⟩ := hDz
        have q1 : s' = s9 := (List.cons.inj q1).2
        rw [← q1] at q6
        cases n with
        | zero => exact q6
        | succ n => have := HD_b q6; omega
    have nz : nn z = nn y := by unfold nn; rw [g3]
    have nw : nn w = nn y := by rw [← nz]; unfold nn; rw [w4]
    have uz : ∀ j, w.1 42 j = y.1 42 j := fun j => by rw [hA.1 42 j (by omega), fz 42 j (by omega)]
    have lw : La x w := La_tr g1.2.2.1 (AP_La hA)
    refine h l2 w Sw ?_ lw (fm_tr g1.2.2.2 (fm_w hA.1 (fun c k q => by unfold sSum; omega))) ?_ (M ++ N ++ [(54, 0, 0)]) ?_ (still_app (still_app hMs (opE_still hN)) (stl_k (by decide))) ?_ (fun q => ?_) hl2
    rotate_right
    · rw [sPs_app]
      exact CPl_app ((SX_rel hsx hN hPz hCz).2 (hH.mpr q)) hCA
    · have := g2 hF
      unfold FR at this ⊢
      rw [w4, hA.1 42 _ (by omega)]; exact this
    · unfold nx at hn ⊢
      rw [w4, g3]; exact hn
    · have r1 : RIw K V sN e E x w M := RI_st hRy (by rw [w4, g3]) uz (fun c k q1 q2 => by rw [hA.1 _ _ (by omega), fz _ _ (by omega)])
      have r2 := RI_op r1 hN
      exact ⟨r2.1, r2.2.1, UR_dull r2.2.2 (dull_k (by decide))⟩
    · unfold pX
      rw [← eW, hW, hdz, a0, se, dW_end (by omega), nw]
      show some (nn y, L ++ M ++ N ++ [(54, 0, 0)]) = _
      rw [List.append_assoc L, List.append_assoc L]
  have p153 : ∀ (l2 p : Int32) (y : gd) (sy : gH) (M : gU), SM x y → FR y → nx x < nx y → 0 ≤ p.toInt → (hz y : Int) = p.toInt + 1 → HD y (y.1 100 17).toNatClampNeg sy → RIw K V sN e E x y M → still M → pst (K (nn y)) = 0 → W = dW K o sy (nn y) (L ++ M) → (p.toInt ≤ 0 ∨ ¬ (K (nn y) = 62 ∧ nn y < 700)) → SXg sN V K E H x y sy M → l2 = x.1 60 3 → KE G q (d + 9) zk_X7_sum 153 [(0, vr 100), (2, vi l2), (3, vi p)] [] y (ri F) X := by
    intro l2 p y sy M hM hF hn p0 hzy hDy hRy hMs hp hW hor hsx hl2
    refine kg_X7_sum_153 hq _ _ ⟨fun c => p162 l2 y sy M hM hF hn ?_ hDy hRy hMs hp hW hsx hl2, fun c => kp_refuse hq _ (RB_at hM.1.1) (h0y hM) (hxW ?_)⟩
    · rw [t_le, k0] at c; omega
    · rw [t_le, k0] at c
      rw [hW]
      refine dW_stuck hp (hor.resolve_left c) ?_
      rw [← HD_zs hDy]
      show 2 ≤ hz y
      omega
  have loop : ∀ (n : Nat) (l2 p k : Int32) (y : gd) (sy : gH) (M : gU), SM x y → FR y → 0 ≤ p.toInt → (hz y : Int) = p.toInt + 1 → 0 ≤ k.toInt → nx x + k.toInt ≤ nx y → 700 - nx y < n → HD y (y.1 100 17).toNatClampNeg sy → RIw K V sN e E x y M → still M → W = dAk K o sy (nn y) (L ++ M) → SXg sN V K E H x y sy M → l2 = x.1 60 3 → KE G q (d + 9) zk_X7_sum 25 [(0, vr 100), (2, vi l2), (3, vi p), (4, vi k)] [] y (ri F) X := by
    intro n
    induction n with
    | zero =>
      intro l2 p k y sy M hM hF p0 hzy kp hk hn hDy hRy hMs hW hsx hl2
      have b2 := hM.1.1.2.2.1
      omega
    | succ n ih =>
      intro l2 p k y sy M hM hF p0 hzy kp hk hn hDy hRy hMs hW hsx hl2
      have b2 := hM.1.1.2.2.1
      have p104 : ∀ (p : Int32) (z : gd) (sz : gH) (Mz : gU), SM x z → FR z → 0 ≤ p.toInt → (hz z : Int) = p.toInt + 1 → DL z → nx y < nx z → HD z (z.1 100 17).toNatClampNeg sz → RIw K V sN e E x z Mz → still Mz → W = dW K o sz (nn z) (L ++ Mz) → (p.toInt ≤ 0 ∨ ¬ K (nn z) = 62) → SXg sN V K E H x z sz Mz → KE G q (d + 9) zk_X7_sum 104 [(0, vr 100), (2, vi l2), (3, vi p), (4, vi k)] [] z (ri F) X := by
        intro p z sz Mz hMz hFz p0 hzz hDz hnz hSz hRz hMzs hWz hor hsz
        have hKz : kc (z.1 23 (z.1 100 4).toNatClampNeg) = K (nn z) := hRz.1.1 _ hRz.2.1
        refine kg_X7_sum_104 hq _ _ _ (kp_sort hq hMz.1.1 (kf_strengthOf hq _ _ hKz (fun r hrp hr => ⟨fun c => ?_, fun c => p153 _ _ z sz Mz hMz hFz (by omega) p0 hzz hSz hRz hMzs (by rw [c, k0] at hrp; omega) hWz (hor.imp id (fun q z => q z.1)) hsz hl2⟩)))
        obtain ⟨⟨r1, r5⟩, s2, s6, s0⟩ := hr c
        refine kf_release hq _ r1 r5 K o (nn z) sz (L ++ Mz) hSz hsz.1 (by omega) (by omega) hMz.1 hMz.2.1 (fun w fw Sw Hw zw hle _ hsa a r' v s' N hDw ha hN hdw hPw hCw h115w => ?_)
        have hsw := SX_rel hsz hN hPw hCw
        obtain ⟨g1, g2, g3⟩ := SM_rel hMz fw Sw Hw
        have t23 : ∀ j, w.1 23 j = z.1 23 j := fun j => fw _ _ (by omega)
        have u42 : ∀ j, w.1 42 j = z.1 42 j := fun j => fw _ _ (by omega)
        have hRw : RIw K V sN e E x w (Mz ++ N) := RI_op (RI_st hRz g3 u42 (fun c k q1 q2 => fw _ _ (by omega))) hN
        have nw : nn w = nn z := by unfold nn; rw [g3]
        refine kp_sort hq Sw.1 (kp_depthHere hq Hw ?_)
        rw [g3, t23]
        have dd := dh_is Hw
        have hDw2 : (dh w).toInt ≤ 16 := by
          unfold dh
          split
          · decide
          · rename_i c9
            have a0 := Hw.1.1
            have a1 := Hw.1.2
            rw [t_le, k0] at c9
            have e1 : (w.1 100 17 - 1).toInt = (w.1 100 17).toInt - 1 := t_sub (by rw [k1]; omega) (by rw [k1]; omega)
            rw [fw 117 _ (by omega)]
            refine hDz _ ?_
            rw [t_cl, e1]; omega
        obtain ⟨a', r'', v', s'', es, hr17⟩ := HD_top Hw (by omega) hDw
        have er : r' = r'' := by
          have := (List.cons.inj es).1
          exact (Prod.mk.inj (Prod.mk.inj this).2).1
        obtain ⟨f9, ef9⟩ : ∃ f9, r' = f9 + 1 := ⟨r' - 1, by omega⟩
        have e1 : (dh w + 1).toInt = (dh w).toInt + 1 := t_add (by rw [k1]; omega) (by rw [k1]; omega)
        have hzw1 : 1 ≤ hz w := by omega
        refine kf_hold hq _ _ _ Hw ⟨s2, s6⟩ (by omega) (by omega) (by omega) (fun i hi => ?_) (fun v9 fv Hv zv t1 t2 t3 t4 t5 t6 => ?_)
        · have := dd.2.2.2 i hi; omega
        obtain ⟨j1, j2, j3⟩ := SM_hold g1 fv Hv
        have v23 : ¬ v9.1 23 (v9.1 100 4).toNatClampNeg = 0 := by rw [j3, g3, fv _ _ (by omega), t23]; exact s0
        have hRv : RIw K V sN e E x v9 (Mz ++ N) := RI_st hRw j3 (fun j => fv _ _ (by omega)) (fun c k q1 q2 => fv _ _ (by omega))
        have nv9 : nn v9 = nn z := by rw [← nw]; unfold nn; rw [j3]
        have nv : nx v9 = nx z := by unfold nx; rw [j3, g3]
        have bz := hMz.1.1.2.1
        have cz := nn_is bz
        have hD9 : HD v9 (v9.1 100 17).toNatClampNeg ((pst (K (nn z)), f9, 51, nn z, 0) :: (a, f9 + 1, v) :: s') := by
          have a0 := Hw.1.1
          have hzn : hz w ≤ (w.1 100 17).toNatClampNeg := zc_le _
          have n9 : (v9.1 100 17).toNatClampNeg = (w.1 100 17).toNatClampNeg + 1 := by rw [t_cl, t_cl]; omega
          have ud := t_cl (dh w + 1)
          rw [n9]
          refine ⟨pst (K (nn z)), f9, (51, nn z, 0), (a, f9 + 1, v) :: s', rfl, Or.inl ?_, Or.inl ?_, ⟨by omega, fun q => absurd q (by omega)⟩, Or.inr rfl, ?_⟩
          · rw [t3]; omega
          · rw [t2]; exact hrp
          · rw [← ef9]; exact HD_eq t4 hDw
        have pne : ¬ pst (K (nn z)) = 0 := by omega
        have hP9 : HP K v9 (v9.1 100 17).toNatClampNeg ((pst (K (nn z)), f9, 51, nn z, 0) :: (a, f9 + 1, v) :: s') := by
          have a0 := Hw.1.1
          have n9 : (v9.1 100 17).toNatClampNeg = (w.1 100 17).toNatClampNeg + 1 := by rw [t_cl, t_cl]; omega
          rw [n9]
          refine ⟨fun _ => ?_, ?_⟩
          · rw [t5]
            show _ = if (51 : Nat) = 50 then _ else kcv (K (nn z))
            rw [if_neg (by decide)]
            exact (kcv_is hKz pne).symm
          · rw [← ef9]; exact HP_eq t6 hsw.1
        have alt : a < pst (K (nn z)) := by omega
        refine kf_pass hq (h0y j1) (fun c7 => hxW ?_) j1.1 v23 (FR_12 (j2 (g2 hFz))) (fun c7 t ft nt St rt lt _ => ?_)
        · rw [hWz, hdw]
          exact dW_op7 alt (by omega)
        obtain ⟨m1, m2⟩ := SM_pass j1 ft St lt
        have ek : (k + 1).toInt = k.toInt + 1 := t_add (by rw [k1]; omega) (by rw [k1]; omega)
        have nt9 : nn t = nn z + 1 := by have := nn_up (y := v9) (z := t) (by omega) nt; omega
        have ut : t.1 42 (nn v9) = 0 := by rw [ft 42 _ (by omega)]; exact j2 (g2 hFz)
        refine ih _ p (k + 1) t _ (Mz ++ N) m1 rt p0 (by rw [m2, zv, if_neg c, zw]; exact hzz) (by omega) (by omega) (by omega) (by rw [ft 100 17 (by omega)]; exact HD_eq (fun k _ => ⟨ft _ _ (by omega), ft _ _ (by omega)⟩) hD9) (RI_tok hRv (by omega) (by omega) (by rw [nv9]; exact (pst_03 pne).1) (by rw [nv9]; exact (pst_03 pne).2) lt nt ut) (still_app hMzs (opE_still hN)) ?_ ?_ ?_
        · rw [hWz, hdw, ef9, dW_op alt (by omega), nt9, List.append_assoc]
        · refine ⟨?_, fun q9 => CPl_st (CPl_st (hsw.2 q9) (fv _ _ (by omega)) (fun k => ⟨fv _ _ (by omega), fv _ _ (by omega)⟩)) (ft _ _ (by omega)) (fun k => ⟨ft _ _ (by omega), ft _ _ (by omega)⟩)⟩
          rw [ft 100 17 (by omega)]; exact HP_eq (fun k _ => ft _ _ (by omega)) hP9
        · exact hl2
      have p66 : ∀ (j : Nat) (p : Int32) (z : gd) (sz : gH) (Mz : gU), SM x z → FR z → 0 ≤ p.toInt → p.toInt ≤ j → (hz z : Int) = p.toInt + 1 → DL z → nx y < nx z → HD z (z.1 100 17).toNatClampNeg sz → RIw K V sN e E x z Mz → still Mz → W = dW K o sz (nn z) (L ++ Mz) → SXg sN V K E H x z sz Mz → KE G q (d + 9) zk_X7_sum 66 [(0, vr 100), (2, vi l2), (3, vi p), (4, vi k)] [] z (ri F) X := by
        intro j
        induction j with
        | zero =>
          intro p z sz Mz hMz hFz p0 pj hzz hDz hnz hSz hRz hMzs hWz hsz
          refine kg_X7_sum_66 hq _ _ _ ⟨fun c => p104 p z sz Mz hMz hFz p0 hzz hDz hnz hSz hRz hMzs hWz (Or.inl (by omega)) hsz, fun c => ?_⟩
          exfalso; rw [t_le, k0] at c; omega
        | succ j ihj =>
          intro p z sz Mz hMz hFz p0 pj hzz hDz hnz hSz hRz hMzs hWz hsz
          have hKz : kc (z.1 23 (z.1 100 4).toNatClampNeg) = K (nn z) := hRz.1.1 _ hRz.2.1
          have k22 : z.1 23 (z.1 100 4).toNatClampNeg = 22 ↔ K (nn z) = 62 := KA_k hRz.1 hRz.2.1 22 (by decide)
          refine kg_X7_sum_66 hq _ _ _ ⟨fun c => p104 p z sz Mz hMz hFz p0 hzz hDz hnz hSz hRz hMzs hWz (Or.inl (by rw [t_le, k0] at c; exact c)) hsz, fun c => kp_sort hq hMz.1.1 ⟨fun c2 => p104 p z sz Mz hMz hFz p0 hzz hDz hnz hSz hRz hMzs hWz (Or.inr (fun q => c2 (k22.mpr q))) hsz, fun c2 => ?_⟩⟩
          rw [t_le, k0] at c
          have hK62 : K (nn z) = 62 := k22.mp c2
          have pz : pst (K (nn z)) = 0 := by rw [hK62]; decide
          have bz := hMz.1.1.2.1
          have cz := nn_is bz
          refine kf_pass hq (h0y hMz) (fun c7 => hxW ?_) hMz.1 (by rw [c2]; decide) (FR_12 hFz) (fun c7 t ft nt St rt lt _ => ?_)
          · rw [hWz]
            refine dW_stuck pz (fun q => absurd q.2 (by omega)) ?_
            rw [← HD_zs hSz]
            show 2 ≤ hz z
            omega
          obtain ⟨m1, m2⟩ := SM_pass hMz ft St lt
          have nt9 : nn t = nn z + 1 := nn_up bz nt
          have ut : t.1 42 (nn z) = 0 := by rw [ft 42 _ (by omega)]; exact hFz
          have hRt : RIw K V sN e E x t Mz := RI_tok hRz bz c7 (by rw [hK62]; decide) (by rw [hK62]; decide) lt nt ut
          have hSt : HD t (t.1 100 17).toNatClampNeg sz := by rw [ft 100 17 (by omega)]; exact HD_eq (fun k _ => ⟨ft _ _ (by omega), ft _ _ (by omega)⟩) hSz
          have hst9 : SXg sN V K E H x t sz Mz := SX_st hsz (ft _ _ (by omega)) (fun k => ft _ _ (by omega)) (ft _ _ (by omega)) (fun k => ⟨ft _ _ (by omega), ft _ _ (by omega)⟩)
          refine kf_release hq _ (by decide) (by decide) K o (nn z) sz (L ++ Mz) hSt hst9.1 (by rw [pz]; decide) (by omega) m1.1 m1.2.1 (fun w fw Sw Hw zw hle htop hsa a r' v9 s' N hDw ha hN hdw hPw hCw h115w => ?_)
          have hsw := SX_rel hst9 hN hPw hCw
          intro v ev
          obtain ⟨g1, g2, g3⟩ := SM_rel m1 fw Sw Hw
          obtain ⟨⟨a0, a1⟩, a2, a3⟩ := id Hw
          have hw1 : 1 ≤ (w.1 100 17).toInt := by
            have : hz w ≤ (w.1 100 17).toNatClampNeg := zc_le _
            rw [t_cl] at this
            rw [zw, m2] at this
            omega
          have az : a = 0 := by rw [k1] at ha; omega
          have e1 : (w.1 100 17 - 1).toInt = (w.1 100 17).toInt - 1 := t_sub (by rw [k1]; omega) (by rw [k1]; omega)
          have v17 : v.1 100 17 = w.1 100 17 - 1 := by rw [ev]; (simp only [si_get, sfl_get, Nat.reduceEqDiff, eq_self, and_false, false_and, and_true, true_and, if_true, if_false, reduceIte, reduceCtorEq])
          have fv : fm (fun c k => (c = 100 ∧ k = 17) ∨ (115 ≤ c ∧ c ≤ 117)) w v := by rw [ev]; exact fm_si (fm_rf _ _) (Or.inl ⟨rfl, rfl⟩)
          have fv2 : fm (fun c k => c = 100 ∧ k = 17) w v := by rw [ev]; exact fm_si (fm_rf _ _) ⟨rfl, rfl⟩
          have Hv : HI v := by
            unfold HI
            rw [v17, e1]
            refine ⟨by omega, fun i hi => ?_, fun i j hij hj => ?_⟩
            · rw [fv2 115 i (by omega), fv2 116 i (by omega), fv2 117 i (by omega)]; exact a2 i (by omega)
            · rw [fv2 117 i (by omega), fv2 117 j (by omega)]; exact a3 i j hij (by omega)
          have n5 : (w.1 100 17).toNatClampNeg = (v.1 100 17).toNatClampNeg + 1 := by rw [v17, t_cl, t_cl, e1]; omega
          have hDv : HD v (v.1 100 17).toNatClampNeg s' := by
            rw [n5] at hDw
            obtain ⟨a9, r9, v8, s9, q1, q2, q3, q4, q5, q6⟩ := hDw
            have q1 : s' = s9 := (List.cons.inj q1).2
            rw [q1]
            exact HD_eq (fun k _ => ⟨fv2 _ _ (by omega), fv2 _ _ (by omega)⟩) q6
          have zv : hz v + 1 = hz w := by
            have z1 := HD_zs hDv
            have z2 := HD_zs hDw
            have z3 : zs ((a, r', v9) :: s') = zs s' + (if a = 0 then 1 else 0) := rfl
            rw [if_pos az] at z3
            unfold hz
            omega
          obtain ⟨j1, j2, j3⟩ := SM_hold g1 fv Hv
          have rp := t_rg p
          have ep : (p + (-1)).toInt = p.toInt - 1 := by rw [t_add (by rw [tm1]; omega) (by rw [tm1]; omega), tm1]; rfl
          clear rp
          obtain ⟨p2, ep2⟩ : ∃ p2, p2 = p + (-1) := ⟨_, rfl⟩
          rw [← ep2] at ep ⊢
          have nv : nx v = nx t := by unfold nx; rw [j3, g3]
          have nv9 : nn v = nn z + 1 := by rw [← nt9]; unfold nn; rw [j3, g3]
          have b1 : 0 ≤ p2.toInt := by rw [ep]; omega
          have b2 : p2.toInt ≤ (j : Int) := by rw [ep]; omega
          have hz9 : (hz v : Int) = p2.toInt + 1 := by rw [ep]; rw [zw, m2] at zv; omega
          have hRv : RIw K V sN e E x v (Mz ++ N) := RI_op (RI_st (RI_st hRt g3 (fun j => fw _ _ (by omega)) (fun c k q1 q2 => fw _ _ (by omega))) j3 (fun j => fv _ _ (by omega)) (fun c k q1 q2 => fv _ _ (by omega))) hN
          refine ihj p2 v s' (Mz ++ N) j1 (j2 (g2 rt)) b1 b2 hz9 ?_ (by omega) hDv hRv (still_app hMzs (opE_still hN)) ?_ ?_
          · intro i hi
            rw [v17, e1] at hi
            rw [fv2 117 i (by omega), fw 117 i (by omega), ft 117 i (by omega)]
            refine hDz i ?_
            rw [ft 100 17 (by omega)] at hle
            omega
          · rw [hWz, hdw, az]
            cases s' with
            | nil =>
              exfalso
              have z1 := HD_zs hDv
              have : zs ([] : gH) = 0 := rfl
              unfold hz at hz9
              omega
            | cons y1 s1 =>
              rw [dW_par pz, if_pos ⟨hK62, by omega⟩, nv9, List.append_assoc]
          · refine ⟨?_, fun q9 => CPl_st (hsw.2 q9) (fv2 _ _ (by omega)) (fun k => ⟨fv2 _ _ (by omega), fv2 _ _ (by omega)⟩)⟩
            have h9 := hsw.1
            rw [n5] at h9
            exact HP_eq (fun k _ => fv2 _ _ (by omega)) h9.2
      have hoy : o = true ↔ y.1 100 5 = 0 := by rw [hM.2.2.2 100 5 (by unfold sSum; omega)]; exact ho
      refine kg_X7_sum_25 hq _ _ _ ⟨fun c => ?_, fun c => kf_openOperand hq (h0y hM) sy (L ++ M) (fun z => hxW (hW.trans z)) hM.1 hM.2.1 hF hoy (RI_0 hRy) (by omega) hDy hsx.1 (fun r z hMz hFz r0 r7 hzz hDz hsz hRz a f9 v s' hSz hdz hPz hCz => kp_sort hq hMz.1.1 ?_)⟩
      · exfalso; rw [t_lt, k700] at c; omega
      have hMxz := SM_tr hM hMz
      have by0 := hM.1.1.2.1
      have hRxz : RIw K V sN e E x z M := by
        have := RI_app by0 hMs hRy hMz.2.2.1 hRz
        rw [List.append_nil] at this
        exact this
      have hWz := hW.trans hdz
      have hKz : kc (z.1 23 (z.1 100 4).toNatClampNeg) = K (nn z) := hRxz.1.1 _ hRxz.2.1
      have hzle : hz y ≤ 18 := by
        have : hz y ≤ (y.1 100 17).toNatClampNeg := zc_le _
        have a1 := hM.2.1.1.2
        rw [t_cl] at this; omega
      have epr : (p + r).toInt = p.toInt + r.toInt := t_add (by omega) (by omega)
      have hoz : o = true ↔ z.1 100 5 = 0 := by rw [hMxz.2.2.2 100 5 (by unfold sSum; omega)]; exact ho
      have hKNz : ¬ z.1 100 5 = 0 → KN z ∧ KV' K e z E := fun q9 => by
        obtain ⟨c1, c2⟩ := hK (by rw [← hMxz.2.2.2 100 5 (by unfold sSum; omega)]; exact q9)
        exact ⟨KN_fm c1 (hMxz.2.2.2 _ _ (by unfold sSum; omega)) (hMxz.2.2.2 _ _ (by unfold sSum; omega)) (fun k => hMxz.2.2.2 _ _ (by unfold sSum; omega)), KV_fm c2 (hMxz.2.2.2 _ _ (by unfold sSum; omega)) (fun k => hMxz.2.2.2 _ _ (by unfold sSum; omega))⟩
      have bz := hMz.1.1.2.1
      have hsxz : SXg sN V K E H x z ((a, f9 + 1, v) :: s') M := by
        refine ⟨hPz, fun q9 => ?_⟩
        have := CPl_app (hsx.2 q9) hCz
        rw [List.append_nil] at this
        exact this
      have pre : ¬ (K (nn z) = 29 ∨ K (nn z) = 58) ∧ pbg o (K (nn z)) := by
        refine ⟨fun q => ?_, (pbg_k hKz).mpr ?_⟩
        · rw [← hKz] at q
          rcases hsz with e | e | ⟨e, -⟩ <;> (rw [e] at q; exact absurd q (by decide))
        · rcases hsz with e | e | e
          · exact Or.inr (Or.inl e)
          · exact Or.inl e
          · exact Or.inr (Or.inr (Or.inr (Or.inr (Or.inr e))))
      have hx3 : pO (pE K o f9) K o (nn z) (L ++ M) = none → RX x0 X := fun q => hxW (hWz.trans (dA_leaf0 pre.1 q))
      have aft : ∀ w, SM z w → FR w → hz w = hz z → w.1 100 17 = z.1 100 17 → (∀ k, w.1 116 k = z.1 116 k ∧ w.1 117 k = z.1 117 k) → nx z < nx w → ∀ N, RIw K V sN e E z w N → still N → pO (pE K o f9) K o (nn z) (L ++ M) = some (nn w, L ++ M ++ N) → (H → CPl z w (sPs sN V K E N)) → (∀ k, w.1 115 k = z.1 115 k) → KE G q (d + 9) zk_X7_sum 66 [(0, vr 100), (2, vi l2), (3, vi (p + r)), (4, vi k)] [] w (ri F) X := by
        intro w hMw hFw zw w17 w117 nw N hRw hN hpO hCw h115w
        have lz := hMz.2.2.1.2.1
        refine p66 (p + r).toInt.toNat (p + r) w ((a, f9 + 1, v) :: s') (M ++ N) (SM_tr hMxz hMw) hFw (by omega) (by omega) (by rw [zw, epr]; omega) (fun i hi => ?_) (by omega) (by rw [w17]; exact HD_eq (fun k _ => w117 k) hSz) (RI_app bz hMs hRxz hMw.2.2.1 hRw) (still_app hMs hN) ?_ ?_
        · rw [(w117 i).2]
          rw [w17] at hi
          exact hDz i hi
        · rw [hWz, dA_leaf pre.2 pre.1 hpO, List.append_assoc]
        · exact ⟨by rw [w17]; exact HP_eq (fun k _ => h115w k) hsxz.1, fun q9 => by rw [sPs_app]; exact CPl_app (hsxz.2 q9) (hCw q9)⟩
      have p62 : (¬ z.1 23 (z.1 100 4).toNatClampNeg = 2 ∨ ¬ z.1 100 5 = 0) → KE G q (d + 9) zk_X7_sum 62 [(0, vr 100), (2, vi l2), (3, vi (p + r)), (4, vi k)] [] z (ri F) X := fun ho9 => kg_X7_sum_62 hq _ _ _ (kf_readOperand hq (h0y hMxz) (L ++ M) f9 hx3 hMz.1 hMz.2.1 hFz (by
        rcases hsz with e | e | ⟨e, -⟩
        · rcases ho9 with g | g
          · exact absurd e g
          · refine Or.inr (Or.inr ⟨e, ?_, hKNz g⟩)
            cases o with
            | false => rfl
            | true => exact absurd (hoz.mp rfl) g
        · exact Or.inl e
        · exact Or.inr (Or.inl e)) (RI_0 hRxz) (fun w hMw hFw zw w17 w117 nw N hRw hN hpO hCw h115w => aft w hMw hFw zw w17 w117 (by omega) N hRw hN hpO (fun _ => hCw) h115w))
      exact ⟨fun c2 => p62 (Or.inl c2), fun c2 => ⟨fun c5 => p62 (Or.inr c5), fun c5 => kf_claimedCell hq (h0y hMxz) (L ++ M) f9 (hoz.mpr c5) hx3 hMz.1 hMz.2.1 c2 (RI_0 hRxz) (fun w hMw hFw zw w17 w117 nw N hRw hN hpO hCw h115w => aft w hMw hFw zw w17 w117 nw N hRw hN hpO (fun q9 => hCw (hH.mp q9 (hoz.mpr c5))) h115w)⟩⟩
  refine kg_X7_sum_0 hq _ (fun x1 e1 => ?_)
  have f1 : fm (fun c k => c = 100 ∧ k = 17) x x1 := by rw [e1]; exact fm_si (fm_rf _ _) ⟨rfl, rfl⟩
  have q17 : x1.1 100 17 = 0 := by rw [e1]; (simp only [si_get, sfl_get, Nat.reduceEqDiff, eq_self, and_false, false_and, and_true, true_and, if_true, if_false, reduceIte, reduceCtorEq])
  have H1 : HI x1 := by
    unfold HI
    rw [q17, k0]
    exact ⟨by omega, fun i hi => by omega, fun i j hij hj => by omega⟩
  have S1 : SU x1 := by
    obtain ⟨⟨hT, b1, b2, b3⟩, ⟨u1, u2⟩, hp, hP⟩ := hS
    have nn : nx x1 = nx x := by unfold nx; rw [f1 100 4 (by omega)]
    have la : La x x1 := ⟨fun c k q1 q2 => f1 c k (by omega), by omega, fun j _ => f1 42 j (by omega)⟩
    unfold SU SV US RB mt
    rw [f1 20 7 (by omega), f1 60 3 (by omega), nn]
    refine ⟨⟨kT_fm hT la.1, b1, b2, b3⟩, ⟨fun j h1 h2 => ?_, fun j h1 h2 => ?_⟩, hp, fun i hi => La_PQ la (f1 _ _ (by omega)) (f1 _ _ (by omega)) (hP i hi)⟩
    · rw [f1 42 j (by omega)]; exact u1 j h1 h2
    · rw [f1 42 j (by omega)] at h2; rw [f1 42 _ (by omega)]; exact u2 j h1 h2
  have M1 : SM x x1 := ⟨S1, H1, ⟨fun c k q1 q2 => f1 c k (by omega), by unfold nx; rw [f1 100 4 (by omega)]; exact Int.le_refl _, fun j _ => f1 42 j (by omega)⟩, fm_w f1 (fun c k q => by unfold sSum; omega)⟩
  have F1 : FR x1 := by unfold FR at hf ⊢; rw [f1 100 4 (by omega), f1 42 _ (by omega)]; exact hf
  have z1 : hz x1 = 0 := by unfold hz; rw [q17]; rfl
  have R1 : RIw K V sN e E x x1 [] := RI_st hR (f1 _ _ (by omega)) (fun j => f1 _ _ (by omega)) (fun c k q1 q2 => f1 _ _ (by omega))
  refine kf_hold hq _ _ _ H1 (by decide) (by decide) (by rw [q17, k0]; omega) hD2 (fun i hi => by rw [q17, k0] at hi; omega) (fun x2 f2 H2 z2 t1 t2 t3 t4 t5 t6 => ?_)
  obtain ⟨g1, g2, g3⟩ := SM_hold M1 f2 H2
  have n2 : nx x2 = nx x := by unfold nx; rw [g3, f1 100 4 (by omega)]
  have nn2 : nn x2 = nn x := by unfold nn; rw [g3, f1 100 4 (by omega)]
  have R2 : RIw K V sN e E x x2 [] := RI_st R1 g3 (fun j => f2 _ _ (by omega)) (fun c k q1 q2 => f2 _ _ (by omega))
  have hD2' : HD x2 (x2.1 100 17).toNatClampNeg [(0, 17 - D.toNatClampNeg, 50, 0, 0)] := by
    have c0 : (x1.1 100 17).toNatClampNeg = 0 := by rw [q17]; rfl
    rw [q17, k0] at t1
    have n9 : (x2.1 100 17).toNatClampNeg = 0 + 1 := by rw [t_cl, t1]; rfl
    rw [c0] at t2 t3
    rw [n9]
    refine ⟨0, 17 - D.toNatClampNeg, (50, 0, 0), [], rfl, ?_, Or.inl (by rw [t2]; rfl), ⟨by decide, fun _ => rfl⟩, Or.inl rfl, rfl⟩
    rw [t3]
    omega
  refine loop 701 _ _ _ x2 _ [] g1 (g2 F1) (by decide) (by rw [z2, z1, if_pos rfl, k0]; rfl) (by decide) (by rw [k0]; omega) (by omega) hD2' R2 still_nil (by rw [dAk_1, nn2, List.append_nil]; exact eW) ⟨?_, fun _ => CPl_st (CPl_st CPl_rf (f1 _ _ (by omega)) (fun k => ⟨f1 _ _ (by omega), f1 _ _ (by omega)⟩)) (f2 _ _ (by omega)) (fun k => ⟨f2 _ _ (by omega), f2 _ _ (by omega)⟩)⟩ rfl
  rw [q17, k0] at t1
  have n9 : (x2.1 100 17).toNatClampNeg = 0 + 1 := by rw [t_cl, t1]; rfl
  rw [n9]
  exact ⟨fun q => absurd rfl q, trivial⟩
end KSG
end
section
/-! the class: steps, open blocks -/
abbrev ssm (x : gd) : Int := (x.1 80 9).toInt
abbrev om (x : gd) : Int := (x.1 100 13).toInt
abbrev sop (x : gd) (i : Nat) : Int := (x.1 81 i).toInt
abbrev stg (x : gd) (i : Nat) : Int := (x.1 84 i).toInt
/-- a step's own -/
def SA (x : gd) (M : Int) (i : Nat) : Prop := (0 ≤ sop x i ∧ ¬ sop x i = 15) ∧ (0 ≤ (x.1 83 i).toInt ∧ (x.1 83 i).toInt ≤ 8) ∧ (sop x i ≤ 10 → ∃ t : Nat, (x.1 85 i).toInt = t ∧ (t : Int) < nx x ∧ (sop x i ≤ 4 → x.1 42 t = 6 ∨ x.1 42 t = 7 ∨ x.1 42 t = 8 ∨ x.1 42 t = 9) ∧ (5 ≤ sop x i → sop x i ≤ 8 → x.1 42 t = 4) ∧ (9 ≤ sop x i → x.1 42 t = 5)) ∧ ((sop x i = 0 ∨ (2 ≤ sop x i ∧ sop x i ≤ 4) ∨ sop x i = 16) → (0 ≤ stg x i ∧ stg x i < M) ∨ BU x)
/-- where a step jumps -/
def SC (x : gd) (i : Nat) : Prop := (sop x i = 17 ∨ sop x i = 20) → (stg x i = -1 ∧ ¬ x.1 100 5 = 0 ∧ ∃ k : Nat, (k : Int) < om x ∧ (x.1 112 k).toInt = i) ∨ (0 ≤ stg x i ∧ stg x i ≤ ssm x ∧ (x.1 100 5 = 0 → stg x i < ssm x) ∧ (sop x i = 20 → (i : Int) < stg x i ∨ sop x (stg x i).toNat = 17))
def SCs (x : gd) (E : Nat → Prop) : Prop := ∀ i : Nat, (i : Int) < ssm x → ¬ E i → SC x i
/-- an open block -/
def OP1 (x : gd) (k : Nat) : Prop := (k = 0 → x.1 111 k = 0 ∧ x.1 112 k = -1) ∧ (0 < k → (1 ≤ (x.1 111 k).toInt ∧ (x.1 111 k).toInt ≤ 5) ∧ ∃ s : Nat, (x.1 112 k).toInt = s ∧ (s : Int) < ssm x ∧ (x.1 111 k = 1 ∨ x.1 111 k = 3 → sop x s = 17) ∧ (x.1 111 k = 2 → sop x s = 5) ∧ (x.1 111 k = 4 ∨ x.1 111 k = 5 → sop x s = 20)) ∧ 0 ≤ (x.1 113 k).toInt ∧ (x.1 113 k).toInt ≤ (x.1 100 9).toInt
def OPs (x : gd) : Prop := (0 ≤ om x ∧ om x ≤ 18) ∧ (∀ k : Nat, (k : Int) < om x → OP1 x k) ∧ (∀ j k : Nat, j ≤ k → (k : Int) < om x → (x.1 113 j).toInt ≤ (x.1 113 k).toInt) ∧ (x.1 100 9).toInt ≤ (x.1 100 7).toInt ∧ (x.1 100 7).toInt ≤ 8
def CD (x : gd) : Prop := (0 ≤ (x.1 60 6).toInt ∧ (x.1 60 6).toInt ≤ 24) ∧ x.1 60 9 = x.1 40 8 ∧ x.1 60 10 = x.1 40 10 ∧ (0 ≤ (x.1 60 14).toInt ∧ (x.1 60 14).toInt ≤ 4) ∧ (0 ≤ (x.1 60 16).toInt ∧ (x.1 60 16).toInt ≤ 4) ∧ (0 ≤ (x.1 60 13).toInt ∧ (x.1 60 13).toInt ≤ 8) ∧ (¬ x.1 100 5 = 0 → (x.1 100 9).toInt ≤ (x.1 60 13).toInt)
/-- where threads begin, and that the last step stops -/
def TS (x : gd) : Prop := (∀ t : Nat, (t : Int) < (x.1 60 10).toInt → 0 ≤ (x.1 72 t).toInt ∧ (x.1 72 t).toInt ≤ ssm x ∧ (x.1 100 5 = 0 → (x.1 72 t).toInt < ssm x)) ∧ (x.1 100 5 = 0 → ssm x = 0 ∨ x.1 81 ((ssm x).toNat - 1) = 21)
def RI0 (x : gd) (M : Int) : Prop := (¬ x.1 100 5 = 0 → KN x ∧ OPs x) ∧ NM x ∧ CD x ∧ (0 ≤ ssm x ∧ (∀ i : Nat, (i : Int) < ssm x → SA x M i)) ∧ TS x
section KST
variable {G : kG} {q : kP} {d : Nat} {x x0 y z : gd} {F : Int32 → gd → Prop} {Fv : gd → Prop} {X : String → gd → Prop} {P : Option gv → gd → Prop} {m : Int}
theorem NM_fm (h : NM x) (f : ∀ c k, 40 ≤ c → c < 60 → c ≠ 42 → c ≠ 43 → y.1 c k = x.1 c k) (e7 : y.1 20 7 = x.1 20 7) (e6 : y.1 60 6 = x.1 60 6) : NM y := by
  unfold NM tk at h ⊢
  rw [f 40 6 (by omega) (by omega) (by omega) (by omega), f 40 8 (by omega) (by omega) (by omega) (by omega), f 40 10 (by omega) (by omega) (by omega) (by omega), e7, e6]
  refine ⟨h.1, h.2.1, h.2.2.1, fun i hi => ?_, fun i hi => ?_, fun i hi => ?_⟩
  · rw [f 44 i (by omega) (by omega) (by omega) (by omega), f 45 i (by omega) (by omega) (by omega) (by omega), f 46 i (by omega) (by omega) (by omega) (by omega)]; exact h.2.2.2.1 i hi
  · rw [f 48 i (by omega) (by omega) (by omega) (by omega)]; exact h.2.2.2.2.1 i hi
  · rw [f 50 i (by omega) (by omega) (by omega) (by omega)]; exact h.2.2.2.2.2 i hi
theorem SA_La {i : Nat} (la : La x y) (e1 : y.1 81 i = x.1 81 i) (e3 : y.1 83 i = x.1 83 i) (e5 : y.1 85 i = x.1 85 i) (e4 : y.1 84 i = x.1 84 i) {M M' : Int} (em : M ≤ M') (h : SA x M i) : SA y M' i := by
  unfold SA sop stg at h ⊢
  rw [e1, e3, e5, e4]
  have ln := la.2.1
  refine ⟨h.1, h.2.1, fun c => ?_, fun c => ?_⟩
  · obtain ⟨t, t1, t2, t3, t4, t5⟩ := h.2.2.1 c
    rw [← la.2.2 t t2] at t3 t4 t5
    exact ⟨t, t1, by omega, t3, t4, t5⟩
  · rcases h.2.2.2 c with g | g
    · exact Or.inl ⟨g.1, by omega⟩
    · exact Or.inr (La_BU la g)
theorem SC_eq {i : Nat} (e1 : ∀ j, y.1 81 j = x.1 81 j) (e4 : y.1 84 i = x.1 84 i) (em : y.1 80 9 = x.1 80 9) (eo : y.1 100 13 = x.1 100 13) (e5 : y.1 100 5 = x.1 100 5) (e2 : ∀ j, y.1 112 j = x.1 112 j) (h : SC x i) : SC y i := by
  unfold SC sop stg ssm om at h ⊢
  rw [e1, e4, em, eo, e5, e1]
  intro c
  rcases h c with ⟨g1, g2, k, g3, g4⟩ | g
  · exact Or.inl ⟨g1, g2, k, g3, by rw [e2]; exact g4⟩
  · exact Or.inr g
theorem OP1_eq {k : Nat} (e1 : ∀ j, y.1 81 j = x.1 81 j) (em : y.1 80 9 = x.1 80 9) (f : ∀ c j, 111 ≤ c → c ≤ 113 → y.1 c j = x.1 c j) (e9 : y.1 100 9 = x.1 100 9) (h : OP1 x k) : OP1 y k := by
  unfold OP1 sop ssm at h ⊢
  rw [f 111 k (by omega) (by omega), f 112 k (by omega) (by omega), f 113 k (by omega) (by omega), em, e9]
  refine ⟨h.1, fun c => ?_, h.2.2⟩
  obtain ⟨g1, s, g2, g3, g4⟩ := h.2.1 c
  exact ⟨g1, s, g2, g3, by rw [e1]; exact g4⟩
/-- reading on leaves all this -/
theorem RI0_La {M : Int} (h : RI0 x M) (la : La x y) (f : fm sSum x y) : RI0 y M := by
  obtain ⟨h1, h2, h3, ⟨h4, h6⟩, h7⟩ := h
  have g : ∀ c k, (c < 42 ∨ (42 < c ∧ c < 60) ∨ (63 < c ∧ c < 100) ∨ (100 < c ∧ c < 115)) → y.1 c k = x.1 c k := fun c k hc => f c k (by unfold sSum; omega)
  have g6 : ∀ k, ¬ k = 3 → y.1 60 k = x.1 60 k := fun k hk => f 60 k (by unfold sSum; omega)
  have g1 : ∀ k, ¬ k = 4 → ¬ k = 17 → y.1 100 k = x.1 100 k := fun k hk hl => f 100 k (by unfold sSum; omega)
  have ln := la.2.1
  have em : y.1 80 9 = x.1 80 9 := g _ _ (by omega)
  have es : ssm y = ssm x := by unfold ssm; rw [em]
  refine ⟨fun c => ?_, NM_fm h2 (fun c k q1 q2 q3 q4 => g c k (by omega)) (g _ _ (by omega)) (g6 _ (by omega)), ?_, ⟨by omega, fun i hi => SA_La la (g _ _ (by omega)) (g _ _ (by omega)) (g _ _ (by omega)) (g _ _ (by omega)) (Int.le_refl _) (h6 i (by omega))⟩, ?_⟩
  · rw [g1 5 (by omega) (by omega)] at c
    obtain ⟨k1, o1, o2, o3, o4⟩ := h1 c
    refine ⟨KN_fm k1 (g1 _ (by omega) (by omega)) (g _ _ (by omega)) (fun k => g _ _ (by omega)), ?_⟩
    unfold OPs om
    rw [g1 13 (by omega) (by omega), g1 9 (by omega) (by omega), g1 7 (by omega) (by omega)]
    refine ⟨o1, fun k hk => OP1_eq (fun j => g _ _ (by omega)) em (fun c j q1 q2 => g _ _ (by omega)) (g1 9 (by omega) (by omega)) (o2 k hk), fun j k hj hk => ?_, o4⟩
    rw [g 113 j (by omega), g 113 k (by omega)]; exact o3 j k hj hk
  · unfold CD at h3 ⊢
    rw [g6 6 (by omega), g6 9 (by omega), g6 10 (by omega), g6 14 (by omega), g6 16 (by omega), g6 13 (by omega), g1 5 (by omega) (by omega), g1 9 (by omega) (by omega), g 40 8 (by omega), g 40 10 (by omega)]
    exact h3
  · unfold TS at h7 ⊢
    rw [g6 10 (by omega), es, g1 5 (by omega) (by omega), g 81 _ (by omega)]
    refine ⟨fun t ht => ?_, h7.2⟩
    rw [g 72 t (by omega)]; exact h7.1 t ht
theorem SCs_La {E : Nat → Prop} (h : SCs x E) (f : fm sSum x y) : SCs y E := by
  intro i hi he
  have em : y.1 80 9 = x.1 80 9 := f _ _ (by unfold sSum; omega)
  refine SC_eq (fun j => f _ _ (by unfold sSum; omega)) (f _ _ (by unfold sSum; omega)) em (f _ _ (by unfold sSum; omega)) (f _ _ (by unfold sSum; omega)) (fun j => f _ _ (by unfold sSum; omega)) (h i ?_ he)
  unfold ssm at hi ⊢
  rw [← em]; exact hi
/-- one step more: all but what is put behind -/
def AD (x y : gd) (o l k : Int32) : Prop := fm (fun c k => (81 ≤ c ∧ c ≤ 89 ∧ k = (x.1 80 9).toNatClampNeg) ∨ (c = 80 ∧ k = 9)) x y ∧ ssm y = ssm x + 1 ∧ y.1 81 (x.1 80 9).toNatClampNeg = o ∧ y.1 83 (x.1 80 9).toNatClampNeg = k ∧ y.1 84 (x.1 80 9).toNatClampNeg = -1
end KST
end
section
/-! the class: a step is added, with all its fields -/
section KADF
variable {G : kG} {q : kP} {d : Nat} {x x0 y z : gd} {F : Int32 → gd → Prop}
theorem kf_add (hq : kV q) (o l k : Int32) (h0 : 0 ≤ ssm x) (h1 : ssm x < 400) (h : ∀ y, AD x y o l k → vp_in (x.1 80 9) 400 → (y.1 85 (x.1 80 9).toNatClampNeg = -1 ∧ y.1 87 (x.1 80 9).toNatClampNeg = -1 ∧ y.1 88 (x.1 80 9).toNatClampNeg = -1 ∧ y.1 89 (x.1 80 9).toNatClampNeg = -1) → F (x.1 80 9) y) : KT G q d zk_X8_add 0 [(0, vr 80), (1, vi o), (2, vi l), (3, vi k)] [] x (ri F) := by
  have k4 : (Int32.ofNat 400).toInt = 400 := rfl
  have vin : vp_in (x.1 80 9) 400 := by rw [vp_in_iff]; unfold ssm at *; omega
  refine kg_X8_add_0 hq _ _ _ ⟨fun c => ?_, fun _ => kg_X8_add_26 hq _ _ _ _ ⟨vin, fun x2 e2 => ⟨vin, fun x4 e4 => ⟨vin, fun x6 e6 => ⟨vin, fun x8 e8 => ⟨vin, fun x10 e10 => ⟨vin, fun x12 e12 => ⟨vin, fun x14 e14 => ⟨vin, fun x16 e16 => ⟨vin, fun x18 e18 y ey => ri_i (h y ⟨?_, ?_, ?_, ?_, ?_⟩ vin ⟨?_, ?_, ?_, ?_⟩)⟩⟩⟩⟩⟩⟩⟩⟩⟩⟩
  · exfalso; rw [t_le, k4] at c; unfold ssm at *; omega
  · rw [ey, e18, e16, e14, e12, e10, e8, e6, e4, e2]
    exact fm_si (fm_si (fm_si (fm_si (fm_si (fm_si (fm_si (fm_si (fm_si (fm_si (fm_rf _ _) (Or.inl ⟨by omega, by omega, rfl⟩)) (Or.inl ⟨by omega, by omega, rfl⟩)) (Or.inl ⟨by omega, by omega, rfl⟩)) (Or.inl ⟨by omega, by omega, rfl⟩)) (Or.inl ⟨by omega, by omega, rfl⟩)) (Or.inl ⟨by omega, by omega, rfl⟩)) (Or.inl ⟨by omega, by omega, rfl⟩)) (Or.inl ⟨by omega, by omega, rfl⟩)) (Or.inl ⟨by omega, by omega, rfl⟩)) (Or.inr ⟨rfl, rfl⟩)
  · have : y.1 80 9 = x.1 80 9 + 1 := by rw [ey]; (simp only [si_get, sfl_get, Nat.reduceEqDiff, eq_self, and_false, false_and, and_true, true_and, if_true, if_false, reduceIte, reduceCtorEq])
    unfold ssm at *
    rw [this, t_add (by show _ ≤ _ + (1 : Int); omega) (by show _ + (1 : Int) ≤ _; omega)]; rfl
  · rw [ey, e18, e16, e14, e12, e10, e8, e6, e4, e2]; (simp only [si_get, sfl_get, Nat.reduceEqDiff, eq_self, and_false, false_and, and_true, true_and, if_true, if_false, reduceIte, reduceCtorEq])
  · rw [ey, e18, e16, e14, e12, e10, e8, e6, e4, e2]; (simp only [si_get, sfl_get, Nat.reduceEqDiff, eq_self, and_false, false_and, and_true, true_and, if_true, if_false, reduceIte, reduceCtorEq])
  · rw [ey, e18, e16, e14, e12, e10, e8, e6, e4, e2]; (simp only [si_get, sfl_get, Nat.reduceEqDiff, eq_self, and_false, false_and, and_true, true_and, if_true, if_false, reduceIte, reduceCtorEq])
  · rw [ey, e18, e16, e14, e12, e10, e8, e6, e4, e2]; (simp only [si_get, sfl_get, Nat.reduceEqDiff, eq_self, and_false, false_and, and_true, true_and, if_true, if_false, reduceIte, reduceCtorEq])
  · rw [ey, e18, e16, e14, e12, e10, e8, e6, e4, e2]; (simp only [si_get, sfl_get, Nat.reduceEqDiff, eq_self, and_false, false_and, and_true, true_and, if_true, if_false, reduceIte, reduceCtorEq])
  · rw [ey, e18, e16, e14, e12, e10, e8, e6, e4, e2]; (simp only [si_get, sfl_get, Nat.reduceEqDiff, eq_self, and_false, false_and, and_true, true_and, if_true, if_false, reduceIte, reduceCtorEq])
  · rw [ey, e18, e16, e14, e12, e10, e8, e6, e4, e2]; (simp only [si_get, sfl_get, Nat.reduceEqDiff, eq_self, and_false, false_and, and_true, true_and, if_true, if_false, reduceIte, reduceCtorEq])
end KADF
end
section
/-! the class: statements -/
/-- the innermost block is no else-if -/
def TIk (x : gd) : Prop := ∀ k : Nat, (k : Int) + 1 = om x → ¬ x.1 111 k = 5
/-- on an else-if stand if, else or else-if alone -/
def R5 (x : gd) : Prop := ∀ k : Nat, (k : Int) + 1 < om x → x.1 111 k = 5 → x.1 111 (k + 1) = 3 ∨ x.1 111 (k + 1) = 4 ∨ x.1 111 (k + 1) = 5
def TRk (x : gd) (E : Nat → Prop) : Prop := (¬ E 1000000 → TIk x) ∧ R5 x
/-- reading within a thread -/
def BB (x0 x : gd) (M : Int) (E : Nat → Prop) : Prop := SU x ∧ FR x ∧ RI0 x M ∧ SCs x E ∧ ¬ x.1 100 5 = 0 ∧ fm sR x0 x ∧ TRk x E
def GS (x y : gd) : Prop := La x y ∧ fm sSum x y
section KSM
variable {G : kG} {q : kP} {d : Nat} {x x0 y z : gd} {F : Int32 → gd → Prop} {Fv : gd → Prop} {X : String → gd → Prop} {P : Option gv → gd → Prop} {M : Int} {E : Nat → Prop}
theorem GS_rf : GS x x := ⟨La_rf, fm_rf _ _⟩
theorem GS_tr (a : GS x y) (b : GS y z) : GS x z := ⟨La_tr a.1 b.1, fm_tr a.2 b.2⟩
theorem GS_at (a : GS x y) (c k : Nat) (h : ¬ sSum c k) : y.1 c k = x.1 c k := a.2 c k h
theorem GS_sm (a : GS x y) : ssm y = ssm x := by unfold ssm; rw [a.2 80 9 (by unfold sSum; omega)]
theorem GS_om (a : GS x y) : om y = om x := by unfold om; rw [a.2 100 13 (by unfold sSum; omega)]
theorem TI_eq (h : TIk x) (e : y.1 100 13 = x.1 100 13) (f : ∀ k, y.1 111 k = x.1 111 k) : TIk y := fun k hk => by rw [f k]; exact h k (by unfold om at *; rw [e] at hk; exact hk)
theorem TR_eq {E E' : Nat → Prop} (h : TRk x E) (hE : E 1000000 → E' 1000000) (e : y.1 100 13 = x.1 100 13) (f : ∀ k, y.1 111 k = x.1 111 k) : TRk y E' := ⟨fun he => TI_eq (h.1 (fun c => he (hE c))) e f, fun k hk c => by
  rw [f] at c ⊢
  exact h.2 k (by unfold om at *; rw [e] at hk; exact hk) c⟩
theorem BB_on (hB : BB x0 x M E) (hS : SU y) (hF : FR y) (g : GS x y) : BB x0 y M E := ⟨hS, hF, RI0_La hB.2.2.1 g.1 g.2, SCs_La hB.2.2.2.1 g.2, by rw [g.2 100 5 (by unfold sSum; omega)]; exact hB.2.2.2.2.1, fm_tr hB.2.2.2.2.2.1 (fm_w g.2 (fun c k q => sSum_R q)), TR_eq hB.2.2.2.2.2.2 id (g.2 _ _ (by unfold sSum; omega)) (fun k => g.2 _ _ (by unfold sSum; omega))⟩
theorem kb_refuse (hq : kV q) (hx : RX x0 X) (hB : BB x0 x M E) (n : Int32) (hn : ¬ n = 0 := by decide) : KE G q (d + 6) zk_X7_refuse 0 [(0, vr 100), (1, vi n)] [] x P X := kp_refuse hq n (RB_at hB.1.1) hB.2.2.2.2.2.1 hx hn
theorem BB_om (hB : BB x0 x M E) : (0 ≤ om x ∧ om x ≤ 18) ∧ (om x ≤ 17 → (x.1 100 13 + 1).toInt = om x + 1) := by
  obtain ⟨-, o1, -⟩ := hB.2.2.1.1 hB.2.2.2.2.1
  refine ⟨o1, fun h => t_add (by show _ ≤ _ + (1 : Int); unfold om at *; omega) (by show _ + (1 : Int) ≤ _; unfold om at *; omega)⟩
theorem BB_N (hB : BB x0 x M E) : ((x.1 100 4).toNatClampNeg : Int) = nx x := by
  have := hB.1.1.2.1
  rw [t_cl]; unfold nx at *; omega
/-- a step more within a thread -/
theorem BB_add (hB : BB x0 x M E) {n : Nat} (hn : (n : Int) = ssm x) (f : fm (fun c k => (81 ≤ c ∧ c ≤ 89 ∧ k = n) ∨ (c = 80 ∧ k = 9)) x z) (es : ssm z = ssm x + 1) (hA : SA z M n) : BB x0 z M (fun i => E i ∨ i = n) := by
  obtain ⟨hS, hF, ⟨h1, h2, h3, ⟨h4, h6⟩, h7⟩, hC, h5, h0, hI⟩ := hB
  have g : ∀ c k, c < 80 ∨ 89 < c → z.1 c k = x.1 c k := fun c k hc => f c k (by omega)
  have gs : ∀ c k, k ≠ n → ¬ (c = 80 ∧ k = 9) → z.1 c k = x.1 c k := fun c k hk hc => f c k (by omega)
  have la : La x z := ⟨fun c k q1 q2 => g c k (by omega), by unfold nx; rw [g 100 4 (by omega)]; exact Int.le_refl _, fun j _ => g 42 j (by omega)⟩
  have nn : nx z = nx x := by unfold nx; rw [g 100 4 (by omega)]
  have z5 : z.1 100 5 = x.1 100 5 := g _ _ (by omega)
  have zo : z.1 100 13 = x.1 100 13 := g _ _ (by omega)
  refine ⟨?_, ?_, ⟨fun c => ?_, NM_fm h2 (fun c k q1 q2 q3 q4 => g c k (by omega)) (g _ _ (by omega)) (g _ _ (by omega)), ?_, ⟨by omega, fun i hi => ?_⟩, ?_⟩, fun i hi he => ?_, by rw [z5]; exact h5, fm_tr h0 (fm_w f (fun c k q => by unfold sR; omega)), TR_eq hI Or.inl zo (fun k => g _ _ (by omega))⟩
  · obtain ⟨⟨hT, b1, b2, b3⟩, ⟨u1, u2⟩, hp, hP⟩ := hS
    unfold SU SV US RB mt
    rw [g 20 7 (by omega), g 60 3 (by omega), nn]
    refine ⟨⟨kT_fm hT la.1, b1, b2, b3⟩, ⟨fun j h1 h2 => ?_, fun j h1 h2 => ?_⟩, hp, fun i hi => La_PQ la (g _ _ (by omega)) (g _ _ (by omega)) (hP i hi)⟩
    · rw [g 42 j (by omega)]; exact u1 j h1 h2
    · rw [g 42 j (by omega)] at h2; rw [g 42 _ (by omega)]; exact u2 j h1 h2
  · unfold FR at hF ⊢
    rw [g 100 4 (by omega), g 42 _ (by omega)]; exact hF
  · obtain ⟨k1, o1, o2, o3, o4⟩ := h1 h5
    refine ⟨KN_fm k1 (g _ _ (by omega)) (g _ _ (by omega)) (fun k => g _ _ (by omega)), ?_⟩
    unfold OPs om
    rw [zo, g 100 9 (by omega), g 100 7 (by omega)]
    refine ⟨o1, fun k hk => ?_, fun j k hj hk => ?_, o4⟩
    · have := o2 k hk
      unfold OP1 at this ⊢
      rw [g 111 k (by omega), g 112 k (by omega), g 113 k (by omega), g 100 9 (by omega)]
      refine ⟨this.1, fun c => ?_, this.2.2⟩
      obtain ⟨p1, s, p2, p3, p4⟩ := this.2.1 c
      refine ⟨p1, s, p2, by omega, ?_⟩
      unfold sop at p4 ⊢
      rw [gs 81 s (by omega) (by omega)]; exact p4
    · rw [g 113 j (by omega), g 113 k (by omega)]; exact o3 j k hj hk
  · unfold CD at h3 ⊢
    rw [g 60 6 (by omega), g 60 9 (by omega), g 60 10 (by omega), g 60 14 (by omega), g 60 16 (by omega), g 60 13 (by omega), z5, g 100 9 (by omega), g 40 8 (by omega), g 40 10 (by omega)]
    exact h3
  · by_cases hi2 : i = n
    · rw [hi2]; exact hA
    · exact SA_La la (gs _ _ hi2 (by omega)) (gs _ _ hi2 (by omega)) (gs _ _ hi2 (by omega)) (gs _ _ hi2 (by omega)) (Int.le_refl _) (h6 i (by omega))
  · unfold TS at h7 ⊢
    rw [g 60 10 (by omega), z5]
    refine ⟨fun t ht => ?_, fun c => absurd c h5⟩
    rw [g 72 t (by omega)]
    obtain ⟨p1, p2, p3⟩ := h7.1 t ht
    exact ⟨p1, by omega, fun c => absurd c h5⟩
  · have hin : i ≠ n := fun e => he (Or.inr e)
    have := hC i (by omega) (fun e => he (Or.inl e))
    unfold SC at this ⊢
    have e1 : sop z i = sop x i := by unfold sop; rw [gs 81 i hin (by omega)]
    have e4 : stg z i = stg x i := by unfold stg; rw [gs 84 i hin (by omega)]
    rw [e1, e4, z5]
    intro c
    rcases this c with ⟨p1, p2, k, p3, p4⟩ | ⟨p1, p2, p3, p4⟩
    · exact Or.inl ⟨p1, p2, k, by unfold om at p3 ⊢; rw [zo]; exact p3, by rw [g 112 k (by omega)]; exact p4⟩
    · refine Or.inr ⟨p1, by omega, fun c5 => absurd c5 h5, fun c20 => ?_⟩
      rcases p4 c20 with g1 | g1
      · exact Or.inl g1
      · by_cases hlt : (i : Int) < stg x i
        · exact Or.inl hlt
        · refine Or.inr ?_
          unfold sop at g1 ⊢
          rw [gs 81 _ (by omega) (by omega)]; exact g1
theorem SC_no {i : Nat} (h1 : ¬ sop z i = 17) (h2 : ¬ sop z i = 20) : SC z i := fun c => by
  rcases c with c | c
  · exact absurd c h1
  · exact absurd c h2
theorem BB_E {E' : Nat → Prop} (hB : BB x0 x M E) (ht : E 1000000 → E' 1000000) (h : ∀ i : Nat, (i : Int) < ssm x → E i → ¬ E' i → SC x i) : BB x0 x M E' := ⟨hB.1, hB.2.1, hB.2.2.1, fun i hi he => by
  by_cases h9 : E i
  · exact h i hi h9 he
  · exact hB.2.2.2.1 i hi h9, hB.2.2.2.2.1, hB.2.2.2.2.2.1, TR_eq hB.2.2.2.2.2.2 ht rfl (fun _ => rfl)⟩
theorem RI0_M {M' : Int} (h : M ≤ M') (hR : RI0 x M) : RI0 x M' := ⟨hR.1, hR.2.1, hR.2.2.1, ⟨hR.2.2.2.1.1, fun i hi => SA_La La_rf rfl rfl rfl rfl h (hR.2.2.2.1.2 i hi)⟩, hR.2.2.2.2⟩
theorem BB_M {M' : Int} (h : M ≤ M') (hB : BB x0 x M E) : BB x0 x M' E := ⟨hB.1, hB.2.1, RI0_M h hB.2.2.1, hB.2.2.2⟩
theorem BB_400 (hB : BB x0 x M E) (ha : 2 * ssm x ≤ nx x + 2) : 0 ≤ ssm x ∧ ssm x < 400 ∧ (((x.1 80 9).toNatClampNeg : Nat) : Int) = ssm x ∧ 0 ≤ (x.1 100 9).toInt ∧ (x.1 100 9).toInt ≤ 8 := by
  have h4 := hB.2.2.1.2.2.2.1.1
  have b2 := hB.1.1.2.2.1
  obtain ⟨k1, -⟩ := hB.2.2.1.1 hB.2.2.2.2.1
  exact ⟨h4, by omega, by rw [t_cl]; unfold ssm at *; omega, k1.1⟩
end KSM
end
section
/-! a sum's events, by the grammar -/
def sG (o : Bool) (L L' : gU) : Prop := ∃ N, L' = L ++ N ∧ sEv o N
section SGL
variable {K : Nat → Int32} {L L' L2 : gU} {o : Bool}
theorem sG_rf : sG o L L := ⟨[], by rw [List.append_nil], sEv_nil⟩
theorem sG_tr (h : sG o L L') (g : sG o L' L2) : sG o L L2 := by
  obtain ⟨N, e, h⟩ := h
  obtain ⟨N2, e2, g⟩ := g
  exact ⟨N ++ N2, by rw [e2, e, List.append_assoc], sEv_app h g⟩
theorem sG_k {k a b : Nat} (h : k = 50 ∨ k = 51 ∨ k = 52 ∨ k = 53 ∨ (o = false ∧ k = 3) ∨ (o = true ∧ (k = 6 ∨ k = 7 ∨ k = 12))) : sG o L (L ++ [(k, a, b)]) := ⟨_, rfl, sEv_one h⟩
theorem pt_sG {w : Int32} {q r : Nat × gU} (h : pt K w q = some r) : sG o q.2 r.2 := by
  obtain ⟨-, -, e⟩ := pt_is h
  rw [e]; exact sG_rf
abbrev sgo (o : Bool) (rE : Nat → Nat → gU → gOp) : Prop := ∀ s i L q, rE s i L = some q → sG o L q.2
theorem pW_sG {rE : Nat → Nat → gU → gOp} {th : Nat} (hr : sgo o rE) : ∀ (f j : Nat) (L : gU) (q : Nat × gU), pW rE K th f j L = some q → sG o L q.2 := by
  intro f
  induction f with
  | zero => intro j L q h; exact absurd h (by simp [pW])
  | succ f ih =>
    intro j L q h
    rw [pW] at h
    split at h
    · split at h
      · obtain ⟨z, hz, h2⟩ := Option.bind_eq_some_iff.mp h
        exact sG_tr (hr _ _ _ _ hz) (sG_tr (sG_k (Or.inr (Or.inl rfl))) (ih _ _ _ h2))
      · exact absurd h (by simp)
    · cases Option.some.inj h; exact sG_rf
theorem pO_sG {rE : Nat → Nat → gU → gOp} (hr : sgo o rE) {i : Nat} {q : Nat × gU} (h : pO rE K o i L = some q) : sG o L q.2 := by
  unfold pO at h
  split at h
  · exact absurd h (by simp)
  · split at h
    · cases Option.some.inj h; exact sG_k (Or.inr (Or.inr (Or.inl rfl)))
    · split at h
      · cases Option.some.inj h; exact sG_k (Or.inr (Or.inr (Or.inr (Or.inl rfl))))
      · split at h
        · obtain ⟨z, hz, h2⟩ := Option.bind_eq_some_iff.mp h
          exact sG_tr (hr _ _ _ _ hz) (pt_sG h2)
        · split at h
          · split at h
            · next ho =>
              split at h
              · split at h
                · cases Option.some.inj h
                  exact ⟨_, rfl, sEv_app (N := [_]) (M := [_]) (sEv_one (Or.inr (Or.inr (Or.inr (Or.inr (Or.inr ⟨ho, Or.inr (Or.inl rfl)⟩)))))) (sEv_one (Or.inr (Or.inr (Or.inr (Or.inr (Or.inr ⟨ho, Or.inr (Or.inr rfl)⟩))))))⟩
                · exact absurd h (by simp)
              · cases Option.some.inj h; exact sG_k (Or.inr (Or.inr (Or.inr (Or.inr (Or.inr ⟨ho, Or.inl rfl⟩)))))
            · next ho =>
              cases Option.some.inj h
              exact sG_k (Or.inr (Or.inr (Or.inr (Or.inr (Or.inl ⟨by cases o with | false => rfl | true => exact absurd rfl ho, rfl⟩)))))
          · exact absurd h (by simp)
theorem pE_sG : ∀ f : Nat, sgo o (pE K o f) := by
  intro f
  induction f with
  | zero => intro s i L q h; exact absurd h (by simp [pE])
  | succ f ih =>
    intro s i L q h
    rw [pE] at h
    split at h
    · obtain ⟨z, hz, h2⟩ := Option.bind_eq_some_iff.mp h
      refine sG_tr ?_ (pW_sG ih _ _ _ _ h2)
      split at hz
      · split at hz
        · obtain ⟨y, hy, h3⟩ := Option.bind_eq_some_iff.mp hz
          cases Option.some.inj h3
          exact sG_tr (ih _ _ _ _ hy) (sG_k (Or.inl rfl))
        · exact absurd hz (by simp)
      · exact pO_sG ih hz
    · exact absurd h (by simp)
/-- a whole sum: its events, then its end -/
theorem pX_sE {f i j : Nat} {N : gU} (h : pX K o f i L = some (j, L ++ N)) : ∃ N', N = N' ++ [(54, 0, 0)] ∧ sEv o N' := by
  obtain ⟨z, hz, h2⟩ := Option.bind_eq_some_iff.mp h
  obtain ⟨N', e, hs⟩ := pE_sG f _ _ _ _ hz
  unfold pan at h2
  have h2 := Option.some.inj h2
  have e2 : z.2 ++ [(54, 0, 0)] = L ++ N := congrArg Prod.snd h2
  rw [e, List.append_assoc] at e2
  exact ⟨N', (List.append_cancel_left e2).symm, hs⟩
end SGL
end
section
/-! the class's code as the events say it, while it is read: names stand as their tokens -/
/-- a local's name alone is a sum -/
def alP (sN : Nat → Nat → Bool) (E : gV) (i : Nat) : List (Int32 × Int32) := match kfi sN E.1 i with
  | some p => [(2, Int32.ofNat p), (0, 0)]
  | none => []
def tPv (sN : Nat → Nat → Bool) (V K : Nat → Int32) (E : gV) (v : Nat × Nat × Nat) : List (Int32 × Int32) := if v.1 = 24 then alP sN E v.2.1 else if v.1 = 27 then alP sN E v.2.2 else (cPt sN V K E v).toList
/-- the parts of events in a row -/
def tPs (sN : Nat → Nat → Bool) (V K : Nat → Int32) : gU → gV → List (Int32 × Int32)
  | [], _ => []
  | v :: M, E => tPv sN V K E v ++ tPs sN V K M (exV E v)
/-- a sum's parts and its end stand in P from r on -/
def SUc (P : List (Int32 × Int32)) (r : Int32) (Q : List (Int32 × Int32)) : Prop := ∃ n : Nat, r.toInt = (min n 800 : Nat) ∧ ∀ i q, (Q ++ [(0, 0)])[i]? = some q → P[n + i]? = some q
def cSu (sN : Nat → Nat → Bool) (V K : Nat → Int32) (P : List (Int32 × Int32)) (ks : gK) (v : Int32) : Option gU → Prop
  | none => v = -1
  | some N => SUc P v (sPs sN V K (ks, [0], 0) N)
def tgI (v : Int32) (o : Option Nat) : Prop := match o with
  | none => v = -1
  | some n => v.toInt = (n : Nat)
def obI (V : Nat → Int32) (v : Int32) (op : Nat) (o : Option Nat) : Prop := match o with
  | none => v = -1
  | some t => if op = 13 then v = V t else v.toInt = (t : Nat)
/-- one step: op 81, known 83, target 84, object 85, index 87, first 88, second 89 -/
def kS (sN : Nat → Nat → Bool) (V K : Nat → Int32) (x : gd) (P : List (Int32 × Int32)) (j : Nat) (st : gSt) : Prop :=
  x.1 81 j = Int32.ofNat st.1 ∧ (x.1 83 j).toInt = st.2.2.1.1.length ∧
  ((st.1 = 0 ∨ (2 ≤ st.1 ∧ st.1 ≤ 4) ∨ st.1 = 16 ∨ st.1 = 17 ∨ st.1 = 20) → tgI (x.1 84 j) st.2.2.2.1) ∧ (st.1 = 8 → (x.1 84 j = 1 ↔ st.2.2.2.2.2.1 = true)) ∧
  (¬ st.1 = 16 → obI V (x.1 85 j) st.1 st.2.2.2.2.1) ∧
  cSu sN V K P st.2.2.1.1 (x.1 87 j) st.2.2.2.2.2.2.1 ∧ cSu sN V K P st.2.2.1.1 (x.1 88 j) st.2.2.2.2.2.2.2.1 ∧ cSu sN V K P st.2.2.1.1 (x.1 89 j) st.2.2.2.2.2.2.2.2
def SRk (sN : Nat → Nat → Bool) (V K : Nat → Int32) (x : gd) (P : List (Int32 × Int32)) (S : List gSt) : Prop := (x.1 80 9).toInt = S.length ∧ ∀ j st, S[j]? = some st → kS sN V K x P j st
/-- the steps of the open statements (a thread's block has none) -/
def SKk (x : gd) : Nat → List Nat → Prop
  | 0, k => k = []
  | n + 1, k => (x.1 111 n = 0 ∧ SKk x n k) ∨ (¬ x.1 111 n = 0 ∧ ∃ j k', k = j :: k' ∧ (x.1 112 n).toInt = (j : Nat) ∧ SKk x n k')
def CCp (sN : Nat → Nat → Bool) (V K : Nat → Int32) (x : gd) (c : gCd) (d : Nat × Int32 × List (Int32 × Bool)) (P : List (Int32 × Int32)) : Prop :=
  PR x P ∧ SRk sN V K x P c.2.1 ∧ ((¬ x.1 100 5 = 0 → SKk x (x.1 100 13).toNatClampNeg c.2.2.1) ∧ (x.1 100 5 = 0 → c.2.2.1 = [])) ∧
  ((x.1 60 10).toInt = c.2.2.2.2.1.length ∧ ∀ (t : Nat) (q : Nat × Nat), c.2.2.2.2.1[t]? = some q → (x.1 72 t).toInt = q.1 ∧ x.1 73 t = Int32.ofNat q.2) ∧
  ((x.1 60 6).toInt = d.2.2.length ∧ ∀ j q, d.2.2[j]? = some q → x.1 68 j = q.1 ∧ x.1 69 j = if q.2 = true then 1 else 0) ∧
  ((x.1 60 14).toInt = (clF 35 c.2.2.2.2.2).length ∧ ∀ k N, (clF 35 c.2.2.2.2.2)[k]? = some N → SUc P (x.1 76 k) (sPs sN V K E0v N)) ∧
  ((x.1 60 16).toInt = (clF 36 c.2.2.2.2.2).length ∧ ∀ k N, (clF 36 c.2.2.2.2.2)[k]? = some N → SUc P (x.1 78 k) (sPs sN V K E0v N))
/-- what reading a piece does to the code: from x to y by the events M (no statement is under way before it, none behind it) -/
def CG (sN : Nat → Nat → Bool) (V K : Nat → Int32) (E : gV) (x y : gd) (M : gU) : Prop := ∀ c d P, eqE c.1 E → c.2.2.2.1 = rg0 → CCp sN V K x c d P → CCp sN V K y (cds sN K M c) (ces K V M d) (P ++ tPs sN V K M E) ∧ eqE (cds sN K M c).1 (exs M E) ∧ (cds sN K M c).2.2.2.1 = rg0
/-- the cells on which it rests -/
def ccS (c k : Nat) : Prop := (c = 60 ∧ k ≠ 13) ∨ (61 ≤ c ∧ c < 90) ∨ (c = 100 ∧ (k = 5 ∨ k = 13)) ∨ c = 111 ∨ c = 112
section KCO
variable {sN : Nat → Nat → Bool} {V K : Nat → Int32} {E : gV} {x y z : gd} {M N : gU} {c : gCd} {d : Nat × Int32 × List (Int32 × Bool)} {P Q : List (Int32 × Int32)} {S : List gSt}
theorem tPs_app : ∀ {M : gU} {E : gV}, tPs sN V K (M ++ N) E = tPs sN V K M E ++ tPs sN V K N (exs M E) := by
  intro M
  induction M with
  | nil => intro E; rfl
  | cons v M ih =>
    intro E
    show tPv sN V K E v ++ tPs sN V K (M ++ N) (exV E v) = (tPv sN V K E v ++ tPs sN V K M (exV E v)) ++ tPs sN V K N (exs M (exV E v))
    rw [ih, List.append_assoc]
theorem tPs_still : ∀ {M : gU}, still M → (∀ v ∈ M, ¬ v.1 = 24 ∧ ¬ v.1 = 27) → tPs sN V K M E = sPs sN V K E M := by
  intro M
  induction M with
  | nil => intro _ _; rfl
  | cons v M ih =>
    intro h g
    show tPv sN V K E v ++ tPs sN V K M (exV E v) = (v :: M).filterMap (cPt sN V K E)
    have e : tPv sN V K E v = (cPt sN V K E v).toList := by
      unfold tPv
      rw [if_neg (g v List.mem_cons_self).1, if_neg (g v List.mem_cons_self).2]
    rw [e, exV_still (h v List.mem_cons_self), ih (fun w hw => h w (List.mem_cons_of_mem _ hw)) (fun w hw => g w (List.mem_cons_of_mem _ hw)), List.filterMap_cons]
    cases cPt sN V K E v <;> rfl
theorem SUc_mono {r : Int32} (h : SUc P r Q) (P' : List (Int32 × Int32)) : SUc (P ++ P') r Q := by
  obtain ⟨n, h1, h2⟩ := h
  refine ⟨n, h1, fun i q hq => ?_⟩
  have a := h2 i q hq
  rw [List.getElem?_append_left (gt_lt a)]
  exact a
theorem cSu_mono {ks : gK} {v : Int32} {o : Option gU} (h : cSu sN V K P ks v o) (P' : List (Int32 × Int32)) : cSu sN V K (P ++ P') ks v o := by
  cases o with
  | none => exact h
  | some N => exact SUc_mono h P'
theorem kS_mono {j : Nat} {st : gSt} (h : kS sN V K x P j st) (P' : List (Int32 × Int32)) : kS sN V K x (P ++ P') j st := by
  obtain ⟨h1, h2, h3, h4, h5, h6, h7, h8⟩ := h
  exact ⟨h1, h2, h3, h4, h5, cSu_mono h6 P', cSu_mono h7 P', cSu_mono h8 P'⟩
theorem kS_eq {j : Nat} {st : gSt} (e : ∀ k, 81 ≤ k → k < 90 → y.1 k j = x.1 k j) (h : kS sN V K x P j st) : kS sN V K y P j st := by
  unfold kS
  rw [e 81 (by decide) (by decide), e 83 (by decide) (by decide), e 84 (by decide) (by decide), e 85 (by decide) (by decide), e 87 (by decide) (by decide), e 88 (by decide) (by decide), e 89 (by decide) (by decide)]
  exact h
theorem SKk_eq : ∀ {n : Nat} {k : List Nat}, (∀ i, i < n → y.1 111 i = x.1 111 i ∧ y.1 112 i = x.1 112 i) → SKk x n k → SKk y n k := by
  intro n
  induction n with
  | zero => intro k _ h; exact h
  | succ n ih =>
    intro k e h
    obtain ⟨e1, e2⟩ := e n (Nat.lt_succ_self _)
    have e' : ∀ i, i < n → y.1 111 i = x.1 111 i ∧ y.1 112 i = x.1 112 i := fun i hi => e i (Nat.lt_succ_of_lt hi)
    rcases h with ⟨h1, h2⟩ | ⟨h1, j, k', h2, h3, h4⟩
    · exact Or.inl ⟨by rw [e1]; exact h1, ih e' h2⟩
    · exact Or.inr ⟨by rw [e1]; exact h1, j, k', h2, by rw [e2]; exact h3, ih e' h4⟩
theorem CCp_eq (e : ∀ c k, ccS c k → y.1 c k = x.1 c k) (h : CCp sN V K x c d P) : CCp sN V K y c d P := by
  obtain ⟨⟨p1, p2⟩, ⟨s1, s2⟩, ⟨k1, k2⟩, ⟨b1, b2⟩, ⟨c1, c2⟩, ⟨a1, a2⟩, ⟨f1, f2⟩⟩ := h
  have g : ∀ c k, 61 ≤ c → c < 90 → y.1 c k = x.1 c k := fun c k q1 q2 => e c k (Or.inr (Or.inl ⟨q1, q2⟩))
  have g6 : ∀ k, k ≠ 13 → y.1 60 k = x.1 60 k := fun k q => e 60 k (Or.inl ⟨rfl, q⟩)
  have e5 : y.1 100 5 = x.1 100 5 := e _ _ (Or.inr (Or.inr (Or.inl ⟨rfl, Or.inl rfl⟩)))
  have e13 : y.1 100 13 = x.1 100 13 := e _ _ (Or.inr (Or.inr (Or.inl ⟨rfl, Or.inr rfl⟩)))
  refine ⟨⟨by rw [g6 3 (by decide)]; exact p1, fun i q hi hq => by rw [g 62 i (by decide) (by decide), g 63 i (by decide) (by decide)]; exact p2 i q hi hq⟩, ⟨by rw [g 80 9 (by decide) (by decide)]; exact s1, fun j st hj => kS_eq (fun k q1 q2 => g k j (by omega) q2) (s2 j st hj)⟩, ⟨fun q => ?_, fun q => k2 (by rw [← e5]; exact q)⟩, ⟨by rw [g6 10 (by decide)]; exact b1, fun t q hq => by rw [g 72 t (by decide) (by decide), g 73 t (by decide) (by decide)]; exact b2 t q hq⟩, ⟨by rw [g6 6 (by decide)]; exact c1, fun j q hq => by rw [g 68 j (by decide) (by decide), g 69 j (by decide) (by decide)]; exact c2 j q hq⟩, ⟨by rw [g6 14 (by decide)]; exact a1, fun k N hN => by rw [g 76 k (by decide) (by decide)]; exact a2 k N hN⟩, ⟨by rw [g6 16 (by decide)]; exact f1, fun k N hN => by rw [g 78 k (by decide) (by decide)]; exact f2 k N hN⟩⟩
  rw [e13]
  exact SKk_eq (fun i _ => ⟨e _ _ (Or.inr (Or.inr (Or.inr (Or.inl rfl)))), e _ _ (Or.inr (Or.inr (Or.inr (Or.inr rfl))))⟩) (k1 (by rw [← e5]; exact q))
theorem CG_app (h : CG sN V K E x y M) (g : CG sN V K (exs M E) y z N) : CG sN V K E x z (M ++ N) := fun c d P he hr hc => by
  obtain ⟨h1, h2, h3⟩ := h c d P he hr hc
  obtain ⟨g1, g2, g3⟩ := g _ _ _ h2 h3 h1
  rw [cds_app, ces_app, tPs_app, exs_app, ← List.append_assoc]
  exact ⟨g1, g2, g3⟩
theorem CG_st (h : CG sN V K E x y M) (e : ∀ c k, ccS c k → z.1 c k = y.1 c k) : CG sN V K E x z M := fun c d P he hr hc => ⟨CCp_eq e (h c d P he hr hc).1, (h c d P he hr hc).2⟩
theorem CG_pre (e : ∀ c k, ccS c k → y.1 c k = x.1 c k) (h : CG sN V K E y z M) : CG sN V K E x z M := fun c d P he hr hc => h c d P he hr (CCp_eq e hc)
/-- one step is added -/
def stK (x y : gd) (o kn tg ob ix e f : Int32) : Prop := (∀ c k, ccS c k → ¬ (81 ≤ c ∧ c ≤ 89 ∧ k = (x.1 80 9).toNatClampNeg) → ¬ (c = 80 ∧ k = 9) → y.1 c k = x.1 c k) ∧ (y.1 80 9).toInt = (x.1 80 9).toInt + 1 ∧ y.1 81 (x.1 80 9).toNatClampNeg = o ∧ y.1 83 (x.1 80 9).toNatClampNeg = kn ∧ y.1 84 (x.1 80 9).toNatClampNeg = tg ∧ y.1 85 (x.1 80 9).toNatClampNeg = ob ∧ y.1 87 (x.1 80 9).toNatClampNeg = ix ∧ y.1 88 (x.1 80 9).toNatClampNeg = e ∧ y.1 89 (x.1 80 9).toNatClampNeg = f
theorem CCp_add {o kn tg ob ix e f : Int32} {st : gSt} {Ec : gV} {k : List Nat} {r r' : gRg} {w : List (Nat × Nat) × List (Nat × gU)} (h : CCp sN V K x (Ec, S, k, r, w) d P) (a : stK x y o kn tg ob ix e f) (h1 : o = Int32.ofNat st.1) (h2 : kn.toInt = st.2.2.1.1.length) (h3 : (st.1 = 0 ∨ (2 ≤ st.1 ∧ st.1 ≤ 4) ∨ st.1 = 16 ∨ st.1 = 17 ∨ st.1 = 20) → tgI tg st.2.2.2.1) (h4 : st.1 = 8 → (tg = 1 ↔ st.2.2.2.2.2.1 = true)) (h5 : ¬ st.1 = 16 → obI V ob st.1 st.2.2.2.2.1) (h6 : cSu sN V K P st.2.2.1.1 ix st.2.2.2.2.2.2.1) (h7 : cSu sN V K P st.2.2.1.1 e st.2.2.2.2.2.2.2.1) (h8 : cSu sN V K P st.2.2.1.1 f st.2.2.2.2.2.2.2.2) : CCp sN V K y (Ec, S ++ [st], k, r', w) d P := by
  obtain ⟨⟨p1, p2⟩, ⟨s1, s2⟩, ⟨k1, k2⟩, ⟨b1, b2⟩, ⟨c1, c2⟩, ⟨a1, a2⟩, ⟨f1, f2⟩⟩ := h
  have s1 : (x.1 80 9).toInt = S.length := s1
  obtain ⟨fr, g9, v81, v83, v84, v85, v87, v88, v89⟩ := a
  have en : (x.1 80 9).toNatClampNeg = S.length := by rw [t_cl, s1]; omega
  rw [en] at fr v81 v83 v84 v85 v87 v88 v89
  have g : ∀ c k, 61 ≤ c → c < 80 → y.1 c k = x.1 c k := fun c k q1 q2 => fr c k (Or.inr (Or.inl ⟨q1, by omega⟩)) (by omega) (by omega)
  have g6 : ∀ k, k ≠ 13 → y.1 60 k = x.1 60 k := fun k q => fr 60 k (Or.inl ⟨rfl, q⟩) (by omega) (by omega)
  have e5 : y.1 100 5 = x.1 100 5 := fr _ _ (Or.inr (Or.inr (Or.inl ⟨rfl, Or.inl rfl⟩))) (by omega) (by omega)
  have e13 : y.1 100 13 = x.1 100 13 := fr _ _ (Or.inr (Or.inr (Or.inl ⟨rfl, Or.inr rfl⟩))) (by omega) (by omega)
  refine ⟨⟨by rw [g6 3 (by decide)]; exact p1, fun i q hi hq => by rw [g 62 i (by decide) (by decide), g 63 i (by decide) (by decide)]; exact p2 i q hi hq⟩, ⟨by rw [g9, s1]; show _ = (((S ++ [st]).length : Nat) : Int); rw [List.length_append]; rfl, sn_get (fun j r9 hr9 => ?_) ?_⟩, ⟨fun q => ?_, fun q => k2 (by rw [← e5]; exact q)⟩, ⟨by rw [g6 10 (by decide)]; exact b1, fun t q hq => by rw [g 72 t (by decide) (by decide), g 73 t (by decide) (by decide)]; exact b2 t q hq⟩, ⟨by rw [g6 6 (by decide)]; exact c1, fun j q hq => by rw [g 68 j (by decide) (by decide), g 69 j (by decide) (by decide)]; exact c2 j q hq⟩, ⟨by rw [g6 14 (by decide)]; exact a1, fun k N hN => by rw [g 76 k (by decide) (by decide)]; exact a2 k N hN⟩, ⟨by rw [g6 16 (by decide)]; exact f1, fun k N hN => by rw [g 78 k (by decide) (by decide)]; exact f2 k N hN⟩⟩
  · have hj := gt_lt hr9
    exact kS_eq (fun k q1 q2 => fr k j (Or.inr (Or.inl ⟨by omega, q2⟩)) (by omega) (by omega)) (s2 j r9 hr9)
  · unfold kS
    rw [v81, v83, v84, v85, v87, v88, v89]
    exact ⟨h1, h2, h3, h4, h5, h6, h7, h8⟩
  · rw [e13]
    exact SKk_eq (fun i _ => ⟨fr _ _ (Or.inr (Or.inr (Or.inr (Or.inl rfl)))) (by omega) (by omega), fr _ _ (Or.inr (Or.inr (Or.inr (Or.inr rfl)))) (by omega) (by omega)⟩) (k1 (by rw [← e5]; exact q))
/-- a sum's parts are written, no more -/
theorem CCp_sum {Ec : gV} {k : List Nat} {r r' : gRg} {w : List (Nat × Nat) × List (Nat × gU)} (h : CCp sN V K x (Ec, S, k, r, w) d P) (a : CPl x y Q) (e : ∀ c k, ccS c k → ¬ (c = 60 ∧ k = 3) → ¬ c = 62 → ¬ c = 63 → y.1 c k = x.1 c k) : CCp sN V K y (Ec, S, k, r', w) d (P ++ Q) := by
  obtain ⟨p, ⟨s1, s2⟩, ⟨k1, k2⟩, ⟨b1, b2⟩, ⟨c1, c2⟩, ⟨a1, a2⟩, ⟨f1, f2⟩⟩ := h
  have g : ∀ c k, 64 ≤ c → c < 90 → y.1 c k = x.1 c k := fun c k q1 q2 => e c k (Or.inr (Or.inl ⟨by omega, q2⟩)) (by omega) (by omega) (by omega)
  have g6 : ∀ k, k ≠ 13 → k ≠ 3 → y.1 60 k = x.1 60 k := fun k q q2 => e 60 k (Or.inl ⟨rfl, q⟩) (by omega) (by omega) (by omega)
  have e5 : y.1 100 5 = x.1 100 5 := e _ _ (Or.inr (Or.inr (Or.inl ⟨rfl, Or.inl rfl⟩))) (by omega) (by omega) (by omega)
  have e13 : y.1 100 13 = x.1 100 13 := e _ _ (Or.inr (Or.inr (Or.inl ⟨rfl, Or.inr rfl⟩))) (by omega) (by omega) (by omega)
  refine ⟨a P p, ⟨by rw [g 80 9 (by decide) (by decide)]; exact s1, fun j st hj => kS_mono (kS_eq (fun k q1 q2 => g k j (by omega) q2) (s2 j st hj)) Q⟩, ⟨fun q => ?_, fun q => k2 (by rw [← e5]; exact q)⟩, ⟨by rw [g6 10 (by decide) (by decide)]; exact b1, fun t q hq => by rw [g 72 t (by decide) (by decide), g 73 t (by decide) (by decide)]; exact b2 t q hq⟩, ⟨by rw [g6 6 (by decide) (by decide)]; exact c1, fun j q hq => by rw [g 68 j (by decide) (by decide), g 69 j (by decide) (by decide)]; exact c2 j q hq⟩, ⟨by rw [g6 14 (by decide) (by decide)]; exact a1, fun k N hN => by rw [g 76 k (by decide) (by decide)]; exact SUc_mono (a2 k N hN) Q⟩, ⟨by rw [g6 16 (by decide) (by decide)]; exact f1, fun k N hN => by rw [g 78 k (by decide) (by decide)]; exact SUc_mono (f2 k N hN) Q⟩⟩
  rw [e13]
  exact SKk_eq (fun i _ => ⟨e _ _ (Or.inr (Or.inr (Or.inr (Or.inl rfl)))) (by omega) (by omega) (by omega), e _ _ (Or.inr (Or.inr (Or.inr (Or.inr rfl)))) (by omega) (by omega) (by omega)⟩) (k1 (by rw [← e5]; exact q))
/-- where a sum begins that is written next -/
theorem SUc_next {r : Int32} (hp : PR x P) (hr : r = x.1 60 3) (Q : List (Int32 × Int32)) : SUc (P ++ (Q ++ [(0, 0)])) r Q := by
  refine ⟨P.length, by rw [hr]; exact hp.1, fun i q hq => ?_⟩
  rw [List.getElem?_append_right (by omega), Nat.add_sub_cancel_left]
  exact hq
theorem sPs_54 : sPs sN V K E (N ++ [(54, 0, 0)]) = sPs sN V K E N ++ [(0, 0)] := by
  rw [sPs_app]
  rfl
/-- a thread's sum: only the names known count -/
theorem sPs_E {E' : gV} (h : sEv false N) (he : ∀ t, kfi sN E.1 t = kfi sN E'.1 t) : sPs sN V K E N = sPs sN V K E' N := by
  induction N with
  | nil => rfl
  | cons v N ih =>
    have e : cPt sN V K E v = cPt sN V K E' v := by
      unfold cPt
      rw [he]
      have hv := h v List.mem_cons_self
      by_cases c : v.1 = 6 ∨ v.1 = 7
      · exfalso
        rcases hv with q | q | q | q | q | q
        · omega
        · omega
        · omega
        · omega
        · have := q.2; omega
        · exact absurd q.1 (by decide)
      · rw [if_neg c, if_neg c]
    show (v :: N).filterMap _ = (v :: N).filterMap _
    rw [List.filterMap_cons, List.filterMap_cons, e]
    have := ih (fun w hw => h w (List.mem_cons_of_mem _ hw))
    unfold sPs at this
    rw [this]
end KCO
end
section
/-! the class: statements, and when they are refused -/
section KSMF
variable {G : kG} {q : kP} {d : Nat} {x x0 y z xs : gd} {F : Int32 → gd → Prop} {Fv : gd → Prop} {X : String → gd → Prop} {P : Option gv → gd → Prop} {M : Int} {E : Nat → Prop} {K V : Nat → Int32} {sN : Nat → Nat → Bool} {e : Nat} {Ev : gV} {Ml N : gU}
theorem KV_GS (g : GS x y) (h : KV' K e x Ev) : KV' K e y Ev := KV_fm h (g.2 _ _ (by unfold sSum; omega)) (fun k => g.2 _ _ (by unfold sSum; omega))
theorem sort_n0 (hA : KA K V sN e x) (hn : nn x ≤ e) (k0 : ¬ K (nn x) = 0) : ¬ x.1 23 (x.1 100 4).toNatClampNeg = 0 := fun z => k0 (by rw [← hA.1 _ hn, show x.1 23 (nn x) = 0 from z]; decide)
/-- a token with a use -/
theorem RI_use (h : RIw K V sN e Ev xs x Ml) (h0 : 0 ≤ nx x) (l : La x y) (hA : KA K V sN e y) (hn : nn y ≤ e) (e1 : nn y = nn x + 1) (mA : HAs sN (y.1 42) (nn y) N (exs Ml Ev)) (mB : ¬ y.1 42 (nn x) = 0 → HBs sN N (exs Ml Ev) (nn x) (y.1 42 (nn x))) : RIw K V sN e Ev xs y (Ml ++ N) := ⟨hA, hn, UR_app h0 h.2.2 l ⟨mA, fun j h1 h2 h3 => by
  have ej : j = nn x := by omega
  rw [ej] at h3 ⊢
  exact mB h3⟩⟩
/-- an event told behind what it is of -/
theorem UR_late {v : Nat × Nat × Nat} (h0 : 0 ≤ nx y) (hN : still N) (l : La y z) (g : UR sN Ev y z N) (hA : HAw sN (z.1 42) (nn z) Ev v) (hB : ∀ j, nn x ≤ j → j < nn y → ¬ y.1 42 j = 0 → HB sN Ev v j (y.1 42 j)) : UR sN Ev x z (N ++ [v]) := by
  obtain ⟨n1, n2⟩ := La_nn h0 l
  refine ⟨HAs_app.mpr ⟨g.1, HAs_one.mpr (by rw [exs_still hN]; exact hA)⟩, fun j h1 h2 h3 => HBs_app.mpr ?_⟩
  by_cases c : j < nn y
  · rw [n2 j c] at h3 ⊢
    exact Or.inr (HBs_one.mpr (by rw [exs_still hN]; exact hB j h1 c h3))
  · exact Or.inl (g.2 j (by omega) h2 h3)
theorem kd_pass (hq : kV q) (hx : 700 ≤ nn x → RX x0 X) (hB : BB x0 x M E) (hR : RIw K V sN e Ev xs x Ml) (k0 : ¬ K (nn x) = 0) (k3 : ¬ K (nn x) = 3) (h : nn x < 700 → ∀ y, BB x0 y M E → nx y = nx x + 1 → GS x y → nn y = nn x + 1 → RIw K V sN e Ev xs y Ml → y.1 42 (nn x) = 0 → (∀ c k, ccS c k → y.1 c k = x.1 c k) → Fv y) : KE G q (d + 7) zk_X7_pass 0 [(0, vr 100)] [] x (rv Fv) X := by
  have b0 := hB.1.1.2.1
  have c0 := nn_is b0
  refine kf_pass hq hB.2.2.2.2.2.1 (fun c => hx (by omega)) hB.1 (sort_n0 hR.1 hR.2.1 k0) (FR_12 hB.2.1) (fun c7 y f n S fr la _ => ?_)
  have g : GS x y := ⟨la, fm_w f (fun c k q => by unfold sSum; omega)⟩
  have ut : y.1 42 (nn x) = 0 := by rw [f 42 _ (by omega)]; exact hB.2.1
  refine h (by omega) y (BB_on hB ?_ fr g) n g (nn_up b0 n) (RI_tok hR b0 c7 k0 k3 la n ut) ut (fun c k q => f c k (by unfold ccS at q; omega))
  unfold SU
  rw [f 60 3 (by omega)]; exact S
theorem kd_need (hq : kV q) (w kw : Int32) (hkw : kc w = kw) (hkn : ¬ kw = -1 ∧ ¬ kw = 0 ∧ ¬ kw = 3) (hw : ¬ w = 0) (hx : ¬ (K (nn x) = kw ∧ nn x < 700) → RX x0 X) (hB : BB x0 x M E) (hR : RIw K V sN e Ev xs x Ml) (h : K (nn x) = kw → nn x < 700 → ∀ y, BB x0 y M E → nx y = nx x + 1 → GS x y → nn y = nn x + 1 → RIw K V sN e Ev xs y Ml → y.1 42 (nn x) = 0 → (∀ c k, ccS c k → y.1 c k = x.1 c k) → Fv y) : KE G q (d + 7) zk_X7_need 0 [(0, vr 100), (1, vi w)] [] x (rv Fv) X := by
  have b0 := hB.1.1.2.1
  have c0 := nn_is b0
  have ki : x.1 23 (x.1 100 4).toNatClampNeg = w ↔ K (nn x) = kw := by
    rw [← hkw]
    exact KA_k hR.1 hR.2.1 w (by rw [hkw]; exact hkn.1)
  refine kf_need hq hB.2.2.2.2.2.1 w (fun c => hx (fun z => c.elim (fun c => c (ki.mpr z.1)) (fun c => absurd z.2 (by omega)))) hB.1 hw hB.2.1 (fun cw c7 y f n S fr la _ => ?_)
  have kk := ki.mp cw
  have g : GS x y := ⟨la, fm_w f (fun c k q => by unfold sSum; omega)⟩
  have ut : y.1 42 (nn x) = 0 := by rw [f 42 _ (by omega)]; exact hB.2.1
  refine h kk (by omega) y (BB_on hB ?_ fr g) n g (nn_up b0 n) (RI_tok hR b0 c7 (by rw [kk]; exact hkn.2.1) (by rw [kk]; exact hkn.2.2) la n ut) ut (fun c k q => f c k (by unfold ccS at q; omega))
  unfold SU
  rw [f 60 3 (by omega)]; exact S
theorem kd_needFor (hq : kV q) (w u kw : Int32) (hkw : kc w = kw) (hkn : ¬ kw = -1 ∧ ¬ kw = 0 ∧ ¬ kw = 3) (hw : ¬ w = 0) (hu : ¬ u = 12) (hx : ¬ (K (nn x) = kw ∧ nn x < 700) → RX x0 X) (hB : BB x0 x M E) (hA : KA K V sN e x) (hn : nn x ≤ e) (h : K (nn x) = kw → nn x < 700 → ∀ y, BB x0 y M E → nx y = nx x + 1 → GS x y → nn y = nn x + 1 → KA K V sN e y → nn y ≤ e → y.1 42 (nn x) = u → tk y (x.1 100 4) → (∀ c k, ccS c k → y.1 c k = x.1 c k) → F (x.1 100 4) y) : KE G q (d + 7) zk_X7_needFor 0 [(0, vr 100), (1, vi w), (2, vi u)] [] x (ri F) X := by
  have b0 := hB.1.1.2.1
  have c0 := nn_is b0
  have ki : x.1 23 (x.1 100 4).toNatClampNeg = w ↔ K (nn x) = kw := by
    rw [← hkw]
    exact KA_k hA hn w (by rw [hkw]; exact hkn.1)
  refine kf_needFor hq hB.2.2.2.2.2.1 w u (fun c => hx (fun z => c.elim (fun c => c (ki.mpr z.1)) (fun c => absurd z.2 (by omega)))) hB.1 hw (fun q => absurd q hu) (fun cw c7 y f eu n S fr la _ ht => ?_)
  have kk := ki.mp cw
  have g : GS x y := ⟨la, fm_w f (fun c k q => by unfold sSum; omega)⟩
  have en := nn_up b0 n
  refine h kk (by omega) y (BB_on hB ?_ fr g) n g en (KA_fm hA la.1) (by rw [en]; exact KA_on hA hn (by omega) (by rw [kk]; exact hkn.2.1) (by rw [kk]; exact hkn.2.2)) eu ht (fun c k q => f c k (by unfold ccS at q; omega))
  unfold SU
  rw [f 60 3 (by omega)]; exact S
theorem kd_sum (hq : kV q) (D : Int32) (L : gU) (hx : pX K false (17 - D.toNatClampNeg) (nn x) L = none → RX x0 X) (hB : BB x0 x M E) (hA : KA K V sN e x) (hn : nn x ≤ e) (hE : KV' K e x Ev) (hD : 1 ≤ D.toInt) (hD2 : D.toInt ≤ 18) (h : ∀ r y, BB x0 y M E → nx x < nx y → GS x y → ∀ N, RIw K V sN e Ev x y N → still N → pX K false (17 - D.toNatClampNeg) (nn x) L = some (nn y, L ++ N) → CPl x y (sPs sN V K Ev N) → r = x.1 60 3 → F r y) : KE G q (d + 9) zk_X7_sum 0 [(0, vr 100), (1, vi D)] [] x (ri F) X :=
  kf_sum hq hB.2.2.2.2.2.1 D L hx hB.1 hB.2.1 (fun c => ⟨(hB.2.2.1.1 c).1, hE⟩) ⟨fun q => absurd q (by decide), fun q => absurd q hB.2.2.2.2.1⟩ ⟨hA, hn, UR_0 rfl⟩ hD hD2 (fun r y S fr la f n N hR hN hp hcp hr => h r y (BB_on hB S fr ⟨la, f⟩) n ⟨la, f⟩ N hR hN hp (hcp (fun q => absurd q (by decide))) hr)
theorem kd_refuse (hq : kV q) (hx : RX x0 X) (hB : BB x0 x M E) (n : Int32) (hn : ¬ n = 0 := by decide) : KE G q (d + 6) zk_X7_refuse 0 [(0, vr 100), (1, vi n)] [] x P X := kp_refuse hq n (RB_at hB.1.1) hB.2.2.2.2.2.1 hx hn
/-- what is told, and the counts -/
def Tc (c k : Nat) : Prop := c = 40 ∨ (44 ≤ c ∧ c ≤ 51) ∨ (c = 60 ∧ k ≠ 3 ∧ k ≠ 13)
def TBe (x y : gd) : Prop := ∀ c k, Tc c k → y.1 c k = x.1 c k
def Lb (x y : gd) : Prop := La x y ∧ TBe x y
theorem TBe_tr (h : TBe x y) (g : TBe y z) : TBe x z := fun c k q => (g c k q).trans (h c k q)
theorem Lb_tr (h : Lb x y) (g : Lb y z) : Lb x z := ⟨La_tr h.1 g.1, TBe_tr h.2 g.2⟩
theorem TBe_GS (g : GS x y) : TBe x y := fun c k q => GS_at g c k (by unfold Tc at q; unfold sSum; omega)
theorem Lb_GS (g : GS x y) : Lb x y := ⟨g.1, TBe_GS g⟩
theorem Lb_fm {S : Nat → Nat → Prop} (f : fm S x y) (hS : ∀ c k, S c k → ¬ ((20 ≤ c ∧ c < 40) ∨ c = 42 ∨ (c = 100 ∧ k = 4) ∨ Tc c k)) : Lb x y := ⟨⟨fun c k q1 q2 => f c k (fun z => hS c k z (Or.inl ⟨q1, q2⟩)), by unfold nx; rw [f 100 4 (fun z => hS _ _ z (Or.inr (Or.inr (Or.inl ⟨rfl, rfl⟩))))]; exact Int.le_refl _, fun j _ => f 42 j (fun z => hS _ _ z (Or.inr (Or.inl rfl)))⟩, fun c k q => f c k (fun z => hS c k z (Or.inr (Or.inr (Or.inr q))))⟩
/-- what is open stays, and the lets -/
def OPe (x y : gd) : Prop := Lb x y ∧ (∀ c k, 111 ≤ c → c ≤ 113 → y.1 c k = x.1 c k) ∧ y.1 100 7 = x.1 100 7
theorem OPe_GS (g : GS x y) : OPe x y := ⟨Lb_GS g, fun c k q1 q2 => GS_at g _ _ (by unfold sSum; omega), GS_at g _ _ (by unfold sSum; omega)⟩
theorem OPe_tr (h : OPe x y) (g : OPe y z) : OPe x z := ⟨Lb_tr h.1 g.1, fun c k q1 q2 => (g.2.1 c k q1 q2).trans (h.2.1 c k q1 q2), g.2.2.trans h.2.2⟩
theorem OPe_st {n : Nat} (f : fm (fun c k => (81 ≤ c ∧ c ≤ 89 ∧ k = n) ∨ (c = 80 ∧ k = 9)) x y) : OPe x y := ⟨Lb_fm f (fun c k q => by unfold Tc; omega), fun c k q1 q2 => f _ _ (by omega), f _ _ (by omega)⟩
end KSMF
end
section
/-! the class: what statements without a block add to the code -/
section KPC
variable {sN : Nat → Nat → Bool} {V K : Nat → Int32} {Ev : gV} {x y z w : gd} {N : gU} {v : Nat × Nat × Nat} {e i j : Nat} {o ob s tg kn ix e9 f9 : Int32}
theorem sEv_still {o : Bool} (h : sEv o N) : still N := fun v hv => by
  have := h v hv
  omega
theorem sEv_ce {o : Bool} (h : sEv o N) {d : Nat × Int32 × List (Int32 × Bool)} : ces K V N d = d := ces_no (fun v hv q => by
  have := h v hv
  omega)
theorem tPs_x {o : Bool} {E : gV} (h : sEv o N) : tPs sN V K (N ++ [(54, 0, 0)]) E = sPs sN V K E (N ++ [(54, 0, 0)]) := by
  refine tPs_still (still_54 (sEv_still h)) (fun v hv => ?_)
  rcases List.mem_append.mp hv with q | q
  · have := h v q
    omega
  · rw [List.mem_singleton.mp q]; exact ⟨by show ¬ 54 = 24; decide, by show ¬ 54 = 27; decide⟩
theorem opP_c (k : Int32) : opP k = 11 ∨ opP k = 12 ∨ opP k = 19 := by
  unfold opP
  split
  · exact Or.inl rfl
  · split
    · exact Or.inr (Or.inl rfl)
    · exact Or.inr (Or.inr rfl)
theorem opS_c (k : Int32) : opS k = 18 ∨ opS k = 14 := by
  unfold opS
  split
  · exact Or.inl rfl
  · exact Or.inr rfl
theorem opW_c (k : Int32) : 5 ≤ opW k ∧ opW k ≤ 10 := by
  unfold opW
  split
  · decide
  · split
    · decide
    · split
      · decide
      · split
        · decide
        · split <;> decide
/-- nothing was written yet, or one sum -/
def PCd (sN : Nat → Nat → Bool) (V K : Nat → Int32) (Ev : gV) (x y : gd) (s : Int32) (N : gU) : Prop := (N = [] ∧ s = -1 ∧ ∀ c k, ccS c k → y.1 c k = x.1 c k) ∨ ∃ N' y0, N = N' ++ [(54, 0, 0)] ∧ sEv false N' ∧ (∀ c k, ccS c k → y0.1 c k = x.1 c k) ∧ CPl y0 y (sPs sN V K Ev N) ∧ (∀ c k, ccS c k → ¬ (c = 60 ∧ k = 3) → ¬ c = 62 → ¬ c = 63 → y.1 c k = y0.1 c k) ∧ s = y0.1 60 3
theorem CG_pl (hE : KV' K e y Ev) (hEv : ¬ Ev.2.1 = []) (hpc : PCd sN V K Ev x y s N) (a : stK y z o (y.1 100 9) (-1) ob (-1) s (-1)) (hv : (v = (68, i, 0) ∧ ob = -1 ∧ N = [] ∧ o = Int32.ofNat (opP (K i))) ∨ (v = (69, i, 0) ∧ ob = -1 ∧ ¬ N = [] ∧ o = Int32.ofNat (opS (K i))) ∨ (v = (70, i, j) ∧ ob = V j ∧ ¬ N = [] ∧ o = 13)) : CG sN V K Ev x z (N ++ [v]) := by
  intro c d P he hr hc
  obtain ⟨Ec, S, k, r, w⟩ := c
  have hr : r = rg0 := hr
  subst hr
  have he : eqE Ec Ev := he
  have kl : (y.1 100 9).toInt = (Ec.1.length : Nat) := by rw [hE.1, eqE_len he]
  have hEc : ¬ Ec.2.1 = [] := by rw [he.2]; exact hEv
  rcases hpc with ⟨eN, es, fr⟩ | ⟨N', y0, eN, hs', fr, hcp, fr2, es⟩
  · have hv : v = (68, i, 0) ∧ ob = -1 ∧ o = Int32.ofNat (opP (K i)) := by
      rcases hv with ⟨a1, a2, _, a4⟩ | ⟨_, _, a3, _⟩ | ⟨_, _, a3, _⟩
      · exact ⟨a1, a2, a4⟩
      · exact absurd eN a3
      · exact absurd eN a3
    obtain ⟨v1, v2, v3⟩ := hv
    rw [eN, v1, List.nil_append, cds_one, cd_68]
    have op := opP_c (K i)
    have q := CCp_add (st := (opP (K i), i, knw Ec, none, none, false, none, none, none)) (r' := rg0) (CCp_eq fr hc) a v3 kl (fun q => by exfalso; have q : opP (K i) = 0 ∨ (2 ≤ opP (K i) ∧ opP (K i) ≤ 4) ∨ opP (K i) = 16 ∨ opP (K i) = 17 ∨ opP (K i) = 20 := q; omega) (fun q => by exfalso; have q : opP (K i) = 8 := q; omega) (fun _ => v2) rfl es rfl
    refine ⟨?_, ?_, rfl⟩
    · show CCp sN V K z _ d (P ++ [])
      rw [List.append_nil]
      exact q
    · rw [exs_still (stl_k (by decide))]
      exact he
  · have hN : ¬ N = [] := fun q => by rw [q] at eN; simp at eN
    have hst : still N := by rw [eN]; exact still_54 (sEv_still hs')
    have ks : sPs sN V K Ev N' = sPs sN V K (Ec.1, [0], 0) N' := sPs_E hs' (fun t => kfi_len he.1.symm)
    have h0 := CCp_eq fr hc
    have h1 := CCp_sum (r' := rg0) h0 hcp fr2
    have su : SUc (P ++ sPs sN V K Ev N) s (sPs sN V K (Ec.1, [0], 0) N') := by
      rw [eN, sPs_54, ← ks]
      exact SUc_next h0.1 es _
    have hv2 : (v = (69, i, 0) ∧ ob = -1 ∧ o = Int32.ofNat (opS (K i))) ∨ (v = (70, i, j) ∧ ob = V j ∧ o = 13) := by
      rcases hv with ⟨_, _, a3, _⟩ | ⟨a1, a2, _, a4⟩ | ⟨a1, a2, _, a4⟩
      · exact absurd a3 hN
      · exact Or.inl ⟨a1, a2, a4⟩
      · exact Or.inr ⟨a1, a2, a4⟩
    rcases hv2 with ⟨v1, v2, v3⟩ | ⟨v1, v2, v3⟩
    · have op := opS_c (K i)
      have q := CCp_add (st := (opS (K i), i, knw Ec, none, none, false, none, some N', none)) (r' := rg0) h1 a v3 kl (fun q => by exfalso; have q : opS (K i) = 0 ∨ (2 ≤ opS (K i) ∧ opS (K i) ≤ 4) ∨ opS (K i) = 16 ∨ opS (K i) = 17 ∨ opS (K i) = 20 := q; omega) (fun q => by exfalso; have q : opS (K i) = 8 := q; omega) (fun _ => v2) rfl su rfl
      have ec : cds sN K (N ++ [v]) (Ec, S, k, rg0, w) = (Ec, S ++ [(opS (K i), i, knw Ec, none, none, false, none, some N', none)], k, rg0, w) := by
        rw [eN, v1, cds_app, cds_x hs' hEc, cds_one, cd_69]; rfl
      have ee : ces K V (N ++ [v]) d = d := by
        rw [eN, v1, ces_app, ces_app, sEv_ce hs']; rfl
      have ep : tPs sN V K (N ++ [v]) Ev = sPs sN V K Ev N := by
        rw [tPs_app, eN, tPs_x hs', v1]
        exact List.append_nil _
      rw [ec, ee, ep]
      exact ⟨q, by rw [exs_still (still_app hst (by rw [v1]; exact stl_k (by decide)))]; exact he, rfl⟩
    · have q := CCp_add (st := (13, i, knw Ec, none, some j, false, none, some N', none)) (r' := rg0) h1 a v3 kl (fun q => by exfalso; have q : (13 : Nat) = 0 ∨ (2 ≤ 13 ∧ 13 ≤ 4) ∨ (13 : Nat) = 16 ∨ (13 : Nat) = 17 ∨ (13 : Nat) = 20 := q; omega) (fun q => by exfalso; have q : (13 : Nat) = 8 := q; omega) (fun _ => v2) rfl su rfl
      have ec : cds sN K (N ++ [v]) (Ec, S, k, rg0, w) = (Ec, S ++ [(13, i, knw Ec, none, some j, false, none, some N', none)], k, rg0, w) := by
        rw [eN, v1, cds_app, cds_x hs' hEc, cds_one, cd_70]; rfl
      have ee : ces K V (N ++ [v]) d = d := by
        rw [eN, v1, ces_app, ces_app, sEv_ce hs']; rfl
      have ep : tPs sN V K (N ++ [v]) Ev = sPs sN V K Ev N := by
        rw [tPs_app, eN, tPs_x hs', v1]
        exact List.append_nil _
      rw [ec, ee, ep]
      exact ⟨q, by rw [exs_still (still_app hst (by rw [v1]; exact stl_k (by decide)))]; exact he, rfl⟩
theorem stK_84 (a : stK y z o kn tg ob ix e9 f9) {v8 : Int32} (ew : w = si z 84 (y.1 80 9).toNatClampNeg v8) : stK y w o kn v8 ob ix e9 f9 := by
  obtain ⟨a1, a2, a3, a4, a5, a6, a7, a8, a9⟩ := a
  have o9 : ∀ (c k : Nat), ¬ (c = 84 ∧ k = (y.1 80 9).toNatClampNeg) → w.1 c k = z.1 c k := fun c k q => by rw [ew, si_get, if_neg q]
  refine ⟨fun c k q q1 q2 => ?_, by rw [o9 80 9 (by omega)]; exact a2, by rw [o9 81 _ (by omega)]; exact a3, by rw [o9 83 _ (by omega)]; exact a4, by rw [ew, si_get, if_pos ⟨rfl, rfl⟩], by rw [o9 85 _ (by omega)]; exact a6, by rw [o9 87 _ (by omega)]; exact a7, by rw [o9 88 _ (by omega)]; exact a8, by rw [o9 89 _ (by omega)]; exact a9⟩
  rw [o9 c k (by omega)]
  exact a1 c k q q1 q2
/-- take, give, wait, wake, start, join -/
theorem CG_nm (hE : KV' K e y Ev) (fr : ∀ c k, ccS c k → y.1 c k = x.1 c k) (a : stK y z o (y.1 100 9) tg ob (-1) (-1) (-1)) (hv : v = (66, i, j) ∨ v = (67, i, j)) (ho : o = Int32.ofNat (opW (K i))) (hob : ob.toInt = (j : Nat)) (htg : tg = 1 ↔ K i = 40) : CG sN V K Ev x z [v] := by
  intro c d P he hr hc
  obtain ⟨Ec, S, k, r, w⟩ := c
  have hr : r = rg0 := hr
  subst hr
  have he : eqE Ec Ev := he
  have kl : (y.1 100 9).toInt = (Ec.1.length : Nat) := by rw [hE.1, eqE_len he]
  have op := opW_c (K i)
  have q := CCp_add (st := (opW (K i), i, knw Ec, none, some j, decide (K i = 40), none, none, none)) (r' := rg0) (CCp_eq fr hc) a ho kl (fun q => by exfalso; have q : opW (K i) = 0 ∨ (2 ≤ opW (K i) ∧ opW (K i) ≤ 4) ∨ opW (K i) = 16 ∨ opW (K i) = 17 ∨ opW (K i) = 20 := q; omega) (fun _ => by rw [htg]; exact decide_eq_true_iff.symm) (fun _ => by
    show if opW (K i) = 13 then ob = V j else ob.toInt = (j : Nat)
    rw [if_neg (by omega)]; exact hob) rfl rfl rfl
  have ec : cds sN K [v] (Ec, S, k, rg0, w) = (Ec, S ++ [(opW (K i), i, knw Ec, none, some j, decide (K i = 40), none, none, none)], k, rg0, w) := by
    rcases hv with e | e
    · rw [e, cds_one, cd_66]
    · rw [e, cds_one, cd_67]
  have ee : ces K V [v] d = d := by rcases hv with e | e <;> (rw [e]; rfl)
  have ep : tPs sN V K [v] Ev = [] := by rcases hv with e | e <;> (rw [e]; rfl)
  have ex : exs [v] Ev = Ev := by rcases hv with e | e <;> (rw [e]; exact exs_still (stl_k (by decide)))
  rw [ec, ee, ep, ex, List.append_nil]
  exact ⟨q, he, rfl⟩
end KPC
end
section
/-! the class: the statements without a block that set nothing -/
section KPL
variable {G : kG} {q : kP} {d : Nat} {x x0 y z xs : gd} {F : Int32 → gd → Prop} {Fv : gd → Prop} {X : String → gd → Prop} {P : Option gv → gd → Prop} {M : Int} {E : Nat → Prop} {K V : Nat → Int32} {sN : Nat → Nat → Bool} {e : Nat} {Ev : gV} {Ml N : gU}
theorem HA_66 {U : Nat → Int32} {n a b : Nat} : HAw sN U n Ev (66, a, b) ↔ b < n ∧ U b = 4 := by unfold HAw; simp
theorem HA_67 {U : Nat → Int32} {n a b : Nat} : HAw sN U n Ev (67, a, b) ↔ b < n ∧ U b = 5 := by unfold HAw; simp
theorem HA_70 {U : Nat → Int32} {n a b : Nat} : HAw sN U n Ev (70, a, b) ↔ b < n ∧ U b = 13 := by unfold HAw; simp
theorem HB_66 {a b : Nat} : HB sN Ev (66, a, b) b 4 := by unfold HB; simp
theorem HB_67 {a b : Nat} : HB sN Ev (67, a, b) b 5 := by unfold HB; simp
theorem HB_70 {a b : Nat} : HB sN Ev (70, a, b) b 13 := by unfold HB; simp
theorem pS1_68 {f c i : Nat} {L : gU} (h : K i = 20 ∨ K i = 31 ∨ K i = 19) : pS1 K f c i L = pup c (68, i, 0) (pt K 67 (i + 1, L)) := by
  have n26 : ¬ K i = 26 := by rcases h with e | e | e <;> rw [e] <;> decide
  have n1 : ¬ K i = 1 := by rcases h with e | e | e <;> rw [e] <;> decide
  unfold pS1
  rw [if_neg n26, if_neg n1, if_pos h]
theorem pS1_69 {f c i : Nat} {L : gU} (h : K i = 13 ∨ K i = 14) : pS1 K f c i L = pup c (69, i, 0) ((pX K false f (i + 1) L).bind (pt K 67)) := by
  have n26 : ¬ K i = 26 := by rcases h with e | e <;> rw [e] <;> decide
  have n1 : ¬ K i = 1 := by rcases h with e | e <;> rw [e] <;> decide
  have n20 : ¬ (K i = 20 ∨ K i = 31 ∨ K i = 19) := by rcases h with e | e <;> rw [e] <;> decide
  unfold pS1
  rw [if_neg n26, if_neg n1, if_neg n20, if_pos h]
theorem pS1_70 {f c i : Nat} {L : gU} (h : K i = 15) : pS1 K f c i L = if (K (i + 1) = 2 ∧ i + 1 < 700) ∧ K (i + 2) = 68 ∧ i + 2 < 700 then pup c (70, i, i + 1) ((pX K false f (i + 3) L).bind (pt K 67)) else none := by
  have n26 : ¬ K i = 26 := by rw [h]; decide
  have n1 : ¬ K i = 1 := by rw [h]; decide
  have n20 : ¬ (K i = 20 ∨ K i = 31 ∨ K i = 19) := by rw [h]; decide
  have n13 : ¬ (K i = 13 ∨ K i = 14) := by rw [h]; decide
  unfold pS1
  rw [if_neg n26, if_neg n1, if_neg n20, if_neg n13, if_pos h]
theorem pS1_66 {f c i : Nat} {L : gU} (h : K i = 36 ∨ K i = 22 ∨ K i = 38 ∨ K i = 39 ∨ K i = 40) : pS1 K f c i L = if K (i + 1) = 1 ∧ i + 1 < 700 then pup c (66, i, i + 1) (pt K 67 (i + 2, L)) else none := by
  have n26 : ¬ K i = 26 := by rcases h with e | e | e | e | e <;> rw [e] <;> decide
  have n1 : ¬ K i = 1 := by rcases h with e | e | e | e | e <;> rw [e] <;> decide
  have n20 : ¬ (K i = 20 ∨ K i = 31 ∨ K i = 19) := by rcases h with e | e | e | e | e <;> rw [e] <;> decide
  have n13 : ¬ (K i = 13 ∨ K i = 14) := by rcases h with e | e | e | e | e <;> rw [e] <;> decide
  have n15 : ¬ K i = 15 := by rcases h with e | e | e | e | e <;> rw [e] <;> decide
  unfold pS1
  rw [if_neg n26, if_neg n1, if_neg n20, if_neg n13, if_neg n15, if_pos h]
theorem pS1_67 {f c i : Nat} {L : gU} (h : K i = 33 ∨ K i = 25) : pS1 K f c i L = if K (i + 1) = 1 ∧ i + 1 < 700 then pup c (67, i, i + 1) (pt K 67 (i + 2, L)) else none := by
  have n26 : ¬ K i = 26 := by rcases h with e | e <;> rw [e] <;> decide
  have n1 : ¬ K i = 1 := by rcases h with e | e <;> rw [e] <;> decide
  have n20 : ¬ (K i = 20 ∨ K i = 31 ∨ K i = 19) := by rcases h with e | e <;> rw [e] <;> decide
  have n13 : ¬ (K i = 13 ∨ K i = 14) := by rcases h with e | e <;> rw [e] <;> decide
  have n15 : ¬ K i = 15 := by rcases h with e | e <;> rw [e] <;> decide
  have n36 : ¬ (K i = 36 ∨ K i = 22 ∨ K i = 38 ∨ K i = 39 ∨ K i = 40) := by rcases h with e | e <;> rw [e] <;> decide
  unfold pS1
  rw [if_neg n26, if_neg n1, if_neg n20, if_neg n13, if_neg n15, if_neg n36, if_pos h]
/-- what a statement of one word does, by its token -/
def opQ (k : Int32) : Nat := if k = 13 ∨ k = 14 then opS k else if k = 20 ∨ k = 31 ∨ k = 19 then opP k else if k = 15 then 13 else opW k
theorem kd_nameStep (hq : kV q) (hx : ¬ (K (nn x) = 1 ∧ nn x < 700) → RX x0 X) (hA : KA K V sN e x) (hn : nn x ≤ e) (hB : BB x0 x M E) (ha : 2 * ssm x ≤ nx x + 1) (o l : Int32) (ho : 5 ≤ o.toInt) (ho2 : o.toInt ≤ 10) (h : ∀ y, BB x0 y M E → nx y = nx x + 1 → ssm y = ssm x + 1 → om y = om x → sop y (x.1 80 9).toNatClampNeg = o.toInt → vp_in (x.1 80 9) 400 → y.1 60 13 = x.1 60 13 → K (nn x) = 1 → nn x < 700 → nn y = nn x + 1 → KA K V sN e y → nn y ≤ e → La x y → ((o.toInt ≤ 8 ∧ y.1 42 (nn x) = 4) ∨ (9 ≤ o.toInt ∧ y.1 42 (nn x) = 5)) → y.1 100 9 = x.1 100 9 → (∀ k, y.1 109 k = x.1 109 k) → OPe x y → stK x y o (x.1 100 9) (-1) (x.1 100 4) (-1) (-1) (-1) → F (x.1 80 9) y) : KE G q (d + 8) zk_X7_nameStep 0 [(0, vr 100), (1, vi o), (2, vi l)] [] x (ri F) X := by
  have p19 : ∀ u : Int32, ((u = 4 ∧ o.toInt ≤ 8) ∨ (u = 5 ∧ 9 ≤ o.toInt)) → KE G q (d + 8) zk_X7_nameStep 19 [(0, vr 100), (1, vi o), (2, vi l)] [vi u, vi 2, vr 100] x (ri F) X := by
    intro u hu
    refine kg_X7_nameStep_19 hq _ _ _ _ (kd_needFor hq 2 u 1 (by decide) (by decide) (by decide) (by rcases hu with ⟨rfl, -⟩ | ⟨rfl, -⟩ <;> decide) hx hB hA hn (fun kk c7 y hBy ny gy en hAy hny eu ht hcy => ?_))
    have eu : y.1 42 (x.1 100 4).toNatClampNeg = u := eu
    have esm := GS_sm gy
    obtain ⟨a1, a2, a3, a4, a5⟩ := BB_400 hBy (by omega)
    have m80 : y.1 80 9 = x.1 80 9 := GS_at gy _ _ (by unfold sSum; omega)
    refine kf_add hq _ _ _ a1 a2 (fun w hA vin hF9 => ⟨vin, fun z ez => ri_i ?_⟩)
    rw [m80] at ez vin hF9 ⊢
    rw [m80] at a3
    obtain ⟨f1, f2, f3, f4, f5⟩ := hA
    rw [m80] at f1 f3 f4 f5
    have fz : fm (fun c k => (81 ≤ c ∧ c ≤ 89 ∧ k = (x.1 80 9).toNatClampNeg) ∨ (c = 80 ∧ k = 9)) y z := by rw [ez]; exact fm_si f1 (Or.inl ⟨by omega, by omega, rfl⟩)
    have es : ssm z = ssm y + 1 := by
      have : z.1 80 9 = w.1 80 9 := by rw [ez]; (simp only [si_get, sfl_get, Nat.reduceEqDiff, eq_self, and_false, false_and, and_true, true_and, if_true, if_false, reduceIte, reduceCtorEq])
      unfold ssm at *; rw [this]; exact f2
    have z81 : z.1 81 (x.1 80 9).toNatClampNeg = o := by rw [ez]; (simp only [si_get, sfl_get, Nat.reduceEqDiff, eq_self, and_false, false_and, and_true, true_and, if_true, if_false, reduceIte, reduceCtorEq]); exact f3
    have z83 : z.1 83 (x.1 80 9).toNatClampNeg = y.1 100 9 := by rw [ez]; (simp only [si_get, sfl_get, Nat.reduceEqDiff, eq_self, and_false, false_and, and_true, true_and, if_true, if_false, reduceIte, reduceCtorEq]); exact f4
    have z85 : z.1 85 (x.1 80 9).toNatClampNeg = x.1 100 4 := by rw [ez]; (simp only [si_get, sfl_get, Nat.reduceEqDiff, eq_self, and_false, false_and, and_true, true_and, if_true, if_false, reduceIte, reduceCtorEq])
    have eN := BB_N hB
    have hSA : SA z M (x.1 80 9).toNatClampNeg := by
      unfold SA sop stg
      rw [z81, z83, z85]
      refine ⟨by omega, ⟨a4, a5⟩, fun _ => ⟨(x.1 100 4).toNatClampNeg, eN.symm, ?_, fun c => by omega, fun c1 c2 => ?_, fun c => ?_⟩, fun c => by omega⟩
      · unfold nx
        rw [fz 100 4 (by omega)]
        unfold nx at *
        omega
      · rw [fz 42 _ (by omega), eu]
        rcases hu with ⟨e, -⟩ | ⟨-, e⟩
        · exact e
        · omega
      · rw [fz 42 _ (by omega), eu]
        rcases hu with ⟨-, e⟩ | ⟨e, -⟩
        · omega
        · exact e
    have lyz : La y z := ⟨fun c k q1 q2 => fz c k (by omega), by unfold nx; rw [fz 100 4 (by omega)]; exact Int.le_refl _, fun j _ => fz 42 j (by omega)⟩
    have nz9 : nn z = nn y := by unfold nn; rw [fz 100 4 (by omega)]
    have hBz := BB_add hBy (n := (x.1 80 9).toNatClampNeg) (by omega) fz es hSA
    refine h z (BB_E hBz (fun e => e.elim id (fun e => by omega)) (fun i hi he hne => ?_)) ?_ (by omega) ?_ (by unfold sop; rw [z81]) vin (by rw [fz 60 13 (by omega), GS_at gy 60 13 (by unfold sSum; omega)]) kk c7 ?_ (KA_fm hAy lyz.1) ?_ (La_tr gy.1 lyz) ?_ (by rw [fz 100 9 (by omega), GS_at gy 100 9 (by unfold sSum; omega)]) (fun k => by rw [fz 109 k (by omega), GS_at gy 109 k (by unfold sSum; omega)]) (OPe_tr (OPe_GS gy) (OPe_st fz)) ⟨fun c k q q1 q2 => (fz c k (fun w => w.elim q1 q2)).trans (hcy c k q), ?_, z81, by rw [z83]; exact GS_at gy 100 9 (by unfold sSum; omega), by rw [ez]; (simp only [si_get, sfl_get, Nat.reduceEqDiff, eq_self, and_false, false_and, and_true, true_and, if_true, if_false, reduceIte, reduceCtorEq]); exact f5, z85, by rw [ez]; (simp only [si_get, sfl_get, Nat.reduceEqDiff, eq_self, and_false, false_and, and_true, true_and, if_true, if_false, reduceIte, reduceCtorEq]); exact hF9.2.1, by rw [ez]; (simp only [si_get, sfl_get, Nat.reduceEqDiff, eq_self, and_false, false_and, and_true, true_and, if_true, if_false, reduceIte, reduceCtorEq]); exact hF9.2.2.1, by rw [ez]; (simp only [si_get, sfl_get, Nat.reduceEqDiff, eq_self, and_false, false_and, and_true, true_and, if_true, if_false, reduceIte, reduceCtorEq]); exact hF9.2.2.2⟩
    · rcases he with he | he
      · exact absurd he hne
      · rw [he]
        refine SC_no ?_ ?_ <;> (unfold sop; rw [z81]; omega)
    · unfold nx at *
      rw [fz 100 4 (by omega)]; exact ny
    · have := GS_om gy
      unfold om at *
      rw [fz 100 13 (by omega)]; exact this
    · rw [nz9]; exact en
    · rw [nz9]; exact hny
    · have e9 : z.1 42 (nn x) = u := by rw [fz 42 _ (by omega)]; exact eu
      rcases hu with ⟨e, e2⟩ | ⟨e, e2⟩
      · exact Or.inl ⟨e2, e9.trans e⟩
      · exact Or.inr ⟨e2, e9.trans e⟩
    · show ssm z = ssm x + 1
      omega
  have k9 : (9 : Int32).toInt = 9 := rfl
  have k10 : (10 : Int32).toInt = 10 := rfl
  refine kg_X7_nameStep_0 hq _ _ ⟨fun c => p19 _ (Or.inr ⟨rfl, by rw [c]; decide⟩), fun c => ⟨fun c2 => p19 _ (Or.inl ⟨rfl, ?_⟩), fun c2 => p19 _ (Or.inr ⟨rfl, by rw [c2]; decide⟩)⟩⟩
  rw [t_eq, k9] at c
  rw [t_eq, k10] at c2
  omega
theorem kd_plain (hq : kV q) (f c9 : Nat) (L : gU) (hx : (pS1 K f c9 (nn x) L = none ∨ 700 ≤ nn x) → RX x0 X) (hf : (f : Int) + om x = 16) (hA : KA K V sN e x) (hn : nn x ≤ e) (hE : KV' K e x Ev) (hB : BB x0 x M (fun _ => False)) (ha : 2 * ssm x + om x ≤ nx x) (ho : om x ≤ 17) (o l : Int32) (h5 : 5 ≤ o.toInt) (h6 : ¬ o.toInt = 15 ∧ ¬ o.toInt = 16 ∧ ¬ o.toInt = 17 ∧ ¬ o.toInt = 20) (hEv : ¬ Ev.2.1 = []) (hop : o = Int32.ofNat (opQ (K (nn x)))) (hko : (o.toInt ≤ 8 ∧ (K (nn x) = 36 ∨ K (nn x) = 22 ∨ K (nn x) = 38 ∨ K (nn x) = 39 ∨ K (nn x) = 40)) ∨ (9 ≤ o.toInt ∧ o.toInt ≤ 10 ∧ (K (nn x) = 33 ∨ K (nn x) = 25)) ∨ (o = 13 ∧ K (nn x) = 15) ∨ ((o = 14 ∨ o = 18) ∧ (K (nn x) = 13 ∨ K (nn x) = 14)) ∨ ((o = 11 ∨ o = 12 ∨ o = 19) ∧ (K (nn x) = 20 ∨ K (nn x) = 31 ∨ K (nn x) = 19))) (h : ∀ y, BB x0 y M (fun _ => False) → nx x < nx y → om y = om x → 2 * ssm y + om y ≤ nx y → y.1 60 13 = x.1 60 13 → KV' K e y Ev → OPe x y → ∀ N, RIw K V sN e Ev x y N → still N → pS1 K f c9 (nn x) L = some (c9, nn y, L ++ N) → CG sN V K Ev x y N → Fv y) : KE G q (d + 11) zk_X7_plainStatement 0 [(0, vr 100), (1, vi o), (2, vi l)] [] x (rv Fv) X := by
  have k5 : (5 : Int32).toInt = 5 := rfl
  have k10 : (10 : Int32).toInt = 10 := rfl
  have o0 := (BB_om hB).1.1
  have b0 := hB.1.1.2.1
  have c0 := nn_is b0
  obtain ⟨W, eW⟩ : ∃ W, W = pS1 K f c9 (nn x) L := ⟨_, rfl⟩
  rw [← eW] at hx h
  have hx1 : W = none → RX x0 X := fun z => hx (Or.inl z)
  have p180 : ∀ (y : gd) (N : gU) (v : Nat × Nat × Nat), RIw K V sN e Ev x y (N ++ [v]) → still (N ++ [v]) → W = pup c9 v (pt K 67 (nn y, L ++ N)) → KV' K e y Ev → BB x0 y M (fun _ => False) → nx x < nx y → (om y = om x ∧ y.1 60 13 = x.1 60 13 ∧ OPe x y) → 2 * ssm y + om y ≤ nx y + 1 → CG sN V K Ev x y (N ++ [v]) → KE G q (d + 11) zk_X7_plainStatement 180 [(0, vr 100)] [] y (rv Fv) X := fun y N v hRy hst hW hEy hBy n1 n2 n3 hCG => kg_X7_plainStatement_180 hq (kd_need hq 27 67 (by decide) (by decide) (by decide) (fun no => hx1 (by rw [hW]; unfold pt; rw [if_neg no]; rfl)) hBy hRy (fun kk c7 z hBz nz gz en hRz _ hcz => rv_i (h z hBz (by omega) (by rw [GS_om gz]; exact n2.1) (by rw [GS_om gz, GS_sm gz]; omega) (by rw [GS_at gz 60 13 (by unfold sSum; omega)]; exact n2.2.1) (KV_GS gz hEy) (OPe_tr n2.2.2 (OPe_GS gz)) (N ++ [v]) hRz hst (by
    rw [hW]; unfold pt; rw [if_pos ⟨kk, c7⟩, en]
    show some (c9, nn y + 1, L ++ N ++ [v]) = _
    rw [List.append_assoc]) (CG_st hCG hcz))))
  have p139 : ∀ (y : gd) (l5 s : Int32) (N : gU) (v : Nat × Nat × Nat), RIw K V sN e Ev x y (N ++ [v]) → still (N ++ [v]) → W = pup c9 v (pt K 67 (nn y, L ++ N)) → KV' K e y Ev → 10 < o.toInt → BB x0 y M (fun _ => False) → nx x < nx y → (om y = om x ∧ y.1 60 13 = x.1 60 13 ∧ OPe x y) → ssm y = ssm x → PCd sN V K Ev x y s N → ((v = (68, nn x, 0) ∧ l5 = -1 ∧ N = [] ∧ o = Int32.ofNat (opP (K (nn x)))) ∨ (v = (69, nn x, 0) ∧ l5 = -1 ∧ ¬ N = [] ∧ o = Int32.ofNat (opS (K (nn x)))) ∨ (v = (70, nn x, nn x + 1) ∧ l5 = V (nn x + 1) ∧ ¬ N = [] ∧ o = 13)) → KE G q (d + 11) zk_X7_plainStatement 139 [(0, vr 100), (1, vi o), (2, vi l), (5, vi l5)] [vi s] y (rv Fv) X := by
    intro y l5 s N v9 hRy hst hW hEy h10 hBy n1 n2 n3 hpc hvk
    obtain ⟨a1, a2, a3, a4, a5⟩ := BB_400 hBy (by omega)
    refine kg_X7_plainStatement_139 hq _ _ _ _ (kf_add hq _ _ _ a1 a2 (fun w hA vin hF9 => ⟨vin, fun z ez => ⟨vin, fun v ev => ?_⟩⟩))
    obtain ⟨f1, f2, f3, f4, f5⟩ := hA
    have fz : fm (fun c k => (81 ≤ c ∧ c ≤ 89 ∧ k = (y.1 80 9).toNatClampNeg) ∨ (c = 80 ∧ k = 9)) y v := by rw [ev, ez]; exact fm_si (fm_si f1 (Or.inl ⟨by omega, by omega, rfl⟩)) (Or.inl ⟨by omega, by omega, rfl⟩)
    have es : ssm v = ssm y + 1 := by
      have : v.1 80 9 = w.1 80 9 := by rw [ev, ez]; (simp only [si_get, sfl_get, Nat.reduceEqDiff, eq_self, and_false, false_and, and_true, true_and, if_true, if_false, reduceIte, reduceCtorEq])
      unfold ssm at *; rw [this]; exact f2
    have z81 : v.1 81 (y.1 80 9).toNatClampNeg = o := by rw [ev, ez]; (simp only [si_get, sfl_get, Nat.reduceEqDiff, eq_self, and_false, false_and, and_true, true_and, if_true, if_false, reduceIte, reduceCtorEq]); exact f3
    have z83 : v.1 83 (y.1 80 9).toNatClampNeg = y.1 100 9 := by rw [ev, ez]; (simp only [si_get, sfl_get, Nat.reduceEqDiff, eq_self, and_false, false_and, and_true, true_and, if_true, if_false, reduceIte, reduceCtorEq]); exact f4
    have hSA : SA v M (y.1 80 9).toNatClampNeg := by
      unfold SA sop stg
      rw [z81, z83]
      exact ⟨by omega, ⟨a4, a5⟩, fun c => by omega, fun c => by omega⟩
    have hBv := BB_add hBy (n := (y.1 80 9).toNatClampNeg) (by omega) fz es hSA
    have e4 : nx v = nx y := by unfold nx; rw [fz 100 4 (by omega)]
    have e13 : om v = om y := by unfold om; rw [fz 100 13 (by omega)]
    have nv9 : nn v = nn y := by unfold nn; rw [fz 100 4 (by omega)]
    refine p180 v N v9 (RI_st hRy (fz _ _ (by omega)) (fun j => fz _ _ (by omega)) (fun c k q1 q2 => fz _ _ (by omega))) hst (by rw [nv9]; exact hW) (KV_fm hEy (fz _ _ (by omega)) (fun k => fz _ _ (by omega))) (BB_E hBv (fun e => e.elim id (fun e => by omega)) (fun i hi he hne => ?_)) (by omega) ⟨by omega, by rw [fz 60 13 (by omega)]; exact n2.2.1, OPe_tr n2.2.2 (OPe_st fz)⟩ (by omega) (CG_pl (i := nn x) (j := nn x + 1) hEy hEv hpc ⟨fun c k q q1 q2 => fz c k (fun w => w.elim q1 q2), es, z81, z83, by rw [ev, ez]; (simp only [si_get, sfl_get, Nat.reduceEqDiff, eq_self, and_false, false_and, and_true, true_and, if_true, if_false, reduceIte, reduceCtorEq]); exact f5, by rw [ev, ez]; (simp only [si_get, sfl_get, Nat.reduceEqDiff, eq_self, and_false, false_and, and_true, true_and, if_true, if_false, reduceIte, reduceCtorEq]), by rw [ev, ez]; (simp only [si_get, sfl_get, Nat.reduceEqDiff, eq_self, and_false, false_and, and_true, true_and, if_true, if_false, reduceIte, reduceCtorEq]); exact hF9.2.1, by rw [ev, ez]; (simp only [si_get, sfl_get, Nat.reduceEqDiff, eq_self, and_false, false_and, and_true, true_and, if_true, if_false, reduceIte, reduceCtorEq]), by rw [ev, ez]; (simp only [si_get, sfl_get, Nat.reduceEqDiff, eq_self, and_false, false_and, and_true, true_and, if_true, if_false, reduceIte, reduceCtorEq]); exact hF9.2.2.2⟩ hvk)
    rcases he with he | he
    · exact absurd he hne
    · rw [he]
      refine SC_no ?_ ?_ <;> (unfold sop; rw [z81]; omega)
  have p118 : ∀ (y : gd) (l5 s : Int32) (v : Nat × Nat × Nat), KA K V sN e y → nn y ≤ e → (∀ j, nn x ≤ j → j < nn y → ¬ y.1 42 j = 0 → HB sN Ev v j (y.1 42 j)) → (∀ z, La y z → HAw sN (z.1 42) (nn z) Ev v) → still [v] → KV' K e y Ev → ((s = 0 ∧ W = pup c9 v (pt K 67 (nn y, L))) ∨ (s = 1 ∧ W = pup c9 v ((pX K false f (nn y) L).bind (pt K 67)))) → 10 < o.toInt → BB x0 y M (fun _ => False) → nx x < nx y → (om y = om x ∧ y.1 60 13 = x.1 60 13 ∧ OPe x y) → ssm y = ssm x → (∀ c k, ccS c k → y.1 c k = x.1 c k) → ((v = (68, nn x, 0) ∧ l5 = -1 ∧ s = 0 ∧ o = Int32.ofNat (opP (K (nn x)))) ∨ (v = (69, nn x, 0) ∧ l5 = -1 ∧ s = 1 ∧ o = Int32.ofNat (opS (K (nn x)))) ∨ (v = (70, nn x, nn x + 1) ∧ l5 = V (nn x + 1) ∧ s = 1 ∧ o = 13)) → KE G q (d + 11) zk_X7_plainStatement 118 [(0, vr 100), (1, vi o), (2, vi l), (5, vi l5)] [vi s] y (rv Fv) X := by
    intro y l5 s v hG1 hG2 hG3 hG4 hv hEy hWs h10 hBy n1 n2 n3 hcy hvk
    obtain ⟨o1, o2⟩ := BB_om hBy
    have by0 := hBy.1.1.2.1
    have eD : 17 - (y.1 100 13 + 1).toNatClampNeg = f := by
      have u := t_cl (y.1 100 13 + 1)
      rw [o2 (by omega)] at u
      omega
    refine kg_X7_plainStatement_118 hq _ _ _ _ ⟨fun c0 => p139 y _ _ [] v ⟨hG1, hG2, UR_late (y := y) by0 still_nil La_rf (UR_0 rfl) (hG4 y La_rf) hG3⟩ hv (by
      rcases hWs with ⟨-, e⟩ | ⟨e, -⟩
      · rw [List.append_nil]; exact e
      · rw [e] at c0; exact absurd c0 (by decide)) hEy h10 hBy n1 n2 n3 (Or.inl ⟨rfl, rfl, hcy⟩) (by
      rcases hvk with ⟨a1, a2, _, a4⟩ | ⟨_, _, a3, _⟩ | ⟨_, _, a3, _⟩
      · exact Or.inl ⟨a1, a2, rfl, a4⟩
      · rw [a3] at c0; exact absurd c0 (by decide)
      · rw [a3] at c0; exact absurd c0 (by decide)), fun c0 => kd_sum hq _ L (fun q9 => hx1 ?_) hBy hG1 hG2 hEy (by rw [o2 (by omega)]; omega) (by rw [o2 (by omega)]; omega) (fun r z hBz nz gz N hRz hN hpX hcp hr => p139 z _ _ N v ⟨hRz.1, hRz.2.1, UR_late by0 hN gz.1 hRz.2.2 (hG4 z gz.1) hG3⟩ (still_app hN hv) ?_ (KV_GS gz hEy) h10 hBz (by omega) ⟨by rw [GS_om gz]; exact n2.1, by rw [GS_at gz 60 13 (by unfold sSum; omega)]; exact n2.2.1, OPe_tr n2.2.2 (OPe_GS gz)⟩ (by rw [GS_sm gz]; exact n3) ?_ ?_)⟩
    · rw [eD] at q9
      rcases hWs with ⟨e, -⟩ | ⟨-, e⟩
      · exact absurd e c0
      · rw [e, q9]; rfl
    · rw [eD] at hpX
      rcases hWs with ⟨e, -⟩ | ⟨-, e⟩
      · exact absurd e c0
      · rw [e, hpX]; rfl
    · obtain ⟨N', eN, hs'⟩ := pX_sE hpX
      exact Or.inr ⟨N', y, eN, hs', hcy, hcp, fun c k q q1 q2 q3 => GS_at gz c k (by unfold ccS at q; unfold sSum; omega), hr⟩
    · obtain ⟨N', eN, hs'⟩ := pX_sE hpX
      have hne : ¬ N = [] := fun q => by rw [q] at eN; simp at eN
      rcases hvk with ⟨_, _, a3, _⟩ | ⟨a1, a2, _, a4⟩ | ⟨a1, a2, _, a4⟩
      · exact absurd a3 c0
      · exact Or.inr (Or.inl ⟨a1, a2, hne, a4⟩)
      · exact Or.inr (Or.inr ⟨a1, a2, hne, a4⟩)
  have p95 : ∀ (y : gd) (l5 : Int32) (v : Nat × Nat × Nat), KA K V sN e y → nn y ≤ e → (∀ j, nn x ≤ j → j < nn y → ¬ y.1 42 j = 0 → HB sN Ev v j (y.1 42 j)) → (∀ z, La y z → HAw sN (z.1 42) (nn z) Ev v) → still [v] → KV' K e y Ev → ((¬ (o = 13 ∨ o = 14 ∨ o = 18) ∧ W = pup c9 v (pt K 67 (nn y, L))) ∨ ((o = 13 ∨ o = 14 ∨ o = 18) ∧ W = pup c9 v ((pX K false f (nn y) L).bind (pt K 67)))) → 10 < o.toInt → BB x0 y M (fun _ => False) → nx x < nx y → (om y = om x ∧ y.1 60 13 = x.1 60 13 ∧ OPe x y) → ssm y = ssm x → (∀ c k, ccS c k → y.1 c k = x.1 c k) → ((v = (68, nn x, 0) ∧ l5 = -1 ∧ ¬ (o = 13 ∨ o = 14 ∨ o = 18) ∧ o = Int32.ofNat (opP (K (nn x)))) ∨ (v = (69, nn x, 0) ∧ l5 = -1 ∧ (o = 13 ∨ o = 14 ∨ o = 18) ∧ o = Int32.ofNat (opS (K (nn x)))) ∨ (v = (70, nn x, nn x + 1) ∧ l5 = V (nn x + 1) ∧ (o = 13 ∨ o = 14 ∨ o = 18) ∧ o = 13)) → KE G q (d + 11) zk_X7_plainStatement 95 [(0, vr 100), (1, vi o), (2, vi l), (5, vi l5)] [] y (rv Fv) X := by
    intro y l5 v hG1 hG2 hG3 hG4 hv hEy hWs h10 hBy n1 n2 n3 hcy hvk
    have yes : (o = 13 ∨ o = 14 ∨ o = 18) → KE G q (d + 11) zk_X7_plainStatement 118 [(0, vr 100), (1, vi o), (2, vi l), (5, vi l5)] [vi 1] y (rv Fv) X := fun c => p118 y _ _ v hG1 hG2 hG3 hG4 hv hEy (by
      rcases hWs with ⟨e, -⟩ | ⟨-, e⟩
      · exact absurd c e
      · exact Or.inr ⟨rfl, e⟩) h10 hBy n1 n2 n3 hcy (by
      rcases hvk with ⟨_, _, a3, _⟩ | ⟨a1, a2, _, a4⟩ | ⟨a1, a2, _, a4⟩
      · exact absurd c a3
      · exact Or.inr (Or.inl ⟨a1, a2, rfl, a4⟩)
      · exact Or.inr (Or.inr ⟨a1, a2, rfl, a4⟩))
    exact kg_X7_plainStatement_95 hq _ _ _ ⟨fun c => yes (Or.inl c), fun c1 => ⟨fun c => yes (Or.inr (Or.inl c)), fun c2 => ⟨fun c3 => p118 y _ _ v hG1 hG2 hG3 hG4 hv hEy (by
      rcases hWs with ⟨-, e⟩ | ⟨e, -⟩
      · exact Or.inl ⟨rfl, e⟩
      · exact absurd e (fun z => z.elim c1 (fun z => z.elim c2 c3))) h10 hBy n1 n2 n3 hcy (by
      rcases hvk with ⟨a1, a2, _, a4⟩ | ⟨_, _, a3, _⟩ | ⟨_, _, a3, _⟩
      · exact Or.inl ⟨a1, a2, rfl, a4⟩
      · exact absurd a3 (fun z => z.elim c1 (fun z => z.elim c2 c3))
      · exact absurd a3 (fun z => z.elim c1 (fun z => z.elim c2 c3))), fun c => yes (Or.inr (Or.inr c))⟩⟩⟩
  have p63 : ∀ y, nn y = nn x + 1 → y.1 42 (nn x) = 0 → KA K V sN e y → nn y ≤ e → KV' K e y Ev → 10 < o.toInt → BB x0 y M (fun _ => False) → nx x < nx y → (om y = om x ∧ y.1 60 13 = x.1 60 13 ∧ OPe x y) → ssm y = ssm x → (∀ c k, ccS c k → y.1 c k = x.1 c k) → KE G q (d + 11) zk_X7_plainStatement 63 [(0, vr 100), (1, vi o), (2, vi l)] [] y (rv Fv) X := by
    intro y en u0 hAy hny hEy h10 hBy n1 n2 n3 hcy
    have by0 := hBy.1.1.2.1
    have one : ∀ v : Nat × Nat × Nat, ∀ j, nn x ≤ j → j < nn y → ¬ y.1 42 j = 0 → HB sN Ev v j (y.1 42 j) := fun v j h1 h2 h3 => by
      have ej : j = nn x := by omega
      rw [ej] at h3
      exact absurd u0 h3
    refine kg_X7_plainStatement_63 hq _ _ ⟨fun c => ?_, fun c => ?_⟩
    · have hk : ((o = 14 ∨ o = 18) ∧ (K (nn x) = 13 ∨ K (nn x) = 14)) ∨ ((o = 11 ∨ o = 12 ∨ o = 19) ∧ (K (nn x) = 20 ∨ K (nn x) = 31 ∨ K (nn x) = 19)) := by
        rcases hko with ⟨e, -⟩ | ⟨-, e, -⟩ | ⟨e, -⟩ | e | e
        · omega
        · omega
        · exact absurd e c
        · exact Or.inl e
        · exact Or.inr e
      rcases hk with ⟨ho9, hk⟩ | ⟨ho9, hk⟩
      · exact p95 y _ (69, nn x, 0) hAy hny (one _) (fun z _ => HA_dull (dull_k (by decide))) (stl_k (by decide)) hEy (Or.inr ⟨Or.inr ho9, by rw [eW, pS1_69 hk, en]⟩) h10 hBy n1 n2 n3 hcy (Or.inr (Or.inl ⟨rfl, rfl, Or.inr ho9, by rw [hop]; unfold opQ; rw [if_pos hk]⟩))
      · exact p95 y _ (68, nn x, 0) hAy hny (one _) (fun z _ => HA_dull (dull_k (by decide))) (stl_k (by decide)) hEy (Or.inl ⟨by rcases ho9 with e | e | e <;> rw [e] <;> decide, by rw [eW, pS1_68 hk, en]⟩) h10 hBy n1 n2 n3 hcy (Or.inl ⟨rfl, rfl, by rcases ho9 with e | e | e <;> rw [e] <;> decide, by rw [hop]; unfold opQ; rw [if_neg (by rcases hk with e | e | e <;> rw [e] <;> decide), if_pos hk]⟩)
    · have hk : K (nn x) = 15 := by
        rcases hko with ⟨e, -⟩ | ⟨-, e, -⟩ | ⟨-, e⟩ | ⟨e, -⟩ | ⟨e, -⟩
        · omega
        · omega
        · exact e
        · rw [c] at e; exact absurd e (by decide)
        · rw [c] at e; exact absurd e (by decide)
      have hW := pS1_70 (f := f) (c := c9) (L := L) hk
      rw [← eW] at hW
      refine kd_needFor hq 3 13 2 (by decide) (by decide) (by decide) (by decide) (fun no => hx1 (by rw [hW, if_neg (fun z => no (by rw [en]; exact z.1))])) hBy hAy hny (fun kk c7 z hBz nz gz en2 hAz hnz eu ht hcz => ⟨RB_at hBy.1.1, ?_⟩)
      rw [en] at kk c7 eu
      have en2 : nn z = nn x + 2 := by omega
      refine kd_need (xs := z) (Ml := []) (Ev := Ev) hq 28 68 (by decide) (by decide) (by decide) (fun no => hx1 (by rw [hW, if_neg (fun z => no (by rw [en2]; exact z.2))])) hBz ⟨hAz, hnz, UR_0 rfl⟩ (fun kk2 c72 w hBw nw gw en3 hRw u2 hcw => ?_)
      rw [en2] at kk2 c72 u2
      have en3 : nn w = nn x + 3 := by omega
      rw [if_pos ⟨⟨kk, c7⟩, kk2, c72⟩] at hW
      have bz0 := hBz.1.1.2.1
      have bw0 := hBw.1.1.2.1
      obtain ⟨-, la1⟩ := La_nn by0 gz.1
      obtain ⟨-, la2⟩ := La_nn bz0 gw.1
      have w0 : w.1 42 (nn x) = 0 := by rw [la2 _ (by omega), la1 _ (by omega)]; exact u0
      have w1 : w.1 42 (nn x + 1) = 13 := by rw [la2 _ (by omega)]; exact eu
      refine p95 w _ (70, nn x, nn x + 1) hRw.1 hRw.2.1 (fun j h1 h2 h3 => ?_) (fun v lv => ?_) (stl_k (by decide)) (KV_GS gw (KV_GS gz hEy)) (Or.inr ⟨Or.inl c, by rw [hW, en3]⟩) h10 hBw (by omega) ⟨by rw [GS_om gw, GS_om gz]; exact n2.1, by rw [GS_at gw 60 13 (by unfold sSum; omega), GS_at gz 60 13 (by unfold sSum; omega)]; exact n2.2.1, OPe_tr (OPe_tr n2.2.2 (OPe_GS gz)) (OPe_GS gw)⟩ (by rw [GS_sm gw, GS_sm gz]; exact n3) (fun c k q => (hcw c k q).trans ((hcz c k q).trans (hcy c k q))) (Or.inr (Or.inr ⟨rfl, ?_, Or.inl c, c⟩))
      · have hj : j = nn x ∨ j = nn x + 1 ∨ j = nn x + 2 := by omega
        rcases hj with ej | ej | ej
        · rw [ej] at h3; exact absurd w0 h3
        · rw [ej, w1]; exact HB_70
        · rw [ej] at h3; exact absurd u2 h3
      · obtain ⟨lw1, lw2⟩ := La_nn bw0 lv
        exact HA_70.mpr ⟨by omega, by rw [lw2 _ (by omega)]; exact w1⟩
      · have m9 : (y.1 100 4).toNatClampNeg = nn x + 1 := en
        rw [m9]
        exact hAz.2.1 _ (by omega) kk
  have kk0 : ¬ K (nn x) = 0 ∧ ¬ K (nn x) = 3 := by
    rcases hko with ⟨-, e | e | e | e | e⟩ | ⟨-, -, e | e⟩ | ⟨-, e⟩ | ⟨-, e | e⟩ | ⟨-, e | e | e⟩ <;> rw [e] <;> decide
  have p14 : ∀ s : Int32, ((s = 0 ∧ ¬ K (nn x) = 40) ∨ (s = 1 ∧ K (nn x) = 40)) → KE G q (d + 11) zk_X7_plainStatement 14 [(0, vr 100), (1, vi o), (2, vi l)] [vi s] x (rv Fv) X := by
    intro s hs40
    refine kg_X7_plainStatement_14 hq _ _ _ (kd_pass (xs := x) (Ml := []) (Ev := Ev) hq (fun c7 => hx (Or.inr c7)) hB ⟨hA, hn, UR_0 rfl⟩ kk0.1 kk0.2 (fun c7 y hBy ny gy en hRy u0 hcy => ?_))
    have e1 := GS_sm gy
    have e2 := GS_om gy
    have e3 : y.1 60 13 = x.1 60 13 := GS_at gy _ _ (by unfold sSum; omega)
    refine ⟨fun c => ?_, fun c => ⟨fun c2 => p63 y en u0 hRy.1 hRy.2.1 (KV_GS gy hE) (by rw [t_lt, k10] at c2; exact c2) hBy (by omega) ⟨e2, e3, OPe_GS gy⟩ e1 hcy, fun c2 => ?_⟩⟩
    · exfalso; rw [t_lt, k5] at c; omega
    rw [t_lt, k10] at c2
    obtain ⟨v, hvv, hW⟩ : ∃ v : Nat × Nat × Nat, ((o.toInt ≤ 8 ∧ v = (66, nn x, nn x + 1)) ∨ (9 ≤ o.toInt ∧ v = (67, nn x, nn x + 1))) ∧ W = if K (nn x + 1) = 1 ∧ nn x + 1 < 700 then pup c9 v (pt K 67 (nn x + 2, L)) else none := by
      rcases hko with ⟨e, hk⟩ | ⟨e, -, hk⟩ | ⟨e, -⟩ | ⟨e, -⟩ | ⟨e, -⟩
      · exact ⟨_, Or.inl ⟨e, rfl⟩, by rw [eW, pS1_66 hk]⟩
      · exact ⟨_, Or.inr ⟨e, rfl⟩, by rw [eW, pS1_67 hk]⟩
      · rw [e] at c2; exact absurd (show (10 : Int) < (13 : Int32).toInt by decide) c2
      · rcases e with e | e <;> (rw [e] at c2; exact absurd (by decide) c2)
      · rcases e with e | e | e <;> (rw [e] at c2; exact absurd (by decide) c2)
    have by0 := hBy.1.1.2.1
    refine kd_nameStep hq (fun no => hx1 (by rw [hW, if_neg (fun z => no (by rw [en]; exact z))])) hRy.1 hRy.2.1 hBy (by omega) o l h5 (by omega) (fun z hBz nz sz oz opz vin z13 kk c72 enz hAz hnz laz huz z9 z109 opz9 hsk => ?_)
    rw [en] at kk c72 huz enz
    rw [if_pos ⟨kk, c72⟩] at hW
    obtain ⟨-, la1⟩ := La_nn by0 laz
    have w0 : z.1 42 (nn x) = 0 := by rw [la1 _ (by omega)]; exact u0
    have hRz : RIw K V sN e Ev x z ([] ++ [v]) := by
      refine ⟨hAz, hnz, HAs_one.mpr ?_, fun j h1 h2 h3 => HBs_one.mpr ?_⟩
      · rcases hvv with ⟨e1, e⟩ | ⟨e1, e⟩ <;> rcases huz with ⟨e2, e3⟩ | ⟨e2, e3⟩
        · rw [e]; exact HA_66.mpr ⟨by omega, e3⟩
        · omega
        · omega
        · rw [e]; exact HA_67.mpr ⟨by omega, e3⟩
      · have hj : j = nn x ∨ j = nn x + 1 := by omega
        rcases hj with ej | ej
        · rw [ej] at h3; exact absurd w0 h3
        · rw [ej]
          rcases hvv with ⟨e1, e⟩ | ⟨e1, e⟩ <;> rcases huz with ⟨e2, e3⟩ | ⟨e2, e3⟩
          · rw [e, e3]; exact HB_66
          · omega
          · omega
          · rw [e, e3]; exact HB_67
    have hvs : still ([] ++ [v]) := by
      rcases hvv with ⟨-, e⟩ | ⟨-, e⟩ <;> (rw [e]; exact stl_k (by decide))
    have hEz : KV' K e z Ev := KV_fm (KV_GS gy hE) z9 z109
    have fin : ∀ (v8 : Int32) (w : gd), (v8 = 1 ↔ K (nn x) = 40) → w = si z 84 (y.1 80 9).toNatClampNeg v8 → KE G q (d + 11) zk_X7_plainStatement 180 [(0, vr 100)] [] w (rv Fv) X := by
      intro v8 w hv8 ew
      have fw : fm (fun c k => c = 84 ∧ k = (y.1 80 9).toNatClampNeg) z w := by rw [ew]; exact fm_si (fm_rf _ _) ⟨rfl, rfl⟩
      have e4 : nx w = nx z := by unfold nx; rw [fw 100 4 (by omega)]
      have e13 : om w = om z := by unfold om; rw [fw 100 13 (by omega)]
      have es : ssm w = ssm z := by unfold ssm; rw [fw 80 9 (by omega)]
      have la : La z w := ⟨fun c k q1 q2 => fw c k (by omega), by omega, fun j _ => fw 42 j (by omega)⟩
      have nw9 : nn w = nn x + 2 := by rw [← enz]; unfold nn; rw [fw 100 4 (by omega)]
      refine p180 w [] v (RI_st hRz (fw _ _ (by omega)) (fun j => fw _ _ (by omega)) (fun c k q1 q2 => fw _ _ (by omega))) hvs (by rw [hW, nw9, List.append_nil]) (KV_fm hEz (fw _ _ (by omega)) (fun k => fw _ _ (by omega))) ?_ (by omega) ⟨by omega, by rw [fw 60 13 (by omega), z13, e3], OPe_tr (OPe_tr (OPe_GS gy) opz9) (OPe_st (fm_w fw (fun c k q => Or.inl ⟨by omega, by omega, q.2⟩)))⟩ (by omega) (CG_nm (i := nn x) (j := nn x + 1) (KV_GS gy hE) hcy (stK_84 hsk ew) (hvv.imp (fun q => q.2) (fun q => q.2)) ?_ ?_ hv8)
      rotate_left
      · rw [hop]
        unfold opQ
        have hk9 : ¬ (K (nn x) = 13 ∨ K (nn x) = 14) ∧ ¬ (K (nn x) = 20 ∨ K (nn x) = 31 ∨ K (nn x) = 19) ∧ ¬ K (nn x) = 15 := by
          rcases hko with ⟨-, e | e | e | e | e⟩ | ⟨-, -, e | e⟩ | ⟨e, -⟩ | ⟨e, -⟩ | ⟨e, -⟩
          · rw [e]; decide
          · rw [e]; decide
          · rw [e]; decide
          · rw [e]; decide
          · rw [e]; decide
          · rw [e]; decide
          · rw [e]; decide
          · rw [e] at c2; exact absurd (by decide) c2
          · rcases e with e | e <;> (rw [e] at c2; exact absurd (by decide) c2)
          · rcases e with e | e | e <;> (rw [e] at c2; exact absurd (by decide) c2)
        rw [if_neg hk9.1, if_neg hk9.2.1, if_neg hk9.2.2]
      · have := nn_is by0
        unfold nx at this
        omega
      obtain ⟨hS, hF, ⟨r1, r2, r3, ⟨r4, r6⟩, r7⟩, hC, r5, r0, hI⟩ := hBz
      have z5 : w.1 100 5 = z.1 100 5 := fw _ _ (by omega)
      refine ⟨?_, ?_, ⟨fun c => ?_, NM_fm r2 (fun c k q1 q2 q3 q4 => fw c k (by omega)) (fw _ _ (by omega)) (fw _ _ (by omega)), ?_, ⟨by omega, fun i hi => ?_⟩, ?_⟩, fun i hi he => ?_, by rw [z5]; exact r5, fm_tr r0 (fm_w fw (fun c k q => by unfold sR; omega)), TR_eq hI id (fw _ _ (by omega)) (fun k => fw _ _ (by omega))⟩
      · obtain ⟨⟨hT, b1, b2, b3⟩, ⟨u1, u2⟩, hp, hP⟩ := hS
        unfold SU SV US RB mt
        rw [fw 20 7 (by omega), fw 60 3 (by omega), e4]
        refine ⟨⟨kT_fm hT la.1, b1, b2, b3⟩, ⟨fun j h1 h2 => ?_, fun j h1 h2 => ?_⟩, hp, fun i hi => La_PQ la (fw _ _ (by omega)) (fw _ _ (by omega)) (hP i hi)⟩
        · rw [fw 42 j (by omega)]; exact u1 j h1 h2
        · rw [fw 42 j (by omega)] at h2; rw [fw 42 _ (by omega)]; exact u2 j h1 h2
      · unfold FR at hF ⊢
        rw [fw 100 4 (by omega), fw 42 _ (by omega)]; exact hF
      · obtain ⟨k1, o1, o2, o3, o4⟩ := r1 r5
        refine ⟨KN_fm k1 (fw _ _ (by omega)) (fw _ _ (by omega)) (fun k => fw _ _ (by omega)), ?_⟩
        unfold OPs
        rw [e13, fw 100 9 (by omega), fw 100 7 (by omega)]
        refine ⟨o1, fun k hk => OP1_eq (fun j => fw _ _ (by omega)) (fw _ _ (by omega)) (fun c j q1 q2 => fw _ _ (by omega)) (fw _ _ (by omega)) (o2 k hk), fun j k hj hk => ?_, o4⟩
        rw [fw 113 j (by omega), fw 113 k (by omega)]; exact o3 j k hj hk
      · unfold CD at r3 ⊢
        rw [fw 60 6 (by omega), fw 60 9 (by omega), fw 60 10 (by omega), fw 60 14 (by omega), fw 60 16 (by omega), fw 60 13 (by omega), z5, fw 100 9 (by omega), fw 40 8 (by omega), fw 40 10 (by omega)]
        exact r3
      · by_cases hi2 : i = (y.1 80 9).toNatClampNeg
        · have g := r6 i (by omega)
          rw [hi2] at g ⊢
          unfold SA at g ⊢
          have ep : sop w (y.1 80 9).toNatClampNeg = sop z (y.1 80 9).toNatClampNeg := by unfold sop; rw [fw 81 _ (by omega)]
          rw [ep, opz, fw 83 _ (by omega), fw 85 _ (by omega), e4]
          rw [opz] at g
          refine ⟨g.1, g.2.1, fun c => ?_, fun c => by omega⟩
          obtain ⟨t, t1, t2, t3⟩ := g.2.2.1 c
          refine ⟨t, t1, t2, ?_⟩
          rw [fw 42 t (by omega)]; exact t3
        · exact SA_La la (fw _ _ (by omega)) (fw _ _ (by omega)) (fw _ _ (by omega)) (fw _ _ (by omega)) (Int.le_refl _) (r6 i (by omega))
      · unfold TS at r7 ⊢
        rw [fw 60 10 (by omega), z5, es]
        refine ⟨fun t ht => ?_, fun c => absurd c r5⟩
        rw [fw 72 t (by omega)]; exact r7.1 t ht
      · by_cases hi2 : i = (y.1 80 9).toNatClampNeg
        · rw [hi2]
          refine SC_no ?_ ?_ <;> (unfold sop at *; rw [fw 81 _ (by omega), opz]; omega)
        · exact SC_eq (fun j => fw _ _ (by omega)) (fw _ _ (by omega)) (fw _ _ (by omega)) (fw _ _ (by omega)) z5 (fun j => fw _ _ (by omega)) (hC i (by omega) he)
    exact ⟨fun s0 => ⟨vin, fun w ew => fin _ w ⟨fun q => absurd q (by decide), fun q => by
      rcases hs40 with ⟨-, e⟩ | ⟨e, -⟩
      · exact absurd q e
      · rw [e] at s0; exact absurd s0 (by decide)⟩ ew⟩, fun s0 => ⟨vin, fun w ew => fin _ w ⟨fun _ => by
      rcases hs40 with ⟨e, -⟩ | ⟨-, e⟩
      · exact absurd e s0
      · exact e, fun _ => rfl⟩ ew⟩⟩
  exact kg_X7_plainStatement_0 hq _ _ (kp_sort hq hB.1.1 ⟨fun c => p14 _ (Or.inl ⟨rfl, fun q => c ((KA_k hA hn 70 (by decide)).mpr q)⟩), fun c => p14 _ (Or.inr ⟨rfl, (KA_k hA hn 70 (by decide)).mp c⟩)⟩)
end KPL
end
