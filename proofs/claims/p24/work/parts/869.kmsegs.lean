set_option maxRecDepth 100000 in
set_option maxHeartbeats 4000000 in
theorem kg_X10_insertOutcome_0 {G : kG} {q : kP} {d : Nat} {x : gd} {P : Option gv → gd → kP → Prop} {X : String → gd → kP → Prop} (hu : kU q) {o : Nat} (ho : kiT q o) {a2 n2 : Nat} (ka2 : kK a2 = .inr (.int, n2)) (ma2 : a2 ∈ (kf q).2.1) (l1 : Int32) (l3 : Int32)
    (h : (((x.1 o 3) < (3000 : Int32) → vp_in (x.1 o 3) 3000 ∧ (∀ u3, u3 = (kf q).1 (o + 13) (x.1 o 3 : Int32).toNatClampNeg → ((u3 = none → (x.1 o 3 : Int32).toNatClampNeg = oM q o ∧ vp_in (x.1 o 3) 3000 ∧ (∀ q6 x7, q6 = kOr q o → x7 = znew x (oC q o) → kU q6 → kle q q6 → KM G q6 (d + 2) zk_X10_insertOutcome 36 [(0, vr o), (1, vi l1), (2, vr a2), (3, vi l3)] [] x7 P X)) ∧ (∀ c5, u3 = some c5 → KM G q (d + 2) zk_X10_insertOutcome 36 [(0, vr o), (1, vi l1), (2, vr a2), (3, vi l3)] [] x P X)))) ∧ (¬ ((x.1 o 3) < (3000 : Int32)) → P none x q))) :
    KM G q (d + 2) zk_X10_insertOutcome 0 [(0, vr o), (1, vi l1), (2, vr a2), (3, vi l3)] [] x P X := by
  have hq := hu.1
  refine T_aload_n 0 (dk dtk_X10_insertOutcome 0 rfl) rfl rfl ?_
  refine T_getI o 3 (dk dtk_X10_insertOutcome 1 rfl) kfl_X10_51 (kk_T0 ho) (kl_T0 hq ho) (by decide) rfl ?_
  refine T_sipush (v := 3000) (dk dtk_X10_insertOutcome 2 rfl) (by decide +kernel) ?_
  refine T_icmp_lt 11 (dk dtk_X10_insertOutcome 3 rfl) (by decide) (fun c1 => ?_) (fun c1 => ?_)
  · have h := h.1 c1
    refine T_aload_n 0 (dk dtk_X10_insertOutcome 5 rfl) rfl rfl ?_
    refine T_getR o 12 (o + 13) (dk dtk_X10_insertOutcome 6 rfl) kfl_X10_33 (kk_T0 ho) (kl_T0 hq ho) (by decide) rfl (kr_T_12 ho) ?_
    refine T_aload_n 0 (dk dtk_X10_insertOutcome 7 rfl) rfl rfl ?_
    refine T_getI o 3 (dk dtk_X10_insertOutcome 8 rfl) kfl_X10_51 (kk_T0 ho) (kl_T0 hq ho) (by decide) rfl ?_
    obtain ⟨h2, h⟩ := h
    obtain ⟨u3, eu3⟩ : ∃ z, z = (kf q).1 (o + 13) (x.1 o 3 : Int32).toNatClampNeg := ⟨_, rfl⟩
    have h := h u3 eu3
    refine T_aaldI (o + 13) 3000 (dk dtk_X10_insertOutcome 9 rfl) (kk_T13 ho) (kl_T13 hq ho) h2 ?_
    rw [← eu3]
    refine T_ifnonnull 36 (dk dtk_X10_insertOutcome 10 rfl) (by decide) (fun c5 c4 => ?_) (fun c4 => ?_)
    · have h := h.2 c5 c4
      exact h
    · have h := h.1 c4
      refine T_aload_n 0 (dk dtk_X10_insertOutcome 11 rfl) rfl rfl ?_
      refine T_getR o 12 (o + 13) (dk dtk_X10_insertOutcome 12 rfl) kfl_X10_33 (kk_T0 ho) (kl_T0 hq ho) (by decide) rfl (kr_T_12 ho) ?_
      refine T_aload_n 0 (dk dtk_X10_insertOutcome 13 rfl) rfl rfl ?_
      refine T_getI o 3 (dk dtk_X10_insertOutcome 14 rfl) kfl_X10_51 (kk_T0 ho) (kl_T0 hq ho) (by decide) rfl ?_
      refine T_bipush (v := 24) (dk dtk_X10_insertOutcome 15 rfl) (by decide +kernel) ?_
      obtain ⟨hi9, hin9, h⟩ := h
      obtain ⟨q6, eq6⟩ : ∃ z, z = kOr q o := ⟨_, rfl⟩
      obtain ⟨x7, ex7⟩ : ∃ z, z = znew x (oC q o) := ⟨_, rfl⟩
      have hu2 : kU q6 := by rw [eq6]; exact kOr_U hu ho (hi9 ▸ vp_lt hin9)
      have hle : kle q q6 := by rw [eq6]; exact kOr_le _ _
      have h := h q6 x7 eq6 ex7 hu2 hle
      refine T_orow (dk dtk_X10_insertOutcome 16 rfl) (dk dtk_X10_insertOutcome 17 rfl) hu ho hi9 hin9 (gok_i (av_c (gkr (kl_T0 hq ho)) (av_c rfl (av_c (gkr ma2) (av_c rfl av_n)))) as_n) ?_
      rw [← eq6, ← ex7]
      have hu := hu2
      have hq := hu.1
      have ho := kle_T hle ho
      have ma2 := hle.1 _ ma2
      exact h
  · have h := h.2 c1
    exact KM_vret (dk dtk_X10_insertOutcome 4 rfl) rfl h
set_option maxRecDepth 100000 in
set_option maxHeartbeats 4000000 in
theorem kg_X10_insertOutcome_36 {G : kG} {q : kP} {d : Nat} {x : gd} {P : Option gv → gd → kP → Prop} {X : String → gd → kP → Prop} (hu : kU q) {o : Nat} (ho : kiT q o) {a2 n2 : Nat} (ka2 : kK a2 = .inr (.int, n2)) (ma2 : a2 ∈ (kf q).2.1) (l1 : Int32) (l3 : Int32)
    (h : vp_in (x.1 o 3) 3000 ∧ (∀ u2, u2 = (kf q).1 (o + 13) (x.1 o 3 : Int32).toNatClampNeg → ∃ c3, u2 = some c3 ∧ kK c3 = .inr (.int, 24) ∧ c3 ∈ (kf q).2.1 ∧ ¬ (0 : Int32) < 0 ∧ ¬ (0 : Int32) < 0 ∧ ¬ l3 < 0 ∧ (0 : Int32).toNatClampNeg + (l3 : Int32).toNatClampNeg ≤ n2 ∧ (0 : Int32).toNatClampNeg + (l3 : Int32).toNatClampNeg ≤ 24 ∧ (∀ x11 : gd, x11 = scp x a2 c3 (0 : Int32).toNatClampNeg (0 : Int32).toNatClampNeg (l3 : Int32).toNatClampNeg → ¬ l1 < 0 ∧ ¬ (l1 + 1) < 0 ∧ ¬ ((x11.1 o 3) - l1) < 0 ∧ (l1 : Int32).toNatClampNeg + ((x11.1 o 3) - l1 : Int32).toNatClampNeg ≤ 3000 ∧ (l1 + 1 : Int32).toNatClampNeg + ((x11.1 o 3) - l1 : Int32).toNatClampNeg ≤ 3000 ∧ (∀ x17 : gd, x17 = scp x11 (o + 14) (o + 14) (l1 : Int32).toNatClampNeg (l1 + 1 : Int32).toNatClampNeg ((x11.1 o 3) - l1 : Int32).toNatClampNeg → vp_in l1 3000 ∧ (∀ x19 : gd, x19 = si x17 (o + 14) (l1 : Int32).toNatClampNeg (x17.1 o 3) → (∀ x20 : gd, x20 = si x19 o 3 ((x19.1 o 3) + 1) → P none x20 q)))))) :
    KM G q (d + 2) zk_X10_insertOutcome 36 [(0, vr o), (1, vi l1), (2, vr a2), (3, vi l3)] [] x P X := by
  have hq := hu.1
  refine T_aload_n 2 (dk dtk_X10_insertOutcome 18 rfl) rfl rfl ?_
  refine T_iconst (v := 0) (dk dtk_X10_insertOutcome 19 rfl) (by decide +kernel) ?_
  refine T_aload_n 0 (dk dtk_X10_insertOutcome 20 rfl) rfl rfl ?_
  refine T_getR o 12 (o + 13) (dk dtk_X10_insertOutcome 21 rfl) kfl_X10_33 (kk_T0 ho) (kl_T0 hq ho) (by decide) rfl (kr_T_12 ho) ?_
  refine T_aload_n 0 (dk dtk_X10_insertOutcome 22 rfl) rfl rfl ?_
  refine T_getI o 3 (dk dtk_X10_insertOutcome 23 rfl) kfl_X10_51 (kk_T0 ho) (kl_T0 hq ho) (by decide) rfl ?_
  obtain ⟨h1, h⟩ := h
  obtain ⟨u2, eu2⟩ : ∃ z, z = (kf q).1 (o + 13) (x.1 o 3 : Int32).toNatClampNeg := ⟨_, rfl⟩
  have h := h u2 eu2
  refine T_aaldI (o + 13) 3000 (dk dtk_X10_insertOutcome 24 rfl) (kk_T13 ho) (kl_T13 hq ho) h1 ?_
  rw [← eu2]
  refine T_iconst (v := 0) (dk dtk_X10_insertOutcome 25 rfl) (by decide +kernel) ?_
  refine T_iload_n 3 (dk dtk_X10_insertOutcome 26 rfl) rfl rfl ?_
  obtain ⟨c3, rfl, g4, g5, h⟩ := h
  refine T_sub (lv2 := [(0, vr o), (1, vi l1)]) [0, 1] rfl ?_
  obtain ⟨h6, h7, h8, h9, h10, h⟩ := h
  obtain ⟨x11, ex11⟩ : ∃ z, z = scp x a2 c3 (0 : Int32).toNatClampNeg (0 : Int32).toNatClampNeg (l3 : Int32).toNatClampNeg := ⟨_, rfl⟩
  have h := h x11 ex11
  refine T_copy a2 c3 n2 24 (dk dtk_X10_insertOutcome 27 rfl) kcy_X10_78 ka2 ma2 g4 g5 (by omega) (Nat.le_of_ble_eq_true rfl) h6 h7 h8 h9 h10 ?_
  rw [← ex11]
  refine T_aload_n 0 (dk dtk_X10_insertOutcome 28 rfl) rfl rfl ?_
  refine T_getR o 13 (o + 14) (dk dtk_X10_insertOutcome 29 rfl) kfl_X10_37 (kk_T0 ho) (kl_T0 hq ho) (by decide) rfl (kr_T_13 ho) ?_
  refine T_iload_n 1 (dk dtk_X10_insertOutcome 30 rfl) rfl rfl ?_
  refine T_aload_n 0 (dk dtk_X10_insertOutcome 31 rfl) rfl rfl ?_
  refine T_getR o 13 (o + 14) (dk dtk_X10_insertOutcome 32 rfl) kfl_X10_37 (kk_T0 ho) (kl_T0 hq ho) (by decide) rfl (kr_T_13 ho) ?_
  refine T_iload_n 1 (dk dtk_X10_insertOutcome 33 rfl) rfl rfl ?_
  refine T_iconst (v := 1) (dk dtk_X10_insertOutcome 34 rfl) (by decide +kernel) ?_
  refine T_iadd (dk dtk_X10_insertOutcome 35 rfl) ?_
  refine T_aload_n 0 (dk dtk_X10_insertOutcome 36 rfl) rfl rfl ?_
  refine T_getI o 3 (dk dtk_X10_insertOutcome 37 rfl) kfl_X10_51 (kk_T0 ho) (kl_T0 hq ho) (by decide) rfl ?_
  refine T_iload_n 1 (dk dtk_X10_insertOutcome 38 rfl) rfl rfl ?_
  refine T_isub (dk dtk_X10_insertOutcome 39 rfl) ?_
  obtain ⟨h12, h13, h14, h15, h16, h⟩ := h
  obtain ⟨x17, ex17⟩ : ∃ z, z = scp x11 (o + 14) (o + 14) (l1 : Int32).toNatClampNeg (l1 + 1 : Int32).toNatClampNeg ((x11.1 o 3) - l1 : Int32).toNatClampNeg := ⟨_, rfl⟩
  have h := h x17 ex17
  refine T_copy (o + 14) (o + 14) 3000 3000 (dk dtk_X10_insertOutcome 40 rfl) kcy_X10_78 (kk_T14 ho) (kl_T14 hq ho) (kk_T14 ho) (kl_T14 hq ho) (by omega) (Nat.le_of_ble_eq_true rfl) h12 h13 h14 h15 h16 ?_
  rw [← ex17]
  refine T_aload_n 0 (dk dtk_X10_insertOutcome 41 rfl) rfl rfl ?_
  refine T_getR o 13 (o + 14) (dk dtk_X10_insertOutcome 42 rfl) kfl_X10_37 (kk_T0 ho) (kl_T0 hq ho) (by decide) rfl (kr_T_13 ho) ?_
  refine T_iload_n 1 (dk dtk_X10_insertOutcome 43 rfl) rfl rfl ?_
  refine T_aload_n 0 (dk dtk_X10_insertOutcome 44 rfl) rfl rfl ?_
  refine T_getI o 3 (dk dtk_X10_insertOutcome 45 rfl) kfl_X10_51 (kk_T0 ho) (kl_T0 hq ho) (by decide) rfl ?_
  obtain ⟨h18, h⟩ := h
  obtain ⟨x19, ex19⟩ : ∃ z, z = si x17 (o + 14) (l1 : Int32).toNatClampNeg (x17.1 o 3) := ⟨_, rfl⟩
  have h := h x19 ex19
  refine T_iast (o + 14) 3000 (dk dtk_X10_insertOutcome 46 rfl) (kk_T14 ho) (kl_T14 hq ho) h18 ?_
  rw [← ex19]
  refine T_aload_n 0 (dk dtk_X10_insertOutcome 47 rfl) rfl rfl ?_
  refine T_dup (dk dtk_X10_insertOutcome 48 rfl) rfl ?_
  refine T_getI o 3 (dk dtk_X10_insertOutcome 49 rfl) kfl_X10_51 (kk_T0 ho) (kl_T0 hq ho) (by decide) rfl ?_
  refine T_iconst (v := 1) (dk dtk_X10_insertOutcome 50 rfl) (by decide +kernel) ?_
  refine T_iadd (dk dtk_X10_insertOutcome 51 rfl) ?_
  obtain ⟨x20, ex20⟩ : ∃ z, z = si x19 o 3 ((x19.1 o 3) + 1) := ⟨_, rfl⟩
  have h := h x20 ex20
  refine T_putI o 3 (dk dtk_X10_insertOutcome 52 rfl) kfl_X10_51 (kk_T0 ho) (kl_T0 hq ho) (by decide) rfl ⟨rfl, rfl⟩ ?_
  rw [← ex20]
  exact KM_vret (dk dtk_X10_insertOutcome 53 rfl) rfl h
set_option maxRecDepth 100000 in
set_option maxHeartbeats 4000000 in
theorem kg_X10_addOutcome_0 {G : kG} {q : kP} {d : Nat} {x : gd} {P : Option gv → gd → kP → Prop} {X : String → gd → kP → Prop} (hu : kU q) {o : Nat} (ho : kiT q o) {a1 n1 : Nat} (ka1 : kK a1 = .inr (.int, n1)) (ma1 : a1 ∈ (kf q).2.1) (l2 : Int32)
    (h : KM G q (d + 1) zk_X10_addOutcome 11 [(0, vr o), (1, vr a1), (2, vi l2), (3, vi 0), (4, vi (x.1 o 3)), (5, vi 0)] [] x P X) :
    KM G q (d + 1) zk_X10_addOutcome 0 [(0, vr o), (1, vr a1), (2, vi l2)] [] x P X := by
  have hq := hu.1
  refine T_iconst (v := 0) (dk dtk_X10_addOutcome 0 rfl) (by decide +kernel) ?_
  refine T_istore_n (lv2 := [(3, vi 0), (0, vr o), (1, vr a1), (2, vi l2)]) (dk dtk_X10_addOutcome 1 rfl) rfl (by decide) rfl ?_
  refine T_aload_n 1 (dk dtk_X10_addOutcome 2 rfl) rfl rfl ?_
  refine T_getI o 3 (dk dtk_X10_addOutcome 3 rfl) kfl_X10_51 (kk_T0 ho) (kl_T0 hq ho) (by decide) rfl ?_
  refine T_istore (lv2 := [(4, vi (x.1 o 3)), (3, vi 0), (0, vr o), (1, vr a1), (2, vi l2)]) (dk dtk_X10_addOutcome 4 rfl) (by decide) rfl ?_
  refine T_iconst (v := 0) (dk dtk_X10_addOutcome 5 rfl) (by decide +kernel) ?_
  refine T_istore (lv2 := [(5, vi 0), (4, vi (x.1 o 3)), (3, vi 0), (0, vr o), (1, vr a1), (2, vi l2)]) (dk dtk_X10_addOutcome 6 rfl) (by decide) rfl ?_
  exact T_sub [3, 4, 5, 2, 1, 0] rfl h
set_option maxRecDepth 100000 in
set_option maxHeartbeats 4000000 in
theorem kg_X10_addOutcome_11 {G : kG} {q : kP} {d : Nat} {x : gd} {P : Option gv → gd → kP → Prop} {X : String → gd → kP → Prop} (hu : kU q) {o : Nat} (ho : kiT q o) {a1 n1 : Nat} (ka1 : kK a1 = .inr (.int, n1)) (ma1 : a1 ∈ (kf q).2.1) (l2 : Int32) (l3 : Int32) (l4 : Int32) (l5 : Int32)
    (h : (((3000 : Int32) ≤ l5 → KM G q (d + 1) zk_X10_addOutcome 81 [(0, vr o), (1, vr a1), (2, vi l2), (3, vi l3)] [] x P X) ∧ (¬ ((3000 : Int32) ≤ l5) → ((l4 ≤ l3 → KM G q (d + 1) zk_X10_addOutcome 81 [(0, vr o), (1, vr a1), (2, vi l2), (3, vi l3)] [] x P X) ∧ (¬ (l4 ≤ l3) → ¬ (2 : Int32) = 0 ∧ vp_in ((l3 + l4) / 2) 3000 ∧ vp_in (x.1 (o + 14) ((l3 + l4) / 2 : Int32).toNatClampNeg) 3000 ∧ (∀ u6, u6 = (kf q).1 (o + 13) (x.1 (o + 14) ((l3 + l4) / 2 : Int32).toNatClampNeg : Int32).toNatClampNeg → ∃ c7, u6 = some c7 ∧ kK c7 = .inr (.int, 24) ∧ c7 ∈ (kf q).2.1 ∧ KT G q d zk_X10_order 0 [(0, vr c7), (1, vr a1), (2, vi l2)] [] x (ri (fun r11 x10 => ((¬ (r11 = (0 : Int32)) → (((0 : Int32) ≤ r11 → KM G q (d + 1) zk_X10_addOutcome 11 [(0, vr o), (1, vr a1), (2, vi l2), (3, vi l3), (4, vi ((l3 + l4) / 2)), (5, vi (l5 + 1))] [] x10 P X) ∧ (¬ ((0 : Int32) ≤ r11) → KM G q (d + 1) zk_X10_addOutcome 11 [(0, vr o), (1, vr a1), (2, vi l2), (3, vi (((l3 + l4) / 2) + 1)), (4, vi l4), (5, vi (l5 + 1))] [] x10 P X))) ∧ (r11 = (0 : Int32) → P none x10 q)))))))))) :
    KM G q (d + 1) zk_X10_addOutcome 11 [(0, vr o), (1, vr a1), (2, vi l2), (3, vi l3), (4, vi l4), (5, vi l5)] [] x P X := by
  have hq := hu.1
  refine T_iload 5 (dk dtk_X10_addOutcome 7 rfl) rfl ?_
  refine T_sipush (v := 3000) (dk dtk_X10_addOutcome 8 rfl) (by decide +kernel) ?_
  refine T_icmp_ge 81 (dk dtk_X10_addOutcome 9 rfl) (by decide) (fun c1 => ?_) (fun c1 => ?_)
  · have h := h.1 c1
    exact T_sub [0, 1, 2, 3] rfl h
  · have h := h.2 c1
    refine T_iload_n 3 (dk dtk_X10_addOutcome 10 rfl) rfl rfl ?_
    refine T_iload 4 (dk dtk_X10_addOutcome 11 rfl) rfl ?_
    refine T_icmp_ge 81 (dk dtk_X10_addOutcome 12 rfl) (by decide) (fun c2 => ?_) (fun c2 => ?_)
    · have h := h.1 c2
      exact T_sub [0, 1, 2, 3] rfl h
    · have h := h.2 c2
      refine T_iload_n 3 (dk dtk_X10_addOutcome 13 rfl) rfl rfl ?_
      refine T_iload 4 (dk dtk_X10_addOutcome 14 rfl) rfl ?_
      refine T_iadd (dk dtk_X10_addOutcome 15 rfl) ?_
      refine T_iconst (v := 2) (dk dtk_X10_addOutcome 16 rfl) (by decide +kernel) ?_
      obtain ⟨h3, h⟩ := h
      refine T_idiv (dk dtk_X10_addOutcome 17 rfl) h3 ?_
      refine T_istore (lv2 := [(6, vi ((l3 + l4) / 2)), (0, vr o), (1, vr a1), (2, vi l2), (3, vi l3), (4, vi l4), (5, vi l5)]) (dk dtk_X10_addOutcome 18 rfl) (by decide) rfl ?_
      refine T_aload_n 1 (dk dtk_X10_addOutcome 19 rfl) rfl rfl ?_
      refine T_getR o 12 (o + 13) (dk dtk_X10_addOutcome 20 rfl) kfl_X10_33 (kk_T0 ho) (kl_T0 hq ho) (by decide) rfl (kr_T_12 ho) ?_
      refine T_aload_n 1 (dk dtk_X10_addOutcome 21 rfl) rfl rfl ?_
      refine T_getR o 13 (o + 14) (dk dtk_X10_addOutcome 22 rfl) kfl_X10_37 (kk_T0 ho) (kl_T0 hq ho) (by decide) rfl (kr_T_13 ho) ?_
      refine T_iload 0 (dk dtk_X10_addOutcome 23 rfl) rfl ?_
      obtain ⟨h4, h⟩ := h
      refine T_iald (o + 14) 3000 (dk dtk_X10_addOutcome 24 rfl) (kk_T14 ho) (kl_T14 hq ho) h4 ?_
      obtain ⟨h5, h⟩ := h
      obtain ⟨u6, eu6⟩ : ∃ z, z = (kf q).1 (o + 13) (x.1 (o + 14) ((l3 + l4) / 2 : Int32).toNatClampNeg : Int32).toNatClampNeg := ⟨_, rfl⟩
      have h := h u6 eu6
      refine T_aaldI (o + 13) 3000 (dk dtk_X10_addOutcome 25 rfl) (kk_T13 ho) (kl_T13 hq ho) h5 ?_
      rw [← eu6]
      refine T_aload_n 2 (dk dtk_X10_addOutcome 26 rfl) rfl rfl ?_
      refine T_iload_n 3 (dk dtk_X10_addOutcome 27 rfl) rfl rfl ?_
      obtain ⟨c7, rfl, g8, g9, h⟩ := h
      refine KC_Si [vr c7, vr a1, vi l2] [] rfl (dk dtk_X10_addOutcome 28 rfl) kcs_X10_70 rfl (Nat.le_of_ble_eq_true rfl) (Nat.le_of_ble_eq_true rfl) (gok_i (av_c rfl (av_c (gkr (kl_T0 hq ho)) (av_c (gkr ma1) (av_c rfl (av_c rfl (av_c rfl (av_c rfl av_n))))))) as_n) rfl h (fun r11 x10 h => ?_)
      refine T_istore (lv2 := [(7, vi r11), (6, vi ((l3 + l4) / 2)), (0, vr o), (1, vr a1), (2, vi l2), (3, vi l3), (4, vi l4), (5, vi l5)]) (dk dtk_X10_addOutcome 29 rfl) (by decide) rfl ?_
      refine T_iload 0 (dk dtk_X10_addOutcome 30 rfl) rfl ?_
      refine T_if_ne 58 (dk dtk_X10_addOutcome 31 rfl) (by decide) (fun c12 => ?_) (fun c12 => ?_)
      · have h := h.1 c12
        refine T_iload 0 (dk dtk_X10_addOutcome 33 rfl) rfl ?_
        refine T_if_ge 71 (dk dtk_X10_addOutcome 34 rfl) (by decide) (fun c13 => ?_) (fun c13 => ?_)
        · have h := h.1 c13
          refine T_iload 1 (dk dtk_X10_addOutcome 40 rfl) rfl ?_
          refine T_istore (lv2 := [(4, vi ((l3 + l4) / 2)), (7, vi r11), (6, vi ((l3 + l4) / 2)), (0, vr o), (1, vr a1), (2, vi l2), (3, vi l3), (5, vi l5)]) (dk dtk_X10_addOutcome 41 rfl) (by decide) rfl ?_
          refine T_iinc (v := l5 + 1) (lv2 := [(5, vi (l5 + 1)), (4, vi ((l3 + l4) / 2)), (7, vi r11), (6, vi ((l3 + l4) / 2)), (0, vr o), (1, vr a1), (2, vi l2), (3, vi l3)]) 7 (dk dtk_X10_addOutcome 42 rfl) rfl rfl (by decide) rfl ?_
          refine T_goto 11 (dk dtk_X10_addOutcome 43 rfl) (by decide) ?_
          exact T_sub [4, 5, 6, 7, 1, 0] rfl h
        · have h := h.2 c13
          refine T_iload 1 (dk dtk_X10_addOutcome 35 rfl) rfl ?_
          refine T_iconst (v := 1) (dk dtk_X10_addOutcome 36 rfl) (by decide +kernel) ?_
          refine T_iadd (dk dtk_X10_addOutcome 37 rfl) ?_
          refine T_istore_n (lv2 := [(3, vi (((l3 + l4) / 2) + 1)), (7, vi r11), (6, vi ((l3 + l4) / 2)), (0, vr o), (1, vr a1), (2, vi l2), (4, vi l4), (5, vi l5)]) (dk dtk_X10_addOutcome 38 rfl) rfl (by decide) rfl ?_
          refine T_goto 75 (dk dtk_X10_addOutcome 39 rfl) (by decide) ?_
          refine T_iinc (v := l5 + 1) (lv2 := [(5, vi (l5 + 1)), (3, vi (((l3 + l4) / 2) + 1)), (7, vi r11), (6, vi ((l3 + l4) / 2)), (0, vr o), (1, vr a1), (2, vi l2), (4, vi l4)]) 7 (dk dtk_X10_addOutcome 42 rfl) rfl rfl (by decide) rfl ?_
          refine T_goto 11 (dk dtk_X10_addOutcome 43 rfl) (by decide) ?_
          exact T_sub [4, 5, 6, 1, 7, 0] rfl h
      · have h := h.2 c12
        exact KM_vret (dk dtk_X10_addOutcome 32 rfl) rfl h
set_option maxRecDepth 100000 in
set_option maxHeartbeats 4000000 in
theorem kg_X10_addOutcome_81 {G : kG} {q : kP} {d : Nat} {x : gd} {P : Option gv → gd → kP → Prop} {X : String → gd → kP → Prop} (hu : kU q) {o : Nat} (ho : kiT q o) {a1 n1 : Nat} (ka1 : kK a1 = .inr (.int, n1)) (ma1 : a1 ∈ (kf q).2.1) (l2 : Int32) (l3 : Int32)
    (h : KM G q d zk_X10_insertOutcome 0 [(0, vr o), (1, vi l3), (2, vr a1), (3, vi l2)] [] x (rm q (fun x1 q2 => P none x1 q2)) X) :
    KM G q (d + 1) zk_X10_addOutcome 81 [(0, vr o), (1, vr a1), (2, vi l2), (3, vi l3)] [] x P X := by
  have hq := hu.1
  refine T_aload_n 0 (dk dtk_X10_addOutcome 44 rfl) rfl rfl ?_
  refine T_iload_n 3 (dk dtk_X10_addOutcome 45 rfl) rfl rfl ?_
  refine T_aload_n 1 (dk dtk_X10_addOutcome 46 rfl) rfl rfl ?_
  refine T_iload_n 2 (dk dtk_X10_addOutcome 47 rfl) rfl rfl ?_
  refine T_sub (lv2 := []) [] rfl ?_
  refine KM_Vv [vi l3, vr a1, vi l2] [] rfl (dk dtk_X10_addOutcome 48 rfl) kcv_X10_74 rfl (kk_T0 ho) rfl (kl_T0 hq ho) (Nat.le_of_ble_eq_true rfl) (Nat.le_of_ble_eq_true rfl) (gok_i av_n as_n) rfl h (fun x1 q2 hu hle h => ?_)
  have hq := hu.1
  have ho := kle_T hle ho
  have ma1 := hle.1 _ ma1
  exact KM_vret (dk dtk_X10_addOutcome 49 rfl) rfl h
set_option maxRecDepth 100000 in
set_option maxHeartbeats 4000000 in
theorem kg_X2_keep_0 {G : kG} {q : kP} {d : Nat} {x : gd} {P : Option gv → gd → kP → Prop} {X : String → gd → kP → Prop} (hu : kU q) (he : q.ex = true) (l1 : Int32) (l2 : Int32)
    (h : (∀ u1, u1 = (kf q).1 200 7 → ∃ c2, u1 = some c2 ∧ kiT q c2 ∧ (((x.1 c2 0) < (3000 : Int32) → vp_in (x.1 c2 0) 3000 ∧ (∀ u6, u6 = (kf q).1 203 (x.1 c2 0 : Int32).toNatClampNeg → ((u6 = none → (x.1 c2 0 : Int32).toNatClampNeg = q.kn ∧ vp_in (x.1 c2 0) 3000 ∧ (∀ q9 x10, q9 = kKn q → x10 = znew x (1000 + q.kn) → kU q9 → kle q q9 → KM G q9 (d + 2) zk_X2_keep 36 [(0, vr 200), (1, vi l1), (2, vi l2), (3, vi (x.1 c2 0))] [] x10 P X)) ∧ (∀ c8, u6 = some c8 → KM G q (d + 2) zk_X2_keep 36 [(0, vr 200), (1, vi l1), (2, vi l2), (3, vi (x.1 c2 0))] [] x P X)))) ∧ (¬ ((x.1 c2 0) < (3000 : Int32)) → P none x q)))) :
    KM G q (d + 2) zk_X2_keep 0 [(0, vr 200), (1, vi l1), (2, vi l2)] [] x P X := by
  have hq := hu.1
  refine T_aload_n 0 (dk dtk_X2_keep 0 rfl) rfl rfl ?_
  obtain ⟨u1, eu1⟩ : ∃ z, z = (kf q).1 200 7 := ⟨_, rfl⟩
  have h := h u1 eu1
  refine T_getO 200 7 (dk dtk_X2_keep 1 rfl) kfl_X2_44 kk_200 (kl_200 hq he) (by decide) rfl ?_
  rw [← eu1]
  obtain ⟨c2, rfl, g3, h⟩ := h
  refine T_getI c2 0 (dk dtk_X2_keep 2 rfl) kfl_X2_73 (kk_T0 g3) (kl_T0 hq g3) (by decide) rfl ?_
  refine T_istore_n (lv2 := [(3, vi (x.1 c2 0)), (0, vr 200), (1, vi l1), (2, vi l2)]) (dk dtk_X2_keep 3 rfl) rfl (by decide) rfl ?_
  refine T_iload_n 0 (dk dtk_X2_keep 4 rfl) rfl rfl ?_
  refine T_sipush (v := 3000) (dk dtk_X2_keep 5 rfl) (by decide +kernel) ?_
  refine T_icmp_lt 16 (dk dtk_X2_keep 6 rfl) (by decide) (fun c4 => ?_) (fun c4 => ?_)
  · have h := h.1 c4
    refine T_aload_n 1 (dk dtk_X2_keep 8 rfl) rfl rfl ?_
    refine T_getR 200 2 203 (dk dtk_X2_keep 9 rfl) kfl_X2_26 kk_200 (kl_200 hq he) (by decide) rfl kr_200_2 ?_
    refine T_iload_n 0 (dk dtk_X2_keep 10 rfl) rfl rfl ?_
    obtain ⟨h5, h⟩ := h
    obtain ⟨u6, eu6⟩ : ∃ z, z = (kf q).1 203 (x.1 c2 0 : Int32).toNatClampNeg := ⟨_, rfl⟩
    have h := h u6 eu6
    refine T_aaldI 203 3000 (dk dtk_X2_keep 11 rfl) kk_203 (kl_203 hq he) h5 ?_
    rw [← eu6]
    refine T_ifnonnull 36 (dk dtk_X2_keep 12 rfl) (by decide) (fun c8 c7 => ?_) (fun c7 => ?_)
    · have h := h.2 c8 c7
      exact T_sub [1, 2, 3, 0] rfl h
    · have h := h.1 c7
      refine T_aload_n 1 (dk dtk_X2_keep 13 rfl) rfl rfl ?_
      refine T_getR 200 2 203 (dk dtk_X2_keep 14 rfl) kfl_X2_26 kk_200 (kl_200 hq he) (by decide) rfl kr_200_2 ?_
      refine T_iload_n 0 (dk dtk_X2_keep 15 rfl) rfl rfl ?_
      refine T_sipush (v := 228) (dk dtk_X2_keep 16 rfl) (by decide +kernel) ?_
      obtain ⟨hi9, hin9, h⟩ := h
      obtain ⟨q9, eq9⟩ : ∃ z, z = kKn q := ⟨_, rfl⟩
      obtain ⟨x10, ex10⟩ : ∃ z, z = znew x (1000 + q.kn) := ⟨_, rfl⟩
      have hu2 : kU q9 := by rw [eq9]; exact kKn_U hu he (hi9 ▸ vp_lt hin9)
      have hle : kle q q9 := by rw [eq9]; exact kKn_le _
      have h := h q9 x10 eq9 ex10 hu2 hle
      refine T_krow (dk dtk_X2_keep 17 rfl) (dk dtk_X2_keep 18 rfl) hu he hi9 hin9 (gok_i (av_c rfl (av_c (gkr (kl_200 hq he)) (av_c rfl (av_c rfl av_n)))) as_n) ?_
      rw [← eq9, ← ex10]
      have hu := hu2
      have hq := hu.1
      have g3 := kle_T hle g3
      have he := hle.2.1.2.1 he
      exact T_sub [1, 2, 3, 0] rfl h
  · have h := h.2 c4
    exact KM_vret (dk dtk_X2_keep 7 rfl) rfl h
set_option maxRecDepth 100000 in
set_option maxHeartbeats 4000000 in
theorem kg_X2_keep_36 {G : kG} {q : kP} {d : Nat} {x : gd} {P : Option gv → gd → kP → Prop} {X : String → gd → kP → Prop} (hu : kU q) (he : q.ex = true) (l1 : Int32) (l2 : Int32) (l3 : Int32)
    (h : vp_in l3 3000 ∧ (∀ u2, u2 = (kf q).1 203 (l3 : Int32).toNatClampNeg → ∃ c3, u2 = some c3 ∧ kK c3 = .inr (.int, 228) ∧ c3 ∈ (kf q).2.1 ∧ ¬ (0 : Int32) < 0 ∧ ¬ (0 : Int32) < 0 ∧ ¬ (x.1 220 5) < 0 ∧ (0 : Int32).toNatClampNeg + (x.1 220 5 : Int32).toNatClampNeg ≤ 228 ∧ (0 : Int32).toNatClampNeg + (x.1 220 5 : Int32).toNatClampNeg ≤ 228 ∧ (∀ x11 : gd, x11 = scp x 225 c3 (0 : Int32).toNatClampNeg (0 : Int32).toNatClampNeg (x.1 220 5 : Int32).toNatClampNeg → vp_in l3 3000 ∧ (∀ x13 : gd, x13 = si x11 204 (l3 : Int32).toNatClampNeg (x11.1 200 6) → vp_in (x13.1 200 5) 8192 ∧ (∀ x15 : gd, x15 = si x13 205 (x13.1 200 5 : Int32).toNatClampNeg (l3 + 1) → (∀ u16, u16 = (kf q).1 200 7 → ∃ c17, u16 = some c17 ∧ kiT q c17 ∧ KT G q (d + 1) zk_X10_addState 0 [(0, vr c17), (1, vi l1), (2, vi l2)] [] x15 (rv (fun x19 => P none x19 q)))))))) :
    KM G q (d + 2) zk_X2_keep 36 [(0, vr 200), (1, vi l1), (2, vi l2), (3, vi l3)] [] x P X := by
  have hq := hu.1
  refine T_aload_n 0 (dk dtk_X2_keep 19 rfl) rfl rfl ?_
  refine T_getR 200 1 220 (dk dtk_X2_keep 20 rfl) kfl_X2_20 kk_200 (kl_200 hq he) (by decide) rfl kr_200_1 ?_
  refine T_getR 220 4 225 (dk dtk_X2_keep 21 rfl) kfl_X2_106 kk_220 (kl_220 hq he) (by decide) rfl kr_220_4 ?_
  refine T_iconst (v := 0) (dk dtk_X2_keep 22 rfl) (by decide +kernel) ?_
  refine T_aload_n 0 (dk dtk_X2_keep 23 rfl) rfl rfl ?_
  refine T_getR 200 2 203 (dk dtk_X2_keep 24 rfl) kfl_X2_26 kk_200 (kl_200 hq he) (by decide) rfl kr_200_2 ?_
  refine T_iload_n 3 (dk dtk_X2_keep 25 rfl) rfl rfl ?_
  obtain ⟨h1, h⟩ := h
  obtain ⟨u2, eu2⟩ : ∃ z, z = (kf q).1 203 (l3 : Int32).toNatClampNeg := ⟨_, rfl⟩
  have h := h u2 eu2
  refine T_aaldI 203 3000 (dk dtk_X2_keep 26 rfl) kk_203 (kl_203 hq he) h1 ?_
  rw [← eu2]
  refine T_iconst (v := 0) (dk dtk_X2_keep 27 rfl) (by decide +kernel) ?_
  refine T_aload_n 0 (dk dtk_X2_keep 28 rfl) rfl rfl ?_
  refine T_getR 200 1 220 (dk dtk_X2_keep 29 rfl) kfl_X2_20 kk_200 (kl_200 hq he) (by decide) rfl kr_200_1 ?_
  refine T_getI 220 5 (dk dtk_X2_keep 30 rfl) kfl_X2_109 kk_220 (kl_220 hq he) (by decide) rfl ?_
  obtain ⟨c3, rfl, g4, g5, h⟩ := h
  obtain ⟨h6, h7, h8, h9, h10, h⟩ := h
  obtain ⟨x11, ex11⟩ : ∃ z, z = scp x 225 c3 (0 : Int32).toNatClampNeg (0 : Int32).toNatClampNeg (x.1 220 5 : Int32).toNatClampNeg := ⟨_, rfl⟩
  have h := h x11 ex11
  refine T_copy 225 c3 228 228 (dk dtk_X2_keep 31 rfl) kcy_X2_112 kk_225 (kl_225 hq he) g4 g5 (by omega) (Nat.le_of_ble_eq_true rfl) h6 h7 h8 h9 h10 ?_
  rw [← ex11]
  refine T_aload_n 0 (dk dtk_X2_keep 32 rfl) rfl rfl ?_
  refine T_getR 200 3 204 (dk dtk_X2_keep 33 rfl) kfl_X2_30 kk_200 (kl_200 hq he) (by decide) rfl kr_200_3 ?_
  refine T_iload_n 3 (dk dtk_X2_keep 34 rfl) rfl rfl ?_
  refine T_aload_n 0 (dk dtk_X2_keep 35 rfl) rfl rfl ?_
  refine T_getI 200 6 (dk dtk_X2_keep 36 rfl) kfl_X2_122 kk_200 (kl_200 hq he) (by decide) rfl ?_
  obtain ⟨h12, h⟩ := h
  obtain ⟨x13, ex13⟩ : ∃ z, z = si x11 204 (l3 : Int32).toNatClampNeg (x11.1 200 6) := ⟨_, rfl⟩
  have h := h x13 ex13
  refine T_iast 204 3000 (dk dtk_X2_keep 37 rfl) kk_204 (kl_204 hq he) h12 ?_
  rw [← ex13]
  refine T_aload_n 0 (dk dtk_X2_keep 38 rfl) rfl rfl ?_
  refine T_getR 200 4 205 (dk dtk_X2_keep 39 rfl) kfl_X2_33 kk_200 (kl_200 hq he) (by decide) rfl kr_200_4 ?_
  refine T_aload_n 0 (dk dtk_X2_keep 40 rfl) rfl rfl ?_
  refine T_getI 200 5 (dk dtk_X2_keep 41 rfl) kfl_X2_124 kk_200 (kl_200 hq he) (by decide) rfl ?_
  refine T_iload_n 3 (dk dtk_X2_keep 42 rfl) rfl rfl ?_
  refine T_iconst (v := 1) (dk dtk_X2_keep 43 rfl) (by decide +kernel) ?_
  refine T_iadd (dk dtk_X2_keep 44 rfl) ?_
  obtain ⟨h14, h⟩ := h
  obtain ⟨x15, ex15⟩ : ∃ z, z = si x13 205 (x13.1 200 5 : Int32).toNatClampNeg (l3 + 1) := ⟨_, rfl⟩
  have h := h x15 ex15
  refine T_iast 205 8192 (dk dtk_X2_keep 45 rfl) kk_205 (kl_205 hq he) h14 ?_
  rw [← ex15]
  refine T_aload_n 0 (dk dtk_X2_keep 46 rfl) rfl rfl ?_
  obtain ⟨u16, eu16⟩ : ∃ z, z = (kf q).1 200 7 := ⟨_, rfl⟩
  have h := h u16 eu16
  refine T_getO 200 7 (dk dtk_X2_keep 47 rfl) kfl_X2_44 kk_200 (kl_200 hq he) (by decide) rfl ?_
  rw [← eu16]
  refine T_iload_n 1 (dk dtk_X2_keep 48 rfl) rfl rfl ?_
  refine T_iload_n 2 (dk dtk_X2_keep 49 rfl) rfl rfl ?_
  obtain ⟨c17, rfl, g18, h⟩ := h
  refine T_sub (lv2 := []) [] rfl ?_
  refine KC_Vv [vi l1, vi l2] [] rfl (dk dtk_X2_keep 50 rfl) kcv_X2_131 rfl (kk_T0 g18) rfl (kl_T0 hq g18) (Nat.le_of_ble_eq_true rfl) (Nat.le_of_ble_eq_true rfl) (gok_i av_n as_n) rfl h (fun x19 h => ?_)
  exact KM_vret (dk dtk_X2_keep 51 rfl) rfl h
set_option maxRecDepth 100000 in
set_option maxHeartbeats 4000000 in
theorem kg_X2_addState_0 {G : kG} {q : kP} {d : Nat} {x : gd} {P : Option gv → gd → kP → Prop} {X : String → gd → kP → Prop} (hu : kU q) (he : q.ex = true) (l1 : Int32) (l2 : Int32) (l3 : Int32)
    (h : KT G q d zk_X2_isKept 0 [(0, vr 200)] [] x (ri (fun r2 x1 => ((r2 = (0 : Int32) → (∀ u4, u4 = (kf q).1 200 7 → ∃ c5, u4 = some c5 ∧ kiT q c5 ∧ (((x1.1 c5 0) < l3 → KM G q d zk_X2_keep 0 [(0, vr 200), (1, vi l1), (2, vi l2)] [] x1 (rm q (fun x8 q9 => P none x8 q9)) X) ∧ (¬ ((x1.1 c5 0) < l3) → (∀ u10, u10 = (kf q).1 200 7 → ∃ c11, u10 = some c11 ∧ kiT q c11 ∧ (∀ x13 : gd, x13 = si x1 c11 1 1 → P none x13 q)))))) ∧ (¬ (r2 = (0 : Int32)) → P none x1 q))))) :
    KM G q (d + 1) zk_X2_addState 0 [(0, vr 200), (1, vi l1), (2, vi l2), (3, vi l3)] [] x P X := by
  have hq := hu.1
  refine T_aload_n 0 (dk dtk_X2_addState 0 rfl) rfl rfl ?_
  refine KC_Vi [] [] rfl (dk dtk_X2_addState 1 rfl) kcv_X2_98 rfl kk_200 rfl (kl_200 hq he) (Nat.le_of_ble_eq_true rfl) (Nat.le_of_ble_eq_true rfl) (gok_i (av_c (gkr (kl_200 hq he)) (av_c rfl (av_c rfl (av_c rfl av_n)))) as_n) rfl h (fun r2 x1 h => ?_)
  refine T_if_eq 8 (dk dtk_X2_addState 2 rfl) (by decide) (fun c3 => ?_) (fun c3 => ?_)
  · have h := h.1 c3
    refine T_aload_n 0 (dk dtk_X2_addState 4 rfl) rfl rfl ?_
    obtain ⟨u4, eu4⟩ : ∃ z, z = (kf q).1 200 7 := ⟨_, rfl⟩
    have h := h u4 eu4
    refine T_getO 200 7 (dk dtk_X2_addState 5 rfl) kfl_X2_44 kk_200 (kl_200 hq he) (by decide) rfl ?_
    rw [← eu4]
    obtain ⟨c5, rfl, g6, h⟩ := h
    refine T_getI c5 0 (dk dtk_X2_addState 6 rfl) kfl_X2_73 (kk_T0 g6) (kl_T0 hq g6) (by decide) rfl ?_
    refine T_iload_n 3 (dk dtk_X2_addState 7 rfl) rfl rfl ?_
    refine T_icmp_lt 30 (dk dtk_X2_addState 8 rfl) (by decide) (fun c7 => ?_) (fun c7 => ?_)
    · have h := h.1 c7
      refine T_aload_n 0 (dk dtk_X2_addState 14 rfl) rfl rfl ?_
      refine T_iload_n 1 (dk dtk_X2_addState 15 rfl) rfl rfl ?_
      refine T_iload_n 2 (dk dtk_X2_addState 16 rfl) rfl rfl ?_
      refine T_sub (lv2 := []) [] rfl ?_
      refine KM_Vv [vi l1, vi l2] [] rfl (dk dtk_X2_addState 17 rfl) kcv_X2_102 rfl kk_200 rfl (kl_200 hq he) (Nat.le_of_ble_eq_true rfl) (Nat.le_of_ble_eq_true rfl) (gok_i av_n as_n) rfl h (fun x8 q9 hu hle h => ?_)
      have hq := hu.1
      have g6 := kle_T hle g6
      have he := hle.2.1.2.1 he
      exact KM_vret (dk dtk_X2_addState 18 rfl) rfl h
    · have h := h.2 c7
      refine T_aload_n 0 (dk dtk_X2_addState 9 rfl) rfl rfl ?_
      obtain ⟨u10, eu10⟩ : ∃ z, z = (kf q).1 200 7 := ⟨_, rfl⟩
      have h := h u10 eu10
      refine T_getO 200 7 (dk dtk_X2_addState 10 rfl) kfl_X2_44 kk_200 (kl_200 hq he) (by decide) rfl ?_
      rw [← eu10]
      refine T_iconst (v := 1) (dk dtk_X2_addState 11 rfl) (by decide +kernel) ?_
      obtain ⟨c11, rfl, g12, h⟩ := h
      obtain ⟨x13, ex13⟩ : ∃ z, z = si x1 c11 1 1 := ⟨_, rfl⟩
      have h := h x13 ex13
      refine T_putI c11 1 (dk dtk_X2_addState 12 rfl) kfl_X2_91 (kk_T0 g12) (kl_T0 hq g12) (by decide) rfl ⟨rfl, rfl⟩ ?_
      rw [← ex13]
      refine T_goto 36 (dk dtk_X2_addState 13 rfl) (by decide) ?_
      exact KM_vret (dk dtk_X2_addState 18 rfl) rfl h
  · have h := h.2 c3
    exact KM_vret (dk dtk_X2_addState 3 rfl) rfl h
set_option maxRecDepth 100000 in
set_option maxHeartbeats 4000000 in
theorem kg_X2_inspectEnd_0 {G : kG} {q : kP} {d : Nat} {x : gd} {P : Option gv → gd → kP → Prop} {X : String → gd → kP → Prop} (hu : kU q) (he : q.ex = true) (l1 : Int32)
    (h : (∀ u1, u1 = (kf q).1 200 7 → ∃ c2, u1 = some c2 ∧ kiT q c2 ∧ (∀ x4 : gd, x4 = si x c2 2 ((x.1 c2 2) + 1) → (∀ u5, u5 = (kf q).1 200 7 → ∃ c6, u5 = some c6 ∧ kiT q c6 ∧ KM G q d zk_X10_addOutcome 0 [(0, vr c6), (1, vr 225), (2, vi (x4.1 60 6))] [] x4 (rm q (fun x8 q9 => KT G q9 d zk_X5_anyGoing 0 [(0, vr 220)] [] x8 (ri (fun r11 x10 => ((r11 = (0 : Int32) → KM G q9 (d + 1) zk_X2_inspectEnd 57 [(0, vr 200), (1, vi l1), (2, vi 0)] [] x10 P X) ∧ (¬ (r11 = (0 : Int32)) → (∀ u13, u13 = (kf q9).1 200 7 → ∃ c14, u13 = some c14 ∧ kiT q9 c14 ∧ KT G q9 d zk_X10_find 0 [(0, vr c14), (1, vi 8), (2, vi l1)] [] x10 (rv (fun x16 => P none x16 q9))))))))) X)))) :
    KM G q (d + 1) zk_X2_inspectEnd 0 [(0, vr 200), (1, vi l1)] [] x P X := by
  have hq := hu.1
  refine T_aload_n 0 (dk dtk_X2_inspectEnd 0 rfl) rfl rfl ?_
  obtain ⟨u1, eu1⟩ : ∃ z, z = (kf q).1 200 7 := ⟨_, rfl⟩
  have h := h u1 eu1
  refine T_getO 200 7 (dk dtk_X2_inspectEnd 1 rfl) kfl_X2_44 kk_200 (kl_200 hq he) (by decide) rfl ?_
  rw [← eu1]
  refine T_dup (dk dtk_X2_inspectEnd 2 rfl) rfl ?_
  obtain ⟨c2, rfl, g3, h⟩ := h
  refine T_getI c2 2 (dk dtk_X2_inspectEnd 3 rfl) kfl_X2_158 (kk_T0 g3) (kl_T0 hq g3) (by decide) rfl ?_
  refine T_iconst (v := 1) (dk dtk_X2_inspectEnd 4 rfl) (by decide +kernel) ?_
  refine T_iadd (dk dtk_X2_inspectEnd 5 rfl) ?_
  obtain ⟨x4, ex4⟩ : ∃ z, z = si x c2 2 ((x.1 c2 2) + 1) := ⟨_, rfl⟩
  have h := h x4 ex4
  refine T_putI c2 2 (dk dtk_X2_inspectEnd 6 rfl) kfl_X2_158 (kk_T0 g3) (kl_T0 hq g3) (by decide) rfl ⟨rfl, rfl⟩ ?_
  rw [← ex4]
  refine T_aload_n 0 (dk dtk_X2_inspectEnd 7 rfl) rfl rfl ?_
  obtain ⟨u5, eu5⟩ : ∃ z, z = (kf q).1 200 7 := ⟨_, rfl⟩
  have h := h u5 eu5
  refine T_getO 200 7 (dk dtk_X2_inspectEnd 8 rfl) kfl_X2_44 kk_200 (kl_200 hq he) (by decide) rfl ?_
  rw [← eu5]
  refine T_aload_n 0 (dk dtk_X2_inspectEnd 9 rfl) rfl rfl ?_
  refine T_getR 200 1 220 (dk dtk_X2_inspectEnd 10 rfl) kfl_X2_20 kk_200 (kl_200 hq he) (by decide) rfl kr_200_1 ?_
  refine T_getR 220 4 225 (dk dtk_X2_inspectEnd 11 rfl) kfl_X2_106 kk_220 (kl_220 hq he) (by decide) rfl kr_220_4 ?_
  refine T_aload_n 0 (dk dtk_X2_inspectEnd 12 rfl) rfl rfl ?_
  refine T_getR 200 0 60 (dk dtk_X2_inspectEnd 13 rfl) kfl_X2_9 kk_200 (kl_200 hq he) (by decide) rfl kr_200_0 ?_
  refine T_getI 60 6 (dk dtk_X2_inspectEnd 14 rfl) kfl_X2_161 kk_60 (kl_60 hq) (by decide) rfl ?_
  obtain ⟨c6, rfl, g7, h⟩ := h
  refine KM_Vv [vr 225, vi (x4.1 60 6)] [] rfl (dk dtk_X2_inspectEnd 15 rfl) kcv_X2_164 rfl (kk_T0 g7) rfl (kl_T0 hq g7) (Nat.le_of_ble_eq_true rfl) (Nat.le_of_ble_eq_true rfl) (gok_i (av_c (gkr (kl_200 hq he)) (av_c rfl av_n)) as_n) rfl h (fun x8 q9 hu hle h => ?_)
  have hq := hu.1
  have g3 := kle_T hle g3
  have g7 := kle_T hle g7
  have he := hle.2.1.2.1 he
  refine T_aload_n 0 (dk dtk_X2_inspectEnd 16 rfl) rfl rfl ?_
  refine T_getR 200 1 220 (dk dtk_X2_inspectEnd 17 rfl) kfl_X2_20 kk_200 (kl_200 hq he) (by decide) rfl kr_200_1 ?_
  refine KC_Vi [] [] rfl (dk dtk_X2_inspectEnd 18 rfl) kcv_X2_167 rfl kk_220 rfl (kl_220 hq he) (Nat.le_of_ble_eq_true rfl) (Nat.le_of_ble_eq_true rfl) (gok_i (av_c (gkr (kl_200 hq he)) (av_c rfl av_n)) as_n) rfl h (fun r11 x10 h => ?_)
  refine T_if_eq 55 (dk dtk_X2_inspectEnd 19 rfl) (by decide) (fun c12 => ?_) (fun c12 => ?_)
  · have h := h.1 c12
    refine T_iconst (v := 0) (dk dtk_X2_inspectEnd 26 rfl) (by decide +kernel) ?_
    refine T_istore_n (lv2 := [(2, vi 0), (0, vr 200), (1, vi l1)]) (dk dtk_X2_inspectEnd 27 rfl) rfl (by decide) rfl ?_
    exact T_sub [1, 2, 0] rfl h
  · have h := h.2 c12
    refine T_aload_n 0 (dk dtk_X2_inspectEnd 20 rfl) rfl rfl ?_
    obtain ⟨u13, eu13⟩ : ∃ z, z = (kf q9).1 200 7 := ⟨_, rfl⟩
    have h := h u13 eu13
    refine T_getO 200 7 (dk dtk_X2_inspectEnd 21 rfl) kfl_X2_44 kk_200 (kl_200 hq he) (by decide) rfl ?_
    rw [← eu13]
    refine T_bipush (v := 8) (dk dtk_X2_inspectEnd 22 rfl) (by decide +kernel) ?_
    refine T_iload_n 1 (dk dtk_X2_inspectEnd 23 rfl) rfl rfl ?_
    obtain ⟨c14, rfl, g15, h⟩ := h
    refine T_sub (lv2 := []) [] rfl ?_
    refine KC_Vv [vi 8, vi l1] [] rfl (dk dtk_X2_inspectEnd 24 rfl) kcv_X2_146 rfl (kk_T0 g15) rfl (kl_T0 hq g15) (Nat.le_of_ble_eq_true rfl) (Nat.le_of_ble_eq_true rfl) (gok_i av_n as_n) rfl h (fun x16 h => ?_)
    exact KM_vret (dk dtk_X2_inspectEnd 25 rfl) rfl h
set_option maxRecDepth 100000 in
set_option maxHeartbeats 4000000 in
theorem kg_X2_inspectEnd_57 {G : kG} {q : kP} {d : Nat} {x : gd} {P : Option gv → gd → kP → Prop} {X : String → gd → kP → Prop} (hu : kU q) (he : q.ex = true) (l1 : Int32) (l2 : Int32)
    (h : (((x.1 60 16) ≤ l2 → P none x q) ∧ (¬ ((x.1 60 16) ≤ l2) → vp_in l2 4 ∧ KT G q d zk_X2_isFalse 0 [(0, vr 200), (1, vi (x.1 78 (l2 : Int32).toNatClampNeg))] [] x (ri (fun r4 x3 => ((r4 = (0 : Int32) → KM G q (d + 1) zk_X2_inspectEnd 57 [(0, vr 200), (1, vi l1), (2, vi (l2 + 1))] [] x3 P X) ∧ (¬ (r4 = (0 : Int32)) → (∀ u6, u6 = (kf q).1 200 7 → ∃ c7, u6 = some c7 ∧ kiT q c7 ∧ KT G q d zk_X10_find 0 [(0, vr c7), (1, vi (4 + l2)), (2, vi l1)] [] x3 (rv (fun x9 => KM G q (d + 1) zk_X2_inspectEnd 57 [(0, vr 200), (1, vi l1), (2, vi (l2 + 1))] [] x9 P X)))))))))) :
    KM G q (d + 1) zk_X2_inspectEnd 57 [(0, vr 200), (1, vi l1), (2, vi l2)] [] x P X := by
  have hq := hu.1
  refine T_iload_n 2 (dk dtk_X2_inspectEnd 28 rfl) rfl rfl ?_
  refine T_aload_n 0 (dk dtk_X2_inspectEnd 29 rfl) rfl rfl ?_
  refine T_getR 200 0 60 (dk dtk_X2_inspectEnd 30 rfl) kfl_X2_9 kk_200 (kl_200 hq he) (by decide) rfl kr_200_0 ?_
  refine T_getI 60 16 (dk dtk_X2_inspectEnd 31 rfl) kfl_X2_170 kk_60 (kl_60 hq) (by decide) rfl ?_
  refine T_icmp_ge 101 (dk dtk_X2_inspectEnd 32 rfl) (by decide) (fun c1 => ?_) (fun c1 => ?_)
  · have h := h.1 c1
    exact KM_vret (dk dtk_X2_inspectEnd 50 rfl) rfl h
  · have h := h.2 c1
    refine T_aload_n 0 (dk dtk_X2_inspectEnd 33 rfl) rfl rfl ?_
    refine T_aload_n 0 (dk dtk_X2_inspectEnd 34 rfl) rfl rfl ?_
    refine T_getR 200 0 60 (dk dtk_X2_inspectEnd 35 rfl) kfl_X2_9 kk_200 (kl_200 hq he) (by decide) rfl kr_200_0 ?_
    refine T_getR 60 17 78 (dk dtk_X2_inspectEnd 36 rfl) kfl_X2_173 kk_60 (kl_60 hq) (by decide) rfl kr_60_17 ?_
    refine T_iload_n 2 (dk dtk_X2_inspectEnd 37 rfl) rfl rfl ?_
    obtain ⟨h2, h⟩ := h
    refine T_iald 78 4 (dk dtk_X2_inspectEnd 38 rfl) kk_78 (kl_78 hq) h2 ?_
    refine KC_Vi [vi (x.1 78 (l2 : Int32).toNatClampNeg)] [] rfl (dk dtk_X2_inspectEnd 39 rfl) kcv_X2_142 rfl kk_200 rfl (kl_200 hq he) (Nat.le_of_ble_eq_true rfl) (Nat.le_of_ble_eq_true rfl) (gok_i (av_c (gkr (kl_200 hq he)) (av_c rfl (av_c rfl av_n))) as_n) rfl h (fun r4 x3 h => ?_)
    refine T_if_eq 95 (dk dtk_X2_inspectEnd 40 rfl) (by decide) (fun c5 => ?_) (fun c5 => ?_)
    · have h := h.1 c5
      refine T_iinc (v := l2 + 1) (lv2 := [(2, vi (l2 + 1)), (0, vr 200), (1, vi l1)]) 2 (dk dtk_X2_inspectEnd 48 rfl) rfl rfl (by decide) rfl ?_
      refine T_goto 57 (dk dtk_X2_inspectEnd 49 rfl) (by decide) ?_
      exact T_sub [1, 2, 0] rfl h
    · have h := h.2 c5
      refine T_aload_n 0 (dk dtk_X2_inspectEnd 41 rfl) rfl rfl ?_
      obtain ⟨u6, eu6⟩ : ∃ z, z = (kf q).1 200 7 := ⟨_, rfl⟩
      have h := h u6 eu6
      refine T_getO 200 7 (dk dtk_X2_inspectEnd 42 rfl) kfl_X2_44 kk_200 (kl_200 hq he) (by decide) rfl ?_
      rw [← eu6]
      refine T_iconst (v := 4) (dk dtk_X2_inspectEnd 43 rfl) (by decide +kernel) ?_
      refine T_iload_n 2 (dk dtk_X2_inspectEnd 44 rfl) rfl rfl ?_
      refine T_iadd (dk dtk_X2_inspectEnd 45 rfl) ?_
      refine T_iload_n 1 (dk dtk_X2_inspectEnd 46 rfl) rfl rfl ?_
      obtain ⟨c7, rfl, g8, h⟩ := h
      refine KC_Vv [vi (4 + l2), vi l1] [] rfl (dk dtk_X2_inspectEnd 47 rfl) kcv_X2_146 rfl (kk_T0 g8) rfl (kl_T0 hq g8) (Nat.le_of_ble_eq_true rfl) (Nat.le_of_ble_eq_true rfl) (gok_i (av_c (gkr (kl_200 hq he)) (av_c rfl (av_c rfl av_n))) as_n) rfl h (fun x9 h => ?_)
      refine T_iinc (v := l2 + 1) (lv2 := [(2, vi (l2 + 1)), (0, vr 200), (1, vi l1)]) 2 (dk dtk_X2_inspectEnd 48 rfl) rfl rfl (by decide) rfl ?_
      refine T_goto 57 (dk dtk_X2_inspectEnd 49 rfl) (by decide) ?_
      exact T_sub [1, 2, 0] rfl h
set_option maxRecDepth 100000 in
set_option maxHeartbeats 4000000 in
theorem kg_X2_inspect_0 {G : kG} {q : kP} {d : Nat} {x : gd} {P : Option gv → gd → kP → Prop} {X : String → gd → kP → Prop} (hu : kU q) (he : q.ex = true) (l1 : Int32)
    (h : (∀ u1, u1 = (kf q).1 200 7 → ∃ c2, u1 = some c2 ∧ kiT q c2 ∧ (∀ x4 : gd, x4 = si x c2 5 ((x.1 c2 5) + (x.1 220 13)) → KM G q (d + 1) zk_X2_inspect 21 [(0, vr 200), (1, vi l1), (2, vi 0)] [] x4 P X))) :
    KM G q (d + 1) zk_X2_inspect 0 [(0, vr 200), (1, vi l1)] [] x P X := by
  have hq := hu.1
  refine T_aload_n 0 (dk dtk_X2_inspect 0 rfl) rfl rfl ?_
  obtain ⟨u1, eu1⟩ : ∃ z, z = (kf q).1 200 7 := ⟨_, rfl⟩
  have h := h u1 eu1
  refine T_getO 200 7 (dk dtk_X2_inspect 1 rfl) kfl_X2_44 kk_200 (kl_200 hq he) (by decide) rfl ?_
  rw [← eu1]
  refine T_dup (dk dtk_X2_inspect 2 rfl) rfl ?_
  obtain ⟨c2, rfl, g3, h⟩ := h
  refine T_getI c2 5 (dk dtk_X2_inspect 3 rfl) kfl_X2_133 (kk_T0 g3) (kl_T0 hq g3) (by decide) rfl ?_
  refine T_aload_n 0 (dk dtk_X2_inspect 4 rfl) rfl rfl ?_
  refine T_getR 200 1 220 (dk dtk_X2_inspect 5 rfl) kfl_X2_20 kk_200 (kl_200 hq he) (by decide) rfl kr_200_1 ?_
  refine T_getI 220 13 (dk dtk_X2_inspect 6 rfl) kfl_X2_88 kk_220 (kl_220 hq he) (by decide) rfl ?_
  refine T_iadd (dk dtk_X2_inspect 7 rfl) ?_
  obtain ⟨x4, ex4⟩ : ∃ z, z = si x c2 5 ((x.1 c2 5) + (x.1 220 13)) := ⟨_, rfl⟩
  have h := h x4 ex4
  refine T_putI c2 5 (dk dtk_X2_inspect 8 rfl) kfl_X2_133 (kk_T0 g3) (kl_T0 hq g3) (by decide) rfl ⟨rfl, rfl⟩ ?_
  rw [← ex4]
  refine T_iconst (v := 0) (dk dtk_X2_inspect 9 rfl) (by decide +kernel) ?_
  refine T_istore_n (lv2 := [(2, vi 0), (0, vr 200), (1, vi l1)]) (dk dtk_X2_inspect 10 rfl) rfl (by decide) rfl ?_
  exact T_sub [1, 2, 0] rfl h
set_option maxRecDepth 100000 in
set_option maxHeartbeats 4000000 in
theorem kg_X2_inspect_21 {G : kG} {q : kP} {d : Nat} {x : gd} {P : Option gv → gd → kP → Prop} {X : String → gd → kP → Prop} (hu : kU q) (he : q.ex = true) (l1 : Int32) (l2 : Int32)
    (h : (((x.1 60 14) ≤ l2 → ((¬ ((x.1 220 13) = (0 : Int32)) → KM G q (d + 1) zk_X2_inspect 78 [(0, vr 200), (1, vi l1)] [] x P X) ∧ ((x.1 220 13) = (0 : Int32) → KM G q d zk_X2_inspectEnd 0 [(0, vr 200), (1, vi l1)] [] x (rm q (fun x3 q4 => KM G q4 (d + 1) zk_X2_inspect 78 [(0, vr 200), (1, vi l1)] [] x3 P X)) X))) ∧ (¬ ((x.1 60 14) ≤ l2) → vp_in l2 4 ∧ KT G q d zk_X2_isFalse 0 [(0, vr 200), (1, vi (x.1 76 (l2 : Int32).toNatClampNeg))] [] x (ri (fun r7 x6 => ((r7 = (0 : Int32) → KM G q (d + 1) zk_X2_inspect 21 [(0, vr 200), (1, vi l1), (2, vi (l2 + 1))] [] x6 P X) ∧ (¬ (r7 = (0 : Int32)) → (∀ u9, u9 = (kf q).1 200 7 → ∃ c10, u9 = some c10 ∧ kiT q c10 ∧ KT G q d zk_X10_find 0 [(0, vr c10), (1, vi l2), (2, vi l1)] [] x6 (rv (fun x12 => KM G q (d + 1) zk_X2_inspect 21 [(0, vr 200), (1, vi l1), (2, vi (l2 + 1))] [] x12 P X)))))))))) :
    KM G q (d + 1) zk_X2_inspect 21 [(0, vr 200), (1, vi l1), (2, vi l2)] [] x P X := by
  have hq := hu.1
  refine T_iload_n 2 (dk dtk_X2_inspect 11 rfl) rfl rfl ?_
  refine T_aload_n 0 (dk dtk_X2_inspect 12 rfl) rfl rfl ?_
  refine T_getR 200 0 60 (dk dtk_X2_inspect 13 rfl) kfl_X2_9 kk_200 (kl_200 hq he) (by decide) rfl kr_200_0 ?_
  refine T_getI 60 14 (dk dtk_X2_inspect 14 rfl) kfl_X2_136 kk_60 (kl_60 hq) (by decide) rfl ?_
  refine T_icmp_ge 63 (dk dtk_X2_inspect 15 rfl) (by decide) (fun c1 => ?_) (fun c1 => ?_)
  · have h := h.1 c1
    refine T_aload_n 0 (dk dtk_X2_inspect 31 rfl) rfl rfl ?_
    refine T_getR 200 1 220 (dk dtk_X2_inspect 32 rfl) kfl_X2_20 kk_200 (kl_200 hq he) (by decide) rfl kr_200_1 ?_
    refine T_getI 220 13 (dk dtk_X2_inspect 33 rfl) kfl_X2_88 kk_220 (kl_220 hq he) (by decide) rfl ?_
    refine T_if_ne 78 (dk dtk_X2_inspect 34 rfl) (by decide) (fun c2 => ?_) (fun c2 => ?_)
    · have h := h.1 c2
      exact T_sub [0, 1] rfl h
    · have h := h.2 c2
      refine T_aload_n 0 (dk dtk_X2_inspect 35 rfl) rfl rfl ?_
      refine T_iload_n 1 (dk dtk_X2_inspect 36 rfl) rfl rfl ?_
      refine T_sub (lv2 := [(0, vr 200), (1, vi l1)]) [0, 1] rfl ?_
      refine KM_Vv [vi l1] [] rfl (dk dtk_X2_inspect 37 rfl) kcv_X2_149 rfl kk_200 rfl (kl_200 hq he) (Nat.le_of_ble_eq_true rfl) (Nat.le_of_ble_eq_true rfl) (gok_i (av_c (gkr (kl_200 hq he)) (av_c rfl av_n)) as_n) rfl h (fun x3 q4 hu hle h => ?_)
      have hq := hu.1
      have he := hle.2.1.2.1 he
      exact h
  · have h := h.2 c1
    refine T_aload_n 0 (dk dtk_X2_inspect 16 rfl) rfl rfl ?_
    refine T_aload_n 0 (dk dtk_X2_inspect 17 rfl) rfl rfl ?_
    refine T_getR 200 0 60 (dk dtk_X2_inspect 18 rfl) kfl_X2_9 kk_200 (kl_200 hq he) (by decide) rfl kr_200_0 ?_
    refine T_getR 60 15 76 (dk dtk_X2_inspect 19 rfl) kfl_X2_139 kk_60 (kl_60 hq) (by decide) rfl kr_60_15 ?_
    refine T_iload_n 2 (dk dtk_X2_inspect 20 rfl) rfl rfl ?_
    obtain ⟨h5, h⟩ := h
    refine T_iald 76 4 (dk dtk_X2_inspect 21 rfl) kk_76 (kl_76 hq) h5 ?_
    refine KC_Vi [vi (x.1 76 (l2 : Int32).toNatClampNeg)] [] rfl (dk dtk_X2_inspect 22 rfl) kcv_X2_142 rfl kk_200 rfl (kl_200 hq he) (Nat.le_of_ble_eq_true rfl) (Nat.le_of_ble_eq_true rfl) (gok_i (av_c (gkr (kl_200 hq he)) (av_c rfl (av_c rfl av_n))) as_n) rfl h (fun r7 x6 h => ?_)
    refine T_if_eq 57 (dk dtk_X2_inspect 23 rfl) (by decide) (fun c8 => ?_) (fun c8 => ?_)
    · have h := h.1 c8
      refine T_iinc (v := l2 + 1) (lv2 := [(2, vi (l2 + 1)), (0, vr 200), (1, vi l1)]) 2 (dk dtk_X2_inspect 29 rfl) rfl rfl (by decide) rfl ?_
      refine T_goto 21 (dk dtk_X2_inspect 30 rfl) (by decide) ?_
      exact T_sub [1, 2, 0] rfl h
    · have h := h.2 c8
      refine T_aload_n 0 (dk dtk_X2_inspect 24 rfl) rfl rfl ?_
      obtain ⟨u9, eu9⟩ : ∃ z, z = (kf q).1 200 7 := ⟨_, rfl⟩
      have h := h u9 eu9
      refine T_getO 200 7 (dk dtk_X2_inspect 25 rfl) kfl_X2_44 kk_200 (kl_200 hq he) (by decide) rfl ?_
      rw [← eu9]
      refine T_iload_n 2 (dk dtk_X2_inspect 26 rfl) rfl rfl ?_
      refine T_iload_n 1 (dk dtk_X2_inspect 27 rfl) rfl rfl ?_
      obtain ⟨c10, rfl, g11, h⟩ := h
      refine KC_Vv [vi l2, vi l1] [] rfl (dk dtk_X2_inspect 28 rfl) kcv_X2_146 rfl (kk_T0 g11) rfl (kl_T0 hq g11) (Nat.le_of_ble_eq_true rfl) (Nat.le_of_ble_eq_true rfl) (gok_i (av_c (gkr (kl_200 hq he)) (av_c rfl (av_c rfl av_n))) as_n) rfl h (fun x12 h => ?_)
      refine T_iinc (v := l2 + 1) (lv2 := [(2, vi (l2 + 1)), (0, vr 200), (1, vi l1)]) 2 (dk dtk_X2_inspect 29 rfl) rfl rfl (by decide) rfl ?_
      refine T_goto 21 (dk dtk_X2_inspect 30 rfl) (by decide) ?_
      exact T_sub [1, 2, 0] rfl h
set_option maxRecDepth 100000 in
set_option maxHeartbeats 4000000 in
theorem kg_X2_inspect_78 {G : kG} {q : kP} {d : Nat} {x : gd} {P : Option gv → gd → kP → Prop} {X : String → gd → kP → Prop} (hu : kU q) (he : q.ex = true) (l1 : Int32)
    (h : KT G q d zk_X5_anyFailed 0 [(0, vr 220)] [] x (ri (fun r2 x1 => ((r2 = (0 : Int32) → KM G q (d + 1) zk_X2_inspect 98 [(0, vr 200), (1, vi l1)] [] x1 P X) ∧ (¬ (r2 = (0 : Int32)) → (∀ u4, u4 = (kf q).1 200 7 → ∃ c5, u4 = some c5 ∧ kiT q c5 ∧ KT G q d zk_X10_find 0 [(0, vr c5), (1, vi 9), (2, vi l1)] [] x1 (rv (fun x7 => KM G q (d + 1) zk_X2_inspect 98 [(0, vr 200), (1, vi l1)] [] x7 P X)))))))) :
    KM G q (d + 1) zk_X2_inspect 78 [(0, vr 200), (1, vi l1)] [] x P X := by
  have hq := hu.1
  refine T_aload_n 0 (dk dtk_X2_inspect 38 rfl) rfl rfl ?_
  refine T_getR 200 1 220 (dk dtk_X2_inspect 39 rfl) kfl_X2_20 kk_200 (kl_200 hq he) (by decide) rfl kr_200_1 ?_
  refine KC_Vi [] [] rfl (dk dtk_X2_inspect 40 rfl) kcv_X2_152 rfl kk_220 rfl (kl_220 hq he) (Nat.le_of_ble_eq_true rfl) (Nat.le_of_ble_eq_true rfl) (gok_i (av_c (gkr (kl_200 hq he)) (av_c rfl av_n)) as_n) rfl h (fun r2 x1 h => ?_)
  refine T_if_eq 98 (dk dtk_X2_inspect 41 rfl) (by decide) (fun c3 => ?_) (fun c3 => ?_)
  · have h := h.1 c3
    exact h
  · have h := h.2 c3
    refine T_aload_n 0 (dk dtk_X2_inspect 42 rfl) rfl rfl ?_
    obtain ⟨u4, eu4⟩ : ∃ z, z = (kf q).1 200 7 := ⟨_, rfl⟩
    have h := h u4 eu4
    refine T_getO 200 7 (dk dtk_X2_inspect 43 rfl) kfl_X2_44 kk_200 (kl_200 hq he) (by decide) rfl ?_
    rw [← eu4]
    refine T_bipush (v := 9) (dk dtk_X2_inspect 44 rfl) (by decide +kernel) ?_
    refine T_iload_n 1 (dk dtk_X2_inspect 45 rfl) rfl rfl ?_
    obtain ⟨c5, rfl, g6, h⟩ := h
    refine KC_Vv [vi 9, vi l1] [] rfl (dk dtk_X2_inspect 46 rfl) kcv_X2_146 rfl (kk_T0 g6) rfl (kl_T0 hq g6) (Nat.le_of_ble_eq_true rfl) (Nat.le_of_ble_eq_true rfl) (gok_i (av_c (gkr (kl_200 hq he)) (av_c rfl av_n)) as_n) rfl h (fun x7 h => ?_)
    exact h
set_option maxRecDepth 100000 in
set_option maxHeartbeats 4000000 in
theorem kg_X2_inspect_98 {G : kG} {q : kP} {d : Nat} {x : gd} {P : Option gv → gd → kP → Prop} {X : String → gd → kP → Prop} (hu : kU q) (he : q.ex = true) (l1 : Int32)
    (h : KT G q d zk_X2_isRacing 0 [(0, vr 200)] [] x (ri (fun r2 x1 => ((r2 = (0 : Int32) → P none x1 q) ∧ (¬ (r2 = (0 : Int32)) → (∀ u4, u4 = (kf q).1 200 7 → ∃ c5, u4 = some c5 ∧ kiT q c5 ∧ KT G q d zk_X10_find 0 [(0, vr c5), (1, vi 10), (2, vi l1)] [] x1 (rv (fun x7 => P none x7 q)))))))) :
    KM G q (d + 1) zk_X2_inspect 98 [(0, vr 200), (1, vi l1)] [] x P X := by
  have hq := hu.1
  refine T_aload_n 0 (dk dtk_X2_inspect 47 rfl) rfl rfl ?_
  refine KC_Vi [] [] rfl (dk dtk_X2_inspect 48 rfl) kcv_X2_155 rfl kk_200 rfl (kl_200 hq he) (Nat.le_of_ble_eq_true rfl) (Nat.le_of_ble_eq_true rfl) (gok_i (av_c (gkr (kl_200 hq he)) (av_c rfl av_n)) as_n) rfl h (fun r2 x1 h => ?_)
  refine T_if_eq 115 (dk dtk_X2_inspect 49 rfl) (by decide) (fun c3 => ?_) (fun c3 => ?_)
  · have h := h.1 c3
    exact KM_vret (dk dtk_X2_inspect 55 rfl) rfl h
  · have h := h.2 c3
    refine T_aload_n 0 (dk dtk_X2_inspect 50 rfl) rfl rfl ?_
    obtain ⟨u4, eu4⟩ : ∃ z, z = (kf q).1 200 7 := ⟨_, rfl⟩
    have h := h u4 eu4
    refine T_getO 200 7 (dk dtk_X2_inspect 51 rfl) kfl_X2_44 kk_200 (kl_200 hq he) (by decide) rfl ?_
    rw [← eu4]
    refine T_bipush (v := 10) (dk dtk_X2_inspect 52 rfl) (by decide +kernel) ?_
    refine T_iload_n 1 (dk dtk_X2_inspect 53 rfl) rfl rfl ?_
    obtain ⟨c5, rfl, g6, h⟩ := h
    refine T_sub (lv2 := []) [] rfl ?_
    refine KC_Vv [vi 10, vi l1] [] rfl (dk dtk_X2_inspect 54 rfl) kcv_X2_146 rfl (kk_T0 g6) rfl (kl_T0 hq g6) (Nat.le_of_ble_eq_true rfl) (Nat.le_of_ble_eq_true rfl) (gok_i av_n as_n) rfl h (fun x7 h => ?_)
    exact KM_vret (dk dtk_X2_inspect 55 rfl) rfl h
set_option maxRecDepth 100000 in
set_option maxHeartbeats 4000000 in
theorem kg_X2_explore_0 {G : kG} {q : kP} {d : Nat} {x : gd} {P : Option gv → gd → kP → Prop} {X : String → gd → kP → Prop} (hu : kU q) (he : q.ex = true) {a3 : Nat} (ha3 : kiT q a3) (l1 : Int32) (l2 : Int32)
    (h : (∀ q1, q1 = kEt q a3 → kU q1 → kle q q1 → (∀ u2, u2 = (kf q1).1 200 7 → ∃ c3, u2 = some c3 ∧ kiT q1 c3 ∧ KT G q1 d zk_X10_clear 0 [(0, vr c3), (1, vi ((1 <<< ((x.1 60 9) &&& 31 : Int32)) - 1))] [] x (rv (fun x5 => (∀ x6 : gd, x6 = sfl x5 205 0 8192 → KT G q1 d zk_X5_reset 0 [(0, vr 220), (1, vi l1)] [] x6 (rv (fun x7 => KM G q1 d zk_X2_addState 0 [(0, vr 200), (1, vi (-1)), (2, vi (-1)), (3, vi l2)] [] x7 (rm q1 (fun x8 q9 => KM G q9 (d + 1) zk_X2_explore 49 [(0, vr 200), (2, vi l2), (4, vi 0)] [] x8 P X)) X)))))))) :
    KM G q (d + 1) zk_X2_explore 0 [(0, vr 200), (1, vi l1), (2, vi l2), (3, vr a3)] [] x P X := by
  have hq := hu.1
  refine T_aload_n 0 (dk dtk_X2_explore 0 rfl) rfl rfl ?_
  refine T_aload_n 3 (dk dtk_X2_explore 1 rfl) rfl rfl ?_
  obtain ⟨q1, eq1⟩ : ∃ z, z = kEt q a3 := ⟨_, rfl⟩
  have hu2 : kU q1 := by rw [eq1]; exact kEt_U hu he ha3
  have hle : kle q q1 := by rw [eq1]; exact kEt_le _ _
  have h := h q1 eq1 hu2 hle
  refine T_sett (dk dtk_X2_explore 2 rfl) hu he ?_
  rw [← eq1]
  have hu := hu2
  have hq := hu.1
  have ha3 := kle_T hle ha3
  have he := hle.2.1.2.1 he
  refine T_aload_n 0 (dk dtk_X2_explore 3 rfl) rfl rfl ?_
  obtain ⟨u2, eu2⟩ : ∃ z, z = (kf q1).1 200 7 := ⟨_, rfl⟩
  have h := h u2 eu2
  refine T_getO 200 7 (dk dtk_X2_explore 4 rfl) kfl_X2_44 kk_200 (kl_200 hq he) (by decide) rfl ?_
  rw [← eu2]
  refine T_iconst (v := 1) (dk dtk_X2_explore 5 rfl) (by decide +kernel) ?_
  refine T_aload_n 0 (dk dtk_X2_explore 6 rfl) rfl rfl ?_
  refine T_getR 200 0 60 (dk dtk_X2_explore 7 rfl) kfl_X2_9 kk_200 (kl_200 hq he) (by decide) rfl kr_200_0 ?_
  refine T_getI 60 9 (dk dtk_X2_explore 8 rfl) kfl_X2_48 kk_60 (kl_60 hq) (by decide) rfl ?_
  refine T_ishl (dk dtk_X2_explore 9 rfl) ?_
  refine T_iconst (v := 1) (dk dtk_X2_explore 10 rfl) (by decide +kernel) ?_
  refine T_isub (dk dtk_X2_explore 11 rfl) ?_
  obtain ⟨c3, rfl, g4, h⟩ := h
  refine T_sub (lv2 := [(0, vr 200), (1, vi l1), (2, vi l2)]) [0, 1, 2] rfl ?_
  refine KC_Vv [vi ((1 <<< ((x.1 60 9) &&& 31 : Int32)) - 1)] [] rfl (dk dtk_X2_explore 12 rfl) kcv_X2_54 rfl (kk_T0 g4) rfl (kl_T0 hq g4) (Nat.le_of_ble_eq_true rfl) (Nat.le_of_ble_eq_true rfl) (gok_i (av_c (gkr (kl_200 hq he)) (av_c rfl (av_c rfl av_n))) as_n) rfl h (fun x5 h => ?_)
  refine T_aload_n 0 (dk dtk_X2_explore 13 rfl) rfl rfl ?_
  refine T_getR 200 4 205 (dk dtk_X2_explore 14 rfl) kfl_X2_33 kk_200 (kl_200 hq he) (by decide) rfl kr_200_4 ?_
  refine T_iconst (v := 0) (dk dtk_X2_explore 15 rfl) (by decide +kernel) ?_
  refine KC_Sv (F := fun z => z = sfl x5 205 0 8192) [vr 205, vi 0] [] rfl (dk dtk_X2_explore 16 rfl) kcs_X2_60 rfl (Nat.le_of_ble_eq_true rfl) (Nat.le_of_ble_eq_true rfl) (gok_i (av_c (gkr (kl_200 hq he)) (av_c rfl (av_c rfl av_n))) as_n) rfl (tj_fill 205 8192 0 kk_205 (kl_205 hq he) (by decide) ⟨rfl, none, rfl, rfl, rfl⟩) (fun x6 ex6 => ?_)
  have h := h x6 ex6
  refine T_aload_n 0 (dk dtk_X2_explore 17 rfl) rfl rfl ?_
  refine T_getR 200 1 220 (dk dtk_X2_explore 18 rfl) kfl_X2_20 kk_200 (kl_200 hq he) (by decide) rfl kr_200_1 ?_
  refine T_iload_n 1 (dk dtk_X2_explore 19 rfl) rfl rfl ?_
  refine T_sub (lv2 := [(0, vr 200), (2, vi l2)]) [0, 2] rfl ?_
  refine KC_Vv [vi l1] [] rfl (dk dtk_X2_explore 20 rfl) kcv_X2_66 rfl kk_220 rfl (kl_220 hq he) (Nat.le_of_ble_eq_true rfl) (Nat.le_of_ble_eq_true rfl) (gok_i (av_c (gkr (kl_200 hq he)) (av_c rfl av_n)) as_n) rfl h (fun x7 h => ?_)
  refine T_aload_n 0 (dk dtk_X2_explore 21 rfl) rfl rfl ?_
  refine T_iconst (v := (-1)) (dk dtk_X2_explore 22 rfl) (by decide +kernel) ?_
  refine T_iconst (v := (-1)) (dk dtk_X2_explore 23 rfl) (by decide +kernel) ?_
  refine T_iload_n 1 (dk dtk_X2_explore 24 rfl) rfl rfl ?_
  refine KM_Vv [vi (-1), vi (-1), vi l2] [] rfl (dk dtk_X2_explore 25 rfl) kcv_X2_69 rfl kk_200 rfl (kl_200 hq he) (Nat.le_of_ble_eq_true rfl) (Nat.le_of_ble_eq_true rfl) (gok_i (av_c (gkr (kl_200 hq he)) (av_c rfl av_n)) as_n) rfl h (fun x8 q9 hu hle h => ?_)
  have hq := hu.1
  have ha3 := kle_T hle ha3
  have g4 := kle_T hle g4
  have he := hle.2.1.2.1 he
  refine T_iconst (v := 0) (dk dtk_X2_explore 26 rfl) (by decide +kernel) ?_
  refine T_istore (lv2 := [(4, vi 0), (0, vr 200), (2, vi l2)]) (dk dtk_X2_explore 27 rfl) (by decide) rfl ?_
  exact T_sub [1, 2, 0] rfl h
set_option maxRecDepth 100000 in
set_option maxHeartbeats 4000000 in
theorem kg_X2_explore_49 {G : kG} {q : kP} {d : Nat} {x : gd} {P : Option gv → gd → kP → Prop} {X : String → gd → kP → Prop} (hu : kU q) (he : q.ex = true) {a3 : Nat} (ha3 : kiT q a3) (l2 : Int32) (l4 : Int32)
    (h : (∀ u1, u1 = (kf q).1 200 7 → ∃ c2, u1 = some c2 ∧ kiT q c2 ∧ (((x.1 c2 0) ≤ l4 → P none x q) ∧ (¬ ((x.1 c2 0) ≤ l4) → (((3000 : Int32) ≤ l4 → P none x q) ∧ (¬ ((3000 : Int32) ≤ l4) → KT G q d zk_X2_recall 0 [(0, vr 200), (1, vi l4)] [] x (rv (fun x6 => KT G q d zk_X5_listChoices 0 [(0, vr 220)] [] x6 (rv (fun x7 => KT G q d zk_X2_inspectActs 0 [(0, vr 200)] [] x7 (rv (fun x8 => KM G q d zk_X2_inspect 0 [(0, vr 200), (1, vi l4)] [] x8 (rm q (fun x9 q10 => KM G q10 (d + 1) zk_X2_explore 95 [(0, vr 200), (2, vi l2), (4, vi l4), (5, vi 0)] [] x9 P X)) X)))))))))))) :
    KM G q (d + 1) zk_X2_explore 49 [(0, vr 200), (2, vi l2), (4, vi l4)] [] x P X := by
  have hq := hu.1
  refine T_iload 2 (dk dtk_X2_explore 28 rfl) rfl ?_
  refine T_aload_n 0 (dk dtk_X2_explore 29 rfl) rfl rfl ?_
  obtain ⟨u1, eu1⟩ : ∃ z, z = (kf q).1 200 7 := ⟨_, rfl⟩
  have h := h u1 eu1
  refine T_getO 200 7 (dk dtk_X2_explore 30 rfl) kfl_X2_44 kk_200 (kl_200 hq he) (by decide) rfl ?_
  rw [← eu1]
  obtain ⟨c2, rfl, g3, h⟩ := h
  refine T_getI c2 0 (dk dtk_X2_explore 31 rfl) kfl_X2_73 (kk_T0 g3) (kl_T0 hq g3) (by decide) rfl ?_
  refine T_icmp_ge 153 (dk dtk_X2_explore 32 rfl) (by decide) (fun c4 => ?_) (fun c4 => ?_)
  · have h := h.1 c4
    exact KM_vret (dk dtk_X2_explore 74 rfl) rfl h
  · have h := h.2 c4
    refine T_iload 2 (dk dtk_X2_explore 33 rfl) rfl ?_
    refine T_sipush (v := 3000) (dk dtk_X2_explore 34 rfl) (by decide +kernel) ?_
    refine T_icmp_ge 153 (dk dtk_X2_explore 35 rfl) (by decide) (fun c5 => ?_) (fun c5 => ?_)
    · have h := h.1 c5
      exact KM_vret (dk dtk_X2_explore 74 rfl) rfl h
    · have h := h.2 c5
      refine T_aload_n 0 (dk dtk_X2_explore 36 rfl) rfl rfl ?_
      refine T_iload 2 (dk dtk_X2_explore 37 rfl) rfl ?_
      refine KC_Vv [vi l4] [] rfl (dk dtk_X2_explore 38 rfl) kcv_X2_76 rfl kk_200 rfl (kl_200 hq he) (Nat.le_of_ble_eq_true rfl) (Nat.le_of_ble_eq_true rfl) (gok_i (av_c (gkr (kl_200 hq he)) (av_c rfl (av_c rfl av_n))) as_n) rfl h (fun x6 h => ?_)
      refine T_aload_n 0 (dk dtk_X2_explore 39 rfl) rfl rfl ?_
      refine T_getR 200 1 220 (dk dtk_X2_explore 40 rfl) kfl_X2_20 kk_200 (kl_200 hq he) (by decide) rfl kr_200_1 ?_
      refine KC_Vv [] [] rfl (dk dtk_X2_explore 41 rfl) kcv_X2_79 rfl kk_220 rfl (kl_220 hq he) (Nat.le_of_ble_eq_true rfl) (Nat.le_of_ble_eq_true rfl) (gok_i (av_c (gkr (kl_200 hq he)) (av_c rfl (av_c rfl av_n))) as_n) rfl h (fun x7 h => ?_)
      refine T_aload_n 0 (dk dtk_X2_explore 42 rfl) rfl rfl ?_
      refine KC_Vv [] [] rfl (dk dtk_X2_explore 43 rfl) kcv_X2_82 rfl kk_200 rfl (kl_200 hq he) (Nat.le_of_ble_eq_true rfl) (Nat.le_of_ble_eq_true rfl) (gok_i (av_c (gkr (kl_200 hq he)) (av_c rfl (av_c rfl av_n))) as_n) rfl h (fun x8 h => ?_)
      refine T_aload_n 0 (dk dtk_X2_explore 44 rfl) rfl rfl ?_
      refine T_iload 2 (dk dtk_X2_explore 45 rfl) rfl ?_
      refine KM_Vv [vi l4] [] rfl (dk dtk_X2_explore 46 rfl) kcv_X2_85 rfl kk_200 rfl (kl_200 hq he) (Nat.le_of_ble_eq_true rfl) (Nat.le_of_ble_eq_true rfl) (gok_i (av_c (gkr (kl_200 hq he)) (av_c rfl (av_c rfl av_n))) as_n) rfl h (fun x9 q10 hu hle h => ?_)
      have hq := hu.1
      have ha3 := kle_T hle ha3
      have g3 := kle_T hle g3
      have he := hle.2.1.2.1 he
      refine T_iconst (v := 0) (dk dtk_X2_explore 47 rfl) (by decide +kernel) ?_
      refine T_istore (lv2 := [(5, vi 0), (0, vr 200), (2, vi l2), (4, vi l4)]) (dk dtk_X2_explore 48 rfl) (by decide) rfl ?_
      exact T_sub [1, 2, 3, 0] rfl h
set_option maxRecDepth 100000 in
set_option maxHeartbeats 4000000 in
theorem kg_X2_explore_95 {G : kG} {q : kP} {d : Nat} {x : gd} {P : Option gv → gd → kP → Prop} {X : String → gd → kP → Prop} (hu : kU q) (he : q.ex = true) {a3 : Nat} (ha3 : kiT q a3) (l2 : Int32) (l4 : Int32) (l5 : Int32)
    (h : (((x.1 220 13) ≤ l5 → KM G q (d + 1) zk_X2_explore 49 [(0, vr 200), (2, vi l2), (4, vi (l4 + 1))] [] x P X) ∧ (¬ ((x.1 220 13) ≤ l5) → (∀ u2, u2 = (kf q).1 200 7 → ∃ c3, u2 = some c3 ∧ kiT q c3 ∧ ((¬ ((x.1 c3 1) = (0 : Int32)) → KM G q (d + 1) zk_X2_explore 49 [(0, vr 200), (2, vi l2), (4, vi (l4 + 1))] [] x P X) ∧ ((x.1 c3 1) = (0 : Int32) → KT G q d zk_X2_recall 0 [(0, vr 200), (1, vi l4)] [] x (rv (fun x6 => KT G q d zk_X5_perform 0 [(0, vr 220), (1, vi l5)] [] x6 (rv (fun x7 => KM G q d zk_X2_addState 0 [(0, vr 200), (1, vi l4), (2, vi l5), (3, vi l2)] [] x7 (rm q (fun x8 q9 => KM G q9 (d + 1) zk_X2_explore 95 [(0, vr 200), (2, vi l2), (4, vi l4), (5, vi (l5 + 1))] [] x8 P X)) X)))))))))) :
    KM G q (d + 1) zk_X2_explore 95 [(0, vr 200), (2, vi l2), (4, vi l4), (5, vi l5)] [] x P X := by
  have hq := hu.1
  refine T_iload 3 (dk dtk_X2_explore 49 rfl) rfl ?_
  refine T_aload_n 0 (dk dtk_X2_explore 50 rfl) rfl rfl ?_
  refine T_getR 200 1 220 (dk dtk_X2_explore 51 rfl) kfl_X2_20 kk_200 (kl_200 hq he) (by decide) rfl kr_200_1 ?_
  refine T_getI 220 13 (dk dtk_X2_explore 52 rfl) kfl_X2_88 kk_220 (kl_220 hq he) (by decide) rfl ?_
  refine T_icmp_ge 147 (dk dtk_X2_explore 53 rfl) (by decide) (fun c1 => ?_) (fun c1 => ?_)
  · have h := h.1 c1
    refine T_iinc (v := l4 + 1) (lv2 := [(4, vi (l4 + 1)), (0, vr 200), (2, vi l2), (5, vi l5)]) 2 (dk dtk_X2_explore 72 rfl) rfl rfl (by decide) rfl ?_
    refine T_goto 49 (dk dtk_X2_explore 73 rfl) (by decide) ?_
    exact T_sub [1, 2, 0] rfl h
  · have h := h.2 c1
    refine T_aload_n 0 (dk dtk_X2_explore 54 rfl) rfl rfl ?_
    obtain ⟨u2, eu2⟩ : ∃ z, z = (kf q).1 200 7 := ⟨_, rfl⟩
    have h := h u2 eu2
    refine T_getO 200 7 (dk dtk_X2_explore 55 rfl) kfl_X2_44 kk_200 (kl_200 hq he) (by decide) rfl ?_
    rw [← eu2]
    obtain ⟨c3, rfl, g4, h⟩ := h
    refine T_getI c3 1 (dk dtk_X2_explore 56 rfl) kfl_X2_91 (kk_T0 g4) (kl_T0 hq g4) (by decide) rfl ?_
    refine T_if_ne 147 (dk dtk_X2_explore 57 rfl) (by decide) (fun c5 => ?_) (fun c5 => ?_)
    · have h := h.1 c5
      refine T_iinc (v := l4 + 1) (lv2 := [(4, vi (l4 + 1)), (0, vr 200), (2, vi l2), (5, vi l5)]) 2 (dk dtk_X2_explore 72 rfl) rfl rfl (by decide) rfl ?_
      refine T_goto 49 (dk dtk_X2_explore 73 rfl) (by decide) ?_
      exact T_sub [1, 2, 0] rfl h
    · have h := h.2 c5
      refine T_aload_n 0 (dk dtk_X2_explore 58 rfl) rfl rfl ?_
      refine T_iload 2 (dk dtk_X2_explore 59 rfl) rfl ?_
      refine KC_Vv [vi l4] [] rfl (dk dtk_X2_explore 60 rfl) kcv_X2_76 rfl kk_200 rfl (kl_200 hq he) (Nat.le_of_ble_eq_true rfl) (Nat.le_of_ble_eq_true rfl) (gok_i (av_c (gkr (kl_200 hq he)) (av_c rfl (av_c rfl (av_c rfl av_n)))) as_n) rfl h (fun x6 h => ?_)
      refine T_aload_n 0 (dk dtk_X2_explore 61 rfl) rfl rfl ?_
      refine T_getR 200 1 220 (dk dtk_X2_explore 62 rfl) kfl_X2_20 kk_200 (kl_200 hq he) (by decide) rfl kr_200_1 ?_
      refine T_iload 3 (dk dtk_X2_explore 63 rfl) rfl ?_
      refine KC_Vv [vi l5] [] rfl (dk dtk_X2_explore 64 rfl) kcv_X2_95 rfl kk_220 rfl (kl_220 hq he) (Nat.le_of_ble_eq_true rfl) (Nat.le_of_ble_eq_true rfl) (gok_i (av_c (gkr (kl_200 hq he)) (av_c rfl (av_c rfl (av_c rfl av_n)))) as_n) rfl h (fun x7 h => ?_)
      refine T_aload_n 0 (dk dtk_X2_explore 65 rfl) rfl rfl ?_
      refine T_iload 2 (dk dtk_X2_explore 66 rfl) rfl ?_
      refine T_iload 3 (dk dtk_X2_explore 67 rfl) rfl ?_
      refine T_iload_n 1 (dk dtk_X2_explore 68 rfl) rfl rfl ?_
      refine KM_Vv [vi l4, vi l5, vi l2] [] rfl (dk dtk_X2_explore 69 rfl) kcv_X2_69 rfl kk_200 rfl (kl_200 hq he) (Nat.le_of_ble_eq_true rfl) (Nat.le_of_ble_eq_true rfl) (gok_i (av_c (gkr (kl_200 hq he)) (av_c rfl (av_c rfl (av_c rfl av_n)))) as_n) rfl h (fun x8 q9 hu hle h => ?_)
      have hq := hu.1
      have ha3 := kle_T hle ha3
      have g4 := kle_T hle g4
      have he := hle.2.1.2.1 he
      refine T_iinc (v := l5 + 1) (lv2 := [(5, vi (l5 + 1)), (0, vr 200), (2, vi l2), (4, vi l4)]) 3 (dk dtk_X2_explore 70 rfl) rfl rfl (by decide) rfl ?_
      refine T_goto 95 (dk dtk_X2_explore 71 rfl) (by decide) ?_
      exact T_sub [1, 2, 3, 0] rfl h
set_option maxRecDepth 100000 in
set_option maxHeartbeats 4000000 in
theorem kg_X11_linear_0 {G : kG} {q : kP} {d : Nat} {x : gd} {P : Option gv → gd → kP → Prop} {X : String → gd → kP → Prop} (hu : kU q) (l1 : Int32)
    (h : KE G q (d + 6) zk_X11_needRun 0 [(0, vr 0)] [] x (rv (fun x1 => ((l1 < (0 : Int32) → KM G q (d + 7) zk_X11_linear 13 [] [] x1 P X) ∧ (¬ (l1 < (0 : Int32)) → ((l1 ≤ (3 : Int32) → (((x1.1 160 4) ≤ (12 : Int32) → (∀ u5, u5 = (kf q).1 0 8 → ((u5 = none → q.hi = false ∧ (∀ q8 x9, q8 = kHi q → x9 = xops (znew x1 180) ops_180 → kU q8 → kle q q8 → KM G q8 (d + 7) zk_X11_linear 56 [(0, vr 0), (1, vi l1)] [] x9 P X)) ∧ (∀ c7, u5 = some c7 → KM G q (d + 7) zk_X11_linear 56 [(0, vr 0), (1, vi l1)] [] x1 P X)))) ∧ (¬ ((x1.1 160 4) ≤ (12 : Int32)) → P (some (vi (-1))) x1 q))) ∧ (¬ (l1 ≤ (3 : Int32)) → KM G q (d + 7) zk_X11_linear 13 [] [] x1 P X)))))) (fun c9 x9 => X c9 x9 q)) :
    KM G q (d + 7) zk_X11_linear 0 [(0, vr 0), (1, vi l1)] [] x P X := by
  have hq := hu.1
  refine T_aload_n 0 (dk dtk_X11_linear 0 rfl) rfl rfl ?_
  refine KN_Vv [] [] rfl (dk dtk_X11_linear 1 rfl) kcv_X11_160 rfl kk_0 rfl (kl_0 hq) (Nat.le_of_ble_eq_true rfl) (Nat.le_of_ble_eq_true rfl) (gok_i (av_c (gkr (kl_0 hq)) (av_c rfl av_n)) as_n) rfl h (fun x1 h => ?_)
  refine T_iload_n 1 (dk dtk_X11_linear 2 rfl) rfl rfl ?_
  refine T_if_lt 13 (dk dtk_X11_linear 3 rfl) (by decide) (fun c2 => ?_) (fun c2 => ?_)
  · have h := h.1 c2
    exact T_sub [] rfl h
  · have h := h.2 c2
    refine T_iload_n 1 (dk dtk_X11_linear 4 rfl) rfl rfl ?_
    refine T_iconst (v := 3) (dk dtk_X11_linear 5 rfl) (by decide +kernel) ?_
    refine T_icmp_le 24 (dk dtk_X11_linear 6 rfl) (by decide) (fun c3 => ?_) (fun c3 => ?_)
    · have h := h.1 c3
      refine T_aload_n 0 (dk dtk_X11_linear 12 rfl) rfl rfl ?_
      refine T_getR 0 5 160 (dk dtk_X11_linear 13 rfl) kfl_X11_53 kk_0 (kl_0 hq) (by decide) rfl kr_0_5 ?_
      refine T_getI 160 4 (dk dtk_X11_linear 14 rfl) kfl_X11_216 kk_160 (kl_160 hq) (by decide) rfl ?_
      refine T_bipush (v := 12) (dk dtk_X11_linear 15 rfl) (by decide +kernel) ?_
      refine T_icmp_le 38 (dk dtk_X11_linear 16 rfl) (by decide) (fun c4 => ?_) (fun c4 => ?_)
      · have h := h.1 c4
        refine T_aload_n 0 (dk dtk_X11_linear 19 rfl) rfl rfl ?_
        obtain ⟨u5, eu5⟩ : ∃ z, z = (kf q).1 0 8 := ⟨_, rfl⟩
        have h := h u5 eu5
        refine T_getO 0 8 (dk dtk_X11_linear 20 rfl) kfl_X11_280 kk_0 (kl_0 hq) (by decide) rfl ?_
        rw [← eu5]
        refine T_ifnonnull 56 (dk dtk_X11_linear 21 rfl) (by decide) (fun c7 c6 => ?_) (fun c6 => ?_)
        · have h := h.2 c7 c6
          exact h
        · have h := h.1 c6
          refine T_aload_n 0 (dk dtk_X11_linear 22 rfl) rfl rfl ?_
          obtain ⟨h0, h⟩ := h
          obtain ⟨q8, eq8⟩ : ∃ z, z = kHi q := ⟨_, rfl⟩
          obtain ⟨x9, ex9⟩ : ∃ z, z = xops (znew x1 180) ops_180 := ⟨_, rfl⟩
          have hu2 : kU q8 := by rw [eq8]; exact kHi_U hu h0
          have hle : kle q q8 := by rw [eq8]; exact kHi_le h0
          have h := h q8 x9 eq8 ex9 hu2 hle
          refine T_mkH (d := d + 5) hu h0 (gok_i (av_c (gkr (kl_0 hq)) (av_c rfl av_n)) (as_c (gkr (kl_0 hq)) as_n)) ?_
          rw [← eq8, ← ex9]
          have hu := hu2
          have hq := hu.1
          exact h
      · have h := h.2 c4
        refine T_iconst (v := (-1)) (dk dtk_X11_linear 17 rfl) (by decide +kernel) ?_
        exact KM_iret (dk dtk_X11_linear 18 rfl) rfl rfl h
    · have h := h.2 c3
      exact T_sub [] rfl h
set_option maxRecDepth 100000 in
set_option maxHeartbeats 4000000 in
theorem kg_X11_linear_13 {G : kG} {q : kP} {d : Nat} {x : gd} {P : Option gv → gd → kP → Prop} {X : String → gd → kP → Prop} (hu : kU q) 
    (h : X iAE x q) :
    KM G q (d + 7) zk_X11_linear 13 [] [] x P X := by
  have hq := hu.1
  exact T_thrW kth_X11_70_276 (dk dtk_X11_linear 7 rfl) (dk dtk_X11_linear 8 rfl) (dk dtk_X11_linear 9 rfl) (dk dtk_X11_linear 10 rfl) (dk dtk_X11_linear 11 rfl) (by intro z hz; cases hz) (by omega) (Nat.le_of_ble_eq_true rfl) ⟨_, Or.inr ⟨rfl, _, rfl, h⟩⟩
set_option maxRecDepth 100000 in
set_option maxHeartbeats 4000000 in
theorem kg_X11_linear_56 {G : kG} {q : kP} {d : Nat} {x : gd} {P : Option gv → gd → kP → Prop} {X : String → gd → kP → Prop} (hu : kU q) (l1 : Int32)
    (h : (∀ u1, u1 = (kf q).1 0 8 → u1 = some 180 ∧ q.hi = true ∧ KT G q (d + 6) zk_X3_take 0 [(0, vr 180), (1, vr 160)] [] x (rv (fun x2 => (∀ u3, u3 = (kf q).1 0 8 → u3 = some 180 ∧ q.hi = true ∧ KT G q (d + 6) zk_X3_fewestThatFail 0 [(0, vr 180), (1, vi l1)] [] x2 (ri (fun r5 x4 => ((¬ (r5 = (-1 : Int32)) → P (some (vi ((-2) - r5))) x4 q) ∧ (r5 = (-1 : Int32) → P (some (vi 1)) x4 q))))))))) :
    KM G q (d + 7) zk_X11_linear 56 [(0, vr 0), (1, vi l1)] [] x P X := by
  have hq := hu.1
  refine T_aload_n 0 (dk dtk_X11_linear 27 rfl) rfl rfl ?_
  obtain ⟨u1, eu1⟩ : ∃ z, z = (kf q).1 0 8 := ⟨_, rfl⟩
  have h := h u1 eu1
  refine T_getO 0 8 (dk dtk_X11_linear 28 rfl) kfl_X11_280 kk_0 (kl_0 hq) (by decide) rfl ?_
  rw [← eu1]
  refine T_aload_n 0 (dk dtk_X11_linear 29 rfl) rfl rfl ?_
  refine T_getR 0 5 160 (dk dtk_X11_linear 30 rfl) kfl_X11_53 kk_0 (kl_0 hq) (by decide) rfl kr_0_5 ?_
  obtain ⟨rfl, hh, h⟩ := h
  refine KC_Vv [vr 160] [] rfl (dk dtk_X11_linear 31 rfl) kcv_X11_285 rfl kk_180 rfl (kl_180 hq hh) (Nat.le_of_ble_eq_true rfl) (Nat.le_of_ble_eq_true rfl) (gok_i (av_c (gkr (kl_0 hq)) (av_c rfl av_n)) as_n) rfl h (fun x2 h => ?_)
  refine T_aload_n 0 (dk dtk_X11_linear 32 rfl) rfl rfl ?_
  obtain ⟨u3, eu3⟩ : ∃ z, z = (kf q).1 0 8 := ⟨_, rfl⟩
  have h := h u3 eu3
  refine T_getO 0 8 (dk dtk_X11_linear 33 rfl) kfl_X11_280 kk_0 (kl_0 hq) (by decide) rfl ?_
  rw [← eu3]
  refine T_iload_n 1 (dk dtk_X11_linear 34 rfl) rfl rfl ?_
  obtain ⟨rfl, hh, h⟩ := h
  refine T_sub (lv2 := []) [] rfl ?_
  refine KC_Vi [vi l1] [] rfl (dk dtk_X11_linear 35 rfl) kcv_X11_289 rfl kk_180 rfl (kl_180 hq hh) (Nat.le_of_ble_eq_true rfl) (Nat.le_of_ble_eq_true rfl) (gok_i av_n as_n) rfl h (fun r5 x4 h => ?_)
  refine T_istore_n (lv2 := [(2, vi r5)]) (dk dtk_X11_linear 36 rfl) rfl (by decide) rfl ?_
  refine T_iload_n 0 (dk dtk_X11_linear 37 rfl) rfl rfl ?_
  refine T_iconst (v := (-1)) (dk dtk_X11_linear 38 rfl) (by decide +kernel) ?_
  refine T_icmp_ne 85 (dk dtk_X11_linear 39 rfl) (by decide) (fun c6 => ?_) (fun c6 => ?_)
  · have h := h.1 c6
    refine T_bipush (v := (-2)) (dk dtk_X11_linear 42 rfl) (by decide +kernel) ?_
    refine T_iload_n 0 (dk dtk_X11_linear 43 rfl) rfl rfl ?_
    refine T_isub (dk dtk_X11_linear 44 rfl) ?_
    exact KM_iret (dk dtk_X11_linear 45 rfl) rfl rfl h
  · have h := h.2 c6
    refine T_iconst (v := 1) (dk dtk_X11_linear 40 rfl) (by decide +kernel) ?_
    refine T_goto 89 (dk dtk_X11_linear 41 rfl) (by decide) ?_
    exact KM_iret (dk dtk_X11_linear 45 rfl) rfl rfl h
set_option maxRecDepth 100000 in
set_option maxHeartbeats 4000000 in
theorem kg_X11_attempt_0 {G : kG} {q : kP} {d : Nat} {x : gd} {P : Option gv → gd → kP → Prop} {X : String → gd → kP → Prop} (hu : kU q) (l1 : Int32) (l2 : Int32)
    (h : KE G q (d + 6) zk_X11_needCompiled 0 [(0, vr 0)] [] x (rv (fun x1 => KE G q (d + 6) zk_X11_needWay 0 [(0, vi l1)] [] x1 (rv (fun x2 => ((l2 < (1 : Int32) → KM G q (d + 7) zk_X11_attempt 20 [] [] x2 P X) ∧ (¬ (l2 < (1 : Int32)) → ((l2 ≤ (3000 : Int32) → (∀ u5, u5 = (kf q).1 0 7 → ((u5 = none → q.ex = false ∧ (∀ q8 x9, q8 = kEx q → x9 = xops (znew x2 200) ops_200 → kU q8 → kle q q8 → KM G q8 (d + 7) zk_X11_attempt 53 [(0, vr 0), (1, vi l1), (2, vi l2)] [] x9 P X)) ∧ (∀ c7, u5 = some c7 → KM G q (d + 7) zk_X11_attempt 53 [(0, vr 0), (1, vi l1), (2, vi l2)] [] x2 P X)))) ∧ (¬ (l2 ≤ (3000 : Int32)) → KM G q (d + 7) zk_X11_attempt 20 [] [] x2 P X)))))) (fun c9 x9 => X c9 x9 q))) (fun c9 x9 => X c9 x9 q)) :
    KM G q (d + 7) zk_X11_attempt 0 [(0, vr 0), (1, vi l1), (2, vi l2)] [] x P X := by
  have hq := hu.1
  refine T_aload_n 0 (dk dtk_X11_attempt 0 rfl) rfl rfl ?_
  refine KN_Vv [] [] rfl (dk dtk_X11_attempt 1 rfl) kcv_X11_148 rfl kk_0 rfl (kl_0 hq) (Nat.le_of_ble_eq_true rfl) (Nat.le_of_ble_eq_true rfl) (gok_i (av_c (gkr (kl_0 hq)) (av_c rfl (av_c rfl av_n))) as_n) rfl h (fun x1 h => ?_)
  refine T_iload_n 1 (dk dtk_X11_attempt 2 rfl) rfl rfl ?_
  refine KN_Sv [vi l1] [] rfl (dk dtk_X11_attempt 3 rfl) kcs_X11_151 rfl (Nat.le_of_ble_eq_true rfl) (Nat.le_of_ble_eq_true rfl) (gok_i (av_c (gkr (kl_0 hq)) (av_c rfl (av_c rfl av_n))) as_n) rfl h (fun x2 h => ?_)
  refine T_iload_n 2 (dk dtk_X11_attempt 4 rfl) rfl rfl ?_
  refine T_iconst (v := 1) (dk dtk_X11_attempt 5 rfl) (by decide +kernel) ?_
  refine T_icmp_lt 20 (dk dtk_X11_attempt 6 rfl) (by decide) (fun c3 => ?_) (fun c3 => ?_)
  · have h := h.1 c3
    exact T_sub [] rfl h
  · have h := h.2 c3
    refine T_iload_n 2 (dk dtk_X11_attempt 7 rfl) rfl rfl ?_
    refine T_sipush (v := 3000) (dk dtk_X11_attempt 8 rfl) (by decide +kernel) ?_
    refine T_icmp_le 31 (dk dtk_X11_attempt 9 rfl) (by decide) (fun c4 => ?_) (fun c4 => ?_)
    · have h := h.1 c4
      refine T_aload_n 0 (dk dtk_X11_attempt 15 rfl) rfl rfl ?_
      obtain ⟨u5, eu5⟩ : ∃ z, z = (kf q).1 0 7 := ⟨_, rfl⟩
      have h := h u5 eu5
      refine T_getO 0 7 (dk dtk_X11_attempt 16 rfl) kfl_X11_294 kk_0 (kl_0 hq) (by decide) rfl ?_
      rw [← eu5]
      refine T_ifnonnull 53 (dk dtk_X11_attempt 17 rfl) (by decide) (fun c7 c6 => ?_) (fun c6 => ?_)
      · have h := h.2 c7 c6
        exact h
      · have h := h.1 c6
        refine T_aload_n 0 (dk dtk_X11_attempt 18 rfl) rfl rfl ?_
        obtain ⟨h0, h⟩ := h
        obtain ⟨q8, eq8⟩ : ∃ z, z = kEx q := ⟨_, rfl⟩
        obtain ⟨x9, ex9⟩ : ∃ z, z = xops (znew x2 200) ops_200 := ⟨_, rfl⟩
        have hu2 : kU q8 := by rw [eq8]; exact kEx_U hu h0
        have hle : kle q q8 := by rw [eq8]; exact kEx_le h0
        have h := h q8 x9 eq8 ex9 hu2 hle
        refine T_mkE (d := d + 3) hu h0 (gok_i (av_c (gkr (kl_0 hq)) (av_c rfl (av_c rfl av_n))) (as_c (gkr (kl_0 hq)) as_n)) rfl ?_
        rw [← eq8, ← ex9]
        have hu := hu2
        have hq := hu.1
        exact h
    · have h := h.2 c4
      exact T_sub [] rfl h
set_option maxRecDepth 100000 in
set_option maxHeartbeats 4000000 in
theorem kg_X11_attempt_20 {G : kG} {q : kP} {d : Nat} {x : gd} {P : Option gv → gd → kP → Prop} {X : String → gd → kP → Prop} (hu : kU q) 
    (h : X iAE x q) :
    KM G q (d + 7) zk_X11_attempt 20 [] [] x P X := by
  have hq := hu.1
  exact T_thrW kth_X11_70_292 (dk dtk_X11_attempt 10 rfl) (dk dtk_X11_attempt 11 rfl) (dk dtk_X11_attempt 12 rfl) (dk dtk_X11_attempt 13 rfl) (dk dtk_X11_attempt 14 rfl) (by intro z hz; cases hz) (by omega) (Nat.le_of_ble_eq_true rfl) ⟨_, Or.inr ⟨rfl, _, rfl, h⟩⟩
set_option maxRecDepth 100000 in
set_option maxHeartbeats 4000000 in
theorem kg_X11_attempt_53 {G : kG} {q : kP} {d : Nat} {x : gd} {P : Option gv → gd → kP → Prop} {X : String → gd → kP → Prop} (hu : kU q) (l1 : Int32) (l2 : Int32)
    (h : vp_in l1 2 ∧ (∀ u2, u2 = (kf q).1 7 (l1 : Int32).toNatClampNeg → ((u2 = none → vp_in l1 2 ∧ (((l1 : Int32).toNatClampNeg = 0 → q.t0 = false ∧ (∀ q5 x6, q5 = kT0 q → x6 = xops (znew x 260) ops_260 → kU q5 → kle q q5 → KM G q5 (d + 7) zk_X11_attempt 75 [(0, vr 0), (1, vi l1), (2, vi l2)] [] x6 P X)) ∧ ((l1 : Int32).toNatClampNeg = 1 → q.t1 = false ∧ (∀ q7 x8, q7 = kT1 q → x8 = xops (znew x 280) ops_280 → kU q7 → kle q q7 → KM G q7 (d + 7) zk_X11_attempt 75 [(0, vr 0), (1, vi l1), (2, vi l2)] [] x8 P X)))) ∧ (∀ c4, u2 = some c4 → KM G q (d + 7) zk_X11_attempt 75 [(0, vr 0), (1, vi l1), (2, vi l2)] [] x P X)))) :
    KM G q (d + 7) zk_X11_attempt 53 [(0, vr 0), (1, vi l1), (2, vi l2)] [] x P X := by
  have hq := hu.1
  refine T_aload_n 0 (dk dtk_X11_attempt 25 rfl) rfl rfl ?_
  refine T_getR 0 6 7 (dk dtk_X11_attempt 26 rfl) kfl_X11_59 kk_0 (kl_0 hq) (by decide) rfl kr_0_6 ?_
  refine T_iload_n 1 (dk dtk_X11_attempt 27 rfl) rfl rfl ?_
  obtain ⟨h1, h⟩ := h
  obtain ⟨u2, eu2⟩ : ∃ z, z = (kf q).1 7 (l1 : Int32).toNatClampNeg := ⟨_, rfl⟩
  have h := h u2 eu2
  refine T_aaldT 7 2 (dk dtk_X11_attempt 28 rfl) kk_7 (kl_7 hq) h1 ?_
  rw [← eu2]
  refine T_ifnonnull 75 (dk dtk_X11_attempt 29 rfl) (by decide) (fun c4 c3 => ?_) (fun c3 => ?_)
  · have h := h.2 c4 c3
    exact h
  · have h := h.1 c3
    refine T_aload_n 0 (dk dtk_X11_attempt 30 rfl) rfl rfl ?_
    refine T_getR 0 6 7 (dk dtk_X11_attempt 31 rfl) kfl_X11_59 kk_0 (kl_0 hq) (by decide) rfl kr_0_6 ?_
    refine T_iload_n 1 (dk dtk_X11_attempt 32 rfl) rfl rfl ?_
    obtain ⟨hin9, h⟩ := h
    have hc9 : (l1 : Int32).toNatClampNeg = 0 ∨ (l1 : Int32).toNatClampNeg = 1 := by have := vp_lt hin9; omega
    rcases hc9 with hi9 | hi9
    · obtain ⟨h0, h⟩ := h.1 hi9
      obtain ⟨q5, eq5⟩ : ∃ z, z = kT0 q := ⟨_, rfl⟩
      obtain ⟨x6, ex6⟩ : ∃ z, z = xops (znew x 260) ops_260 := ⟨_, rfl⟩
      have hu2 : kU q5 := by rw [eq5]; exact kT0_U hu h0
      have hle : kle q q5 := by rw [eq5]; exact kT0_le h0
      have h := h q5 x6 eq5 ex6 hu2 hle
      refine T_mkT0 (d := d + 5) hu h0 hi9 hin9 (gok_i (av_c (gkr (kl_0 hq)) (av_c rfl (av_c rfl av_n))) (as_c rfl (as_c (gkr (kl_7 hq)) as_n))) ?_
      rw [← eq5, ← ex6]
      have hu := hu2
      have hq := hu.1
      exact h
    · obtain ⟨h0, h⟩ := h.2 hi9
      obtain ⟨q7, eq7⟩ : ∃ z, z = kT1 q := ⟨_, rfl⟩
      obtain ⟨x8, ex8⟩ : ∃ z, z = xops (znew x 280) ops_280 := ⟨_, rfl⟩
      have hu2 : kU q7 := by rw [eq7]; exact kT1_U hu h0
      have hle : kle q q7 := by rw [eq7]; exact kT1_le h0
      have h := h q7 x8 eq7 ex8 hu2 hle
      refine T_mkT1 (d := d + 5) hu h0 hi9 hin9 (gok_i (av_c (gkr (kl_0 hq)) (av_c rfl (av_c rfl av_n))) (as_c rfl (as_c (gkr (kl_7 hq)) as_n))) ?_
      rw [← eq7, ← ex8]
      have hu := hu2
      have hq := hu.1
      exact h
set_option maxRecDepth 100000 in
set_option maxHeartbeats 4000000 in
theorem kg_X11_attempt_75 {G : kG} {q : kP} {d : Nat} {x : gd} {P : Option gv → gd → kP → Prop} {X : String → gd → kP → Prop} (hu : kU q) (l1 : Int32) (l2 : Int32)
    (h : (∀ u1, u1 = (kf q).1 0 7 → vp_in l1 2 ∧ (∀ u3, u3 = (kf q).1 7 (l1 : Int32).toNatClampNeg → ∃ c4, u3 = some c4 ∧ kiT q c4 ∧ u1 = some 200 ∧ q.ex = true ∧ KM G q (d + 6) zk_X2_explore 0 [(0, vr 200), (1, vi l1), (2, vi l2), (3, vr c4)] [] x (rm q (fun x6 q7 => vp_in l1 2 ∧ (∀ u9, u9 = (kf q7).1 7 (l1 : Int32).toNatClampNeg → ∃ c10, u9 = some c10 ∧ kiT q7 c10 ∧ P (some (vi (x6.1 c10 0))) x6 q7))) X))) :
    KM G q (d + 7) zk_X11_attempt 75 [(0, vr 0), (1, vi l1), (2, vi l2)] [] x P X := by
  have hq := hu.1
  refine T_aload_n 0 (dk dtk_X11_attempt 37 rfl) rfl rfl ?_
  obtain ⟨u1, eu1⟩ : ∃ z, z = (kf q).1 0 7 := ⟨_, rfl⟩
  have h := h u1 eu1
  refine T_getO 0 7 (dk dtk_X11_attempt 38 rfl) kfl_X11_294 kk_0 (kl_0 hq) (by decide) rfl ?_
  rw [← eu1]
  refine T_iload_n 1 (dk dtk_X11_attempt 39 rfl) rfl rfl ?_
  refine T_iload_n 2 (dk dtk_X11_attempt 40 rfl) rfl rfl ?_
  refine T_aload_n 0 (dk dtk_X11_attempt 41 rfl) rfl rfl ?_
  refine T_getR 0 6 7 (dk dtk_X11_attempt 42 rfl) kfl_X11_59 kk_0 (kl_0 hq) (by decide) rfl kr_0_6 ?_
  refine T_iload_n 1 (dk dtk_X11_attempt 43 rfl) rfl rfl ?_
  obtain ⟨h2, h⟩ := h
  obtain ⟨u3, eu3⟩ : ∃ z, z = (kf q).1 7 (l1 : Int32).toNatClampNeg := ⟨_, rfl⟩
  have h := h u3 eu3
  refine T_aaldT 7 2 (dk dtk_X11_attempt 44 rfl) kk_7 (kl_7 hq) h2 ?_
  rw [← eu3]
  obtain ⟨c4, rfl, g5, h⟩ := h
  obtain ⟨rfl, he, h⟩ := h
  refine T_sub (lv2 := [(0, vr 0), (1, vi l1)]) [0, 1] rfl ?_
  refine KM_Vv [vi l1, vi l2, vr c4] [] rfl (dk dtk_X11_attempt 45 rfl) kcv_X11_302 rfl kk_200 rfl (kl_200 hq he) (Nat.le_of_ble_eq_true rfl) (Nat.le_of_ble_eq_true rfl) (gok_i (av_c (gkr (kl_0 hq)) (av_c rfl av_n)) as_n) rfl h (fun x6 q7 hu hle h => ?_)
  have hq := hu.1
  have g5 := kle_T hle g5
  have he := hle.2.1.2.1 he
  refine T_aload_n 0 (dk dtk_X11_attempt 46 rfl) rfl rfl ?_
  refine T_getR 0 6 7 (dk dtk_X11_attempt 47 rfl) kfl_X11_59 kk_0 (kl_0 hq) (by decide) rfl kr_0_6 ?_
  refine T_iload_n 1 (dk dtk_X11_attempt 48 rfl) rfl rfl ?_
  obtain ⟨h8, h⟩ := h
  obtain ⟨u9, eu9⟩ : ∃ z, z = (kf q7).1 7 (l1 : Int32).toNatClampNeg := ⟨_, rfl⟩
  have h := h u9 eu9
  refine T_aaldT 7 2 (dk dtk_X11_attempt 49 rfl) kk_7 (kl_7 hq) h8 ?_
  rw [← eu9]
  obtain ⟨c10, rfl, g11, h⟩ := h
  refine T_getI c10 0 (dk dtk_X11_attempt 50 rfl) kfl_X11_306 (kk_T0 g11) (kl_T0 hq g11) (by decide) rfl ?_
  exact KM_iret (dk dtk_X11_attempt 51 rfl) rfl rfl h
set_option maxRecDepth 100000 in
set_option maxHeartbeats 4000000 in
theorem kg_X11_compile_0 {G : kG} {q : kP} {d : Nat} {x : gd} {P : Option gv → gd → kP → Prop} {X : String → gd → kP → Prop} (hu : kU q) 
    (h : KT G q d zk_X11_forgetAll 0 [(0, vr 0)] [] x (rv (fun x1 => KT G q d zk_X9_cut 0 [(0, vr 20)] [] x1 (rv (fun x2 => KE G q d zk_X7_readAll 0 [(0, vr 100)] [] x2 (rv (fun x3 => KT G q d zk_X6_judge 0 [(0, vr 40)] [] x3 (ri (fun r5 x4 => KM G q (d + 1) zk_X11_compile 58 [(0, vr 0), (1, vi r5), (2, vi (x4.1 40 11))] [] x4 P X)))) (fun c9 x9 => c9 = iSE ∧ KM G (kTh q) (d + 1) zk_X11_compile 42 [(0, vr 0)] [] x9 P X)))))) :
    KM G q (d + 1) zk_X11_compile 0 [(0, vr 0)] [] x P X := by
  have hq := hu.1
  refine T_aload_n 0 (dk dtk_X11_compile 0 rfl) rfl rfl ?_
  refine KH_Vv [] [] rfl (dk dtk_X11_compile 1 rfl) kcv_X11_86 rfl kk_0 rfl (kl_0 hq) (Nat.le_of_ble_eq_true rfl) (Nat.le_of_ble_eq_true rfl) (gok_i (av_c (gkr (kl_0 hq)) av_n) as_n) (by intro z hz; cases hz with | head => rfl | tail _ hz => cases hz) h (fun x1 h => ?_)
  refine T_aload_n 0 (dk dtk_X11_compile 2 rfl) rfl rfl ?_
  refine T_getR 0 0 20 (dk dtk_X11_compile 3 rfl) kfl_X11_10 kk_0 (kl_0 hq) (by decide) rfl kr_0_0 ?_
  refine KH_Vv [] [] rfl (dk dtk_X11_compile 4 rfl) kcv_X11_89 rfl kk_20 rfl (kl_20 hq) (Nat.le_of_ble_eq_true rfl) (Nat.le_of_ble_eq_true rfl) (gok_i (av_c (gkr (kl_0 hq)) av_n) as_n) (by intro z hz; cases hz with | head => rfl | tail _ hz => cases hz) h (fun x2 h => ?_)
  refine T_iconst (v := 0) (dk dtk_X11_compile 5 rfl) (by decide +kernel) ?_
  refine T_istore_n (lv2 := [(1, vi 0), (0, vr 0)]) (dk dtk_X11_compile 6 rfl) rfl (by decide) rfl ?_
  refine T_iconst (v := (-1)) (dk dtk_X11_compile 7 rfl) (by decide +kernel) ?_
  refine T_istore_n (lv2 := [(2, vi (-1)), (1, vi 0), (0, vr 0)]) (dk dtk_X11_compile 8 rfl) rfl (by decide) rfl ?_
  refine T_aload_n 2 (dk dtk_X11_compile 9 rfl) rfl rfl ?_
  refine T_getR 0 3 100 (dk dtk_X11_compile 10 rfl) kfl_X11_37 kk_0 (kl_0 hq) (by decide) rfl kr_0_3 ?_
  refine T_sub (lv2 := [(0, vr 0)]) [2] rfl ?_
  refine KJ_cat [] [] rfl (dk dtk_X11_compile 11 rfl) kcv_X11_92 rfl kk_100 rfl (kl_100 hq) (Nat.le_of_ble_eq_true rfl) (Nat.le_of_ble_eq_true rfl) (gok_i (av_c (gkr (kl_0 hq)) av_n) as_n) rfl rfl rfl h (fun x3 h => ?_)
  refine T_aload_n 0 (dk dtk_X11_compile 12 rfl) rfl rfl ?_
  refine T_getR 0 1 40 (dk dtk_X11_compile 13 rfl) kfl_X11_21 kk_0 (kl_0 hq) (by decide) rfl kr_0_1 ?_
  refine KJ_Vi [] [] rfl (dk dtk_X11_compile 14 rfl) kcv_X11_95 rfl kk_40 rfl (kl_40 hq) (Nat.le_of_ble_eq_true rfl) (Nat.le_of_ble_eq_true rfl) (gok_i (av_c (gkr (kl_0 hq)) av_n) as_n) rfl rfl rfl h (fun r5 x4 h => ?_)
  refine T_istore_n (lv2 := [(1, vi r5), (0, vr 0)]) (dk dtk_X11_compile 15 rfl) rfl (by decide) rfl ?_
  refine T_aload_n 1 (dk dtk_X11_compile 16 rfl) rfl rfl ?_
  refine T_getR 0 1 40 (dk dtk_X11_compile 17 rfl) kfl_X11_21 kk_0 (kl_0 hq) (by decide) rfl kr_0_1 ?_
  refine T_getI 40 11 (dk dtk_X11_compile 18 rfl) kfl_X11_99 kk_40 (kl_40 hq) (by decide) rfl ?_
  refine T_istore_n (lv2 := [(2, vi (x4.1 40 11)), (1, vi r5), (0, vr 0)]) (dk dtk_X11_compile 19 rfl) rfl (by decide) rfl ?_
  refine T_goto 58 (dk dtk_X11_compile 20 rfl) (by decide) ?_
  exact T_sub [2, 1, 0] rfl h
set_option maxRecDepth 100000 in
set_option maxHeartbeats 4000000 in
theorem kg_X11_compile_42 {G : kG} {q : kP} {d : Nat} {x : gd} {P : Option gv → gd → kP → Prop} {X : String → gd → kP → Prop} (hu : kU q) 
    (h : KT G q d zk_X7_tokenHere 0 [(0, vr 100)] [] x (ri (fun r2 x1 => KM G q (d + 1) zk_X11_compile 58 [(0, vr 0), (1, vi (x.1 100 6)), (2, vi r2)] [] x1 P X))) :
    KM G q (d + 1) zk_X11_compile 42 [(0, vr 0)] [] x P X := by
  have hq := hu.1
  refine T_aload_n 0 (dk dtk_X11_compile 22 rfl) rfl rfl ?_
  refine T_getR 0 3 100 (dk dtk_X11_compile 23 rfl) kfl_X11_37 kk_0 (kl_0 hq) (by decide) rfl kr_0_3 ?_
  refine T_getI 100 6 (dk dtk_X11_compile 24 rfl) kfl_X11_104 kk_100 (kl_100 hq) (by decide) rfl ?_
  refine T_istore_n (lv2 := [(1, vi (x.1 100 6)), (0, vr 0)]) (dk dtk_X11_compile 25 rfl) rfl (by decide) rfl ?_
  refine T_aload_n 1 (dk dtk_X11_compile 26 rfl) rfl rfl ?_
  refine T_getR 0 3 100 (dk dtk_X11_compile 27 rfl) kfl_X11_37 kk_0 (kl_0 hq) (by decide) rfl kr_0_3 ?_
  refine KH_Vi [] [] rfl (dk dtk_X11_compile 28 rfl) kcv_X11_107 rfl kk_100 rfl (kl_100 hq) (Nat.le_of_ble_eq_true rfl) (Nat.le_of_ble_eq_true rfl) (gok_i (av_c rfl (av_c (gkr (kl_0 hq)) av_n)) as_n) (by intro z hz; cases hz with | head => rfl | tail _ hz => cases hz) h (fun r2 x1 h => ?_)
  refine T_istore_n (lv2 := [(2, vi r2), (1, vi (x.1 100 6)), (0, vr 0)]) (dk dtk_X11_compile 29 rfl) rfl (by decide) rfl ?_
  exact T_sub [2, 1, 0] rfl h
set_option maxRecDepth 100000 in
set_option maxHeartbeats 4000000 in
theorem kg_X11_compile_58 {G : kG} {q : kP} {d : Nat} {x : gd} {P : Option gv → gd → kP → Prop} {X : String → gd → kP → Prop} (hu : kU q) (l1 : Int32) (l2 : Int32)
    (h : ((¬ (l1 = (0 : Int32)) → KM G q (d + 1) zk_X11_compile 68 [(0, vr 0), (1, vi l1), (2, vi l2)] [vi 0, vr 0] x P X) ∧ (l1 = (0 : Int32) → KM G q (d + 1) zk_X11_compile 68 [(0, vr 0), (1, vi l1), (2, vi l2)] [vi 1, vr 0] x P X))) :
    KM G q (d + 1) zk_X11_compile 58 [(0, vr 0), (1, vi l1), (2, vi l2)] [] x P X := by
  have hq := hu.1
  refine T_aload_n 0 (dk dtk_X11_compile 30 rfl) rfl rfl ?_
  refine T_iload_n 1 (dk dtk_X11_compile 31 rfl) rfl rfl ?_
  refine T_if_ne 67 (dk dtk_X11_compile 32 rfl) (by decide) (fun c1 => ?_) (fun c1 => ?_)
  · have h := h.1 c1
    refine T_iconst (v := 0) (dk dtk_X11_compile 35 rfl) (by decide +kernel) ?_
    exact h
  · have h := h.2 c1
    refine T_iconst (v := 1) (dk dtk_X11_compile 33 rfl) (by decide +kernel) ?_
    refine T_goto 68 (dk dtk_X11_compile 34 rfl) (by decide) ?_
    exact h
set_option maxRecDepth 100000 in
set_option maxHeartbeats 4000000 in
theorem kg_X11_compile_68 {G : kG} {q : kP} {d : Nat} {x : gd} {P : Option gv → gd → kP → Prop} {X : String → gd → kP → Prop} (hu : kU q) (l1 : Int32) (l2 : Int32) (s0 : Int32)
    (h : gbool s0 ∧ (∀ x1 : gd, x1 = si x 0 9 s0 → (((x1.1 0 9) = (0 : Int32) → vp_in l2 702 ∧ KM G q (d + 1) zk_X11_compile 92 [(0, vr 0), (1, vi l1), (2, vi l2)] [vi (x1.1 24 (l2 : Int32).toNatClampNeg), vr 0] x1 P X) ∧ (¬ ((x1.1 0 9) = (0 : Int32)) → KM G q (d + 1) zk_X11_compile 92 [(0, vr 0), (1, vi l1), (2, vi l2)] [vi (-1), vr 0] x1 P X)))) :
    KM G q (d + 1) zk_X11_compile 68 [(0, vr 0), (1, vi l1), (2, vi l2)] [vi s0, vr 0] x P X := by
  have hq := hu.1
  obtain ⟨h2, h⟩ := h
  obtain ⟨x1, ex1⟩ : ∃ z, z = si x 0 9 s0 := ⟨_, rfl⟩
  have h := h x1 ex1
  refine T_putI 0 9 (dk dtk_X11_compile 36 rfl) kfl_X11_110 kk_0 (kl_0 hq) (by decide) rfl h2 ?_
  rw [← ex1]
  refine T_aload_n 0 (dk dtk_X11_compile 37 rfl) rfl rfl ?_
  refine T_aload_n 0 (dk dtk_X11_compile 38 rfl) rfl rfl ?_
  refine T_getI 0 9 (dk dtk_X11_compile 39 rfl) kfl_X11_110 kk_0 (kl_0 hq) (by decide) rfl ?_
  refine T_if_eq 83 (dk dtk_X11_compile 40 rfl) (by decide) (fun c3 => ?_) (fun c3 => ?_)
  · have h := h.1 c3
    refine T_aload_n 0 (dk dtk_X11_compile 43 rfl) rfl rfl ?_
    refine T_getR 0 0 20 (dk dtk_X11_compile 44 rfl) kfl_X11_10 kk_0 (kl_0 hq) (by decide) rfl kr_0_0 ?_
    refine T_getR 20 3 24 (dk dtk_X11_compile 45 rfl) kfl_X11_114 kk_20 (kl_20 hq) (by decide) rfl kr_20_3 ?_
    refine T_iload_n 2 (dk dtk_X11_compile 46 rfl) rfl rfl ?_
    obtain ⟨h4, h⟩ := h
    refine T_iald 24 702 (dk dtk_X11_compile 47 rfl) kk_24 (kl_24 hq) h4 ?_
    exact h
  · have h := h.2 c3
    refine T_iconst (v := (-1)) (dk dtk_X11_compile 41 rfl) (by decide +kernel) ?_
    refine T_goto 92 (dk dtk_X11_compile 42 rfl) (by decide) ?_
    exact h
set_option maxRecDepth 100000 in
set_option maxHeartbeats 4000000 in
theorem kg_X11_compile_92 {G : kG} {q : kP} {d : Nat} {x : gd} {P : Option gv → gd → kP → Prop} {X : String → gd → kP → Prop} (hu : kU q) (l1 : Int32) (l2 : Int32) (s0 : Int32)
    (h : (∀ x1 : gd, x1 = si x 0 11 s0 → (((x1.1 0 9) = (0 : Int32) → vp_in l2 702 ∧ KM G q (d + 1) zk_X11_compile 116 [(0, vr 0), (1, vi l1)] [vi (x1.1 25 (l2 : Int32).toNatClampNeg), vr 0] x1 P X) ∧ (¬ ((x1.1 0 9) = (0 : Int32)) → KM G q (d + 1) zk_X11_compile 116 [(0, vr 0), (1, vi l1)] [vi (-1), vr 0] x1 P X)))) :
    KM G q (d + 1) zk_X11_compile 92 [(0, vr 0), (1, vi l1), (2, vi l2)] [vi s0, vr 0] x P X := by
  have hq := hu.1
  obtain ⟨x1, ex1⟩ : ∃ z, z = si x 0 11 s0 := ⟨_, rfl⟩
  have h := h x1 ex1
  refine T_putI 0 11 (dk dtk_X11_compile 48 rfl) kfl_X11_63 kk_0 (kl_0 hq) (by decide) rfl ⟨rfl, rfl⟩ ?_
  rw [← ex1]
  refine T_aload_n 0 (dk dtk_X11_compile 49 rfl) rfl rfl ?_
  refine T_aload_n 0 (dk dtk_X11_compile 50 rfl) rfl rfl ?_
  refine T_getI 0 9 (dk dtk_X11_compile 51 rfl) kfl_X11_110 kk_0 (kl_0 hq) (by decide) rfl ?_
  refine T_if_eq 107 (dk dtk_X11_compile 52 rfl) (by decide) (fun c2 => ?_) (fun c2 => ?_)
  · have h := h.1 c2
    refine T_aload_n 0 (dk dtk_X11_compile 55 rfl) rfl rfl ?_
    refine T_getR 0 0 20 (dk dtk_X11_compile 56 rfl) kfl_X11_10 kk_0 (kl_0 hq) (by decide) rfl kr_0_0 ?_
    refine T_getR 20 4 25 (dk dtk_X11_compile 57 rfl) kfl_X11_118 kk_20 (kl_20 hq) (by decide) rfl kr_20_4 ?_
    refine T_iload_n 2 (dk dtk_X11_compile 58 rfl) rfl rfl ?_
    obtain ⟨h3, h⟩ := h
    refine T_iald 25 702 (dk dtk_X11_compile 59 rfl) kk_25 (kl_25 hq) h3 ?_
    exact T_sub [0, 1] rfl h
  · have h := h.2 c2
    refine T_iconst (v := (-1)) (dk dtk_X11_compile 53 rfl) (by decide +kernel) ?_
    refine T_goto 116 (dk dtk_X11_compile 54 rfl) (by decide) ?_
    exact T_sub [0, 1] rfl h
set_option maxRecDepth 100000 in
set_option maxHeartbeats 4000000 in
theorem kg_X11_compile_116 {G : kG} {q : kP} {d : Nat} {x : gd} {P : Option gv → gd → kP → Prop} {X : String → gd → kP → Prop} (hu : kU q) (l1 : Int32) (s0 : Int32)
    (h : (∀ x1 : gd, x1 = si x 0 12 s0 → ((¬ ((x1.1 0 9) = (0 : Int32)) → KT G q d zk_X7_link 0 [(0, vr 100)] [] x1 (rv (fun x3 => P (some (vi (x3.1 60 10))) x3 q))) ∧ ((x1.1 0 9) = (0 : Int32) → P (some (vi (-l1))) x1 q)))) :
    KM G q (d + 1) zk_X11_compile 116 [(0, vr 0), (1, vi l1)] [vi s0, vr 0] x P X := by
  have hq := hu.1
  obtain ⟨x1, ex1⟩ : ∃ z, z = si x 0 12 s0 := ⟨_, rfl⟩
  have h := h x1 ex1
  refine T_putI 0 12 (dk dtk_X11_compile 60 rfl) kfl_X11_67 kk_0 (kl_0 hq) (by decide) rfl ⟨rfl, rfl⟩ ?_
  rw [← ex1]
  refine T_aload_n 0 (dk dtk_X11_compile 61 rfl) rfl rfl ?_
  refine T_getI 0 9 (dk dtk_X11_compile 62 rfl) kfl_X11_110 kk_0 (kl_0 hq) (by decide) rfl ?_
  refine T_if_ne 129 (dk dtk_X11_compile 63 rfl) (by decide) (fun c2 => ?_) (fun c2 => ?_)
  · have h := h.1 c2
    refine T_aload_n 0 (dk dtk_X11_compile 67 rfl) rfl rfl ?_
    refine T_getR 0 3 100 (dk dtk_X11_compile 68 rfl) kfl_X11_37 kk_0 (kl_0 hq) (by decide) rfl kr_0_3 ?_
    refine T_sub (lv2 := [(0, vr 0)]) [0] rfl ?_
    refine KH_Vv [] [] rfl (dk dtk_X11_compile 69 rfl) kcv_X11_121 rfl kk_100 rfl (kl_100 hq) (Nat.le_of_ble_eq_true rfl) (Nat.le_of_ble_eq_true rfl) (gok_i (av_c (gkr (kl_0 hq)) av_n) as_n) (by intro z hz; cases hz with | head => rfl | tail _ hz => cases hz) h (fun x3 h => ?_)
    refine T_aload_n 0 (dk dtk_X11_compile 70 rfl) rfl rfl ?_
    refine T_getR 0 2 60 (dk dtk_X11_compile 71 rfl) kfl_X11_28 kk_0 (kl_0 hq) (by decide) rfl kr_0_2 ?_
    refine T_getI 60 10 (dk dtk_X11_compile 72 rfl) kfl_X11_124 kk_60 (kl_60 hq) (by decide) rfl ?_
    exact KM_iret (dk dtk_X11_compile 73 rfl) rfl rfl h
  · have h := h.2 c2
    refine T_iload_n 1 (dk dtk_X11_compile 64 rfl) rfl rfl ?_
    refine T_ineg (dk dtk_X11_compile 65 rfl) ?_
    exact KM_iret (dk dtk_X11_compile 66 rfl) rfl rfl h
