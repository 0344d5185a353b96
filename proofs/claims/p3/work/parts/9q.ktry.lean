/-! the class: a state is looked at; the trying itself -/
def sVi (o c k : Nat) : Prop := (c = o ∧ (k = 2 ∨ k = 3 ∨ k = 5)) ∨ c = o + 7 ∨ c = o + 14 ∨ 4000 ≤ c ∨ (c = 60 ∧ k = 5) ∨ c = 65
section KTY
variable {G : kG} {q q0 q1 : kP} {d : Nat} {x x0 y z : gd} {o : Nat} {F : Int32 → gd → Prop} {Fv : gd → Prop} {Fm : gd → kP → Prop} {X : String → gd → kP → Prop}
/-- what looking at a state keeps: the machine, what was told of the trying -/
def VI (x0 x : gd) (q : kP) (o : Nat) : Prop := fm (sVi o) x0 x ∧ MM x 220 ∧ TZ x o ∧ TO x q o
theorem VI_st (hO : o = 260 ∨ o = 280) (h : VI x0 x q o) (f : fm (fun c k => (c = o ∧ (k = 2 ∨ k = 5)) ∨ (c = 60 ∧ k = 5) ∨ c = 65) x y) : VI x0 y q o :=
  ⟨fm_tr h.1 (fm_w f (fun c k q => by unfold sVi; omega)), MM_ag (fun c k hc => f c k (by omega)) (fun k h1 h2 => f _ _ (by omega)) (fun k hk => f _ _ (by omega)) h.2.1, TZ_fm f (by omega) (fun c k hc => by omega) h.2.2.1, TO_fm f (by omega) (fun k => by omega) h.2.2.2⟩
theorem VI_fi (hO : o = 260 ∨ o = 280) (h : VI x0 x q o) (f : fm (fun c k => c = o + 7) x y) (hz : TZ y o) : VI x0 y q o :=
  ⟨fm_tr h.1 (fm_w f (fun c k q => by unfold sVi; omega)), MM_ag (fun c k hc => f c k (by omega)) (fun k h1 h2 => f _ _ (by omega)) (fun k hk => f _ _ (by omega)) h.2.1, hz, TO_fm f (by omega) (fun k => by omega) h.2.2.2⟩
theorem VI_ou (hO : o = 260 ∨ o = 280) (h : VI x0 x q o) (f : fm (sOu o) x y) (ht : TO y q1 o) : VI x0 y q1 o :=
  ⟨fm_tr h.1 (fm_w f (fun c k q => by unfold sOu at q; unfold sVi; omega)), MM_ag (fun c k hc => f c k (by unfold sOu; omega)) (fun k h1 h2 => f _ _ (by unfold sOu; omega)) (fun k hk => f _ _ (by unfold sOu; omega)) h.2.1, TZ_fm f (by unfold sOu; omega) (fun c k hc => by unfold sOu; omega) h.2.2.1, ht⟩
theorem VI_0 (hO : o = 260 ∨ o = 280) (h : VI x0 x q o) : x.1 o 0 = x0.1 o 0 ∧ (∀ c k, 60 ≤ c → c < 90 → ¬ (c = 60 ∧ k = 5) → c ≠ 65 → x.1 c k = x0.1 c k) := ⟨h.1 o 0 (by unfold sVi; omega), fun c k h1 h2 h3 h4 => h.1 c k (by unfold sVi; omega)⟩
theorem kx_inspectEnd (hu : kU q) (he : q.ex = true) (ho : kiT q o) (ht : q.et = some o) (hV : VI x0 x q o) (s : Int32) (hs : 0 ≤ s.toInt ∧ s.toInt < (x.1 o 0).toInt) (h : ∀ y q1, kU q1 → kle q q1 → q1.et = q.et → VI x0 y q1 o → Fm y q1) : KM G q (d + 4) zk_X2_inspectEnd 0 [(0, vr 200), (1, vi s)] [] x (rm q Fm) X := by
  have hO := iT_O ho
  have k1 : (1 : Int32).toInt = 1 := rfl
  have cl : 0 ≤ (x.1 60 6).toInt ∧ (x.1 60 6).toInt ≤ 24 := hV.2.1.1.1.1
  have cf : 0 ≤ (x.1 60 16).toInt ∧ (x.1 60 16).toInt ≤ 4 := hV.2.1.1.1.2.2.2.2.2
  refine kg_X2_inspectEnd_0 hu he s (fun u1 e1 => ⟨o, by rw [e1, et_r ht], ho, fun x4 e4 u5 e5 => ⟨o, by rw [e5, et_r ht], ho, ?_⟩⟩)
  have f4 : fm (fun c k => (c = o ∧ (k = 2 ∨ k = 5)) ∨ (c = 60 ∧ k = 5) ∨ c = 65) x x4 := by rw [e4]; exact fm_si (fm_rf _ _) (by omega)
  have hV4 := VI_st hO hV f4
  rw [f4 60 6 (by omega)]
  refine kt_addOutcome hu ho kk_225 (kl_225 hu.1 he) (by omega) _ hV4.2.2.2 cl (fun x8 q9 hu9 hl9 et9 f8 ht8 => ?_)
  have hV8 := VI_ou hO hV4 f8 ht8
  have ho9 := kle_T hl9 ho
  have he9 := hl9.2.1.2.1 he
  have ht9 : q9.et = some o := by rw [et9]; exact ht
  have e80 : x8.1 o 0 = x.1 o 0 := by rw [f8 o 0 (by unfold sOu; omega), f4 o 0 (by omega)]
  have e86 : x8.1 60 16 = x.1 60 16 := by rw [f8 60 16 (by unfold sOu; omega), f4 60 16 (by omega)]
  have loop : ∀ (m k : Nat) (i : Int32) (w : gd), i.toInt = k → (x.1 60 16).toInt - k ≤ m → VI x0 w q9 o → w.1 o 0 = x.1 o 0 → w.1 60 16 = x.1 60 16 → KM G q9 (d + 4) zk_X2_inspectEnd 57 [(0, vr 200), (1, vi s), (2, vi i)] [] w (rm q Fm) X := by
    intro m
    induction m with
    | zero =>
      intro k i w ei hm hw ew ew2
      refine kg_X2_inspectEnd_57 hu9 he9 s i ⟨fun _ => rm_i hu9 hl9 (h w q9 hu9 hl9 et9 hw), fun c => ?_⟩
      rw [t_le, ew2] at c; omega
    | succ m ih =>
      intro k i w ei hm hw ew ew2
      refine kg_X2_inspectEnd_57 hu9 he9 s i ⟨fun _ => rm_i hu9 hl9 (h w q9 hu9 hl9 et9 hw), fun c => ⟨?_, ?_⟩⟩
      · rw [t_le, ew2] at c; rw [vp_in_iff]; omega
      rw [t_le, ew2] at c
      have e1 : (i + 1).toInt = ((k + 1 : Nat) : Int) := by rw [t_add (by rw [k1]; omega) (by rw [k1]; omega), k1, ei]; rfl
      have e4 : (4 + i).toInt = ((4 + k : Nat) : Int) := by
        have k4 : (4 : Int32).toInt = 4 := rfl
        rw [t_add (by rw [k4]; omega) (by rw [k4]; omega), k4, ei]; push_cast; rfl
      refine kx_isFalse hu9.1 he9 hw.2.1.1 _ (fun r v gr fv => ?_)
      have fv2 : fm (fun c k => (c = o ∧ (k = 2 ∨ k = 5)) ∨ (c = 60 ∧ k = 5) ∨ c = 65) w v := fm_w fv (fun c k q => by unfold sWk at q; omega)
      have hv := VI_st hO hw fv2
      have ev : v.1 o 0 = x.1 o 0 := by rw [fv2 o 0 (by omega), ew]
      have ev2 : v.1 60 16 = x.1 60 16 := by rw [fv2 60 16 (by omega), ew2]
      refine ⟨fun _ => ih (k + 1) _ v e1 (by push_cast; omega) hv ev ev2, fun _ u6 e6 => ⟨o, by rw [e6, et_r ht9], ho9, kt_find hu9.1 ho9 _ _ e4 (by omega) hv.2.2.1 (by rw [ev]; exact hs) (fun t ft hzt => ?_)⟩⟩
      exact ih (k + 1) _ t e1 (by push_cast; omega) (VI_fi hO hv ft hzt) (by rw [ft o 0 (by omega), ev]) (by rw [ft 60 16 (by omega), ev2])
  refine rm_i hu9 hl9 (km_anyGoing hu9.1 (Or.inr ⟨rfl, he9⟩) hV8.2.1 (fun r => ⟨fun _ => loop 4 0 _ x8 rfl (by omega) hV8 e80 e86, fun _ u13 e13 => ⟨o, by rw [e13, et_r ht9], ho9, kt_find hu9.1 ho9 _ _ (Fn := 8) rfl (by omega) hV8.2.2.1 (by rw [e80]; exact hs) (fun t ft hzt => rm_i hu9 hl9 (h t q9 hu9 hl9 et9 (VI_fi hO hV8 ft hzt)))⟩⟩))
theorem kx_inspect (hu : kU q) (he : q.ex = true) (ho : kiT q o) (ht : q.et = some o) (hM : MM x 220) (hz : TZ x o) (hT : TO x q o) (s : Int32) (hs : 0 ≤ s.toInt ∧ s.toInt < (x.1 o 0).toInt) (h : ∀ y q1, kU q1 → kle q q1 → q1.et = q.et → VI x y q1 o → Fm y q1) : KM G q (d + 5) zk_X2_inspect 0 [(0, vr 200), (1, vi s)] [] x (rm q Fm) X := by
  have hO := iT_O ho
  have k1 : (1 : Int32).toInt = 1 := rfl
  have hV : VI x x q o := ⟨fm_rf _ _, hM, hz, hT⟩
  have ca : 0 ≤ (x.1 60 14).toInt ∧ (x.1 60 14).toInt ≤ 4 := hM.1.1.2.2.2.2.1
  have p98 : ∀ (q9 : kP) (w : gd), kU q9 → kle q q9 → q9.et = q.et → VI x w q9 o → KM G q9 (d + 5) zk_X2_inspect 98 [(0, vr 200), (1, vi s)] [] w (rm q Fm) X := by
    intro q9 w hu9 hl9 et9 hw
    have ho9 := kle_T hl9 ho
    have he9 := hl9.2.1.2.1 he
    have ht9 : q9.et = some o := by rw [et9]; exact ht
    refine kg_X2_inspect_98 hu9 he9 s (kx_isRacing hu9.1 he9 hw.2.1.1 (fun r => ⟨fun _ => rm_i hu9 hl9 (h w q9 hu9 hl9 et9 hw), fun _ u4 e4 => ⟨o, by rw [e4, et_r ht9], ho9, kt_find hu9.1 ho9 _ _ (Fn := 10) rfl (by omega) hw.2.2.1 (by rw [(VI_0 hO hw).1]; exact hs) (fun t ft hzt => rm_i hu9 hl9 (h t q9 hu9 hl9 et9 (VI_fi hO hw ft hzt)))⟩⟩))
  have p78 : ∀ (q9 : kP) (w : gd), kU q9 → kle q q9 → q9.et = q.et → VI x w q9 o → KM G q9 (d + 5) zk_X2_inspect 78 [(0, vr 200), (1, vi s)] [] w (rm q Fm) X := by
    intro q9 w hu9 hl9 et9 hw
    have ho9 := kle_T hl9 ho
    have he9 := hl9.2.1.2.1 he
    have ht9 : q9.et = some o := by rw [et9]; exact ht
    refine kg_X2_inspect_78 hu9 he9 s (km_anyFailed hu9.1 (Or.inr ⟨rfl, he9⟩) hw.2.1 (fun r => ⟨fun _ => p98 q9 w hu9 hl9 et9 hw, fun _ u4 e4 => ⟨o, by rw [e4, et_r ht9], ho9, kt_find hu9.1 ho9 _ _ (Fn := 9) rfl (by omega) hw.2.2.1 (by rw [(VI_0 hO hw).1]; exact hs) (fun t ft hzt => p98 q9 t hu9 hl9 et9 (VI_fi hO hw ft hzt))⟩⟩))
  have loop : ∀ (m k : Nat) (i : Int32) (w : gd), i.toInt = k → (x.1 60 14).toInt - k ≤ m → VI x w q o → KM G q (d + 5) zk_X2_inspect 21 [(0, vr 200), (1, vi s), (2, vi i)] [] w (rm q Fm) X := by
    intro m
    have out : ∀ w, VI x w q o → ((¬ ((w.1 220 13) = (0 : Int32)) → KM G q (d + 5) zk_X2_inspect 78 [(0, vr 200), (1, vi s)] [] w (rm q Fm) X) ∧ ((w.1 220 13) = (0 : Int32) → KM G q (d + 4) zk_X2_inspectEnd 0 [(0, vr 200), (1, vi s)] [] w (rm q (fun x3 q4 => KM G q4 (d + 5) zk_X2_inspect 78 [(0, vr 200), (1, vi s)] [] x3 (rm q Fm) X)) X)) := by
      intro w hw
      exact ⟨fun _ => p78 q w hu (kle_rf q) rfl hw, fun _ => kx_inspectEnd hu he ho ht hw s (by rw [(VI_0 hO hw).1]; exact hs) (fun y q1 hu1 hl1 et1 hy => p78 q1 y hu1 hl1 et1 hy)⟩
    induction m with
    | zero =>
      intro k i w ei hm hw
      refine kg_X2_inspect_21 hu he s i ⟨fun _ => out w hw, fun c => ?_⟩
      rw [t_le, (VI_0 hO hw).2 60 14 (by omega) (by omega) (by omega) (by omega)] at c; omega
    | succ m ih =>
      intro k i w ei hm hw
      refine kg_X2_inspect_21 hu he s i ⟨fun _ => out w hw, fun c => ?_⟩
      rw [t_le, (VI_0 hO hw).2 60 14 (by omega) (by omega) (by omega) (by omega)] at c
      have e1 : (i + 1).toInt = ((k + 1 : Nat) : Int) := by rw [t_add (by rw [k1]; omega) (by rw [k1]; omega), k1, ei]; rfl
      refine ⟨by rw [vp_in_iff]; omega, kx_isFalse hu.1 he hw.2.1.1 _ (fun r v gr fv => ?_)⟩
      have hv := VI_st hO hw (fm_w fv (fun c k q => by unfold sWk at q; omega))
      exact ⟨fun _ => ih (k + 1) _ v e1 (by push_cast; omega) hv, fun _ u9 e9 => ⟨o, by rw [e9, et_r ht], ho, kt_find hu.1 ho _ _ ei (by omega) hv.2.2.1 (by rw [(VI_0 hO hv).1]; exact hs) (fun t ft hzt => ih (k + 1) _ t e1 (by push_cast; omega) (VI_fi hO hv ft hzt))⟩⟩
  refine kg_X2_inspect_0 hu he s (fun u1 e1 => ⟨o, by rw [e1, et_r ht], ho, fun x4 e4 => loop 4 0 _ x4 rfl (by omega) (VI_st hO hV ?_)⟩)
  rw [e4]; exact fm_si (fm_rf _ _) (by omega)
/-- all states, one after another -/
theorem kx_explore (hu : kU q) (he : q.ex = true) (ho : kiT q o) (hC : CO x) (w l : Int32) (hw : w = 0 ∨ w = 1) (h : ∀ y q1, kU q1 → kle q q1 → q1.et = some o → fm (sEx o) x y → TZ y o → TO y q1 o → Fm y q1) : KM G q (d + 6) zk_X2_explore 0 [(0, vr 200), (1, vi w), (2, vi l), (3, vr o)] [] x (rm q Fm) X := by
  have hO := iT_O ho
  have k1 : (1 : Int32).toInt = 1 := rfl
  have k0 : (0 : Int32).toInt = 0 := rfl
  have k3 : (3000 : Int32).toInt = 3000 := rfl
  have loop : ∀ (m k : Nat) (i : Int32) (q9 : kP) (v : gd), i.toInt = k → 3000 - (k : Int) ≤ m → kU q9 → kle q q9 → q9.et = some o → fm (sEx o) x v → XI v q9 o → KM G q9 (d + 6) zk_X2_explore 49 [(0, vr 200), (2, vi l), (4, vi i)] [] v (rm q Fm) X := by
    intro m
    induction m with
    | zero =>
      intro k i q9 v ei hm hu9 hl9 et9 fv hX
      have ho9 := kle_T hl9 ho
      have he9 := hl9.2.1.2.1 he
      refine kg_X2_explore_49 hu9 he9 ho9 l i (fun u1 e1 => ⟨o, by rw [e1, et_r et9], ho9, fun _ => rm_i hu9 hl9 (h v q9 hu9 hl9 et9 fv hX.2.1.1 hX.2.1.2), fun _ => ⟨fun _ => rm_i hu9 hl9 (h v q9 hu9 hl9 et9 fv hX.2.1.1 hX.2.1.2), fun c => ?_⟩⟩)
      rw [t_le, k3] at c; omega
    | succ m ih =>
      intro k i q9 v ei hm hu9 hl9 et9 fv hX
      have ho9 := kle_T hl9 ho
      have he9 := hl9.2.1.2.1 he
      have hm9 : kiM q9 220 := Or.inr ⟨rfl, he9⟩
      refine kg_X2_explore_49 hu9 he9 ho9 l i (fun u1 e1 => ⟨o, by rw [e1, et_r et9], ho9, fun _ => rm_i hu9 hl9 (h v q9 hu9 hl9 et9 fv hX.2.1.1 hX.2.1.2), fun c0 => ⟨fun _ => rm_i hu9 hl9 (h v q9 hu9 hl9 et9 fv hX.2.1.1 hX.2.1.2), fun c => ?_⟩⟩)
      rw [t_le] at c0
      rw [t_le, k3] at c
      have ei1 : (i + 1).toInt = ((k + 1 : Nat) : Int) := by rw [t_add (by rw [k1]; omega) (by rw [k1]; omega), k1, ei]; rfl
      have hkn9 := hu9.2.2.2.2.1
      refine kx_recall hu9.1 he9 hX.1.1 hX.1.2 i ei (by have := hX.2.2.1; omega) (by omega) (hX.2.2.2.1 k (by omega)) (fun a ea hMa fa => ?_)
      have hXa : XI a q9 o := XI_q hO (fm_w fa (fun c k q => by unfold sQu; omega)) hX hkn9
      refine km_listChoices hu9.1 hm9 hMa (fun b fb hLb => ?_)
      have hMb := MM_Li (Or.inr rfl) fb hMa
      have hXb : XI b q9 o := XI_q hO (fm_w fb (fun c k q => by unfold sLi at q; unfold sQu; omega)) hXa hkn9
      have lkb : LK b k := LK_to ea hMa fb hLb
      refine kx_inspectActs hu9.1 he9 ho9 et9 hMb hLb (fun c1 fc => ?_)
      have hXc : XI c1 q9 o := XI_q hO (fm_w fc (fun c k q => by unfold sIn at q; unfold sQu; omega)) hXb hkn9
      have hMc := sIn_MM ho9 fc hMb
      have e0 : c1.1 o 0 = v.1 o 0 := by rw [fc o 0 (by unfold sIn; omega), fb o 0 (by unfold sLi; omega), fa o 0 (by omega)]
      refine kx_inspect hu9 he9 ho9 et9 hMc hXc.2.1.1 hXc.2.1.2 i (by rw [e0]; omega) (fun y q1 hu1 hl1 et1 hy => ?_)
      have hl1' := kle_tr hl9 hl1
      have ho1 := kle_T hl1' ho
      have he1 := hl1'.2.1.2.1 he
      have et1' : q1.et = some o := by rw [et1]; exact et9
      have hkn1 := hu1.2.2.2.2.1
      have fy : fm (sEx o) x y := fm_tr (fm_tr (fm_tr (fm_tr fv (fm_w fa (fun c k q => by unfold sEx; omega))) (fm_w fb (fun c k q => by unfold sLi at q; unfold sEx; omega))) (fm_w fc (fun c k q => by unfold sIn at q; unfold sEx; omega))) (fm_w hy.1 (fun c k q => by unfold sVi at q; unfold sEx; omega))
      have hXy : XI y q1 o := XI_w hO (fm_w hy.1 (fun c k q => by unfold sVi at q; unfold sWd sQu; omega)) hy.2.2.1 hy.2.2.2 hl1.2.2.1.1 hXc hkn9
      have fcy : fm (fun c k => sIn o c k ∨ sVi o c k) b y := fm_tr (fm_w fc (fun c k q => Or.inl q)) (fm_w hy.1 (fun c k q => Or.inr q))
      have lky : LK y k := LK_ag (hXb.2.2.2.1 k (by rw [fb o 0 (by unfold sLi; omega), fa o 0 (by omega)]; omega)) (fun c k hc => fcy c k (by unfold sIn sVi; omega)) (fun k h1 h2 => fcy _ _ (by unfold sIn sVi; omega)) (fun k hk => fcy _ _ (by unfold sIn sVi; omega)) (fcy _ _ (by unfold sIn sVi; omega)) (fun k => fcy _ _ (by unfold sIn sVi; omega)) (fun k => fcy _ _ (by unfold sIn sVi; omega)) lkb
      have e0y : (k : Int) < (y.1 o 0).toInt := by rw [(VI_0 hO hy).1, e0]; omega
      have inner : ∀ (n j : Nat) (i2 : Int32) (q2 : kP) (t : gd), i2.toInt = j → (y.1 220 13).toInt - j ≤ n → kU q2 → kle q q2 → q2.et = some o → fm (sEx o) x t → XI t q2 o → LK t k → t.1 220 13 = y.1 220 13 → (k : Int) < (t.1 o 0).toInt → KM G q2 (d + 6) zk_X2_explore 95 [(0, vr 200), (2, vi l), (4, vi i), (5, vi i2)] [] t (rm q Fm) X := by
        intro n
        induction n with
        | zero =>
          intro j i2 q2 t ej hn hu2 hl2 et2 ft hXt lkt e13 hk0
          have ho2 := kle_T hl2 ho
          have he2 := hl2.2.1.2.1 he
          refine kg_X2_explore_95 hu2 he2 ho2 l i i2 ⟨fun _ => ih (k + 1) _ q2 t ei1 (by push_cast; omega) hu2 hl2 et2 ft hXt, fun c => ?_⟩
          rw [t_le, e13] at c; omega
        | succ n ihn =>
          intro j i2 q2 t ej hn hu2 hl2 et2 ft hXt lkt e13 hk0
          have ho2 := kle_T hl2 ho
          have he2 := hl2.2.1.2.1 he
          have hkn2 := hu2.2.2.2.2.1
          have hm2 : kiM q2 220 := Or.inr ⟨rfl, he2⟩
          have again : KM G q2 (d + 6) zk_X2_explore 49 [(0, vr 200), (2, vi l), (4, vi (i + 1))] [] t (rm q Fm) X := ih (k + 1) _ q2 t ei1 (by push_cast; omega) hu2 hl2 et2 ft hXt
          refine kg_X2_explore_95 hu2 he2 ho2 l i i2 ⟨fun _ => again, fun c2 u2 e2 => ⟨o, by rw [e2, et_r et2], ho2, fun _ => again, fun _ => ?_⟩⟩
          rw [t_le, e13] at c2
          refine kx_recall hu2.1 he2 hXt.1.1 hXt.1.2 i ei (by have := hXt.2.2.1; omega) (by omega) (hXt.2.2.2.1 k hk0) (fun a2 ea2 hMa2 fa2 => ?_)
          have hXa2 : XI a2 q2 o := XI_q hO (fm_w fa2 (fun c k q => by unfold sQu; omega)) hXt hkn2
          have hLa2 : LSk a2 220 := LK_of ea2 lkt
          have e13a : a2.1 220 13 = y.1 220 13 := by rw [fa2 220 13 (by omega), e13]
          refine km_perform hu2.1 hm2 hMa2 hLa2 i2 ej (by rw [e13a]; omega) (fun b2 hMb2 fb2 hD2 => ?_)
          have hXb2 : XI b2 q2 o := XI_q hO (fm_w fb2 (fun c k q => by unfold sMk at q; unfold sQu; omega)) hXa2 hkn2
          have e0b : b2.1 o 0 = t.1 o 0 := by rw [fb2 o 0 (by unfold sMk; omega), fa2 o 0 (by omega)]
          have ej1 : (i2 + 1).toInt = ((j + 1 : Nat) : Int) := by
            have hl84 := hLa2.1
            rw [e13a] at hl84
            rw [t_add (by rw [k1]; omega) (by rw [k1]; omega), k1, ej]; rfl
          refine kx_addState (d := d + 1) hu2 he2 ho2 et2 hXb2 hMb2 i i2 l (Or.inr (by rw [e0b]; omega)) (fun c3 q3 hu3 hl3 et3 f3 hX3 hge hrow => ?_)
          have ftb : fm (fun c k => c = 225 ∨ sMk 220 c k ∨ sKe o c k) t c3 := fm_tr (fm_tr (fm_w fa2 (fun c k q => Or.inl q)) (fm_w fb2 (fun c k q => Or.inr (Or.inl q)))) (fm_w f3 (fun c k q => Or.inr (Or.inr q)))
          refine ihn (j + 1) _ q3 c3 ej1 (by push_cast; omega) hu3 (kle_tr hl2 hl3) (by rw [et3]; exact et2) (fm_tr ft (fm_w ftb (fun c k q => by unfold sMk sKe at q; unfold sEx; omega))) hX3 ?_ (by rw [ftb 220 13 (by unfold sMk sKe; omega), e13]) (by rw [e0b] at hge; omega)
          refine LK_ag (hXt.2.2.2.1 k hk0) (fun c k hc => ftb c k (by unfold sMk sKe; omega)) (fun k h1 h2 => ftb _ _ (by unfold sMk sKe; omega)) (fun k9 hk9 => ?_) (ftb _ _ (by unfold sMk sKe; omega)) (fun k => ftb _ _ (by unfold sMk sKe; omega)) (fun k => ftb _ _ (by unfold sMk sKe; omega)) lkt
          rw [hrow k k9 (by rw [e0b]; exact hk0), fb2 _ _ (by unfold sMk; omega), fa2 _ _ (by omega)]
      exact inner 84 0 _ q1 y rfl (by have := hLb.1; have e : y.1 220 13 = b.1 220 13 := fcy _ _ (by unfold sIn sVi; omega); rw [e]; omega) hu1 hl1' et1' fy hXy lky rfl e0y
  refine kg_X2_explore_0 hu he ho w l (fun q1 e1 hu1 hl1 u2 e2 => ⟨o, ?_, kle_T hl1 ho, ?_⟩)
  · rw [e2, e1]; exact et_r rfl
  have et1 : q1.et = some o := by rw [e1]; rfl
  have ho1 := kle_T hl1 ho
  have he1 := hl1.2.1.2.1 he
  have hm1 : kiM q1 220 := Or.inr ⟨rfl, he1⟩
  have hkn1 := hu1.2.2.2.2.1
  refine kt_clear (d := d + 4) hu1.1 ho1 (oN_U hu1 o) _ (fun y fy y0 y3 y1 hzy hty x6 e6 => ?_)
  have f6 : fm (fun c k => c = 205) y x6 := by rw [e6]; exact fm_fl (fm_rf _ _) (fun k hk => rfl)
  have hC6 : CO x6 := CO_fm hC (fun c k hc => by rw [f6 c k (by omega)]; exact fy c k (by unfold sTr; omega))
  refine km_reset hu1.1 hm1 hC6 w hw (fun x7 hM7 f7 e7 => ?_)
  have e70 : x7.1 o 0 = 0 := by rw [f7 o 0 (by unfold sRe; omega), f6 o 0 (by omega), y0]
  have hX7 : XI x7 q1 o := by
    refine ⟨⟨hM7.1, hM7.2.1⟩, ⟨TZ_fm f7 (by unfold sRe; omega) (fun c k hc => by unfold sRe; omega) (TZ_fm f6 (by omega) (fun c k hc => by omega) hzy), TO_fm f7 (by unfold sRe; omega) (fun k => by unfold sRe; omega) (TO_fm f6 (by omega) (fun k => by omega) hty)⟩, by rw [e70, k0]; omega, fun s hs => by rw [e70, k0] at hs; omega, fun j hj => ?_⟩
    rw [f7 205 j (by unfold sRe; omega), e6, sfl_get, if_pos ⟨rfl, hj⟩, e70, k0]
    omega
  refine kx_addState (d := d + 1) hu1 he1 ho1 et1 hX7 hM7 _ _ l (Or.inl rfl) (fun x8 q9 hu9 hl9 et9 f8 hX8 hge hrow => ?_)
  refine loop 3000 0 _ q9 x8 rfl (by omega) hu9 (kle_tr hl1 hl9) (by rw [et9]; exact et1) ?_ hX8
  exact fm_tr (fm_tr (fm_tr (fm_w fy (fun c k q => by unfold sTr at q; unfold sEx; omega)) (fm_w f6 (fun c k q => by unfold sEx; omega))) (fm_w f7 (fun c k q => by unfold sRe at q; unfold sEx; omega))) (fm_w f8 (fun c k q => by unfold sKe at q; unfold sEx; omega))
end KTY
