/-! the class: a state is looked at; the trying itself -/
def sVi (o c k : Nat) : Prop := (c = o ∧ (k = 2 ∨ k = 3 ∨ k = 5)) ∨ c = o + 7 ∨ c = o + 14 ∨ 4000 ≤ c ∨ (c = 60 ∧ k = 5) ∨ c = 65
section KTY
variable {G : kG} {q q0 q1 : kP} {d : Nat} {x x0 y z : gd} {o : Nat} {F : Int32 → gd → Prop} {Fv : gd → Prop} {Fm : gd → kP → Prop} {X : String → gd → kP → Prop}
/-- what looking at a state keeps: the machine, what was told of the trying -/
def VI (x0 x : gd) (q : kP) (o : Nat) : Prop := fm (sVi o) x0 x ∧ MM x 220 ∧ TZ x o ∧ TO x q o
theorem VI_st (hO : o = 260 ∨ o = 280) (h : VI x0 x q o) (f : fm (fun c k => (c = o ∧ (k = 2 ∨ k = 5)) ∨ (c = 60 ∧ k = 5) ∨ c = 65) x y) : VI x0 y q o :=
  ⟨fm_tr h.1 (fm_w f (fun c k q => by unfold sVi; omega)), MM_ag (fun c k hc => f c k (by omega)) (fun k h1 h2 => f _ _ (by omega)) (fun k hk => f _ _ (by omega)) h.2.1, TZ_fm f (by omega) (fun c k hc => by omega) h.2.2.1, TO_fm f (by omega) (fun k => by omega) h.2.2.2⟩
theorem VI_fi (hO : o = 260 ∨ o = 280) (h : VI x0 x q o) (f : fm (fun c k => c = o + 7) x y) (hz : TZ y o) : VI x0 y q o :=
  ⟨fm_tr h.1 (fm_w f (fun c k q => by unfold sVi; omega)), MM_ag (fun c k hc => f c k (by omega)) (fun k h1 h2 => f _ _ (by omega)) (fun k hk => f _ _ (by omega)) h.2.1, hz, TO_fm f (by omega) (fun k => by omega) h.2.2.2⟩
theorem VI_ou (hO : o = 260 ∨ o = 280) (h : VI x0 x q o) (f : fm (sOu o) x y) (ht : TO y q1 o) : VI x0 y q1 o :=
  ⟨fm_tr h.1 (fm_w f (fun c k q => by unfold sOu at q; unfold sVi; omega)), MM_ag (fun c k hc => f c k (by unfold sOu; omega)) (fun k h1 h2 => f _ _ (by unfold sOu; omega)) (fun k hk => f _ _ (by unfold sOu; omega)) h.2.1, TZ_fm f (by unfold sOu; omega) (fun c k hc => by unfold sOu; omega) h.2.2.1, ht⟩
theorem VI_0 (hO : o = 260 ∨ o = 280) (h : VI x0 x q o) : x.1 o 0 = x0.1 o 0 ∧ (∀ c k, 60 ≤ c → c < 90 → ¬ (c = 60 ∧ k = 5) → c ≠ 65 → x.1 c k = x0.1 c k) := ⟨h.1 o 0 (by unfold sVi; omega), fun c k h1 h2 h3 h4 => h.1 c k (by unfold sVi; omega)⟩
theorem kx_inspectEnd (hu : kU q) (he : q.ex = true) (ho : kiT q o) (ht : q.et = some o) (hV : VI x0 x q o) (s : Int32) (hs : 0 ≤ s.toInt ∧ s.toInt < (x.1 o 0).toInt) (h : ∀ y q1, kU q1 → kle q q1 → q1.et = q.et → VI x0 y q1 o → Fm y q1) : KM G q (d + 4) zk_X2_inspectEnd 0 [(0, vr 200), (1, vi s)] [] x (rm q Fm) X := by
  have hO := iT_O ho
  have k1 : (1 : Int32).toInt = 1 := rfl
  have cl : 0 ≤ (x.1 60 6).toInt ∧ (x.1 60 6).toInt ≤ 24 := hV.2.1.1.1.1
  have cf : 0 ≤ (x.1 60 16).toInt ∧ (x.1 60 16).toInt ≤ 4 := hV.2.1.1.1.2.2.2.2.2
  refine kg_X2_inspectEnd_0 hu he s (fun u1 e1 => ⟨o, by rw [e1, et_r ht], ho, fun x4 e4 u5 e5 => ⟨o, by rw [e5, et_r ht], ho, ?_⟩⟩)
  have f4 : fm (fun c k => (c = o ∧ (k = 2 ∨ k = 5)) ∨ (c = 60 ∧ k = 5) ∨ c = 65) x x4 := by rw [e4]; exact fm_si (fm_rf _ _) (by omega)
  have hV4 := VI_st hO hV f4
  rw [f4 60 6 (by omega)]
  refine kt_addOutcome hu ho kk_225 (kl_225 hu.1 he) (by omega) _ hV4.2.2.2 cl (fun x8 q9 hu9 hl9 et9 f8 ht8 => ?_)
  have hV8 := VI_ou hO hV4 f8 ht8
  have ho9 := kle_T hl9 ho
  have he9 := hl9.2.1.2.1 he
  have ht9 : q9.et = some o := by rw [et9]; exact ht
  have e80 : x8.1 o 0 = x.1 o 0 := by rw [f8 o 0 (by unfold sOu; omega), f4 o 0 (by omega)]
  have e86 : x8.1 60 16 = x.1 60 16 := by rw [f8 60 16 (by unfold sOu; omega), f4 60 16 (by omega)]
  have loop : ∀ (m k : Nat) (i : Int32) (w : gd), i.toInt = k → (x.1 60 16).toInt - k ≤ m → VI x0 w q9 o → w.1 o 0 = x.1 o 0 → w.1 60 16 = x.1 60 16 → KM G q9 (d + 4) zk_X2_inspectEnd 57 [(0, vr 200), (1, vi s), (2, vi i)] [] w (rm q Fm) X := by
    intro m
    induction m with
    | zero =>
      intro k i w ei hm hw ew ew2
      refine kg_X2_inspectEnd_57 hu9 he9 s i ⟨fun _ => rm_i hu9 hl9 (h w q9 hu9 hl9 et9 hw), fun c => ?_⟩
      rw [t_le, ew2] at c; omega
    | succ m ih =>
      intro k i w ei hm hw ew ew2
      refine kg_X2_inspectEnd_57 hu9 he9 s i ⟨fun _ => rm_i hu9 hl9 (h w q9 hu9 hl9 et9 hw), fun c => ⟨?_, ?_⟩⟩
      · rw [t_le, ew2] at c; rw [vp_in_iff]; omega
      rw [t_le, ew2] at c
      have e1 : (i + 1).toInt = ((k + 1 : Nat) : Int) := by rw [t_add (by rw [k1]; omega) (by rw [k1]; omega), k1, ei]; rfl
      have e4 : (4 + i).toInt = ((4 + k : Nat) : Int) := by
        have k4 : (4 : Int32).toInt = 4 := rfl
        rw [t_add (by rw [k4]; omega) (by rw [k4]; omega), k4, ei]; push_cast; rfl
      refine kx_isFalse hu9.1 he9 hw.2.1.1 _ (fun r v gr fv => ?_)
      have fv2 : fm (fun c k => (c = o ∧ (k = 2 ∨ k = 5)) ∨ (c = 60 ∧ k = 5) ∨ c = 65) w v := fm_w fv (fun c k q => by unfold sWk at q; omega)
      have hv := VI_st hO hw fv2
      have ev : v.1 o 0 = x.1 o 0 := by rw [fv2 o 0 (by omega), ew]
      have ev2 : v.1 60 16 = x.1 60 16 := by rw [fv2 60 16 (by omega), ew2]
      refine ⟨fun _ => ih (k + 1) _ v e1 (by push_cast; omega) hv ev ev2, fun _ u6 e6 => ⟨o, by rw [e6, et_r ht9], ho9, kt_find hu9.1 ho9 _ _ e4 (by omega) hv.2.2.1 (by rw [ev]; exact hs) (fun t ft hzt => ?_)⟩⟩
      exact ih (k + 1) _ t e1 (by push_cast; omega) (VI_fi hO hv ft hzt) (by rw [ft o 0 (by omega), ev]) (by rw [ft 60 16 (by omega), ev2])
  refine km_anyGoing hu9.1 (Or.inr ⟨rfl, he9⟩) hV8.2.1 (fun r => ⟨fun _ => loop 4 0 _ x8 rfl (by omega) hV8 e80 e86, fun _ u13 e13 => ⟨o, by rw [e13, et_r ht9], ho9, kt_find hu9.1 ho9 _ _ (Fn := 8) rfl (by omega) hV8.2.2.1 (by rw [e80]; exact hs) (fun t ft hzt => rm_i hu9 hl9 (h t q9 hu9 hl9 et9 (VI_fi hO hV8 ft hzt)))⟩⟩)
theorem kx_inspect (hu : kU q) (he : q.ex = true) (ho : kiT q o) (ht : q.et = some o) (hM : MM x 220) (hz : TZ x o) (hT : TO x q o) (s : Int32) (hs : 0 ≤ s.toInt ∧ s.toInt < (x.1 o 0).toInt) (h : ∀ y q1, kU q1 → kle q q1 → q1.et = q.et → VI x y q1 o → Fm y q1) : KM G q (d + 5) zk_X2_inspect 0 [(0, vr 200), (1, vi s)] [] x (rm q Fm) X := by
  have hO := iT_O ho
  have k1 : (1 : Int32).toInt = 1 := rfl
  have hV : VI x x q o := ⟨fm_rf _ _, hM, hz, hT⟩
  have ca : 0 ≤ (x.1 60 14).toInt ∧ (x.1 60 14).toInt ≤ 4 := hM.1.1.2.2.2.2.1
  have p98 : ∀ (q9 : kP) (w : gd), kU q9 → kle q q9 → q9.et = q.et → VI x w q9 o → KM G q9 (d + 5) zk_X2_inspect 98 [(0, vr 200), (1, vi s)] [] w (rm q Fm) X := by
    intro q9 w hu9 hl9 et9 hw
    have ho9 := kle_T hl9 ho
    have he9 := hl9.2.1.2.1 he
    have ht9 : q9.et = some o := by rw [et9]; exact ht
    refine kg_X2_inspect_98 hu9 he9 s (kx_isRacing hu9.1 he9 hw.2.1.1 (fun r => ⟨fun _ => rm_i hu9 hl9 (h w q9 hu9 hl9 et9 hw), fun _ u4 e4 => ⟨o, by rw [e4, et_r ht9], ho9, kt_find hu9.1 ho9 _ _ (Fn := 10) rfl (by omega) hw.2.2.1 (by rw [(VI_0 hO hw).1]; exact hs) (fun t ft hzt => rm_i hu9 hl9 (h t q9 hu9 hl9 et9 (VI_fi hO hw ft hzt)))⟩⟩))
  have p78 : ∀ (q9 : kP) (w : gd), kU q9 → kle q q9 → q9.et = q.et → VI x w q9 o → KM G q9 (d + 5) zk_X2_inspect 78 [(0, vr 200), (1, vi s)] [] w (rm q Fm) X := by
    intro q9 w hu9 hl9 et9 hw
    have ho9 := kle_T hl9 ho
    have he9 := hl9.2.1.2.1 he
    have ht9 : q9.et = some o := by rw [et9]; exact ht
    refine kg_X2_inspect_78 hu9 he9 s (km_anyFailed hu9.1 (Or.inr ⟨rfl, he9⟩) hw.2.1 (fun r => ⟨fun _ => p98 q9 w hu9 hl9 et9 hw, fun _ u4 e4 => ⟨o, by rw [e4, et_r ht9], ho9, kt_find hu9.1 ho9 _ _ (Fn := 9) rfl (by omega) hw.2.2.1 (by rw [(VI_0 hO hw).1]; exact hs) (fun t ft hzt => p98 q9 t hu9 hl9 et9 (VI_fi hO hw ft hzt))⟩⟩))
  have loop : ∀ (m k : Nat) (i : Int32) (w : gd), i.toInt = k → (x.1 60 14).toInt - k ≤ m → VI x w q o → KM G q (d + 5) zk_X2_inspect 21 [(0, vr 200), (1, vi s), (2, vi i)] [] w (rm q Fm) X := by
    intro m
    have out : ∀ w, VI x w q o → ((¬ ((w.1 220 13) = (0 : Int32)) → KM G q (d + 5) zk_X2_inspect 78 [(0, vr 200), (1, vi s)] [] w (rm q Fm) X) ∧ ((w.1 220 13) = (0 : Int32) → KM G q (d + 4) zk_X2_inspectEnd 0 [(0, vr 200), (1, vi s)] [] w (rm q (fun x3 q4 => KM G q4 (d + 5) zk_X2_inspect 78 [(0, vr 200), (1, vi s)] [] x3 (rm q Fm) X)) X)) := by
      intro w hw
      exact ⟨fun _ => p78 q w hu (kle_rf q) rfl hw, fun _ => kx_inspectEnd hu he ho ht hw s (by rw [(VI_0 hO hw).1]; exact hs) (fun y q1 hu1 hl1 et1 hy => p78 q1 y hu1 hl1 et1 hy)⟩
    induction m with
    | zero =>
      intro k i w ei hm hw
      refine kg_X2_inspect_21 hu he s i ⟨fun _ => out w hw, fun c => ?_⟩
      rw [t_le, (VI_0 hO hw).2 60 14 (by omega) (by omega) (by omega) (by omega)] at c; omega
    | succ m ih =>
      intro k i w ei hm hw
      refine kg_X2_inspect_21 hu he s i ⟨fun _ => out w hw, fun c => ?_⟩
      rw [t_le, (VI_0 hO hw).2 60 14 (by omega) (by omega) (by omega) (by omega)] at c
      have e1 : (i + 1).toInt = ((k + 1 : Nat) : Int) := by rw [t_add (by rw [k1]; omega) (by rw [k1]; omega), k1, ei]; rfl
      refine ⟨by rw [vp_in_iff]; omega, kx_isFalse hu.1 he hw.2.1.1 _ (fun r v gr fv => ?_)⟩
      have hv := VI_st hO hw (fm_w fv (fun c k q => by unfold sWk at q; omega))
      exact ⟨fun _ => ih (k + 1) _ v e1 (by push_cast; omega) hv, fun _ u9 e9 => ⟨o, by rw [e9, et_r ht], ho, kt_find hu.1 ho _ _ ei (by omega) hv.2.2.1 (by rw [(VI_0 hO hv).1]; exact hs) (fun t ft hzt => ih (k + 1) _ t e1 (by push_cast; omega) (VI_fi hO hv ft hzt))⟩⟩
  refine kg_X2_inspect_0 hu he s (fun u1 e1 => ⟨o, by rw [e1, et_r ht], ho, fun x4 e4 => loop 4 0 _ x4 rfl (by omega) (VI_st hO hV ?_)⟩)
  rw [e4]; exact fm_si (fm_rf _ _) (by omega)
end KTY
