/-! the class: all states, one after another -/
section KXP
variable {G : kG} {q q0 q1 : kP} {d : Nat} {x x0 y z : gd} {o : Nat} {F : Int32 → gd → Prop} {Fv : gd → Prop} {Fm : gd → kP → Prop} {X : String → gd → kP → Prop}
theorem ex_25 {c k : Nat} (h : c = 225) : sEx o c k := by unfold sEx; omega
theorem ex_Li {c k : Nat} (h : sLi 220 c k) : sEx o c k := by unfold sLi at h; unfold sEx; omega
theorem ex_In {c k : Nat} (h : sIn o c k) : sEx o c k := by unfold sIn at h; unfold sEx; omega
theorem ex_Vi {c k : Nat} (h : sVi o c k) : sEx o c k := by unfold sVi at h; unfold sEx; omega
theorem ex_Mk {c k : Nat} (h : sMk 220 c k) : sEx o c k := by unfold sMk at h; unfold sEx; omega
theorem ex_Ke {c k : Nat} (h : sKe o c k) : sEx o c k := by unfold sKe at h; unfold sEx; omega
theorem ex_Tr {c k : Nat} (h : sTr o c k) : sEx o c k := by unfold sTr at h; unfold sEx; omega
theorem ex_Re {c k : Nat} (h : sRe 220 c k) : sEx o c k := by unfold sRe at h; unfold sEx; omega
theorem qu_25 {c k : Nat} (h : c = 225) : sQu o c k := Or.inl h
theorem qu_Li {c k : Nat} (h : sLi 220 c k) : sQu o c k := by unfold sLi at h; unfold sQu; omega
theorem qu_In {c k : Nat} (h : sIn o c k) : sQu o c k := by unfold sIn at h; unfold sQu; omega
theorem qu_Mk {c k : Nat} (h : sMk 220 c k) : sQu o c k := by unfold sMk at h; unfold sQu; omega
theorem wd_Vi {c k : Nat} (h : sVi o c k) : sWd o c k := by unfold sVi at h; unfold sWd sQu; omega
/-- what stays while one state is looked at: list and kept rows -/
theorem LK_In (hO : o = 260 ∨ o = 280) {s : Nat} (hs : s < 3000) (hk : KR x s) (f : fm (sIn o) x y) (h : LK x s) : LK y s :=
  LK_ag hk (fun c k hc => f c k (by unfold sIn; omega)) (fun k h1 h2 => f _ _ (by unfold sIn; omega)) (fun k hk => f _ _ (by unfold sIn; omega)) (f _ _ (by unfold sIn; omega)) (fun k => f _ _ (by unfold sIn; omega)) (fun k => f _ _ (by unfold sIn; omega)) h
theorem LK_Vi (hO : o = 260 ∨ o = 280) {s : Nat} (hs : s < 3000) (hk : KR x s) (f : fm (sVi o) x y) (h : LK x s) : LK y s :=
  LK_ag hk (fun c k hc => f c k (by unfold sVi; omega)) (fun k h1 h2 => f _ _ (by unfold sVi; omega)) (fun k hk => f _ _ (by unfold sVi; omega)) (f _ _ (by unfold sVi; omega)) (fun k => f _ _ (by unfold sVi; omega)) (fun k => f _ _ (by unfold sVi; omega)) h
theorem LK_25 {s : Nat} (hk : KR x s) (f : fm (fun c k => c = 225) x y) (h : LK x s) : LK y s :=
  LK_ag hk (fun c k hc => f c k (by omega)) (fun k h1 h2 => f _ _ (by omega)) (fun k hk => f _ _ (by omega)) (f _ _ (by omega)) (fun k => f _ _ (by omega)) (fun k => f _ _ (by omega)) h
theorem LK_Mk {s : Nat} (hk : KR x s) (f : fm (sMk 220) x y) (h : LK x s) : LK y s :=
  LK_ag hk (fun c k hc => f c k (by unfold sMk; omega)) (fun k h1 h2 => f _ _ (by unfold sMk; omega)) (fun k hk => f _ _ (by unfold sMk; omega)) (f _ _ (by unfold sMk; omega)) (fun k => f _ _ (by unfold sMk; omega)) (fun k => f _ _ (by unfold sMk; omega)) h
theorem LK_Ke (hO : o = 260 ∨ o = 280) {s : Nat} (hk : KR x s) (f : fm (sKe o) x y) (hr : ∀ k, y.1 (1000 + s) k = x.1 (1000 + s) k) (h : LK x s) : LK y s :=
  LK_ag hk (fun c k hc => f c k (by unfold sKe; omega)) (fun k h1 h2 => f _ _ (by unfold sKe; omega)) (fun k hk => hr k) (f _ _ (by unfold sKe; omega)) (fun k => f _ _ (by unfold sKe; omega)) (fun k => f _ _ (by unfold sKe; omega)) h
theorem c13_25 (f : fm (fun c k => c = 225) x y) : y.1 220 13 = x.1 220 13 := f _ _ (by omega)
theorem c13_In (hO : o = 260 ∨ o = 280) (f : fm (sIn o) x y) : y.1 220 13 = x.1 220 13 := f _ _ (by unfold sIn; omega)
theorem c13_Vi (hO : o = 260 ∨ o = 280) (f : fm (sVi o) x y) : y.1 220 13 = x.1 220 13 := f _ _ (by unfold sVi; omega)
theorem c13_Mk (f : fm (sMk 220) x y) : y.1 220 13 = x.1 220 13 := f _ _ (by unfold sMk; omega)
theorem c13_Ke (hO : o = 260 ∨ o = 280) (f : fm (sKe o) x y) : y.1 220 13 = x.1 220 13 := f _ _ (by unfold sKe; omega)
theorem co0_25 (hO : o = 260 ∨ o = 280) (f : fm (fun c k => c = 225) x y) : y.1 o 0 = x.1 o 0 := f _ _ (by omega)
theorem co0_Li (hO : o = 260 ∨ o = 280) (f : fm (sLi 220) x y) : y.1 o 0 = x.1 o 0 := f _ _ (by unfold sLi; omega)
theorem co0_In (hO : o = 260 ∨ o = 280) (f : fm (sIn o) x y) : y.1 o 0 = x.1 o 0 := f _ _ (by unfold sIn; omega)
theorem co0_Mk (hO : o = 260 ∨ o = 280) (f : fm (sMk 220) x y) : y.1 o 0 = x.1 o 0 := f _ _ (by unfold sMk; omega)
/-- the choices of one state -/
theorem kx_inner (he : q.ex = true) (ho : kiT q o) (l i : Int32) {k : Nat} (ei : i.toInt = k) (hk3 : k < 3000) (N : Int32) (hN : N.toInt ≤ 84)
    (again : ∀ (q2 : kP) (t : gd), kU q2 → kle q q2 → q2.et = some o → fm (sEx o) x t → XI t q2 o → KM G q2 (d + 6) zk_X2_explore 49 [(0, vr 200), (2, vi l), (4, vi (i + 1))] [] t (rm q Fm) X) :
    ∀ (n j : Nat) (i2 : Int32) (q2 : kP) (t : gd), i2.toInt = j → N.toInt - j ≤ n → kU q2 → kle q q2 → q2.et = some o → fm (sEx o) x t → XI t q2 o → LK t k → t.1 220 13 = N → (k : Int) < (t.1 o 0).toInt → KM G q2 (d + 6) zk_X2_explore 95 [(0, vr 200), (2, vi l), (4, vi i), (5, vi i2)] [] t (rm q Fm) X := by
  have hO := iT_O ho
  have k1 : (1 : Int32).toInt = 1 := rfl
  intro n
  induction n with
  | zero =>
    intro j i2 q2 t ej hn hu2 hl2 et2 ft hXt lkt e13 hk0
    have ho2 := kle_T hl2 ho
    have he2 := hl2.2.1.2.1 he
    refine kg_X2_explore_95 hu2 he2 ho2 l i i2 ⟨fun _ => again q2 t hu2 hl2 et2 ft hXt, fun c => ?_⟩
    rw [t_le, e13] at c; omega
  | succ n ihn =>
    intro j i2 q2 t ej hn hu2 hl2 et2 ft hXt lkt e13 hk0
    have ho2 := kle_T hl2 ho
    have he2 := hl2.2.1.2.1 he
    have hkn2 := hu2.2.2.2.2.1
    have hm2 : kiM q2 220 := Or.inr ⟨rfl, he2⟩
    have ag := again q2 t hu2 hl2 et2 ft hXt
    refine kg_X2_explore_95 hu2 he2 ho2 l i i2 ⟨fun _ => ag, fun c2 u2 e2 => ⟨o, by rw [e2, et_r et2], ho2, fun _ => ag, fun _ => ?_⟩⟩
    rw [t_le, e13] at c2
    have hkr := hXt.2.2.2.1 k hk0
    have hsn : k < q2.kn := by have := hXt.2.2.1; omega
    have ej1 : (i2 + 1).toInt = ((j + 1 : Nat) : Int) := by rw [t_add (by rw [k1]; omega) (by rw [k1]; omega), k1, ej]; rfl
    refine kx_recall hu2.1 he2 hXt.1.1 hXt.1.2 i ei hsn hk3 hkr (fun a2 ea2 hMa2 fa2 => ?_)
    have hXa2 : XI a2 q2 o := XI_q hO (fm_w fa2 (fun c k => qu_25)) hXt hkn2
    have hLa2 : LSk a2 220 := LK_of ea2 lkt
    have lka2 : LK a2 k := LK_25 hkr fa2 lkt
    have e13a : a2.1 220 13 = N := (c13_25 fa2).trans e13
    have e0a := co0_25 hO fa2
    refine km_perform hu2.1 hm2 hMa2 hLa2 i2 ej (by rw [e13a]; omega) (fun b2 hMb2 fb2 hD2 => ?_)
    have hkra := hXa2.2.2.2.1 k (by rw [e0a]; exact hk0)
    have hXb2 : XI b2 q2 o := XI_q hO (fm_w fb2 (fun c k => qu_Mk)) hXa2 hkn2
    have e0b : b2.1 o 0 = t.1 o 0 := (co0_Mk hO fb2).trans e0a
    have lkb2 : LK b2 k := LK_Mk hkra fb2 lka2
    have hkrb := hXb2.2.2.2.1 k (by rw [e0b]; exact hk0)
    refine kx_addState (d := d + 1) hu2 he2 ho2 et2 hXb2 hMb2 i i2 l (Or.inr (by rw [e0b]; omega)) (fun c3 q3 hu3 hl3 et3 f3 hX3 hge hrow => ?_)
    refine ihn (j + 1) _ q3 c3 ej1 (by push_cast; omega) hu3 (kle_tr hl2 hl3) (by rw [et3]; exact et2) (fm_tr ft (fm_tr (fm_tr (fm_w fa2 (fun c k => ex_25)) (fm_w fb2 (fun c k => ex_Mk))) (fm_w f3 (fun c k => ex_Ke)))) hX3 (LK_Ke hO hkrb f3 (fun k9 => hrow k k9 (by rw [e0b]; exact hk0)) lkb2) ((c13_Ke hO f3).trans ((c13_Mk fb2).trans e13a)) (by rw [e0b] at hge; omega)
theorem kx_outer (he : q.ex = true) (ho : kiT q o) (l : Int32) (h : ∀ y q1, kU q1 → kle q q1 → q1.et = some o → fm (sEx o) x y → TZ y o → TO y q1 o → Fm y q1) :
    ∀ (m k : Nat) (i : Int32) (q9 : kP) (v : gd), i.toInt = k → 3000 - (k : Int) ≤ m → kU q9 → kle q q9 → q9.et = some o → fm (sEx o) x v → XI v q9 o → KM G q9 (d + 6) zk_X2_explore 49 [(0, vr 200), (2, vi l), (4, vi i)] [] v (rm q Fm) X := by
  have hO := iT_O ho
  have k1 : (1 : Int32).toInt = 1 := rfl
  have k3 : (3000 : Int32).toInt = 3000 := rfl
  intro m
  induction m with
  | zero =>
    intro k i q9 v ei hm hu9 hl9 et9 fv hX
    have ho9 := kle_T hl9 ho
    have he9 := hl9.2.1.2.1 he
    refine kg_X2_explore_49 hu9 he9 ho9 l i (fun u1 e1 => ⟨o, by rw [e1, et_r et9], ho9, fun _ => rm_i hu9 hl9 (h v q9 hu9 hl9 et9 fv hX.2.1.1 hX.2.1.2), fun _ => ⟨fun _ => rm_i hu9 hl9 (h v q9 hu9 hl9 et9 fv hX.2.1.1 hX.2.1.2), fun c => ?_⟩⟩)
    rw [t_le, k3] at c; omega
  | succ m ih =>
    intro k i q9 v ei hm hu9 hl9 et9 fv hX
    have ho9 := kle_T hl9 ho
    have he9 := hl9.2.1.2.1 he
    have hm9 : kiM q9 220 := Or.inr ⟨rfl, he9⟩
    have hend : rm q Fm none v q9 := rm_i hu9 hl9 (h v q9 hu9 hl9 et9 fv hX.2.1.1 hX.2.1.2)
    refine kg_X2_explore_49 hu9 he9 ho9 l i (fun u1 e1 => ⟨o, by rw [e1, et_r et9], ho9, fun _ => hend, fun c0 => ⟨fun _ => hend, fun c => ?_⟩⟩)
    rw [t_le, ei] at c0
    rw [t_le, k3, ei] at c
    have ei1 : (i + 1).toInt = ((k + 1 : Nat) : Int) := by rw [t_add (by rw [k1]; omega) (by rw [k1]; omega), k1, ei]; rfl
    have hkn9 := hu9.2.2.2.2.1
    have hk0 : (k : Int) < (v.1 o 0).toInt := by omega
    have hk3 : k < 3000 := by omega
    have hsn : k < q9.kn := by have := hX.2.2.1; omega
    have hm2 : 3000 - ((k + 1 : Nat) : Int) ≤ m := by push_cast; omega
    clear c c0 hm
    have hkr := hX.2.2.2.1 k hk0
    refine kx_recall hu9.1 he9 hX.1.1 hX.1.2 i ei hsn hk3 hkr (fun a ea hMa fa => ?_)
    have hXa : XI a q9 o := XI_q hO (fm_w fa (fun c k => qu_25)) hX hkn9
    refine km_listChoices hu9.1 hm9 hMa (fun b fb hLb => ?_)
    have hMb := MM_Li (Or.inr rfl) fb hMa
    have hXb : XI b q9 o := XI_q hO (fm_w fb (fun c k => qu_Li)) hXa hkn9
    have lkb : LK b k := LK_to ea hMa fb hLb
    have e0b : b.1 o 0 = v.1 o 0 := (co0_Li hO fb).trans (co0_25 hO fa)
    have hkrb := hXb.2.2.2.1 k (by rw [e0b]; exact hk0)
    refine kx_inspectActs hu9.1 he9 ho9 et9 hMb hLb (fun c1 fc => ?_)
    have hXc : XI c1 q9 o := XI_q hO (fm_w fc (fun c k => qu_In)) hXb hkn9
    have hMc := sIn_MM ho9 fc hMb
    have lkc : LK c1 k := LK_In hO hk3 hkrb fc lkb
    have e0 : c1.1 o 0 = v.1 o 0 := (co0_In hO fc).trans e0b
    have hkrc := hXc.2.2.2.1 k (by rw [e0]; exact hk0)
    have hs : 0 ≤ i.toInt ∧ i.toInt < (c1.1 o 0).toInt := by rw [e0, ei]; omega
    refine kx_inspect hu9 he9 ho9 et9 hMc hXc.2.1.1 hXc.2.1.2 i hs (fun y q1 hu1 hl1 et1 hy => ?_)
    have hl1' := kle_tr hl9 hl1
    have et1' : q1.et = some o := by rw [et1]; exact et9
    have fy : fm (sEx o) x y := fm_tr (fm_tr (fm_tr (fm_tr fv (fm_w fa (fun c k => ex_25))) (fm_w fb (fun c k => ex_Li))) (fm_w fc (fun c k => ex_In))) (fm_w hy.1 (fun c k => ex_Vi))
    have hXy : XI y q1 o := XI_w hO (fm_w hy.1 (fun c k => wd_Vi)) hy.2.2.1 hy.2.2.2 hl1.2.2.1.1 hXc hkn9
    have lky : LK y k := LK_Vi hO hk3 hkrc hy.1 lkc
    have e0y : (k : Int) < (y.1 o 0).toInt := by rw [(VI_0 hO hy).1, e0]; exact hk0
    have e13y : y.1 220 13 = b.1 220 13 := (c13_Vi hO hy.1).trans (c13_In hO fc)
    exact kx_inner he ho l i ei hk3 (b.1 220 13) hLb.1.2 (fun q2 t hu2 hl2 et2 ft hXt => ih (k + 1) _ q2 t ei1 hm2 hu2 hl2 et2 ft hXt) 84 0 _ q1 y rfl (by have := hLb.1.2; omega) hu1 hl1' et1' fy hXy lky e13y e0y
theorem kx_explore (hu : kU q) (he : q.ex = true) (ho : kiT q o) (hC : CO x) (w l : Int32) (hw : w = 0 ∨ w = 1) (h : ∀ y q1, kU q1 → kle q q1 → q1.et = some o → fm (sEx o) x y → TZ y o → TO y q1 o → Fm y q1) : KM G q (d + 6) zk_X2_explore 0 [(0, vr 200), (1, vi w), (2, vi l), (3, vr o)] [] x (rm q Fm) X := by
  have hO := iT_O ho
  have k0 : (0 : Int32).toInt = 0 := rfl
  refine kg_X2_explore_0 hu he ho w l (fun q1 e1 hu1 hl1 u2 e2 => ⟨o, ?_, kle_T hl1 ho, ?_⟩)
  · rw [e2, e1]; exact et_r rfl
  have et1 : q1.et = some o := by rw [e1]; rfl
  have ho1 := kle_T hl1 ho
  have he1 := hl1.2.1.2.1 he
  have hm1 : kiM q1 220 := Or.inr ⟨rfl, he1⟩
  refine kt_clear (d := d + 4) hu1.1 ho1 (oN_U hu1 o) _ (fun y fy y0 y3 y1 hzy hty x6 e6 => ?_)
  have f6 : fm (fun c k => c = 205) y x6 := by rw [e6]; exact fm_fl (fm_rf _ _) (fun k hk => rfl)
  have hC6 : CO x6 := CO_fm hC (fun c k hc => by rw [f6 c k (by omega)]; exact fy c k (by unfold sTr; omega))
  refine km_reset hu1.1 hm1 hC6 w hw (fun x7 hM7 f7 e7 => ?_)
  have e70 : x7.1 o 0 = 0 := by rw [f7 o 0 (by unfold sRe; omega), f6 o 0 (by omega), y0]
  have hX7 : XI x7 q1 o := by
    refine ⟨⟨hM7.1, hM7.2.1⟩, ⟨TZ_fm f7 (by unfold sRe; omega) (fun c k hc => by unfold sRe; omega) (TZ_fm f6 (by omega) (fun c k hc => by omega) hzy), TO_fm f7 (by unfold sRe; omega) (fun k => by unfold sRe; omega) (TO_fm f6 (by omega) (fun k => by omega) hty)⟩, by rw [e70, k0]; omega, fun s hs => by rw [e70, k0] at hs; omega, fun j hj => ?_⟩
    rw [f7 205 j (by unfold sRe; omega), e6, sfl_get, if_pos ⟨rfl, hj⟩, e70, k0]
    omega
  refine kx_addState (d := d + 1) hu1 he1 ho1 et1 hX7 hM7 _ _ l (Or.inl rfl) (fun x8 q9 hu9 hl9 et9 f8 hX8 hge hrow => ?_)
  refine kx_outer he ho l h 3000 0 _ q9 x8 rfl (by omega) hu9 (kle_tr hl1 hl9) (by rw [et9]; exact et1) ?_ hX8
  exact fm_tr (fm_tr (fm_tr (fm_w fy (fun c k => ex_Tr)) (fm_w f6 (fun c k q => by unfold sEx; omega))) (fm_w f7 (fun c k => ex_Re))) (fm_w f8 (fun c k => ex_Ke))
end KXP
