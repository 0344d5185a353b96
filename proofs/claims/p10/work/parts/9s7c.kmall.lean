/-! the class: explore() tries as the machine does -/
section KALL
variable {G : kG} {q q0 q1 : kP} {d : Nat} {x x0 y z : gd} {o : Nat} {F : Int32 → gd → Prop} {Fv : gd → Prop} {Fm : gd → kP → Prop} {X : String → gd → kP → Prop} {C : gCo} {M : gMa} {T : gTy} {nl w lim : Nat}
theorem kx_outer3 (he : q.ex = true) (ho : kiT q o) (hN : NC C) (hX : NXc C) (hX3 : NX3 C) (hLk : LkN C nl) (hq2 : NCq C) (w01 : w = 0 ∨ w = 1) (l : Int32) (el : l.toInt = (lim : Nat)) (hl3 : lim ≤ 3000) (h : ∀ y q1, kU q1 → kle q q1 → q1.et = some o → fm (sEx o) x y → TZ y o → TO y q1 o → J3 C nl w y → KX3 C nl w y o (tryM C w lim) → FN3 C w (y.1 (o + 7)) (tryM C w lim) (tryM C w lim).1.length → Fm y q1) :
    ∀ (m k : Nat) (i : Int32) (q9 : kP) (v : gd) (T : gTy), i.toInt = k → 3000 - (k : Int) ≤ m → k ≤ T.1.length → kU q9 → kle q q9 → q9.et = some o → fm (sEx o) x v → XI v q9 o → J3 C nl w v → KX3 C nl w v o T → FN3 C w (v.1 (o + 7)) T k → bfS C w lim (3001 - k) k T = tryM C w lim → KM G q9 (d + 6) zk_X2_explore 49 [(0, vr 200), (2, vi l), (4, vi i)] [] v (rm q Fm) X := by
  have hO := iT_O ho
  have k1 : (1 : Int32).toInt = 1 := rfl
  have k3 : (3000 : Int32).toInt = 3000 := rfl
  intro m
  have hend : ∀ (k : Nat) (i : Int32) (q9 : kP) (v : gd) (T : gTy), k = T.1.length → kU q9 → kle q q9 → q9.et = some o → fm (sEx o) x v → XI v q9 o → J3 C nl w v → KX3 C nl w v o T → FN3 C w (v.1 (o + 7)) T k → bfS C w lim (3001 - k) k T = tryM C w lim → rm q Fm none v q9 := by
    intro k i q9 v T hk hu9 hl9 et9 fv hX9 hJ hT hFN hb
    rw [bfS_end (List.getElem?_eq_none (by omega))] at hb
    subst hb
    exact rm_i hu9 hl9 (h v q9 hu9 hl9 et9 fv hX9.2.1.1 hX9.2.1.2 hJ hT (by rw [← hk]; exact hFN))
  induction m with
  | zero =>
    intro k i q9 v T ei hm hkT hu9 hl9 et9 fv hX9 hJ hT hFN hb
    have ho9 := kle_T hl9 ho
    have he9 := hl9.2.1.2.1 he
    have tz := hX9.2.1.1.1
    have t0 := hT.1.1
    have e := hend k i q9 v T (by omega) hu9 hl9 et9 fv hX9 hJ hT hFN hb
    refine kg_X2_explore_49 hu9 he9 ho9 l i (fun u1 e1 => ⟨o, by rw [e1, et_r et9], ho9, fun _ => e, fun _ => ⟨fun _ => e, fun c => ?_⟩⟩)
    rw [t_le, k3] at c; omega
  | succ m ih =>
    intro k i q9 v T ei hm hkT hu9 hl9 et9 fv hX9 hJ hT hFN hb
    have ho9 := kle_T hl9 ho
    have he9 := hl9.2.1.2.1 he
    have hm9 : kiM q9 220 := Or.inr ⟨rfl, he9⟩
    have tz := hX9.2.1.1.1
    have t0 := hT.1.1
    refine kg_X2_explore_49 hu9 he9 ho9 l i (fun u1 e1 => ⟨o, by rw [e1, et_r et9], ho9, fun c => hend k i q9 v T ?_ hu9 hl9 et9 fv hX9 hJ hT hFN hb, fun c0 => ⟨fun c => hend k i q9 v T ?_ hu9 hl9 et9 fv hX9 hJ hT hFN hb, fun c => ?_⟩⟩)
    · rw [t_le, ei] at c; omega
    · rw [t_le, k3, ei] at c; omega
    rw [t_le, ei] at c0
    rw [t_le, k3, ei] at c
    have ei1 : (i + 1).toInt = ((k + 1 : Nat) : Int) := by rw [t_add (by rw [k1]; omega) (by rw [k1]; omega), k1, ei]; rfl
    have hkn9 := hu9.2.2.2.2.1
    have hk0 : (k : Int) < (v.1 o 0).toInt := by omega
    have hk3 : k < 3000 := by omega
    have hkl : k < T.1.length := by omega
    have hT3 : T.1.length ≤ 3000 := by omega
    have hsn : k < q9.kn := by have := hX9.2.2.1; omega
    have hm2 : 3000 - ((k + 1 : Nat) : Int) ≤ m := by push_cast; omega
    clear c c0 hm
    obtain ⟨p, hp⟩ : ∃ p, T.1[k]? = some p := ⟨_, List.getElem?_eq_getElem hkl⟩
    have hkp := hT.2.1 k p hp
    have hkr := hX9.2.2.2.1 k hk0
    rw [show 3001 - k = (3000 - k) + 1 by omega, bfS_go hp] at hb
    refine kx_recall hu9.1 he9 hX9.1.1 hX9.1.2 i ei hsn hk3 hkr (fun a ea hMa fa => ?_)
    have hXa : XI a q9 o := XI_q hO (fm_w fa (fun c k => qu_25)) hX9 hkn9
    have ga : KMm a 220 C p.1 := by rw [ea]; exact hkp.2.1
    have hJa := J3_S hO fa (fun c k => kx_25) hJ
    have hTa := KX3_S hO hJ.1 fa (fun c k => kx_25) hT3 hT
    refine kh_listChoices hu9.1 hm9 hMa hJa.1 hN ga hkp.2.2.1.2 hJa.2.1 w01 (fun b fb hLb hcb => ?_)
    have hMb := MM_Li (Or.inr rfl) fb hMa
    have hXb : XI b q9 o := XI_q hO (fm_w fb (fun c k => qu_Li)) hXa hkn9
    have hJb := J3_S hO fb (fun c k => kx_Li) hJa
    have hTb := KX3_S hO hJa.1 fb (fun c k => kx_Li) hT3 hTa
    have gb := KMm_Li (Or.inr rfl) hMa hJa.1 fb ga
    have e0b : b.1 o 0 = v.1 o 0 := (co0_Li hO fb).trans (co0_25 hO fa)
    refine kh_inspectActs hu9.1 he9 ho9 et9 hMb hJb.1 hN hX hX3 gb hJb.2.1 w01 hLb hcb (fun c1 fc hac => ?_)
    have hXc : XI c1 q9 o := XI_q hO (fm_w fc (fun c k => qu_In)) hXb hkn9
    have hMc := sIn_MM ho9 fc hMb
    have hJc := J3_S hO fc (fun c k => kx_In) hJb
    have hTc := KX3_S hO hJb.1 fc (fun c k => kx_In) hT3 hTb
    obtain ⟨-, gc⟩ := KM_In ho9 hMb hJb.1 fc gb
    have hcc := kchL_f (c13_In hO fc) (fun c k h1 h2 => fc _ _ (by unfold sIn; omega)) hcb
    have e0 : c1.1 o 0 = v.1 o 0 := (co0_In hO fc).trans e0b
    have hs : 0 ≤ i.toInt ∧ i.toInt < (c1.1 o 0).toInt := by rw [e0, ei]; omega
    refine kh_inspect hu9 he9 ho9 et9 hMc hJc.1 hN hq2 gc hcc.1 hac hXc.2.1.1 hXc.2.1.2 i hs (fun y q1 hu1 hl1 et1 hy hfa => ?_)
    have hl1' := kle_tr hl9 hl1
    have et1' : q1.et = some o := by rw [et1]; exact et9
    have fy : fm (sEx o) x y := fm_tr (fm_tr (fm_tr (fm_tr fv (fm_w fa (fun c k => ex_25))) (fm_w fb (fun c k => ex_Li))) (fm_w fc (fun c k => ex_In))) (fm_w hy.1 (fun c k => ex_Vi))
    have hXy : XI y q1 o := XI_w hO (fm_w hy.1 (fun c k => wd_Vi)) hy.2.2.1 hy.2.2.2 hl1.2.2.1.1 hXc hkn9
    have hJy := J3_S hO hy.1 (fun c k => kx_Vi) hJc
    have hTy := KX3_S hO hJc.1 hy.1 (fun c k => kx_Vi) hT3 hTc
    have hcy := kchL_f (c13_Vi hO hy.1) (fun c k h1 h2 => hy.1 _ _ (by unfold sVi; omega)) hcc
    have e7 : ∀ f, c1.1 (o + 7) f = v.1 (o + 7) f := fun f => by rw [fc _ _ (by unfold sIn; omega), fb _ _ (by unfold sLi; omega), fa _ _ (by omega)]
    have hFy : FN3 C w (y.1 (o + 7)) T (k + 1) := FN3_next ei hp hFN (fun f hf => by rw [← e7 f]; exact hfa f hf)
    have l84 : (chM C w p.1).length ≤ 84 := by have := hcb.1; have := hLb.1.2; omega
    refine kx_inner3 he ho hN hX hX3 hLk w01 l i ei hk3 el hl3 hp l84 (x7 := y.1 (o + 7)) (fun q2 t hu2 hl2 et2 ft hXt hJt hTt h7 => ?_) 84 0 _ q1 y rfl (by omega) (Nat.zero_le _) hu1 hl1' et1' fy hXy hJy hcy hTy (fun f => rfl)
    have pre := fun s (hs : s < T.1.length) => onS_pre (C := C) (w := w) (lim := lim) (M := p.1) hs k (chM C w p.1).length
    refine ih (k + 1) _ q2 t _ ei1 hm2 (by have := (pre k hkl).2; omega) hu2 hl2 et2 ft hXt hJt hTt ?_ (by rw [show 3001 - (k + 1) = 3000 - k by omega]; exact hb)
    rw [show t.1 (o + 7) = y.1 (o + 7) from funext h7]
    exact FN3_T (fun s hs => (pre s (by omega)).1) hFy
theorem kx_explore3 (hu : kU q) (he : q.ex = true) (ho : kiT q o) (hC : CO x) (hK : CK x C) (hN : NC C) (hX : NXc C) (hX3 : NX3 C) (hLk : LkN C nl) (hq2 : NCq C) (en : (x.1 60 9).toInt = (nl : Nat)) (w01 : w = 0 ∨ w = 1) (l : Int32) (el : l.toInt = (lim : Nat)) (hl1 : 1 ≤ lim) (hl3 : lim ≤ 3000) (h : ∀ y q1, kU q1 → kle q q1 → q1.et = some o → fm (sEx o) x y → TZ y o → TO y q1 o → J3 C nl w y → KX3 C nl w y o (tryM C w lim) → FN3 C w (y.1 (o + 7)) (tryM C w lim) (tryM C w lim).1.length → Fm y q1) : KM G q (d + 6) zk_X2_explore 0 [(0, vr 200), (1, vi (Int32.ofNat w)), (2, vi l), (3, vr o)] [] x (rm q Fm) X := by
  have hO := iT_O ho
  have k0 : (0 : Int32).toInt = 0 := rfl
  have hw : Int32.ofNat w = 0 ∨ Int32.ofNat w = 1 := by
    rcases w01 with e | e <;> rw [e]
    · exact Or.inl rfl
    · exact Or.inr rfl
  refine kg_X2_explore_0 hu he ho (Int32.ofNat w) l (fun q1 e1 hu1 hl1' u2 e2 => ⟨o, ?_, kle_T hl1' ho, ?_⟩)
  · rw [e2, e1]; exact et_r rfl
  have et1 : q1.et = some o := by rw [e1]; rfl
  have ho1 := kle_T hl1' ho
  have he1 := hl1'.2.1.2.1 he
  have hm1 : kiM q1 220 := Or.inr ⟨rfl, he1⟩
  refine kt_clear (d := d + 4) hu1.1 ho1 (oN_U hu1 o) _ (fun y fy y0 y3 y1 hzy hty x6 e6 => ?_)
  have f6 : fm (fun c k => c = 205) y x6 := by rw [e6]; exact fm_fl (fm_rf _ _) (fun k hk => rfl)
  have ac6 : agC x x6 := fun c k hc => by rw [f6 c k (by omega)]; exact fy c k (by unfold sTr; omega)
  have hC6 : CO x6 := CO_fm hC ac6
  have hK6 : CK x6 C := CK_f hK ac6
  refine kh_reset hu1.1 hm1 hC6 hK6 hN (Int32.ofNat w) hw (fun x7 hM7 f7 e7 g7 => ?_)
  have ac7 : agC x6 x7 := fun c k hc => f7 c k (by unfold sRe; omega)
  have hJ7 : J3 C nl w x7 := ⟨CK_f hK6 ac7, e7, by rw [ac7 60 9 (by omega), ac6 60 9 (by omega)]; exact en⟩
  have e70 : x7.1 o 0 = 0 := by rw [f7 o 0 (by unfold sRe; omega), f6 o 0 (by omega), y0]
  have e71 : x7.1 o 1 = 0 := by rw [f7 o 1 (by unfold sRe; omega), f6 o 1 (by omega), y1]
  have e75 : ∀ j, j < 8192 → x7.1 205 j = 0 := fun j hj => by rw [f7 205 j (by unfold sRe; omega), e6, sfl_get, if_pos ⟨rfl, hj⟩]
  have e77 : ∀ f, f < 11 → x7.1 (o + 7) f = -1 := fun f hf => by
    rw [f7 _ _ (by unfold sRe; omega), f6 _ _ (by omega)]
    rcases hzy.2.1 f hf with e | e
    · exact e
    · rw [y0, k0] at e; omega
  have hX7 : XI x7 q1 o := by
    refine ⟨⟨hM7.1, hM7.2.1⟩, ⟨TZ_fm f7 (by unfold sRe; omega) (fun c k hc => by unfold sRe; omega) (TZ_fm f6 (by omega) (fun c k hc => by omega) hzy), TO_fm f7 (by unfold sRe; omega) (fun k => by unfold sRe; omega) (TO_fm f6 (by omega) (fun k => by omega) hty)⟩, by rw [e70, k0]; omega, fun s hs => by rw [e70, k0] at hs; omega, fun j hj => ?_⟩
    rw [e75 j hj, e70, k0]
    omega
  have hT7 : KX3 C nl w x7 o ([], false) := by
    refine ⟨⟨by rw [e70, k0]; rfl, by rw [e71]; rfl⟩, fun s p hp => (nomatch hp), ⟨fun j hj => by rw [e75 j hj, k0]; exact ⟨Int.le_refl _, Int.le_refl _⟩, fun s hs => absurd hs (Nat.not_lt_zero _), ?_⟩, fun s p hp => (nomatch hp)⟩
    have : (List.range 8192).countP (fun j => decide (¬ x7.1 205 j = 0)) = 0 := List.countP_eq_zero.mpr (fun j hj => by rw [e75 j (List.mem_range.mp hj)]; decide)
    rw [this]; exact Nat.le_refl _
  refine kx_addState3 (d := d + 1) (A := 0) (B := 0) hu1 he1 ho1 et1 hX7 hM7 hJ7.1 hN hJ7.2.2 g7 MIv_fs MCn_fs NBm_fs hT7 _ _ l (Or.inl ⟨rfl, rfl⟩) el hl3 (fun x8 q9 hu9 hl9 et9 f8 hX8 hrow hT8 => ?_)
  have nw : ¬ ∃ p ∈ (([], false) : gTy).1, p.1 = fsM C := fun ⟨p, h1, _⟩ => nomatch h1
  have eT : adS lim 0 0 ([], false) (fsM C) = ([(fsM C, 0, 0)], false) := adS_new nw (by show ¬ lim ≤ 0; omega)
  rw [eT] at hT8
  obtain ⟨ac8, am8⟩ := sKe_C hO f8
  refine kx_outer3 he ho hN hX hX3 hLk hq2 w01 l el hl3 h 3000 0 _ q9 x8 _ rfl (by omega) (Nat.zero_le _) hu9 (kle_tr hl1' hl9) (by rw [et9]; exact et1) ?_ hX8 (J3_f ac8 am8 hJ7) hT8 (fun f hf => Or.inl ⟨by rw [f8 _ _ (by unfold sKe; omega)]; exact e77 f hf, fun s p hs => absurd hs (Nat.not_lt_zero _)⟩) rfl
  exact fm_tr (fm_tr (fm_tr (fm_w fy (fun c k => ex_Tr)) (fm_w f6 (fun c k q => by unfold sEx; omega))) (fm_w f7 (fun c k => ex_Re))) (fm_w f8 (fun c k => ex_Ke))
end KALL
