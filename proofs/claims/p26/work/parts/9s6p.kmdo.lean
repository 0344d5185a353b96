section
/-! the class: a choice is done as the machine does it -/
/-- a choice as the class lists it -/
def kch (x : gd) (o I : Nat) (ch : gCh) : Prop := x.1 (o + 11) I = Int32.ofNat ch.1 ∧ (ch.2.1 = none → x.1 (o + 12) I = -1) ∧ (∀ j, ch.2.1 = some j → x.1 (o + 12) I = Int32.ofNat j) ∧ (ch.2.2 = none → x.1 (o + 13) I = -1) ∧ ∀ k, ch.2.2 = some k → x.1 (o + 13) I = Int32.ofNat k
/-- a choice that there is -/
def chIn (C : gCo) (M : gMa) (ch : gCh) : Prop := ch.1 < C.2.1.length ∧ (ch.2.1 = none → (M.2.2 ch.1).1 = 1 ∧ ¬ (M.2.2 ch.1).2.2.2.1 = 1 ∧ ∀ k, ch.2.2 = some k → k ∈ waM C M (obM C (M.2.2 ch.1).2.2.1)) ∧ ∀ j, ch.2.1 = some j → j < (M.2.2 ch.1).2.2.2.2.2.2.1.length
section KMG
variable {G : kG} {q : kP} {d : Nat} {x x0 y z : gd} {o : Nat} {F : Int32 → gd → Prop} {Fv : gd → Prop} {C : gCo} {M : gMa} {h h' : gTq} {t T w k c s : Nat} {e f : Int32} {wk : Option Nat}
theorem thN_wLv {lv lv' : Nat → Int32} : thN C T (wLv h lv') s lv = thN C T h s lv := rfl
/-- what is known behind a step fits -/
theorem aft_ml (hM : MM x o) (hK : CK x C) (hN : NC C) {st : gNs} (hst : C.1[s]? = some st) (hml : (st.2.1.length : Int) ≤ (x.1 60 13).toInt) : ((aftN st).length : Int) ≤ (x.1 60 13).toInt := by
  have ns := hN.1 _ st hst
  have kn := hK.1.2 _ st hst
  have ls : ssm x = C.1.length := hK.1.1
  have hS : (s : Int) < ssm x := by have := gt_lt hst; omega
  have so : sop x s = (st.1 : Nat) := by
    show (x.1 81 s).toInt = _
    rw [kn.1]
    exact Int32.toInt_ofNat_of_lt (by have := ns.1.1; omega)
  unfold aftN
  by_cases c : (st.1 = 0 ∨ (2 ≤ st.1 ∧ st.1 ≤ 4) ∨ st.1 = 16) ∧ st.2.2.2.1 = some st.2.1.length
  · rw [if_pos c]
    have k84 := kn.2.2.1 (by omega)
    rw [c.2] at k84
    have k84 : (x.1 84 s).toInt = (st.2.1.length : Nat) := k84
    have t2 := ((hM.1.2.2.2.1 _ hS).2.2.2.1 (by omega)).2
    have t2 : (x.1 84 s).toInt < (x.1 60 13).toInt := t2
    rw [List.length_cons]
    push_cast
    omega
  · rw [if_neg c]; exact hml
/-- a thread goes on behind its act -/
theorem kh_goon (hq : kV q) (ho : kiM q o) (hM : MM x o) (hK : CK x C) (hN : NC C) (g : KMm x o C M) (t v : Int32) (et : t.toInt = T) (hT : T < C.2.1.length) (h1 : (M.2.2 T).1 = 1) (hn : (M.2.2 T).2.1 = 0) (hw0 : (M.2.2 T).2.2.2.1 = 0) {st : gNs} (hst : C.1[(M.2.2 T).2.2.1]? = some st) (o16 : st.1 < 16) (ev : v.toInt = ((M.2.2 T).2.2.1 : Nat)) (hF : ∀ y, MM y o → fm (sSt o) x y → KMm y o C (upT M T (thN C T (M.2.2 T) ((M.2.2 T).2.2.1 + 1) (M.2.2 T).2.2.2.2.2.2.2)) → Fv y) : KT G q (d + 4) zk_X5_set 0 [(0, vr o), (1, vi t), (2, vi 2), (3, vi (v + 1))] [] x (rv (fun x2 => KT G q (d + 4) zk_X5_settle 0 [(0, vr o), (1, vi t)] [] x2 (rv (fun x3 => rv Fv none x3)))) := by
  have hO := kiM_O ho
  have nT : (x.1 60 10).toInt = C.2.1.length := hK.2.1.1
  have hT6 := MM_6 hM.1 (t := T) (by omega)
  obtain ⟨b1, b2, b3, b4, b5, b6, b7⟩ := MG_b hM.1 hM.2.1
  have hA := (hM.2.2 T (by omega)).1
  have gT := g.2 T hT
  have k1 : (1 : Int32).toInt = 1 := rfl
  have ls : ssm x = C.1.length := hK.1.1
  have s35 := hM.1.2.2.1.2
  have ns := hN.1 _ st hst
  obtain ⟨st', n1, n2⟩ := ns.2.1 (by omega)
  have hl' := gt_lt n1
  have e1 : (v + 1).toInt = (((M.2.2 T).2.2.1 + 1 : Nat) : Int) := by rw [t_add (by rw [k1]; omega) (by rw [k1]; omega), k1, ev]; push_cast; rfl
  have hml := gT.2.2.2.2.2.2.2.2 (Or.inl h1)
  have es : stN C (M.2.2 T).2.2.1 = st := by unfold stN; rw [hst]; rfl
  rw [es] at hml
  have aml := aft_ml hM hK hN hst hml
  have nl := n2.length_le
  refine kh_set hq ho (MM_MS hM) hT6 _ _ _ et (show (2 : Int32).toInt = ((2 : Nat) : Int) from rfl) (by omega) (by omega) (fun _ => by omega) (fun c => by omega) (fun c => by omega) (fun z hz fz lz gz wz => ?_)
  have z8 : z.1 o 8 = x.1 o 8 := fz _ _ (by unfold sSt; omega)
  have z9 : z.1 o 9 = x.1 o 9 := fz _ _ (by unfold sSt; omega)
  have z13 : z.1 60 13 = x.1 60 13 := fz _ _ (by unfold sSt; omega)
  have zu : ∀ k : Nat, ¬ k = 2 → (k : Int) < (x.1 o 9).toInt → rg z o T k = rg x o T k := fun k k2 k9 => by rw [gz k k9, if_neg k2]
  have zS : MS (rg z o) z o T := ⟨hz.1, hz.2.1, hz.2.2.1, fun _ _ _ _ => rfl⟩
  have zo : ∀ t k : Nat, t ≠ T → (k : Int) < (x.1 o 8).toInt → rg z o t k = rg x o t k := fun t k ht hk => hz.2.2.2 t k ht (by rw [z8]; exact hk)
  obtain ⟨q0, q1, q2, ⟨q3, q5, qw, -⟩, q4, q6, ⟨q7, ql⟩, qv, -⟩ := gT
  rw [if_pos hw0] at q3
  rw [if_neg (by omega)] at q5
  have hKz : CK z C := CK_St hO hK fz
  refine kh_settleM (h := M.2.2 T) (lv := (M.2.2 T).2.2.2.2.2.2.2) hq ho zS hKz hN (KMl_e hM.2.1 (fz _ _ (by unfold sSt; omega)) (fz _ _ (by unfold sSt; omega)) lz g.1 hM.1) (fun t' ht' hne => kTq_e hM.1 hM.2.1 (hM.2.2 t' (by omega)).1 z13 z9 (fun k hk => zo t' k hne hk) (g.2 t' ht')) hT _ et n1 (by rw [z13]; omega) (by rw [zu 0 (by omega) (by omega), q0.1, h1]; rfl) (by rw [zu 1 (by omega) (by omega), q1, hn]; rfl) (by rw [gz 2 (by omega), if_pos rfl]; exact e1) (by rw [zu 3 (by omega) (by omega)]; exact q3) (by rw [zu 5 (by omega) (by omega)]; exact q5) hw0 (by rw [zu 4 (by omega) (by omega)]; exact q4) (by rw [zu 6 (by omega) (by omega)]; exact q6) ⟨by rw [zu 7 (by omega) (by omega)]; exact q7, fun i p hp => ?_⟩ (fun p hp => ?_) (fun w hw fw gw => rv_i (hF w hw (fm_tr fz fw) gw))
  · have hi := gt_lt hp
    have := (lt_in hM.1 hM.2.1 hA (i := i) (by rw [q7]; omega)).2
    rw [z9, wz _ (by omega) (by omega), wz _ (by omega) (by omega)]
    exact ql i p hp
  · rw [zu (8 + p) (by omega) (by push_cast; omega)]
    exact qv p (by omega)
/-- whether it waits, as the class has it -/
theorem kst_w3 (hM : MM x o) (hK : CK x C) (hN : NC C) (ht : t < C.2.1.length) (g : kTq x o C t h) : rg x o t 3 = 0 ↔ h.2.2.2.1 = 0 := by
  have q3 := g.2.2.2.1.1
  by_cases c : h.2.2.2.1 = 0
  · rw [if_pos c] at q3
    exact ⟨fun _ => c, fun _ => q3⟩
  · rw [if_neg c] at q3
    have l6 := hM.1.1.2.1.2
    obtain ⟨a1, a2⟩ := kst_wl hM hK hN ht g c
    have k1 : (1 : Int32).toInt = 1 := rfl
    have k0 : (0 : Int32).toInt = 0 := rfl
    refine ⟨fun z => ?_, fun z => absurd z c⟩
    rw [q3, t_eq, t_add (by rw [k1]; omega) (by rw [k1]; omega), k1, k0, a1] at z
    omega
/-- what an act leaves of its own thread -/
theorem ef_own (n7 : ¬ soM C (M.2.2 T) = 7) (n9 : ¬ soM C (M.2.2 T) = 9) (s16 : soM C (M.2.2 T) < 16) (h1 : (M.2.2 T).1 = 1) (hn : (M.2.2 T).2.1 = 0) (w1 : ¬ (M.2.2 T).2.2.2.1 = 1) : ((efM C w M T (soM C (M.2.2 T)) c e f wk).1.2.2 T).1 = 1 ∧ ((efM C w M T (soM C (M.2.2 T)) c e f wk).1.2.2 T).2.1 = 0 ∧ ((efM C w M T (soM C (M.2.2 T)) c e f wk).1.2.2 T).2.2.1 = (M.2.2 T).2.2.1 ∧ ((efM C w M T (soM C (M.2.2 T)) c e f wk).1.2.2 T).2.2.2.1 = 0 := by
  by_cases c15 : soM C (M.2.2 T) = 15
  · rw [c15, ef_15]
    show ((upT _ T _).2.2 T).1 = 1 ∧ ((upT _ T _).2.2 T).2.1 = 0 ∧ ((upT _ T _).2.2 T).2.2.1 = _ ∧ ((upT _ T _).2.2 T).2.2.2.1 = 0
    rw [upT_at]
    exact ⟨h1, hn, rfl, rfl⟩
  · have w0 := (so_0 c15).1
    obtain ⟨s, es⟩ : ∃ s, s = soM C (M.2.2 T) := ⟨_, rfl⟩
    rw [← es] at n7 n9 s16 c15 ⊢
    have hs : s = 0 ∨ s = 1 ∨ s = 2 ∨ s = 3 ∨ s = 4 ∨ s = 5 ∨ s = 6 ∨ s = 8 ∨ (s = 10 ∨ s = 11 ∨ s = 12) ∨ s = 13 ∨ s = 14 := by omega
    rcases hs with e | e | e | e | e | e | e | e | e | e | e
    · rw [e, ef_0]; exact ⟨h1, hn, rfl, w0⟩
    · rw [e, ef_1]
      split
      · exact ⟨h1, hn, rfl, w0⟩
      · show ((upT _ T _).2.2 T).1 = 1 ∧ ((upT _ T _).2.2 T).2.1 = 0 ∧ ((upT _ T _).2.2 T).2.2.1 = _ ∧ ((upT _ T _).2.2 T).2.2.2.1 = 0
        rw [upT_at]
        exact ⟨h1, hn, rfl, w0⟩
    · rw [e, ef_2]; exact ⟨h1, hn, rfl, w0⟩
    · rw [e, ef_3]; exact ⟨h1, hn, rfl, w0⟩
    · rw [e, ef_4]; exact ⟨h1, hn, rfl, w0⟩
    · rw [e, ef_5]; exact ⟨h1, hn, rfl, w0⟩
    · rw [e, ef_6]; exact ⟨h1, hn, rfl, w0⟩
    · rw [e, ef_8]
      have : wkT C M T c wk T = M.2.2 T := by
        unfold wkT
        rw [if_neg (fun z => w1 z.2.1)]
      show (wkT C M T c wk T).1 = 1 ∧ (wkT C M T c wk T).2.1 = 0 ∧ (wkT C M T c wk T).2.2.1 = _ ∧ (wkT C M T c wk T).2.2.2.1 = 0
      rw [this]
      exact ⟨h1, hn, rfl, w0⟩
    · rw [ef_o e]; exact ⟨h1, hn, rfl, w0⟩
    · rw [e, ef_13]
      show ((upT _ T _).2.2 T).1 = 1 ∧ ((upT _ T _).2.2 T).2.1 = 0 ∧ ((upT _ T _).2.2 T).2.2.1 = _ ∧ ((upT _ T _).2.2 T).2.2.2.1 = 0
      rw [upT_at]
      exact ⟨h1, hn, rfl, w0⟩
    · rw [e, ef_14]
      show ((upT _ T _).2.2 T).1 = 1 ∧ ((upT _ T _).2.2 T).2.1 = 0 ∧ ((upT _ T _).2.2 T).2.2.1 = _ ∧ ((upT _ T _).2.2 T).2.2.2.1 = 0
      rw [upT_at]
      exact ⟨h1, hn, rfl, w0⟩
theorem kh_perform (hq : kV q) (ho : kiM q o) (hM : MM x o) (hK : CK x C) (hN : NC C) (hX : NXc C) (hX3 : NX3 C) (g : KMm x o C M) (hW : WM M) (wy : x.1 o 3 = Int32.ofNat w) (w01 : w = 0 ∨ w = 1) (i : Int32) {I : Nat} (ei : i.toInt = I) (hi : I < 84) {ch : gCh} (hc : kch x o I ch) (hin : chIn C M ch) (hF : ∀ y, MM y o → fm (sMk o) x y → DE y o → KMm y o C (doM C w M ch) → Fv y) : KT G q (d + 5) zk_X5_perform 0 [(0, vr o), (1, vi i)] [] x (rv Fv) := by
  have hO := kiM_O ho
  have nT : (x.1 60 10).toInt = C.2.1.length := hK.2.1.1
  obtain ⟨T, lt9, wk⟩ := ch
  obtain ⟨c1, c2, c3, c4, c5⟩ := hc
  obtain ⟨i1, i2, i3⟩ := hin
  have hT : T < C.2.1.length := i1
  have c1 : x.1 (o + 11) I = Int32.ofNat T := c1
  have eN : i.toNatClampNeg = I := by rw [t_cl, ei]; rfl
  have vi9 : vp_in i 84 := by rw [vp_in_iff]; omega
  have hTx : (T : Int) < (x.1 60 10).toInt := by omega
  have hT6 := MM_6 hM.1 hTx
  have hA := (hM.2.2 T hTx).1
  have t6 := hM.1.1.2.2.1
  obtain ⟨b1, b2, b3, b4, b5, b6, b7⟩ := MG_b hM.1 hM.2.1
  have eT : (x.1 (o + 11) I).toInt = T := by rw [c1]; exact Int32.toInt_ofNat_of_lt (by omega)
  have gT := g.2 T hT
  refine kg_X5_perform_0 hq ho _ ⟨vi9, vi9, ?_⟩
  rw [eN]
  cases hlt : lt9 with
  | none =>
    have i2 := i2 hlt
    have h1 : (M.2.2 T).1 = 1 := i2.1
    refine ⟨fun _ => ?_, fun c => absurd (c2 hlt) c⟩
    have hg : rg x o T 0 = 1 := by rw [gT.1.1, h1]; rfl
    have hgo := (hM.2.2 T hTx).2 hg
    obtain ⟨st, s1, s2, s3, s4, s5, kn, ns⟩ := kst_at hM hK hN hT gT
    obtain ⟨v, e, l⟩ := MM_st hM.1 hA
    have hcs := hM.1.2.2.2.1 _ l
    have o16 : st.1 < 16 := by
      have := hgo.1
      rw [s3, s5] at this
      omega
    have w3 := kst_w3 hM hK hN hT gT
    have est2 : (rg x o T 2).toInt = ((M.2.2 T).2.2.1 : Nat) := gT.2.2.1
    have hn0 : (M.2.2 T).2.1 = 0 := (hW T hT6).1 (by omega)
    have acE : doM C w M (T, none, wk) = acM C w M T wk := rfl
    rw [hlt] at hF
    rw [acE] at hF
    have tonone : ¬ (st.1 = 0 ∨ (2 ≤ st.1 ∧ st.1 ≤ 4) ∨ st.1 = 16 ∨ st.1 = 17 ∨ st.1 = 20) → (stN C (M.2.2 T).2.2.1).2.2.2.1 = none := fun z => by rw [s2]; exact (hX _ st s1).2.2.2.2.1 z
    have obE : obM C (M.2.2 T).2.2.1 = st.2.2.2.2.1.toNatClampNeg := by unfold obM; rw [s2]
    have go : ∀ p : Int32, p = Int32.ofNat (soM C (M.2.2 T)) → ((rg x o T 3 = 0 ∧ p = x.1 81 (rg x o T 2).toInt.toNat) ∨ (¬ rg x o T 3 = 0 ∧ p = 15)) → KT G q (d + 4) zk_X5_get 0 [(0, vr o), (1, vi (x.1 (o + 11) I)), (2, vi 2)] [] x (ri (fun r7 x6 => vp_in r7 400 ∧ KT G q (d + 4) zk_X1_clear 0 [(0, vr (o + 20)), (1, vi (x.1 (o + 11) I)), (2, vi p), (3, vi (x6.1 85 (r7 : Int32).toNatClampNeg))] [] x6 (rv (fun x9 => vp_in i 84 ∧ KT G q (d + 4) zk_X5_actFailure 0 [(0, vr o), (1, vi (x.1 (o + 11) I)), (2, vi r7), (3, vi p), (4, vi (x9.1 (o + 13) I))] [] x9 (ri (fun r12 x11 => ((r12 = (0 : Int32) → ((¬ (p = (9 : Int32)) → KT G q (d + 5) zk_X5_perform 129 [(0, vr o), (2, vi (x.1 (o + 11) I)), (3, vi p), (4, vi r7)] [] x11 (rv Fv)) ∧ (p = (9 : Int32) → vp_in r7 400 ∧ KT G q (d + 4) zk_X5_rouse 0 [(0, vr o), (1, vi (x11.1 85 (r7 : Int32).toNatClampNeg))] [] x11 (rv (fun x16 => KT G q (d + 5) zk_X5_perform 129 [(0, vr o), (2, vi (x.1 (o + 11) I)), (3, vi p), (4, vi r7)] [] x16 (rv Fv)))))) ∧ (¬ (r12 = (0 : Int32)) → (∀ x17 : gd, x17 = si x11 (o + 20) 5 1 → KT G q (d + 4) zk_X5_fail 0 [(0, vr o), (1, vi (x.1 (o + 11) I)), (2, vi r12)] [] x17 (rv (fun x18 => rv Fv none x18))))))))))) := by
      intro p hps hp
      have so16 : soM C (M.2.2 T) < 16 := by
        unfold soM
        split
        · rw [s2]; exact o16
        · decide
      have ep : p.toInt = (soM C (M.2.2 T) : Nat) := by rw [hps]; exact Int32.toInt_ofNat_of_lt (by omega)
      have p0 : 0 ≤ p.toInt := by omega
      refine kp_get hq ho hM.1 hM.2.1 _ _ eT (show (2 : Int32).toInt = ((2 : Nat) : Int) from rfl) hT6 (by omega) ⟨v, ?_⟩
      rw [e]
      refine kp_deedClear hq (kiM_D ho) _ _ _ (fun y fy y0 y1 y2 y5 => ⟨vi9, ?_⟩)
      obtain ⟨hy, fM, ry⟩ := MM_dc hO hM fy
      have y10 : y.1 60 10 = x.1 60 10 := fy _ _ (by omega)
      have y85 : ∀ j, y.1 85 j = x.1 85 j := fun j => fy _ _ (by omega)
      obtain ⟨f6, f9, e13, e9, e8, e7, -⟩ := sM_e hO fM
      have gy : KMm y o C M := KMm_fr hO hM hK f6 f9 e13 e9 (fun j _ => fy _ _ (by omega)) ry g
      have hKy := CK_M hO hK fM
      rw [← ry T 2]
      refine kh_act (wk := wk) hq ho hy hKy hN hX hX3 gy (by rw [fM o 3 (by unfold sMk; omega)]; exact wy) w01 _ _ _ eT hT h1 hps (fun z => by rw [fy _ _ (by omega)]; exact c4 z) (fun k hk => ⟨by rw [fy _ _ (by omega)]; exact c5 k hk, i2.2.2 k hk⟩) (fun r z hz hd hr => ?_)
      have fz := fm_tr fM hz.2.1
      have hKz := CK_M hO hK fz
      have z10 : z.1 60 10 = x.1 60 10 := by rw [(AR_9 hO hz).2.1]; exact y10
      have d0 : z.1 (o + 20) 0 = x.1 (o + 11) I := by rw [hz.2.2.2 0 (by decide)]; exact y0
      have d1 : z.1 (o + 20) 1 = p := by rw [hz.2.2.2 1 (by decide)]; exact y1
      have d5 : z.1 (o + 20) 5 = 0 := by rw [hz.2.2.2 5 (by decide)]; exact y5
      rw [ry]
      -- the deed of an act that was done
      have deed : r = 0 → ∀ w, fm (sSt o) z w → DE w o := by
        intro r0 w fw
        obtain ⟨q2, q3⟩ := hd r0
        have w20 : ∀ k, w.1 (o + 20) k = z.1 (o + 20) k := fun k => fw _ _ (by unfold sSt; omega)
        have ww : ∀ k, k ≠ 5 → w.1 60 k = x.1 60 k := fun k hk => by rw [fw 60 k (by unfold sSt; omega), fz 60 k (by unfold sMk; omega)]
        unfold DE
        rw [w20, w20, w20, w20, d0, d1, d5, ww 10 (by omega), ww 6 (by omega), ww 9 (by omega)]
        refine ⟨gbool_0, Or.inr ⟨by omega, p0, fun _ => ⟨fun c4 => ?_, fun c58 => ?_, fun c9 => ?_⟩⟩⟩
        · have := q2 c4
          rw [fy 60 6 (by omega)] at this; exact this
        · rw [q3 (by omega), y2]
          rcases hp with ⟨e3, e1⟩ | ⟨e3, e1⟩
          · rcases c58 with c | c
            · rw [e1] at c
              exact hcs.1.2.1 c.1 c.2
            · exfalso; rw [e1] at c; exact hcs.2.1.2 c
          · have h7 := hgo.2 e3
            exact hcs.1.2.1 (by omega) (by omega)
        · rw [q3 (by omega), y2]
          rcases hp with ⟨e3, e1⟩ | ⟨e3, e1⟩
          · rw [e1] at c9
            exact hcs.1.2.2 (by unfold sop; omega) (by unfold sop; omega)
          · exfalso; rw [e1] at c9; revert c9; decide
      rcases hr with ⟨rn, er, ln, gz⟩ | ⟨r0, ln, gn9, g9⟩
      · -- it fails
        refine ⟨fun r0 => absurd r0 rn, fun _ x17 e17 => ?_⟩
        obtain ⟨h17, r17⟩ := AR_deed (S := fun k => k = 5) hO hz.1 rfl e17
        have f17 := fm_tr fz h17.2.1
        have hK17 := CK_M hO hK f17
        have g17 : KMm x17 o C M := AR_KM hO hz.1 hKz h17 (fun j _ => by rw [e17, si_cell (by omega)]) r17 gz
        obtain ⟨v6, v9', v13, v9, v8, v7, v10⟩ := sM_e hO f17
        refine kh_fail hq ho (MM_MS h17.1) hT6 _ _ eT (fun w hw fw w0 w1 w2 lw wv => rv_i (hF w (MS_MM hw (fun _ c1 => ?_)) (fm_tr f17 (fm_w fw (fun c k q => sSt_M q))) ?_ ?_))
        · rw [w0] at c1; exact absurd c1 (by decide)
        · have w20 : ∀ k, w.1 (o + 20) k = x17.1 (o + 20) k := fun k => fw _ _ (by unfold sSt; omega)
          have q5 : x17.1 (o + 20) 5 = 1 := by rw [e17, si_get, if_pos ⟨rfl, rfl⟩]
          unfold DE
          rw [w20, w20, w20, w20, q5, h17.2.2.2 0 (by decide), h17.2.2.2 1 (by decide), d0, d1, fw 60 10 (by unfold sSt; omega), f17 60 10 (by unfold sMk; omega)]
          exact ⟨gbool_1, Or.inr ⟨by omega, p0, fun c5 => absurd c5 (by decide)⟩⟩
        · rw [acM_F ln]
          have fMw : fm (sMk o) x17 w := fm_w fw (fun c k q => sSt_M q)
          obtain ⟨u6, u9', u13, u9, u8, u7, u10⟩ := sM_e hO fMw
          have gT17 := g17.2 T hT
          have hA17 := (h17.1.2.2 T (by rw [v10]; exact hTx)).1
          obtain ⟨k1, k2, k3, k4, k5, k6, k7⟩ := MG_b h17.1.1 h17.1.2.1
          refine KMm_T hO h17.1 hK17 fMw lw (fun t' k' ht hk => hw.2.2.2 t' k' ht (by rw [u8]; exact hk)) g17 (kTq_k h17.1.1 h17.1.2.1 hA17 u13 u9 (fun k => if k = 0 then 3 else if k = 1 then r else rg x17 o T k) (fun k hk => ?_) gT17 rfl ⟨rfl, by show (3 : Nat) ≤ 3; decide⟩ er gT17.2.2.1 gT17.2.2.2.1 gT17.2.2.2.2.1 gT17.2.2.2.2.2.1 (fun _ => gT17.2.2.2.2.2.2.2.2 (Or.inl h1)))
          by_cases c0 : k = 0
          · rw [c0, if_pos (by decide), if_pos rfl]; exact w0
          · by_cases c1 : k = 1
            · rw [c1, if_pos (by decide), if_neg (by decide), if_pos rfl]; exact w1
            · rw [if_neg c0, if_neg c1]
              have : rg w o T k = rg x17 o T k := by
                by_cases c9 : (k : Int) < (x17.1 o 9).toInt
                · exact w2 k (by omega) c9
                · exact wv k (by omega) hk
              rw [this]; split <;> rfl
      · -- it is done
        refine ⟨fun _ => ⟨fun n9 => ?_, fun c9 => ⟨v, ?_⟩⟩, fun rn => absurd r0 rn⟩
        · have ns9 : ¬ soM C (M.2.2 T) = 9 := fun z9 => n9 (by rw [hps, z9]; rfl)
          have gz := gn9 ns9
          refine kg_X5_perform_129 hq ho _ _ _ ⟨fun c7 => rv_i (hF z hz.1 fz (deed r0 z (fm_rf _ _)) ?_), fun n7 => ?_⟩
          · have s7 : soM C (M.2.2 T) = 7 := by
              rw [c7] at ep
              have k7 : (7 : Int32).toInt = 7 := rfl
              omega
            rw [acM_7 ln s7, ef_7]
            have hw0 := (so_0 (C := C) (M := M) (t := T) (by omega))
            have o7 : st.1 = 7 := by rw [← s2, ← hw0.2]; exact s7
            have ll := lkM_b (w := w) hX s1 s2 hw0.1 (by omega)
            rw [← M1c_is (C := C) (w := w) (M := M) (T := T) (wk := wk) (v := 0) (E := upT (upL M (lkM C w M T).2.1.toNatClampNeg (0, 0)) T ((M.2.2 T).1, (M.2.2 T).2.1, (M.2.2 T).2.2.1, 1, (M.2.1 (lkM C w M T).2.1.toNatClampNeg).2, (M.2.2 T).2.2.2.2.2)) (by rw [s7, ef_7]) (tonone (by omega)) (by rw [upT_at])]
            exact gz
          · have ns7 : ¬ soM C (M.2.2 T) = 7 := fun z7 => n7 (by rw [hps, z7]; rfl)
            obtain ⟨E, eE⟩ : ∃ E, E = efM C w M T (soM C (M.2.2 T)) (lkM C w M T).2.1.toNatClampNeg (lkM C w M T).2.2.1 (lkM C w M T).2.2.2 wk := ⟨_, rfl⟩
            have acS := acM_is (E := E.1) (v := E.2) ln ns7 (by rw [← eE])
            have m1 : M1c C w M T wk = upT E.1 T (wLv (E.1.2.2 T) (toV (stN C (M.2.2 T).2.2.1) (M.2.2 T).2.2.2.2.2.2.2 E.2)) := by unfold M1c; rw [← eE]
            have eT9 : (E.1.2.2 T).1 = 1 ∧ (E.1.2.2 T).2.1 = 0 ∧ (E.1.2.2 T).2.2.1 = (M.2.2 T).2.2.1 ∧ (E.1.2.2 T).2.2.2.1 = 0 := by
              rw [eE]
              exact ef_own ns7 ns9 so16 h1 hn0 i2.2.1
            rw [m1] at gz
            have gTz : (upT E.1 T (wLv (E.1.2.2 T) (toV (stN C (M.2.2 T).2.2.1) (M.2.2 T).2.2.2.2.2.2.2 E.2))).2.2 T = wLv (E.1.2.2 T) (toV (stN C (M.2.2 T).2.2.1) (M.2.2 T).2.2.2.2.2.2.2 E.2) := upT_at
            refine kh_goon hq ho hz.1 hKz hN gz _ _ eT hT (by rw [gTz]; exact eT9.1) (by rw [gTz]; exact eT9.2.1) (by rw [gTz]; exact eT9.2.2.2) (by rw [gTz]; show C.1[(E.1.2.2 T).2.2.1]? = _; rw [eT9.2.2.1]; exact s1) o16 (by rw [gTz]; show _ = (((E.1.2.2 T).2.2.1 : Nat) : Int); rw [eT9.2.2.1]; exact est2) (fun u hu fu gu => (hF u hu (fm_tr fz (fm_w fu (fun c k q => sSt_M q))) (deed r0 u fu) ?_))
            rw [acS]
            rw [upT_2, gTz] at gu
            have es9 : (wLv (E.1.2.2 T) (toV (stN C (M.2.2 T).2.2.1) (M.2.2 T).2.2.2.2.2.2.2 E.2)).2.2.1 = (M.2.2 T).2.2.1 := eT9.2.2.1
            rw [es9, thN_wLv] at gu
            exact gu
        · -- start
          have k9 : (9 : Int32).toInt = 9 := rfl
          have s9 : soM C (M.2.2 T) = 9 := by
            rw [c9] at ep
            omega
          obtain ⟨ez, hc0⟩ := g9 s9
          subst ez
          have hw0 := (so_0 (C := C) (M := M) (t := T) (by omega))
          have o9 : st.1 = 9 := by rw [← s2, ← hw0.2]; exact s9
          have k85 := kn.2.2.2.2.1 (by omega)
          have a := (hM.1.2.2.2.1 _ s4).1.2.2 (by omega) (by omega)
          rw [y85, s3, k85]
          rw [k85] at a
          have l1 : st.2.2.2.2.1.toInt = (obM C (M.2.2 T).2.2.1 : Nat) := by rw [obE, t_cl]; omega
          obtain ⟨c', ec⟩ : ∃ c', c' = obM C (M.2.2 T).2.2.1 := ⟨_, rfl⟩
          rw [← ec] at l1 hc0
          have hcl : c' < C.2.1.length := by omega
          obtain ⟨q9, hq9⟩ : ∃ q9, C.2.1[c']? = some q9 := ⟨_, List.getElem?_eq_getElem hcl⟩
          have hne : ¬ T = c' := fun z9 => by rw [← z9, h1] at hc0; exact absurd hc0 (by decide)
          have hWc := hW c' (by omega)
          have hwc : (M.2.2 c').2.2.2.1 = 0 := hWc.2.2 (by omega)
          refine kh_rouseM hq ho hz.1 hKz hN gy _ l1 hcl hc0 (hWc.1 (by omega)) hwc hq9 (fun u hu fu gu => kg_X5_perform_129 hq ho _ _ _ ⟨fun c7 => absurd (c7.symm.trans c9) (by decide), fun n7 => ?_⟩)
          have fzu := fm_tr fM (fm_w fu (fun c k q => sSt_M q))
          have gTu : (upT M c' (thN C c' (M.2.2 c') q9.1 (M.2.2 c').2.2.2.2.2.2.2)).2.2 T = M.2.2 T := upT_ne hne
          refine kh_goon hq ho hu (CK_M hO hK fzu) hN gu _ _ eT hT (by rw [gTu]; exact h1) (by rw [gTu]; exact hn0) (by rw [gTu]; exact hw0.1) (by rw [gTu]; exact s1) o16 (by rw [gTu]; exact est2) (fun v9 hv fv gv => (hF v9 hv (fm_tr fzu (fm_w fv (fun c k q => sSt_M q))) (deed r0 v9 (fm_tr fu fv)) ?_))
          have ll := lkM_b (w := w) hX s1 s2 hw0.1 (by omega)
          rw [acM_is (E := upT M c' (thN C c' (M.2.2 c') q9.1 (M.2.2 c').2.2.2.2.2.2.2)) (v := 0) ln (by omega) (by rw [s9, ll, ef_9 (q := q9) (show C.2.1[(st.2.2.2.2.1).toNatClampNeg]? = some q9 by rw [← obE, ← ec]; exact hq9), ← obE, ← ec]), gTu, toV_n (tonone (by omega))]
          rw [gTu] at gv
          exact gv
    refine kp_sortOf hq ho hM.1 hM.2.1 _ eT hT6 hA (fun c0 => go _ ?_ (Or.inl ⟨c0, rfl⟩)) (fun c0 => go _ ?_ (Or.inr ⟨c0, rfl⟩))
    · unfold soM
      rw [if_pos (w3.mp c0), s2, s3]; exact kn.1
    · unfold soM
      rw [if_neg (fun z => c0 (w3.mpr z))]; rfl
  | some J =>
    have hJ := i3 J hlt
    have c3 := c3 J hlt
    have hJ : J < (M.2.2 T).2.2.2.2.2.2.1.length := hJ
    have q7 := gT.2.2.2.2.2.2.1.1
    have a2 := hA.2.1
    have eJ : (x.1 (o + 12) I).toInt = J := by rw [c3]; exact Int32.toInt_ofNat_of_lt (by omega)
    have laE : doM C w M (T, some J, wk) = laM M T J := rfl
    rw [hlt] at hF
    rw [laE] at hF
    refine ⟨fun c => ?_, fun _ => ?_⟩
    · exfalso; rw [c, tm1] at eJ; omega
    refine kp_deedClear hq (kiM_D ho) _ _ _ (fun y fy y0 y1 y2 y5 => ⟨vi9, ?_⟩)
    obtain ⟨hy, fM, ry⟩ := MM_dc hO hM fy
    obtain ⟨f6, f9, e13, e9, e8, e7, -⟩ := sM_e hO fM
    have gy : KMm y o C M := KMm_fr hO hM hK f6 f9 e13 e9 (fun j _ => fy _ _ (by omega)) ry g
    rw [fy (o + 12) I (by omega)]
    refine kh_bring hq ho hy (CK_M hO hK fM) gy _ _ eT eJ hT hJ (fun z hz fz z20 gz => rv_i (hF z hz (fm_tr fM fz) ⟨?_, Or.inl ?_⟩ gz))
    · rw [z20, y5]; exact gbool_0
    · rw [z20, y0]
end KMG
end
section
/-! the class: its choices are the machine's -/
def kchL (x : gd) (o : Nat) (l : List gCh) : Prop := (x.1 o 13).toInt = (l.length : Nat) ∧ ∀ i ch, l[i]? = some ch → kch x o i ch
/-- one that waits doesn't hold its lock -/
def WLk (C : gCo) (M : gMa) : Prop := ∀ t, t < 6 → ¬ (M.2.2 t).2.2.2.1 = 0 → ¬ (M.2.1 (obM C (M.2.2 t).2.2.1)).1 = t + 1
section KMI
variable {G : kG} {q : kP} {d : Nat} {x x0 y z : gd} {o : Nat} {F : Int32 → gd → Prop} {Fv : gd → Prop} {C : gCo} {M : gMa} {h h' : gTq} {t T w k c s : Nat} {l : List gCh} {ch : gCh}
theorem KMm_Li (hO : o = 120 ∨ o = 220) (hM : MM x o) (hK : CK x C) (f : fm (sLi o) x y) (g : KMm x o C M) : KMm y o C M :=
  KMm_fr hO hM hK (f _ _ (by unfold sLi; omega)) (f _ _ (by unfold sLi; omega)) (f _ _ (by unfold sLi; omega)) (f _ _ (by unfold sLi; omega)) (fun j _ => f _ _ (by unfold sLi; omega)) (rg_Li hO f) g
theorem CK_Li (hO : o = 120 ∨ o = 220) (hK : CK x C) (f : fm (sLi o) x y) : CK y C := CK_f hK (fun c k hc => f c k (by unfold sLi; omega))
theorem kh_canAct (hq : kV q) (ho : kiM q o) (hM : MM x o) (hK : CK x C) (hN : NC C) (g : KMm x o C M) (hWL : WLk C M) (wy : x.1 o 3 = Int32.ofNat w) (w01 : w = 0 ∨ w = 1) (t : Int32) (et : t.toInt = T) (hT : T < C.2.1.length) (hF : ∀ r : Int32, (¬ r = 0 ↔ canM C w M T) → F r x) : KT G q (d + 2) zk_X5_canAct 0 [(0, vr o), (1, vi t)] [] x (ri F) := by
  have nT : (x.1 60 10).toInt = C.2.1.length := hK.2.1.1
  have t6 := hM.1.1.2.2.1
  have hT6 := MM_6 hM.1 (t := T) (by omega)
  have hA := (hM.2.2 T (by omega)).1
  have gT := g.2 T hT
  have k0 : (0 : Int32).toInt = 0 := rfl
  have k2 : (2 : Int32).toInt = 2 := rfl
  have tT : t = Int32.ofNat T := i32_of et
  obtain ⟨st, s1, s2, s3, s4, s5, kn, ns⟩ := kst_at hM hK hN hT gT
  obtain ⟨v, e, -⟩ := MM_st hM.1 hA
  have hcs := (hM.1.2.2.2.1 _ s4).1
  have w3 := kst_w3 hM hK hN hT gT
  have gi := kw_i hA gT
  have l7 := gT.2.2.2.2.2.2.1.1
  have le : ∀ {t' : Nat}, t' < C.2.1.length → (rg x o t' 7 = 0 ↔ (M.2.2 t').2.2.2.2.2.2.1 = []) := fun {t'} ht' => by
    have := (g.2 t' ht').2.2.2.2.2.2.1.1
    rw [t_eq, k0, this, ← List.length_eq_zero_iff]
    omega
  have f0 : ¬ canM C w M T → ri F (some (vi 0)) x := fun z => ri_i (hF _ ⟨fun c => absurd rfl c, fun c => absurd c z⟩)
  have f1 : canM C w M T → ri F (some (vi 1)) x := fun z => ri_i (hF _ ⟨fun _ => z, fun _ => by decide⟩)
  have g7 : ∀ {H : Int32 → gd → Prop}, H (rg x o T 7) x → KT G q (d + 1) zk_X5_get 0 [(0, vr o), (1, vi t), (2, vi 7)] [] x (ri H) := fun hh => kp_get hq ho hM.1 hM.2.1 _ _ et (show (7 : Int32).toInt = ((7 : Nat) : Int) from rfl) hT6 (by omega) hh
  have obE : obM C (M.2.2 T).2.2.1 = st.2.2.2.2.1.toNatClampNeg := by unfold obM; rw [s2]
  refine kg_X5_canAct_0 hq ho _ (kp_isGoing hq ho hM.1 hM.2.1 _ et hT6 (fun hg => ⟨fun _ => ?_, fun c => absurd c (by decide)⟩) (fun hg => ⟨fun c => absurd rfl c, fun _ => f0 (fun z => hg (gi.mpr z.1))⟩))
  have h1 := gi.mp hg
  have hgo := (hM.2.2 T (by omega)).2 hg
  have o16 : st.1 < 16 := by
    have := hgo.1
    rw [s3, s5] at this
    omega
  refine kp_get hq ho hM.1 hM.2.1 _ _ et (show (2 : Int32).toInt = ((2 : Nat) : Int) from rfl) hT6 (by omega) ⟨v, ?_⟩
  rw [e, s3]
  refine kp_sortOf hq ho hM.1 hM.2.1 _ et hT6 hA (fun c3 => ?_) (fun c3 => ?_)
  · -- it does not wait
    have w0 := w3.mp c3
    have so : soM C (M.2.2 T) = st.1 := by unfold soM; rw [if_pos w0, s2]
    rw [s3]
    have oi : (x.1 81 (M.2.2 T).2.2.1).toInt = (st.1 : Nat) := s5
    have op : ∀ {n : Nat}, n < 16 → x.1 81 (M.2.2 T).2.2.1 = Int32.ofNat n → st.1 = n := fun {n} hn z => by
      have e1 : (Int32.ofNat n).toInt = (n : Nat) := Int32.toInt_ofNat_of_lt (by omega)
      rw [t_eq, e1] at z
      omega
    have lk : 5 ≤ st.1 → st.1 ≤ 8 → st.2.2.2.2.1.toInt = (obM C (M.2.2 T).2.2.1 : Nat) ∧ ((obM C (M.2.2 T).2.2.1 : Nat) : Int) < (x.1 60 9).toInt := fun n5 n8 => by
      have a := hcs.2.1 (by omega) (by omega)
      rw [kn.2.2.2.2.1 (by omega)] at a
      rw [obE, t_cl]
      omega
    refine ⟨fun c => f1 ?_, fun c1 => ?_, fun c5 => ?_, fun c15 => ?_, fun c10 => ?_, fun cn => ?_⟩
    · have : st.1 = 0 ∨ st.1 = 12 ∨ st.1 = 13 ∨ st.1 = 14 := by
        rcases c with c | c | c | c
        · exact Or.inl (op (n := 0) (by decide) c)
        · exact Or.inr (Or.inl (op (n := 12) (by decide) c))
        · exact Or.inr (Or.inr (Or.inl (op (n := 13) (by decide) c)))
        · exact Or.inr (Or.inr (Or.inr (op (n := 14) (by decide) c)))
      refine ⟨h1, by omega, fun z => absurd ?_ z, fun z => by omega, fun z => by omega⟩
      rw [so]; omega
    · have e1 : st.1 = 1 := op (n := 1) (by decide) c1
      refine kh_goesLate hq ho hM hK hN wy w01 _ gT.2.2.1 s1 (fun r hr => ⟨fun c => f1 ?_, fun c => g7 ⟨fun c7 => f0 (fun z => ?_), fun c7 => f1 ?_⟩⟩)
      · obtain ⟨r1, r2, r3⟩ := hr.mp c
        refine ⟨h1, by omega, fun z => absurd ?_ z, fun z => by omega, fun z => by omega⟩
        rw [so, obE]
        exact Or.inr (Or.inr (Or.inr (Or.inr ⟨r1, e1, r3⟩)))
      · refine c7 ((le hT).mpr (z.2.2.1 (fun z9 => ?_)))
        rw [so, obE] at z9
        have : w = 1 ∧ st.1 = 1 ∧ suM C st.2.2.2.2.1.toNatClampNeg = false := by
          rcases z9 with z9 | z9 | z9 | z9 | z9
          · omega
          · omega
          · omega
          · omega
          · exact z9
        exact hr.mpr this c
      · exact ⟨h1, by omega, fun _ => (le hT).mp c7, fun z => by omega, fun z => by omega⟩
    · have e5 : st.1 = 5 := op (n := 5) (by decide) c5
      obtain ⟨l1, l2⟩ := lk (by omega) (by omega)
      rw [kn.2.2.2.2.1 (by omega)]
      have l6 := (g.1.2 _ l2).2.1
      have hh := hol_t (M.2.1 (obM C (M.2.2 T).2.2.1)).1 (by omega) T hT6
      have hn := hol_n (M.2.1 (obM C (M.2.2 T).2.2.1)).1 (by omega)
      refine g7 ⟨fun c7 => f0 (fun z => c7 ((le hT).mpr (z.2.2.1 (fun z9 => by omega)))), fun c7 => kh_holder hq ho hM g _ l1 l2 ⟨fun c => f1 ?_, fun c => kh_holder hq ho hM g _ l1 l2 ⟨fun c' => f0 (fun z => ?_), fun c' => f1 ?_⟩⟩⟩
      · exact ⟨h1, by omega, fun _ => (le hT).mp c7, fun _ => Or.inl (hn.mp c), fun z => by omega⟩
      · rcases z.2.2.2.1 (Or.inl (by omega)) with z | z
        · exact c (hn.mpr z)
        · exact c' (by rw [tT]; exact hh.mpr z)
      · rw [tT] at c'
        exact ⟨h1, by omega, fun _ => (le hT).mp c7, fun _ => Or.inr (hh.mp c'), fun z => by omega⟩
    · have := op (n := 15) (by decide) c15
      exact absurd this ns.1.2
    · have e10 : st.1 = 10 := op (n := 10) (by decide) c10
      have a := hcs.2.2 (by omega) (by omega)
      rw [kn.2.2.2.2.1 (by omega)] at a ⊢
      have l1 : st.2.2.2.2.1.toInt = (obM C (M.2.2 T).2.2.1 : Nat) := by rw [obE, t_cl]; omega
      have lo : obM C (M.2.2 T).2.2.1 < C.2.1.length := by omega
      have go := (g.2 _ lo).1
      have gs : (rg x o (obM C (M.2.2 T).2.2.1) 0).toInt = ((M.2.2 (obM C (M.2.2 T).2.2.1)).1 : Nat) := by rw [go.1]; exact Int32.toInt_ofNat_of_lt (by omega)
      refine g7 ⟨fun c7 => f0 (fun z => c7 ((le hT).mpr (z.2.2.1 (fun z9 => by omega)))), fun c7 => kp_get hq ho hM.1 hM.2.1 _ _ l1 (show (0 : Int32).toInt = ((0 : Nat) : Int) from rfl) (by omega) (by omega) ⟨fun c => f0 (fun z => ?_), fun c => kp_get hq ho hM.1 hM.2.1 _ _ l1 (show (7 : Int32).toInt = ((7 : Nat) : Int) from rfl) (by omega) (by omega) ⟨fun c' => f0 (fun z => ?_), fun c' => f1 ?_⟩⟩⟩
      · have := (z.2.2.2.2 (by omega)).1
        rw [t_lt, k2, gs] at c
        omega
      · exact c' ((le lo).mpr (z.2.2.2.2 (by omega)).2)
      · rw [t_lt, k2, gs] at c
        exact ⟨h1, by omega, fun _ => (le hT).mp c7, fun z => by omega, fun _ => ⟨by omega, (le lo).mp c'⟩⟩
    · have ne : ∀ n : Nat, n = 0 ∨ n = 12 ∨ n = 13 ∨ n = 14 ∨ n = 1 ∨ n = 5 ∨ n = 15 ∨ n = 10 → ¬ st.1 = n := fun n hn z => by
        refine cn (Int32.ofNat n) ?_ (by rw [kn.1, z])
        rcases hn with e | e | e | e | e | e | e | e <;> rw [e] <;> decide
      have n0 := ne 0 (by omega)
      have n12 := ne 12 (by omega)
      have n13 := ne 13 (by omega)
      have n14 := ne 14 (by omega)
      have n1 := ne 1 (by omega)
      have n5 := ne 5 (by omega)
      have n10 := ne 10 (by omega)
      have n15 := ne 15 (by omega)
      refine g7 ⟨fun c7 => f0 (fun z => c7 ((le hT).mpr (z.2.2.1 (fun z9 => by omega)))), fun c7 => f1 ⟨h1, by omega, fun _ => (le hT).mp c7, fun z => by omega, fun z => by omega⟩⟩
  · -- it waits
    have w0 : ¬ (M.2.2 T).2.2.2.1 = 0 := fun z => c3 (w3.mpr z)
    have so : soM C (M.2.2 T) = 15 := by unfold soM; rw [if_neg w0]
    have o7 := gT.2.2.2.1.2.2.2 w0
    rw [s2] at o7
    obtain ⟨l1, l2⟩ := kst_wl hM hK hN hT gT w0
    rw [s2] at l1
    rw [kn.2.2.2.2.1 (by omega)]
    have l6 := (g.1.2 _ l2).2.1
    have hn := hol_n (M.2.1 (obM C (M.2.2 T).2.2.1)).1 (by omega)
    have q5 := gT.2.2.2.1.2.1
    have qw := gT.2.2.2.1.2.2.1
    have nl := hWL T hT6 w0
    refine ⟨fun c => by rcases c with c | c | c | c <;> exact absurd c (by decide), fun c => absurd c (by decide), fun c => absurd c (by decide), fun _ => g7 ⟨fun c7 => f0 (fun z => c7 ((le hT).mpr (z.2.2.1 (fun z9 => by omega)))), fun c7 => kp_get hq ho hM.1 hM.2.1 _ _ et (show (5 : Int32).toInt = ((5 : Nat) : Int) from rfl) hT6 (by omega) ⟨fun c5 => f0 (fun z => c5 ?_), fun c5 => kh_holder hq ho hM g _ l1 l2 ⟨fun c => f0 (fun z => ?_), fun c => f1 ?_⟩⟩⟩, fun c => absurd c (by decide), fun c => absurd rfl (c 15 (by decide))⟩
    · rw [q5, if_pos]
      have := z.2.1
      omega
    · rcases z.2.2.2.1 (Or.inr so) with z | z
      · exact c (hn.mpr z)
      · exact nl z
    · have w2 : (M.2.2 T).2.2.2.1 = 2 := by
        by_cases c9 : (M.2.2 T).2.2.2.1 = 2
        · exact c9
        · rw [q5, if_neg c9] at c5; exact absurd c5 (by decide)
      exact ⟨h1, by omega, fun _ => (le hT).mp c7, fun _ => Or.inl (hn.mp c), fun z => by omega⟩
/-- one choice more -/
theorem kh_list (hq : kV q) (ho : kiM q o) (h : MM x o) (hL : LSk x o) (hl : kchL x o l) (l84 : l.length < 84) (t j w : Int32) {T : Nat} (et : t.toInt = T) (hT : (T : Int) < (x.1 60 10).toInt) (hc : (j = -1 ∧ rg x o T 0 = 1) ∨ ∃ J : Nat, j.toInt = J ∧ (J : Int) < (rg x o T 7).toInt) (hch : t = Int32.ofNat ch.1 ∧ (ch.2.1 = none → j = -1) ∧ (∀ i, ch.2.1 = some i → j = Int32.ofNat i) ∧ (ch.2.2 = none → w = -1) ∧ ∀ i, ch.2.2 = some i → w = Int32.ofNat i) (hF : ∀ y, fm (sLi o) x y → LSk y o → kchL y o (l ++ [ch]) → Fv y) : KT G q d zk_X5_list 0 [(0, vr o), (1, vi t), (2, vi j), (3, vi w)] [] x (rv Fv) := by
  have hO := kiM_O ho
  have k84 : (84 : Int32).toInt = 84 := rfl
  obtain ⟨⟨l0, l1⟩, hls⟩ := id hL
  obtain ⟨hl1, hl2⟩ := hl
  refine kg_X5_list_0 hq ho _ _ _ ⟨fun c => ?_, fun c => ?_⟩
  · exfalso; rw [t_le, k84] at c; omega
  rw [t_le, k84] at c
  have v : vp_in (x.1 o 13) 84 := by rw [vp_in_iff]; omega
  refine ⟨v, fun x3 e3 => ?_⟩
  have q3 : x3.1 o 13 = x.1 o 13 := by rw [e3, si_cell (by omega)]
  refine ⟨by rw [q3]; exact v, fun x5 e5 => ?_⟩
  rw [q3] at e5
  have q5 : x5.1 o 13 = x.1 o 13 := by rw [e5, si_cell (by omega)]; exact q3
  refine ⟨by rw [q5]; exact v, fun x7 e7 z ez => rv_i ?_⟩
  rw [q5] at e7
  have q7 : x7.1 o 13 = x.1 o 13 := by rw [e7, si_cell (by omega)]; exact q5
  rw [q7] at ez
  have f : fm (sLi o) x z := by
    rw [ez, e7, e5, e3]
    exact fm_si (fm_si (fm_si (fm_si (fm_rf _ _) (by unfold sLi; omega)) (by unfold sLi; omega)) (by unfold sLi; omega)) (Or.inl ⟨rfl, rfl⟩)
  have z13 : (z.1 o 13).toInt = (x.1 o 13).toInt + 1 := by
    have : z.1 o 13 = x.1 o 13 + 1 := by rw [ez, si_get, if_pos ⟨rfl, rfl⟩]
    rw [this, t_add (by show _ ≤ _ + (1 : Int); omega) (by show _ + (1 : Int) ≤ _; omega)]; rfl
  have eN : (x.1 o 13).toNatClampNeg = l.length := by rw [t_cl, hl1]; rfl
  rw [eN] at e3 e5 e7
  have rr := rg_Li hO f
  have a1 : ∀ i, z.1 (o + 11) i = if i = l.length then t else x.1 (o + 11) i := fun i => by
    rw [ez, si_cell (by omega), e7, si_cell (by omega), e5, si_cell (by omega), e3, si_get]
    by_cases ci : i = l.length
    · rw [if_pos ⟨rfl, ci⟩, if_pos ci]
    · rw [if_neg (fun q => ci q.2), if_neg ci]
  have a2 : ∀ i, z.1 (o + 12) i = if i = l.length then j else x.1 (o + 12) i := fun i => by
    rw [ez, si_cell (by omega), e7, si_cell (by omega), e5, si_get, e3, si_cell (by omega)]
    by_cases ci : i = l.length
    · rw [if_pos ⟨rfl, ci⟩, if_pos ci]
    · rw [if_neg (fun q => ci q.2), if_neg ci]
  have a3 : ∀ i, z.1 (o + 13) i = if i = l.length then w else x.1 (o + 13) i := fun i => by
    rw [ez, si_cell (by omega), e7, si_get, e5, si_cell (by omega), e3, si_cell (by omega)]
    by_cases ci : i = l.length
    · rw [if_pos ⟨rfl, ci⟩, if_pos ci]
    · rw [if_neg (fun q => ci q.2), if_neg ci]
  refine hF z f ⟨by omega, fun i hi => ?_⟩ ⟨?_, fun i ch' hi => ?_⟩
  · rw [a1, a2]
    by_cases hi2 : i = l.length
    · rw [if_pos hi2, if_pos hi2]
      refine ⟨T, et, by rw [f 60 10 (by unfold sLi; omega)]; exact hT, ?_⟩
      rw [rr, rr]; exact hc
    · rw [if_neg hi2, if_neg hi2]
      obtain ⟨T2, p1, p2, p3⟩ := hls i (by omega)
      refine ⟨T2, p1, by rw [f 60 10 (by unfold sLi; omega)]; exact p2, ?_⟩
      rw [rr, rr]; exact p3
  · rw [z13, hl1, List.length_append]; push_cast; rfl
  · have hi9 := gt_lt hi
    rw [List.length_append] at hi9
    have hi9 : i < l.length + 1 := hi9
    rw [List.getElem?_append] at hi
    unfold kch
    rw [a1, a2, a3]
    by_cases hi2 : i = l.length
    · rw [if_neg (by omega), hi2, Nat.sub_self] at hi
      cases Option.some.inj hi
      rw [if_pos hi2, if_pos hi2, if_pos hi2]
      exact hch
    · rw [if_pos (by omega)] at hi
      rw [if_neg hi2, if_neg hi2, if_neg hi2]
      exact hl2 i ch' hi
/-- the act's choices -/
theorem kh_listAct (hq : kV q) (ho : kiM q o) (hM : MM x o) (hK : CK x C) (hN : NC C) (g : KMm x o C M) (hL : LSk x o) (hl : kchL x o l) (l84 : l.length + C.2.1.length < 84) (t : Int32) (et : t.toInt = T) (hT : T < C.2.1.length) (h1 : (M.2.2 T).1 = 1) (hF : ∀ y, fm (sLi o) x y → LSk y o → kchL y o (l ++ (if soM C (M.2.2 T) = 8 ∧ (stN C (M.2.2 T).2.2.1).2.2.2.2.2.2.1 = false ∧ (M.2.1 (obM C (M.2.2 T).2.2.1)).1 = T + 1 ∧ ¬ waM C M (obM C (M.2.2 T).2.2.1) = [] then (waM C M (obM C (M.2.2 T).2.2.1)).map (fun o => (T, none, some o)) else [(T, none, none)])) → Fv y) : KT G q (d + 2) zk_X5_listAct 0 [(0, vr o), (1, vi t)] [] x (rv Fv) := by
  have hO := kiM_O ho
  have nT : (x.1 60 10).toInt = C.2.1.length := hK.2.1.1
  have t6 := hM.1.1.2.2.1
  have hT6 := MM_6 hM.1 (t := T) (by omega)
  have hA := (hM.2.2 T (by omega)).1
  have gT := g.2 T hT
  have tT : t = Int32.ofNat T := i32_of et
  obtain ⟨st, s1, s2, s3, s4, s5, kn, ns⟩ := kst_at hM hK hN hT gT
  obtain ⟨v, e, -⟩ := MM_st hM.1 hA
  have hcs := (hM.1.2.2.2.1 _ s4).1
  have w3 := kst_w3 hM hK hN hT gT
  have hg : rg x o T 0 = 1 := by rw [gT.1.1, h1]; rfl
  have obE : obM C (M.2.2 T).2.2.1 = st.2.2.2.2.1.toNatClampNeg := by unfold obM; rw [s2]
  obtain ⟨L, eL⟩ : ∃ L, L = obM C (M.2.2 T).2.2.1 := ⟨_, rfl⟩
  rw [← eL] at hF obE
  rw [s2] at hF
  have p57 : ¬ (soM C (M.2.2 T) = 8 ∧ st.2.2.2.2.2.2.1 = false ∧ (M.2.1 L).1 = T + 1 ∧ ¬ waM C M L = []) → KT G q (d + 2) zk_X5_listAct 57 [(0, vr o), (1, vi t)] [] x (rv Fv) := fun nz => kg_X5_listAct_57 hq ho _ (kh_list (ch := (T, none, none)) hq ho hM hL hl (by omega) _ _ _ et (by omega) (Or.inl ⟨rfl, hg⟩) ⟨tT, fun _ => rfl, (fun i z => nomatch z), fun _ => rfl, (fun i z => nomatch z)⟩ (fun y fy hy ly => rv_i (hF y fy hy (by rw [if_neg nz]; exact ly))))
  obtain ⟨P, eP⟩ : ∃ P : Nat → Bool, P = fun o => (M.2.2 o).2.2.2.1 == 1 && obM C (M.2.2 o).2.2.1 == L := ⟨_, rfl⟩
  have wE : waM C M L = (List.range C.2.1.length).filter P := by rw [eP]; rfl
  have w8 : ∀ s ∈ (waM C M L).reverse, s < 8 := fun s hs => by
    rw [wE] at hs
    have := List.mem_range.mp (List.mem_filter.mp (List.mem_reverse.mp hs)).1
    omega
  have loop : (soM C (M.2.2 T) = 8 ∧ st.2.2.2.2.2.2.1 = false ∧ (M.2.1 L).1 = T + 1 ∧ ¬ waM C M L = []) → ∀ (n k : Nat) (i : Int32) (y : gd), i.toInt = k → k ≤ C.2.1.length → (x.1 60 10).toInt - k ≤ n → fm (sLi o) x y → LSk y o → kchL y o (l ++ ((List.range k).filter P).map (fun o => (T, none, some o))) → KT G q (d + 2) zk_X5_listAct 75 [(0, vr o), (1, vi t), (4, vi (kmN (waM C M L).reverse)), (5, vi i)] [] y (rv Fv) := by
    intro cz n
    have fin : ∀ {k : Nat} {y : gd}, k = C.2.1.length → fm (sLi o) x y → LSk y o → kchL y o (l ++ ((List.range k).filter P).map (fun o => (T, none, some o))) → rv Fv none y := fun {k y} ek fy hy ly => rv_i (hF y fy hy (by rw [if_pos cz, wE, ← ek]; exact ly))
    induction n with
    | zero =>
      intro k i y ei hk hn fy hy ly
      refine kg_X5_listAct_75 hq ho _ _ _ ⟨fun _ => fin (by omega) fy hy ly, fun c => ?_⟩
      exfalso; rw [fy 60 10 (by unfold sLi; omega), t_le] at c; omega
    | succ n ih =>
      intro k i y ei hk hn fy hy ly
      refine kg_X5_listAct_75 hq ho _ _ _ ⟨fun c => fin (by rw [fy 60 10 (by unfold sLi; omega), t_le] at c; omega) fy hy ly, fun c => ?_⟩
      rw [fy 60 10 (by unfold sLi; omega), t_le] at c
      have e1 : (i + 1).toInt = ((k + 1 : Nat) : Int) := by rw [t_add (by show _ ≤ _ + (1 : Int); omega) (by show _ + (1 : Int) ≤ _; omega), ei]; rfl
      have hk' : k < C.2.1.length := by omega
      have ii : i = Int32.ofNat k := i32_of ei
      have bit := km_bit w8 k (by omega)
      have mem : k ∈ (waM C M L).reverse ↔ P k = true := by
        rw [List.mem_reverse, wE, List.mem_filter, List.mem_range]
        exact ⟨fun z => z.2, fun z => ⟨hk', z⟩⟩
      rw [ii] at e1 ⊢
      rw [bit]
      by_cases cP : P k = true
      · rw [if_pos (mem.mpr cP)]
        have yes : (List.range (k + 1)).filter P = (List.range k).filter P ++ [k] := by
          rw [List.range_succ, List.filter_append, List.filter_cons_of_pos (by exact cP), List.filter_nil]
        have ln : ((List.range k).filter P).length ≤ k := by
          have := List.length_filter_le P (List.range k)
          rw [List.length_range] at this
          exact this
        refine ⟨fun z => absurd rfl z, fun _ => kh_list (ch := (T, none, some k)) hq ho (MM_Li hO fy hM) hy ly (by rw [List.length_append, List.length_map]; omega) _ _ _ et (by rw [fy 60 10 (by unfold sLi; omega)]; omega) (Or.inl ⟨rfl, by rw [rg_Li hO fy]; exact hg⟩) ⟨tT, fun _ => rfl, (fun i z => nomatch z), (fun z => nomatch z), fun i z => by cases z; rfl⟩ (fun z fz hz lz => ih (k + 1) _ z e1 (by omega) (by push_cast; omega) (fm_tr fy fz) hz ?_)⟩
        rw [yes, List.map_append, ← List.append_assoc]
        exact lz
      · rw [if_neg (fun z => cP (mem.mp z))]
        have no : (List.range (k + 1)).filter P = (List.range k).filter P := by
          rw [List.range_succ, List.filter_append, List.filter_cons_of_neg (by exact cP), List.filter_nil, List.append_nil]
        exact ⟨fun _ => ih (k + 1) _ y e1 (by omega) (by push_cast; omega) fy hy (by rw [no]; exact ly), fun z => absurd z (by decide)⟩
  refine kg_X5_listAct_0 hq ho _ (kp_get hq ho hM.1 hM.2.1 _ _ et (show (2 : Int32).toInt = ((2 : Nat) : Int) from rfl) hT6 (by omega) ⟨v, ?_⟩)
  rw [e, s3]
  refine kp_sortOf hq ho hM.1 hM.2.1 _ et hT6 hA (fun c3 => ?_) (fun c3 => ⟨fun _ => p57 (fun z => ?_), fun c8 => absurd c8 (by decide)⟩)
  · have w0 := w3.mp c3
    have so : soM C (M.2.2 T) = st.1 := by unfold soM; rw [if_pos w0, s2]
    rw [s3]
    have o8 : x.1 81 (M.2.2 T).2.2.1 = 8 ↔ st.1 = 8 := by
      have k8 : (8 : Int32).toInt = 8 := rfl
      rw [t_eq, k8]
      have : (x.1 81 (M.2.2 T).2.2.1).toInt = (st.1 : Nat) := s5
      omega
    refine ⟨fun c => p57 (fun z => c (o8.mpr (by omega))), fun c => ⟨v, fun c84 => p57 (fun z => ?_), fun c84 => ?_⟩⟩
    · have := (kn.2.2.2.1 (o8.mp c)).mp c84
      rw [z.2.1] at this; cases this
    · have e8 := o8.mp c
      have a := hcs.2.1 (by omega) (by omega)
      rw [kn.2.2.2.2.1 (by omega)] at a ⊢
      have l1 : st.2.2.2.2.1.toInt = (L : Nat) := by rw [obE, t_cl]; omega
      have l2 : (L : Int) < (x.1 60 9).toInt := by omega
      have l6 := (g.1.2 _ l2).2.1
      have hh := hol_t (M.2.1 L).1 (by omega) T hT6
      have fl : st.2.2.2.2.2.2.1 = false := by
        cases hb : st.2.2.2.2.2.2.1 with
        | false => rfl
        | true => exact absurd ((kn.2.2.2.1 e8).mpr hb) c84
      refine kh_holder hq ho hM g _ l1 l2 ⟨fun c => p57 (fun z => c (by rw [tT]; exact hh.mpr z.2.2.1)), fun c => kh_waiters hq ho hM hK hN g _ l1 l2 ⟨fun c0 => kh_waiters hq ho hM hK hN g _ l1 l2 ?_, fun c0 => p57 (fun z => z.2.2.2 ?_)⟩⟩
      · rw [tT] at c
        refine loop ⟨by omega, fl, hh.mp c, fun z => c0 ?_⟩ 6 0 _ x rfl (by omega) (by omega) (fm_rf _ _) hL (by simpa using hl)
        rw [z]; rfl
      · have := (km_nil w8).mp c0
        exact List.reverse_eq_nil_iff.mp this
  · have := z.1
    have w0 : ¬ (M.2.2 T).2.2.2.1 = 0 := fun z => c3 (w3.mpr z)
    have so : soM C (M.2.2 T) = 15 := by unfold soM; rw [if_neg w0]
    omega
theorem ltM_mem {J : Nat} : J ∈ ltM h ↔ J < h.2.2.2.2.2.2.1.length ∧ ∀ k, k < J → ∀ a b, h.2.2.2.2.2.2.1[k]? = some a → h.2.2.2.2.2.2.1[J]? = some b → ¬ a.1 = b.1 := by
  unfold ltM
  rw [List.mem_filter, List.mem_range, List.all_eq_true]
  refine and_congr_right (fun hJ => ?_)
  constructor
  · intro hz k hk a b ha hb e
    have := hz a (List.mem_of_getElem? (i := k) (by rw [List.getElem?_take, if_pos hk]; exact ha))
    rw [hb] at this
    simp [e] at this
  · intro hz a ha
    obtain ⟨k, hk⟩ := List.getElem?_of_mem ha
    rw [List.getElem?_take] at hk
    by_cases c : k < J
    · rw [if_pos c] at hk
      obtain ⟨b, hb⟩ : ∃ b, h.2.2.2.2.2.2.1[J]? = some b := ⟨_, List.getElem?_eq_getElem hJ⟩
      have := hz k c a b hk hb
      rw [hb]
      simp [this]
    · rw [if_neg c] at hk; cases hk
theorem kh_isFirst (hq : kV q) (ho : kiM q o) (hM : MM x o) (hK : CK x C) (g : KMm x o C M) (t j : Int32) {J : Nat} (et : t.toInt = T) (hT : T < C.2.1.length) (ej : j.toInt = J) (hJ : J < (M.2.2 T).2.2.2.2.2.2.1.length) (hF : ∀ r : Int32, (¬ r = 0 ↔ J ∈ ltM (M.2.2 T)) → F r x) : KT G q (d + 2) zk_X5_isFirstOfCell 0 [(0, vr o), (1, vi t), (2, vi j)] [] x (ri F) := by
  have nT : (x.1 60 10).toInt = C.2.1.length := hK.2.1.1
  have hT6 := MM_6 hM.1 (t := T) (by omega)
  have hA := (hM.2.2 T (by omega)).1
  have l8 := hA.2.1
  obtain ⟨l7, ll⟩ := (g.2 T hT).2.2.2.2.2.2.1
  rw [ltM_mem] at hF
  obtain ⟨l, el⟩ : ∃ l, l = (M.2.2 T).2.2.2.2.2.2.1 := ⟨_, rfl⟩
  rw [← el] at l7 ll hJ hF
  obtain ⟨b, hb⟩ : ∃ b, l[J]? = some b := ⟨_, List.getElem?_eq_getElem hJ⟩
  have b1 := (ll J b hb).1
  have loop : ∀ (n k : Nat) (i : Int32), i.toInt = k → (J : Int) - k ≤ n → (∀ k', k' < k → k' < J → ∀ a, l[k']? = some a → ¬ a.1 = b.1) → KT G q (d + 2) zk_X5_isFirstOfCell 2 [(0, vr o), (1, vi t), (2, vi j), (3, vi i)] [] x (ri F) := by
    have fin : ∀ {k : Nat}, J ≤ k → (∀ k', k' < k → k' < J → ∀ a, l[k']? = some a → ¬ a.1 = b.1) → ri F (some (vi 1)) x := fun {k} hk hz => ri_i (hF _ ⟨fun _ => ⟨hJ, fun k' hk' a b' ha hb' => by
      rw [hb] at hb'
      cases Option.some.inj hb'
      exact hz k' (by omega) hk' a ha⟩, fun _ => by decide⟩)
    intro n
    induction n with
    | zero =>
      intro k i ei hn hz
      refine kg_X5_isFirstOfCell_2 hq ho _ _ _ ⟨fun _ => fin (by omega) hz, fun c => ?_⟩
      exfalso; rw [t_le] at c; omega
    | succ n ih =>
      intro k i ei hn hz
      refine kg_X5_isFirstOfCell_2 hq ho _ _ _ ⟨fun c => fin (by rw [t_le] at c; omega) hz, fun c => ?_⟩
      rw [t_le] at c
      have e1 : (i + 1).toInt = ((k + 1 : Nat) : Int) := by rw [t_add (by show _ ≤ _ + (1 : Int); omega) (by show _ + (1 : Int) ≤ _; omega), ei]; rfl
      obtain ⟨a, ha⟩ : ∃ a, l[k]? = some a := ⟨_, List.getElem?_eq_getElem (by omega)⟩
      have a1 := (ll k a ha).1
      refine kp_lateCell hq ho hM.1 hM.2.1 _ _ et hT6 ei (by omega) (kp_lateCell hq ho hM.1 hM.2.1 _ _ et hT6 ej (by omega) ⟨fun c9 => ih (k + 1) _ e1 (by push_cast; omega) (fun k' h1 h2 a' ha' => ?_), fun c9 => ri_i (hF _ ⟨fun z => absurd rfl z, fun z => ?_⟩)⟩)
      · by_cases ck : k' = k
        · subst ck
          rw [ha] at ha'
          cases Option.some.inj ha'
          intro z
          exact c9 (t_eq.mpr (by rw [a1, b1, z]))
        · exact hz k' (by omega) h2 a' ha'
      · rw [t_eq, a1, b1] at c9
        exact absurd (by omega) (z.2 k (by omega) a b ha hb)
  exact kg_X5_isFirstOfCell_0 hq ho _ _ (loop 8 0 _ rfl (by omega) (fun k' h1 => absurd h1 (Nat.not_lt_zero _)))
theorem ch1_len (h6 : C.2.1.length ≤ 6) (h8 : (M.2.2 t).2.2.2.2.2.2.1.length ≤ 8) : (ch1 C w M t).length ≤ 14 := by
  have wl : ∀ L, (waM C M L).length ≤ 6 := fun L => by
    have := List.length_filter_le (fun o => (M.2.2 o).2.2.2.1 == 1 && obM C (M.2.2 o).2.2.1 == L) (List.range C.2.1.length)
    rw [List.length_range] at this
    exact Nat.le_trans this h6
  have ll : (ltM (M.2.2 t)).length ≤ 8 := by
    have := List.length_filter_le (fun i => (((M.2.2 t).2.2.2.2.2.2.1.take i).all (fun q => !(some q.1 == ((M.2.2 t).2.2.2.2.2.2.1[i]?).map (fun z => z.1))))) (List.range (M.2.2 t).2.2.2.2.2.2.1.length)
    rw [List.length_range] at this
    exact Nat.le_trans this h8
  unfold ch1
  rw [List.length_append, List.length_map]
  have a : (if canM C w M t then (if soM C (M.2.2 t) = 8 ∧ (stN C (M.2.2 t).2.2.1).2.2.2.2.2.2.1 = false ∧ (M.2.1 (obM C (M.2.2 t).2.2.1)).1 = t + 1 ∧ ¬ waM C M (obM C (M.2.2 t).2.2.1) = [] then (waM C M (obM C (M.2.2 t).2.2.1)).map (fun o => ((t, none, some o) : gCh)) else [(t, none, none)]) else []).length ≤ 6 := by
    split
    · split
      · rw [List.length_map]; exact wl _
      · exact (by decide : (1 : Nat) ≤ 6)
    · exact Nat.zero_le _
  omega
/-- its choices are the machine's -/
theorem kh_listChoices (hq : kV q) (ho : kiM q o) (hM : MM x o) (hK : CK x C) (hN : NC C) (g : KMm x o C M) (hWL : WLk C M) (wy : x.1 o 3 = Int32.ofNat w) (w01 : w = 0 ∨ w = 1) (hF : ∀ y, fm (sLi o) x y → LSk y o → kchL y o (chM C w M) → Fv y) : KT G q (d + 3) zk_X5_listChoices 0 [(0, vr o)] [] x (rv Fv) := by
  have hO := kiM_O ho
  have nT : (x.1 60 10).toInt = C.2.1.length := hK.2.1.1
  have t6 := hM.1.1.2.2.1
  have k1 : (1 : Int32).toInt = 1 := rfl
  have l8 : ∀ t, t < C.2.1.length → (M.2.2 t).2.2.2.2.2.2.1.length ≤ 8 := fun t ht => by
    have := (g.2 t ht).2.2.2.2.2.2.1.1
    have := (hM.2.2 t (by omega)).1.2.1
    omega
  have ln : ∀ k, k ≤ C.2.1.length → ((List.range k).flatMap (ch1 C w M)).length ≤ 14 * k := by
    intro k
    induction k with
    | zero => intro _; exact Nat.zero_le _
    | succ k ih =>
      intro hk
      rw [List.range_succ, List.flatMap_append, List.length_append, List.flatMap_singleton]
      have := ih (by omega)
      have := ch1_len (C := C) (M := M) (w := w) (t := k) (by omega) (l8 k (by omega))
      omega
  have up : ∀ k, (List.range (k + 1)).flatMap (ch1 C w M) = (List.range k).flatMap (ch1 C w M) ++ ch1 C w M k := fun k => by
    rw [List.range_succ, List.flatMap_append, List.flatMap_singleton]
  have loop : ∀ (n k : Nat) (t : Int32) (y : gd), t.toInt = k → k ≤ C.2.1.length → (x.1 60 10).toInt - k ≤ n → fm (sLi o) x y → LSk y o → kchL y o ((List.range k).flatMap (ch1 C w M)) → KT G q (d + 3) zk_X5_listChoices 7 [(0, vr o), (1, vi t)] [] y (rv Fv) := by
    have fin : ∀ {k : Nat} {y : gd}, k = C.2.1.length → fm (sLi o) x y → LSk y o → kchL y o ((List.range k).flatMap (ch1 C w M)) → rv Fv none y := fun {k y} ek fy hy ly => rv_i (hF y fy hy (by unfold chM; rw [← ek]; exact ly))
    intro n
    induction n with
    | zero =>
      intro k t y et hk hn fy hy ly
      refine kg_X5_listChoices_7 hq ho _ ⟨fun _ => fin (by omega) fy hy ly, fun c => ?_⟩
      exfalso; rw [fy 60 10 (by unfold sLi; omega), t_le] at c; omega
    | succ n ih =>
      intro k t y et hk hn fy hy ly
      refine kg_X5_listChoices_7 hq ho _ ⟨fun c => fin (by rw [fy 60 10 (by unfold sLi; omega), t_le] at c; omega) fy hy ly, fun c => ?_⟩
      rw [fy 60 10 (by unfold sLi; omega), t_le] at c
      have hk' : k < C.2.1.length := by omega
      have e1 : (t + 1).toInt = ((k + 1 : Nat) : Int) := by rw [t_add (by rw [k1]; omega) (by rw [k1]; omega), et]; rfl
      have lk := ln k hk
      have kT : t = Int32.ofNat k := i32_of et
      have l7 := (g.2 k hk').2.2.2.2.2.2.1.1
      have l8k := l8 k hk'
      obtain ⟨P, eP⟩ : ∃ P : Nat → Bool, P = fun i => (((M.2.2 k).2.2.2.2.2.2.1.take i).all (fun q => !(some q.1 == ((M.2.2 k).2.2.2.2.2.2.1[i]?).map (fun z => z.1)))) := ⟨_, rfl⟩
      have lE : ltM (M.2.2 k) = (List.range (M.2.2 k).2.2.2.2.2.2.1.length).filter P := by rw [eP]; rfl
      obtain ⟨A, eA⟩ : ∃ A : List gCh, A = (if canM C w M k then (if soM C (M.2.2 k) = 8 ∧ (stN C (M.2.2 k).2.2.1).2.2.2.2.2.2.1 = false ∧ (M.2.1 (obM C (M.2.2 k).2.2.1)).1 = k + 1 ∧ ¬ waM C M (obM C (M.2.2 k).2.2.1) = [] then (waM C M (obM C (M.2.2 k).2.2.1)).map (fun o => ((k, none, some o) : gCh)) else [(k, none, none)]) else []) := ⟨_, rfl⟩
      have cE : ch1 C w M k = A ++ (ltM (M.2.2 k)).map (fun i => (k, some i, none)) := by unfold ch1; rw [eA]
      have A6 : A.length ≤ 6 := by
        have wl : ∀ L, (waM C M L).length ≤ 6 := fun L => by
          have := List.length_filter_le (fun o => (M.2.2 o).2.2.2.1 == 1 && obM C (M.2.2 o).2.2.1 == L) (List.range C.2.1.length)
          rw [List.length_range] at this
          exact Nat.le_trans this (by omega)
        rw [eA]
        split
        · split
          · rw [List.length_map]; exact wl _
          · exact (by decide : (1 : Nat) ≤ 6)
        · exact Nat.zero_le _
      have inner : ∀ (m j : Nat) (i : Int32) (z : gd), i.toInt = j → j ≤ (M.2.2 k).2.2.2.2.2.2.1.length → (M.2.2 k).2.2.2.2.2.2.1.length - j ≤ m → fm (sLi o) x z → LSk z o → kchL z o ((List.range k).flatMap (ch1 C w M) ++ A ++ ((List.range j).filter P).map (fun i => (k, some i, none))) → KT G q (d + 3) zk_X5_listChoices 33 [(0, vr o), (1, vi t), (2, vi i)] [] z (rv Fv) := by
        have nx : ∀ {j : Nat} {z : gd}, j = (M.2.2 k).2.2.2.2.2.2.1.length → fm (sLi o) x z → LSk z o → kchL z o ((List.range k).flatMap (ch1 C w M) ++ A ++ ((List.range j).filter P).map (fun i => (k, some i, none))) → KT G q (d + 3) zk_X5_listChoices 7 [(0, vr o), (1, vi (t + 1))] [] z (rv Fv) := fun {j z} ej fz hz lz => ih (k + 1) _ z e1 (by omega) (by push_cast; omega) fz hz (by rw [up, cE, lE, ← ej, ← List.append_assoc]; exact lz)
        intro m
        induction m with
        | zero =>
          intro j i z ei hj hm fz hz lz
          have hz9 := MM_Li hO fz hM
          refine kg_X5_listChoices_33 hq ho _ _ (kp_get hq ho hz9.1 hz9.2.1 _ _ et (show (7 : Int32).toInt = ((7 : Nat) : Int) from rfl) (by omega) (by omega) ⟨fun _ => nx (by omega) fz hz lz, fun c2 => ?_⟩)
          exfalso; rw [rg_Li hO fz, t_le] at c2; omega
        | succ m ihm =>
          intro j i z ei hj hm fz hz lz
          have hz9 := MM_Li hO fz hM
          refine kg_X5_listChoices_33 hq ho _ _ (kp_get hq ho hz9.1 hz9.2.1 _ _ et (show (7 : Int32).toInt = ((7 : Nat) : Int) from rfl) (by omega) (by omega) ⟨fun c2 => nx (by rw [rg_Li hO fz, t_le] at c2; omega) fz hz lz, fun c2 => ?_⟩)
          rw [rg_Li hO fz, t_le] at c2
          have ei1 : (i + 1).toInt = ((j + 1 : Nat) : Int) := by rw [t_add (by rw [k1]; omega) (by rw [k1]; omega), ei]; rfl
          have hj' : j < (M.2.2 k).2.2.2.2.2.2.1.length := by omega
          have mem : j ∈ ltM (M.2.2 k) ↔ P j = true := by
            rw [lE, List.mem_filter, List.mem_range]
            exact ⟨fun z => z.2, fun z => ⟨hj', z⟩⟩
          have fl : ((List.range j).filter P).length ≤ j := by
            have := List.length_filter_le P (List.range j)
            rw [List.length_range] at this
            exact this
          refine kh_isFirst hq ho hz9 (CK_Li hO hK fz) (KMm_Li hO hM hK fz g) _ _ et hk' ei hj' (fun r hr => ⟨fun c => ihm (j + 1) _ z ei1 (by omega) (by omega) fz hz ?_, fun c => kh_list (ch := (k, some j, none)) hq ho hz9 hz lz (by rw [List.length_append, List.length_append, List.length_map]; omega) _ _ _ et (by rw [fz 60 10 (by unfold sLi; omega)]; omega) (Or.inr ⟨j, ei, by rw [rg_Li hO fz]; omega⟩) ⟨kT, (fun z => nomatch z), fun i' z => by cases z; exact i32_of ei, fun _ => rfl, (fun i' z => nomatch z)⟩ (fun w' fw hw lw => ihm (j + 1) _ w' ei1 (by omega) (by omega) (fm_tr fz fw) hw ?_)⟩)
          · have nP : ¬ P j = true := fun z => hr.mpr (mem.mpr z) c
            rw [List.range_succ, List.filter_append, List.filter_cons_of_neg (by exact nP), List.filter_nil, List.append_nil]
            exact lz
          · have yP : P j = true := mem.mp (hr.mp c)
            rw [List.range_succ, List.filter_append, List.filter_cons_of_pos (by exact yP), List.filter_nil, List.map_append, ← List.append_assoc]
            exact lw
      have hy9 := MM_Li hO fy hM
      have gy := KMm_Li hO hM hK fy g
      have hKy := CK_Li hO hK fy
      refine kh_canAct hq ho hy9 hKy hN gy hWL (by rw [fy o 3 (by unfold sLi; omega)]; exact wy) w01 _ et hk' (fun r hr => ⟨fun c0 => inner 8 0 _ y rfl (by omega) (by omega) fy hy ?_, fun c3 => ?_⟩)
      · have nc : ¬ canM C w M k := fun z => hr.mpr z c0
        rw [eA, if_neg nc]
        simpa using ly
      · have cc := hr.mp c3
        refine kh_listAct hq ho hy9 hKy hN gy hy ly (by omega) _ et hk' cc.1 (fun z fz hz lz => inner 8 0 _ z rfl (by omega) (by omega) (fm_tr fy fz) hz ?_)
        rw [eA, if_pos cc]
        simpa using lz
  refine kg_X5_listChoices_0 hq ho (fun x1 e1 => loop 6 0 _ x1 rfl (by omega) (by omega) (by rw [e1]; exact fm_si (fm_rf _ _) (Or.inl ⟨rfl, rfl⟩)) ⟨?_, fun i hi => ?_⟩ ⟨?_, (fun i ch hi => nomatch hi)⟩)
  · have : x1.1 o 13 = 0 := by rw [e1, si_get, if_pos ⟨rfl, rfl⟩]
    rw [this]; decide
  · have : x1.1 o 13 = 0 := by rw [e1, si_get, if_pos ⟨rfl, rfl⟩]
    rw [this] at hi
    have k0 : (0 : Int32).toInt = 0 := rfl
    omega
  · have : x1.1 o 13 = 0 := by rw [e1, si_get, if_pos ⟨rfl, rfl⟩]
    rw [this]; rfl
end KMI
end
section
/-! the class: how a run begins -/
/-- a run's beginning, threads below k done -/
noncomputable def fsK (C : gCo) (k : Nat) : gMa := ((fsM C).1, (fsM C).2.1, fun t => if t < k then (fsM C).2.2 t else th0)
section KMZ
variable {G : kG} {q : kP} {d : Nat} {x x0 y z : gd} {o : Nat} {F : Int32 → gd → Prop} {Fv : gd → Prop} {C : gCo} {t k : Nat}
theorem fsK_in (h : t < k) : (fsK C k).2.2 t = (fsM C).2.2 t := by
  show (if t < k then (fsM C).2.2 t else th0) = _
  rw [if_pos h]
theorem fsK_out (h : ¬ t < k) : (fsK C k).2.2 t = th0 := by
  show (if t < k then (fsM C).2.2 t else th0) = _
  rw [if_neg h]
theorem fsM_at {q9 : Nat × Nat} (h : C.2.1[k]? = some q9) : (fsM C).2.2 k = if q9.2 = 1 then th0 else thN C k th0 q9.1 (fun _ => 0) := by
  show (match C.2.1[k]? with | some q => if q.2 = 1 then th0 else thN C k th0 q.1 (fun _ => 0) | none => th0) = _
  rw [h]
theorem fsK_idle {q9 : Nat × Nat} (h : C.2.1[k]? = some q9) (h1 : q9.2 = 1) : fsK C (k + 1) = fsK C k := by
  unfold fsK
  refine Prod.ext rfl (Prod.ext rfl (funext fun i => ?_))
  show (if i < k + 1 then (fsM C).2.2 i else th0) = if i < k then (fsM C).2.2 i else th0
  by_cases c : i < k
  · rw [if_pos c, if_pos (by omega)]
  · rw [if_neg c]
    by_cases c1 : i = k
    · rw [if_pos (by omega), c1, fsM_at h, if_pos h1]
    · rw [if_neg (by omega)]
theorem fsK_go {q9 : Nat × Nat} (h : C.2.1[k]? = some q9) (h1 : ¬ q9.2 = 1) : fsK C (k + 1) = upT (fsK C k) k (thN C k th0 q9.1 (fun _ => 0)) := by
  unfold fsK upT upf
  refine Prod.ext rfl (Prod.ext rfl (funext fun i => ?_))
  show (if i < k + 1 then (fsM C).2.2 i else th0) = if i = k then _ else if i < k then (fsM C).2.2 i else th0
  by_cases c1 : i = k
  · rw [if_pos (by omega), if_pos c1, c1, fsM_at h, if_neg h1]
  · rw [if_neg c1]
    by_cases c : i < k
    · rw [if_pos c, if_pos (by omega)]
    · rw [if_neg c, if_neg (by omega)]
theorem kh_reset (hq : kV q) (ho : kiM q o) (hC : CO x) (hK : CK x C) (hN : NC C) (w : Int32) (hw : w = 0 ∨ w = 1) (hF : ∀ y, MM y o → fm (sRe o) x y → y.1 o 3 = w → KMm y o C (fsM C) → Fv y) : KT G q (d + 5) zk_X5_reset 0 [(0, vr o), (1, vi w)] [] x (rv Fv) := by
  have hO := kiM_O ho
  have k0 : (0 : Int32).toInt = 0 := rfl
  have k1 : (1 : Int32).toInt = 1 := rfl
  have k2 : (2 : Int32).toInt = 2 := rfl
  have k8 : (8 : Int32).toInt = 8 := rfl
  have k16 : (16 : Int32).toInt = 16 := rfl
  obtain ⟨c1, c2, c3, c4, -⟩ := hC.1
  refine kg_X5_reset_0 hq ho _ (fun x1 e1 x2 e2 x3 e3 x4 e4 => ?_)
  have f4 : fm (sRe o) x x4 := by
    rw [e4, e3, e2, e1]
    exact fm_si (fm_si (fm_si (fm_si (fm_rf _ _) (by unfold sRe; omega)) (by unfold sRe; omega)) (by unfold sRe; omega)) (by unfold sRe; omega)
  have g60 : ∀ k, ¬ k = 5 → x4.1 60 k = x.1 60 k := fun k hk => f4 _ _ (by unfold sRe; omega)
  have q1 : ∀ k, x1.1 60 k = x.1 60 k := fun k => by rw [e1, si_cell (by omega)]
  have q2 : ∀ k, x2.1 60 k = x.1 60 k := fun k => by rw [e2, si_cell (by omega)]; exact q1 k
  have q3 : ∀ k, x3.1 60 k = x.1 60 k := fun k => by rw [e3, si_cell (by omega)]; exact q2 k
  have w3 : x4.1 o 3 = w := by rw [e4, e3, e2, e1]; (simp only [si_get, sfl_get, Nat.reduceEqDiff, eq_self, and_false, false_and, and_true, true_and, if_true, if_false, reduceIte, reduceCtorEq])
  have w6 : x4.1 o 6 = x.1 60 6 := by rw [e4, e3, e2, q1]; (simp only [si_get, sfl_get, Nat.reduceEqDiff, eq_self, and_false, false_and, and_true, true_and, if_true, if_false, reduceIte, reduceCtorEq])
  have w7 : (x4.1 o 7).toInt = (x.1 60 6).toInt + 2 * (x.1 60 9).toInt := by
    have : x4.1 o 7 = x.1 60 6 + 2 * x.1 60 9 := by
      have x26 : x2.1 o 6 = x.1 60 6 := by rw [e2, q1]; (simp only [si_get, sfl_get, Nat.reduceEqDiff, eq_self, and_false, false_and, and_true, true_and, if_true, if_false, reduceIte, reduceCtorEq])
      rw [e4, e3, x26, q2]; (simp only [si_get, sfl_get, Nat.reduceEqDiff, eq_self, and_false, false_and, and_true, true_and, if_true, if_false, reduceIte, reduceCtorEq])
    have em : (2 * x.1 60 9).toInt = 2 * (x.1 60 9).toInt := by rw [t_mul (by rw [k2]; omega) (by rw [k2]; omega), k2]
    rw [this, t_add (by omega) (by omega), em]
  have w9 : (x4.1 o 9).toInt = 8 + (x.1 60 13).toInt := by
    have : x4.1 o 9 = 8 + x.1 60 13 := by rw [e4, q3]; (simp only [si_get, sfl_get, Nat.reduceEqDiff, eq_self, and_false, false_and, and_true, true_and, if_true, if_false, reduceIte, reduceCtorEq])
    rw [this, t_add (by rw [k8]; omega) (by rw [k8]; omega), k8]
  have p67 : ∀ s : Int32, s.toInt = (if w = 1 then 16 else 0) → KT G q (d + 5) zk_X5_reset 67 [(0, vr o)] [vi s, vi (x4.1 o 9), vr o] x4 (rv Fv) := by
    intro s hs
    have hs2 : 0 ≤ s.toInt ∧ s.toInt ≤ 16 := by rw [hs]; split <;> omega
    refine kg_X5_reset_67 hq ho _ _ (fun y1 ey1 y2 ey2 y3 ey3 => ?_)
    have f2 : fm (sRe o) x y2 := by rw [ey2, ey1]; exact fm_si (fm_si f4 (by unfold sRe; omega)) (by unfold sRe; omega)
    have f3 : fm (sRe o) x y3 := by rw [ey3]; exact fm_fl f2 (fun k _ => by unfold sRe; omega)
    have h60 : ∀ k, ¬ k = 5 → y3.1 60 k = x.1 60 k := fun k hk => f3 _ _ (by unfold sRe; omega)
    have yo : ∀ k, y3.1 o k = y2.1 o k := fun k => by rw [ey3, sfl_get, if_neg (by omega)]
    have v8 : (y3.1 o 8).toInt = 8 + (x.1 60 13).toInt + s.toInt := by
      have : y3.1 o 8 = x4.1 o 9 + s := by rw [yo, ey2, ey1]; (simp only [si_get, sfl_get, Nat.reduceEqDiff, eq_self, and_false, false_and, and_true, true_and, if_true, if_false, reduceIte, reduceCtorEq])
      rw [this, t_add (by omega) (by omega), w9]
    have v7 : y3.1 o 7 = x4.1 o 7 := by rw [yo, ey2, ey1]; (simp only [si_get, sfl_get, Nat.reduceEqDiff, eq_self, and_false, false_and, and_true, true_and, if_true, if_false, reduceIte, reduceCtorEq])
    have v3 : y3.1 o 3 = w := by rw [yo, ey2, ey1]; (simp only [si_get, sfl_get, Nat.reduceEqDiff, eq_self, and_false, false_and, and_true, true_and, if_true, if_false, reduceIte, reduceCtorEq]); exact w3
    have v6 : y3.1 o 6 = x.1 60 6 := by rw [yo, ey2, ey1]; (simp only [si_get, sfl_get, Nat.reduceEqDiff, eq_self, and_false, false_and, and_true, true_and, if_true, if_false, reduceIte, reduceCtorEq]); exact w6
    have v9 : (y3.1 o 9).toInt = 8 + (x.1 60 13).toInt := by
      have : y3.1 o 9 = x4.1 o 9 := by rw [yo, ey2, ey1]; (simp only [si_get, sfl_get, Nat.reduceEqDiff, eq_self, and_false, false_and, and_true, true_and, if_true, if_false, reduceIte, reduceCtorEq])
      rw [this]; exact w9
    have v5 : (y3.1 o 5).toInt = (y3.1 o 7).toInt + (y3.1 o 8).toInt * (x.1 60 10).toInt := by
      have a1 : y3.1 o 5 = y1.1 o 7 + y1.1 o 8 * y1.1 60 10 := by rw [yo, ey2]; (simp only [si_get, sfl_get, Nat.reduceEqDiff, eq_self, and_false, false_and, and_true, true_and, if_true, if_false, reduceIte, reduceCtorEq])
      have a2 : y1.1 o 7 = y3.1 o 7 := by rw [v7, ey1]; (simp only [si_get, sfl_get, Nat.reduceEqDiff, eq_self, and_false, false_and, and_true, true_and, if_true, if_false, reduceIte, reduceCtorEq])
      have a3 : y1.1 o 8 = y3.1 o 8 := by rw [yo, ey2]; (simp only [si_get, sfl_get, Nat.reduceEqDiff, eq_self, and_false, false_and, and_true, true_and, if_true, if_false, reduceIte, reduceCtorEq])
      have a4 : y1.1 60 10 = x.1 60 10 := by rw [ey1, si_cell (by omega)]; exact g60 10 (by omega)
      have hm : 0 ≤ (y3.1 o 8).toInt * (x.1 60 10).toInt ∧ (y3.1 o 8).toInt * (x.1 60 10).toInt ≤ 192 := by
        have : (x.1 60 10).toInt = 0 ∨ (x.1 60 10).toInt = 1 ∨ (x.1 60 10).toInt = 2 ∨ (x.1 60 10).toInt = 3 ∨ (x.1 60 10).toInt = 4 ∨ (x.1 60 10).toInt = 5 ∨ (x.1 60 10).toInt = 6 := by omega
        rcases this with e | e | e | e | e | e | e <;> rw [e] <;> omega
      have em := t_mul (a := y3.1 o 8) (b := x.1 60 10) (by omega) (by omega)
      rw [a1, a2, a3, a4, t_add (by rw [v7]; omega) (by rw [v7]; omega), em]
    have hC3 : CO y3 := CO_fm hC (fun c k hc => f3 c k (by unfold sRe; omega))
    have hG3 : MG y3 o := by
      unfold MG
      rw [h60 6 (by omega), h60 9 (by omega), h60 13 (by omega), h60 10 (by omega), v3, v6, v9, v8, v7, w7]
      refine ⟨hw, rfl, rfl, rfl, ?_, ?_⟩
      · rw [hs]
      · rw [v5, v8, v7, w7]
    have zero : ∀ t k : Nat, t < 6 → k < 32 → rg y3 o t k = 0 := by
      intro t k ht hk
      obtain ⟨b1, b2, -⟩ := MG_b hC3 hG3
      have hlt : pa y3 o t k < 228 := by
        unfold pa
        have : t * (y3.1 o 8).toInt.toNat ≤ 5 * 32 := Nat.mul_le_mul (by omega) (by omega)
        omega
      show y3.1 (o + 5) (pa y3 o t k) = 0
      generalize pa y3 o t k = n at hlt ⊢
      rw [ey3, sfl_get, if_pos ⟨rfl, hlt⟩]
    have zlow : ∀ j : Nat, j < 228 → y3.1 (o + 5) j = 0 := fun j hj => by rw [ey3, sfl_get, if_pos ⟨rfl, hj⟩]
    have hK3 : CK y3 C := CK_f hK (fun c k hc => f3 c k (by unfold sRe; omega))
    have nT : (x.1 60 10).toInt = C.2.1.length := hK.2.1.1
    have hM3 : MM y3 o := by
      refine ⟨hC3, hG3, fun t ht => ?_⟩
      have ht6 := MM_6 hC3 ht
      have h0 := fun k hk => zero t k ht6 hk
      have hs0 := hC3.2.2.2.2 t ht
      refine ⟨⟨?_, ?_, fun _ => h0 7 (by omega), fun j hj => ?_, fun _ => h0 3 (by omega)⟩, fun c => ?_⟩
      · rw [h0 2 (by omega), k0]; omega
      · rw [h0 7 (by omega)]; decide
      · rw [h0 7 (by omega), k0] at hj; omega
      · rw [h0 0 (by omega)] at c; exact absurd c (by decide)
    have fin : ∀ (z : gd) (k : Nat) (i : Int32), i.toInt = k → MM z o → fm (sSt o) y3 z → KMm z o C (fsK C k) → k ≤ C.2.1.length → z.1 60 10 ≤ i → Fv z := by
      intro z k i ei hz fz gz hk c
      have z10 : z.1 60 10 = x.1 60 10 := by rw [fz 60 10 (by unfold sSt; omega), h60 10 (by omega)]
      rw [z10, t_le] at c
      have ek : k = C.2.1.length := by omega
      refine hF z hz (fm_tr f3 (fm_w fz (fun c k q => by unfold sSt at q; unfold sRe; omega))) (by rw [fz o 3 (by unfold sSt; omega)]; exact v3) ⟨gz.1, fun t ht => ?_⟩
      have := gz.2 t ht
      rw [fsK_in (by omega)] at this
      exact this
    -- threads are roused
    have loop2 : ∀ (n k : Nat) (i : Int32) (z : gd), i.toInt = k → k ≤ C.2.1.length → (x.1 60 10).toInt - k ≤ n → MM z o → fm (sSt o) y3 z → KMm z o C (fsK C k) → KT G q (d + 5) zk_X5_reset 136 [(0, vr o), (2, vi i)] [] z (rv Fv) := by
      intro n
      induction n with
      | zero =>
        intro k i z ei hk hn hz fz gz
        refine kg_X5_reset_136 hq ho _ ⟨fun c => rv_i (fin z k i ei hz fz gz hk c), fun c => ?_⟩
        exfalso; rw [fz 60 10 (by unfold sSt; omega), h60 10 (by omega), t_le] at c; omega
      | succ n ih =>
        intro k i z ei hk hn hz fz gz
        have z10 : z.1 60 10 = x.1 60 10 := by rw [fz 60 10 (by unfold sSt; omega), h60 10 (by omega)]
        refine kg_X5_reset_136 hq ho _ ⟨fun c => rv_i (fin z k i ei hz fz gz hk c), fun c => ?_⟩
        rw [z10, t_le] at c
        have e9 : (i + 1).toInt = ((k + 1 : Nat) : Int) := by rw [t_add (by rw [k1]; omega) (by rw [k1]; omega), ei]; rfl
        have kl : k < C.2.1.length := by omega
        obtain ⟨q9, hq9⟩ : ∃ q9, C.2.1[k]? = some q9 := ⟨_, List.getElem?_eq_getElem kl⟩
        have hKz : CK z C := CK_St hO hK3 fz
        have e73 : z.1 73 i.toNatClampNeg = Int32.ofNat q9.2 := by
          have eN : i.toNatClampNeg = k := by rw [t_cl, ei]; rfl
          rw [eN]; exact (hKz.2.1.2 k q9 hq9).2
        have q1 := (hN.2.1 q9 (List.mem_of_getElem? hq9)).2
        have tk : (fsK C k).2.2 k = th0 := fsK_out (Nat.lt_irrefl _)
        refine ⟨by rw [vp_in_iff]; omega, fun n0 => ?_, fun c0 => ?_⟩
        · refine ih (k + 1) _ z e9 (by omega) (by push_cast; omega) hz fz ?_
          rw [e73] at n0
          have : ¬ q9.2 = 0 := fun z => n0 (by rw [z]; rfl)
          rw [fsK_idle hq9 (by omega)]
          exact gz
        · refine kh_rouseM hq ho hz hKz hN gz _ ei kl (by rw [tk]; rfl) (by rw [tk]; rfl) (by rw [tk]; rfl) hq9 (fun u hu fu gu => ih (k + 1) _ u e9 (by omega) (by push_cast; omega) hu (fm_tr fz fu) ?_)
          rw [tk] at gu
          rw [fsK_go hq9 (fun z1 => by rw [e73, z1] at c0; exact absurd c0 (by decide))]
          exact gu
    -- cells are set
    have nC : (x.1 60 6).toInt = C.2.2.1.length := hK.2.2.1.1
    have m13 := hC.1.2.2.2.1
    have go2 : ∀ (z : gd) (k : Nat), (x.1 60 6).toInt ≤ k → MM z o → fm (sSt o) y3 z → (∀ t j : Nat, rg z o t j = rg y3 o t j) → (∀ j : Nat, (x.1 60 6).toInt ≤ j → (j : Int) < (y3.1 o 7).toInt → z.1 (o + 5) j = 0) → (∀ c : Nat, c < k → (c : Int) < (x.1 60 6).toInt → z.1 (o + 5) c = (fsM C).1 c) → KMm z o C (fsK C 0) := by
      intro z k hk hz fz rz hlk hc
      have z6 : z.1 60 6 = x.1 60 6 := by rw [fz 60 6 (by unfold sSt; omega), h60 6 (by omega)]
      have z9 : z.1 60 9 = x.1 60 9 := by rw [fz 60 9 (by unfold sSt; omega), h60 9 (by omega)]
      have z13 : z.1 60 13 = x.1 60 13 := by rw [fz 60 13 (by unfold sSt; omega), h60 13 (by omega)]
      refine ⟨⟨fun c hc' => ?_, fun l hl => ?_⟩, fun t ht => ?_⟩
      · rw [z6] at hc'; exact hc c (by omega) hc'
      · rw [z9] at hl
        rw [z6, hlk _ (by omega) (by rw [v7, w7]; omega), hlk _ (by omega) (by rw [v7, w7]; omega)]
        exact ⟨rfl, Nat.zero_le _, rfl⟩
      · rw [fsK_out (Nat.not_lt_zero _)]
        have t6 : t < 6 := by omega
        have zz : ∀ j, j < 32 → rg z o t j = 0 := fun j hj => by rw [rz]; exact zero t j t6 hj
        refine ⟨⟨by rw [zz 0 (by omega)]; rfl, by show (0 : Nat) ≤ 3; decide⟩, by rw [zz 1 (by omega)]; rfl, by rw [zz 2 (by omega)]; rfl, ⟨by rw [zz 3 (by omega)]; rfl, by rw [zz 5 (by omega)]; rfl, by show (0 : Nat) ≤ 2; decide, fun z => absurd rfl z⟩, by rw [zz 4 (by omega)]; rfl, by rw [zz 6 (by omega)]; decide, ⟨by rw [zz 7 (by omega)]; rfl, (fun i p hp => nomatch hp)⟩, fun p hp => ?_, fun c => ?_⟩
        · rw [z13] at hp
          rw [zz (8 + p) (by omega)]; rfl
        · have c : (0 : Nat) = 1 ∨ (0 : Nat) = 3 := c
          omega
    have loop1 : ∀ (n k : Nat) (i : Int32) (z : gd), i.toInt = k → (x.1 60 6).toInt - k ≤ n → MM z o → fm (sSt o) y3 z → (∀ t j : Nat, rg z o t j = rg y3 o t j) → (∀ j : Nat, (x.1 60 6).toInt ≤ j → (j : Int) < (y3.1 o 7).toInt → z.1 (o + 5) j = 0) → (∀ c : Nat, c < k → (c : Int) < (x.1 60 6).toInt → z.1 (o + 5) c = (fsM C).1 c) → KT G q (d + 5) zk_X5_reset 102 [(0, vr o), (2, vi i)] [] z (rv Fv) := by
      intro n
      induction n with
      | zero =>
        intro k i z ei hn hz fz rz hlk hcs
        refine kg_X5_reset_102 hq ho _ ⟨fun _ => loop2 6 0 _ z rfl (by omega) (by omega) hz fz (go2 z k (by omega) hz fz rz hlk hcs), fun c => ?_⟩
        exfalso; rw [fz 60 6 (by unfold sSt; omega), h60 6 (by omega), t_le] at c; omega
      | succ n ih =>
        intro k i z ei hn hz fz rz hlk hcs
        have z6 : z.1 60 6 = x.1 60 6 := by rw [fz 60 6 (by unfold sSt; omega), h60 6 (by omega)]
        refine kg_X5_reset_102 hq ho _ ⟨fun c => loop2 6 0 _ z rfl (by omega) (by omega) hz fz (go2 z k (by rw [z6, t_le] at c; omega) hz fz rz hlk hcs), fun c => ?_⟩
        rw [z6, t_le] at c
        refine ⟨by rw [vp_in_iff]; omega, by rw [vp_in_iff]; omega, fun u eu => ?_⟩
        have eN : i.toNatClampNeg = k := by rw [t_cl, ei]; rfl
        rw [eN] at eu
        have e9 : (i + 1).toInt = ((k + 1 : Nat) : Int) := by rw [t_add (by rw [k1]; omega) (by rw [k1]; omega), ei]; rfl
        have hKz : CK z C := CK_St hO hK3 fz
        obtain ⟨cq, hcq⟩ : ∃ cq, C.2.2.1[k]? = some cq := ⟨_, List.getElem?_eq_getElem (by omega)⟩
        have e68 : z.1 68 k = cq.1 := (hKz.2.2.1.2 k cq hcq).1
        have fk : (fsM C).1 k = cq.1 := by show (match C.2.2.1[k]? with | some q => q.1 | none => 0) = _; rw [hcq]
        have ru : ∀ t j, rg u o t j = rg z o t j := fun t j => rg_low hO (by rw [fz o 7 (by unfold sSt; omega), v7, w7]; omega) eu
        have fu : fm (sSt o) z u := st_f eu
        refine ih (k + 1) _ u e9 (by push_cast; omega) (MM_low hO hz (fm_w fu (fun c k q => sSt_M q)) ru) (fm_tr fz fu) (fun t j => by rw [ru, rz]) (fun j h1 h2 => ?_) (fun c' h1 h2 => ?_)
        · rw [eu, si_get, if_neg (fun z => by omega)]; exact hlk j h1 h2
        · rw [eu, si_get]
          by_cases ck : c' = k
          · rw [if_pos ⟨rfl, ck⟩, ck, fk]; exact e68
          · rw [if_neg (fun z => ck z.2)]; exact hcs c' (by omega) h2
    exact loop1 24 0 _ y3 rfl (by omega) hM3 (fm_rf _ _) (fun _ _ => rfl) (fun j _ h2 => zlow j (by have := MG_b hC3 hG3; omega)) (fun c1 h1 => absurd h1 (Nat.not_lt_zero _))
  rw [w3]
  refine ⟨fun c => p67 0 (by rw [if_neg c]; rfl), fun c => p67 16 (by rw [if_pos c]; rfl)⟩
end KMZ
end
section
/-! the machine: one that waits doesn't hold its lock; choices that there are -/
section PWL
variable {C : gCo} {M : gMa} {w t s c i : Nat} {e f : Int32} {wk : Option Nat} {ch : gCh}
theorem ix_no (hX : NXc C) (h : 5 ≤ (stN C s).1) : (stN C s).2.2.2.2.2.2.2.1 = none := by
  unfold stN at h ⊢
  cases hs : C.1[s]? with
  | none => rfl
  | some st =>
    rw [hs] at h
    have h : 5 ≤ st.1 := h
    show st.2.2.2.2.2.2.2.1 = none
    cases hz : st.2.2.2.2.2.2.2.1 with
    | none => rfl
    | some Q =>
      have := (hX s st hs).1 (by rw [hz]; exact (fun z => nomatch z))
      omega
theorem WLk_fs : WLk C (fsM C) := fun t _ n0 => by
  refine absurd ?_ n0
  by_cases q : t < C.2.1.length
  · obtain ⟨q9, hq⟩ : ∃ q9, C.2.1[t]? = some q9 := ⟨_, List.getElem?_eq_getElem q⟩
    by_cases c1 : q9.2 = 1
    · rw [fs_idle hq c1]; rfl
    · rw [fs_go hq c1]; rfl
  · rw [fs_out (by omega)]; rfl
theorem WLk_ef (q : WLk C M) (qw : WMw w M) (n7 : ¬ s = 7) (h9 : s = 9 → c < 6 → (M.2.2 c).1 = 0) : ∀ t', t' < 6 → ¬ t' = t → ¬ ((efM C w M t s c e f wk).1.2.2 t').2.2.2.1 = 0 → ¬ ((efM C w M t s c e f wk).1.2.1 (obM C ((efM C w M t s c e f wk).1.2.2 t').2.2.1)).1 = t' + 1 := by
  have same : ∀ E : gMa, E.2.2 = M.2.2 → E.2.1 = M.2.1 → ∀ t', t' < 6 → ¬ t' = t → ¬ (E.2.2 t').2.2.2.1 = 0 → ¬ (E.2.1 (obM C (E.2.2 t').2.2.1)).1 = t' + 1 := fun E h1 h2 t' ht' _ hw => by
    rw [h1] at hw ⊢
    rw [h2]
    exact q t' ht' hw
  have self : ∀ (E : gMa) (hh : gTq), E.2.2 = upf M.2.2 t hh → E.2.1 = M.2.1 → ∀ t', t' < 6 → ¬ t' = t → ¬ (E.2.2 t').2.2.2.1 = 0 → ¬ (E.2.1 (obM C (E.2.2 t').2.2.1)).1 = t' + 1 := fun E hh h1 h2 t' ht' ne hw => by
    rw [h1, upf_ne ne] at hw ⊢
    rw [h2]
    exact q t' ht' hw
  have lock : ∀ (E : gMa) (n : Nat × Int32), (n.1 = 0 ∨ n.1 = t + 1) → (∀ t', ¬ t' = t → E.2.2 t' = M.2.2 t') → E.2.1 = upf M.2.1 c n → ∀ t', t' < 6 → ¬ t' = t → ¬ (E.2.2 t').2.2.2.1 = 0 → ¬ (E.2.1 (obM C (E.2.2 t').2.2.1)).1 = t' + 1 := fun E n hn h1 h2 t' ht' ne hw => by
    rw [h1 t' ne] at hw ⊢
    rw [h2]
    unfold upf
    by_cases z : obM C (M.2.2 t').2.2.1 = c
    · rw [if_pos z]; omega
    · rw [if_neg z]; exact q t' ht' hw
  by_cases c0 : s = 0
  · rw [c0, ef_0]; exact same _ rfl rfl
  by_cases c1 : s = 1
  · rw [c1, ef_1]
    by_cases z : w = 0 ∨ suM C c = true
    · rw [if_pos z]; exact same _ rfl rfl
    · rw [if_neg z]; exact self _ _ rfl rfl
  by_cases c2 : s = 2
  · rw [c2, ef_2]; exact same _ rfl rfl
  by_cases c3 : s = 3
  · rw [c3, ef_3]; exact same _ rfl rfl
  by_cases c4 : s = 4
  · rw [c4, ef_4]; exact same _ rfl rfl
  by_cases c5 : s = 5
  · rw [c5, ef_5]; exact lock _ (t + 1, (M.2.1 c).2 + 1) (Or.inr rfl) (fun _ _ => rfl) rfl
  by_cases c6 : s = 6
  · rw [c6, ef_6]
    refine lock _ (if (M.2.1 c).2 - 1 = 0 then 0 else t + 1, (M.2.1 c).2 - 1) ?_ (fun _ _ => rfl) rfl
    show (if (M.2.1 c).2 - 1 = 0 then 0 else t + 1) = 0 ∨ (if (M.2.1 c).2 - 1 = 0 then 0 else t + 1) = t + 1
    split
    · exact Or.inl rfl
    · exact Or.inr rfl
  by_cases c8 : s = 8
  · rw [c8, ef_8]
    intro t' ht' ne hw
    have hw : ¬ (wkT C M t c wk t').2.2.2.1 = 0 := hw
    show ¬ (M.2.1 (obM C (wkT C M t c wk t').2.2.1)).1 = t' + 1
    unfold wkT at hw ⊢
    split at hw
    · next z =>
      rw [if_pos z]
      exact q t' ht' (by rw [z.2.1]; decide)
    · next z =>
      rw [if_neg z]
      exact q t' ht' hw
  by_cases c9 : s = 9
  · cases hq : C.2.1[c]? with
    | none =>
      have a : efM C w M t 9 c e f wk = (match C.2.1[c]? with | some q => upT M c (thN C c (M.2.2 c) q.1 (M.2.2 c).2.2.2.2.2.2.2) | none => M, 0) := by unfold efM; rfl
      rw [c9, a, hq]; exact same _ rfl rfl
    | some q9 =>
      rw [c9, ef_9 hq]
      intro t' ht' ne hw
      have hw : ¬ (upf M.2.2 c (thN C c (M.2.2 c) q9.1 (M.2.2 c).2.2.2.2.2.2.2) t').2.2.2.1 = 0 := hw
      show ¬ (M.2.1 (obM C (upf M.2.2 c (thN C c (M.2.2 c) q9.1 (M.2.2 c).2.2.2.2.2.2.2) t').2.2.1)).1 = t' + 1
      by_cases z : t' = c
      · rw [z, upf_eq] at hw
        rw [z] at ht'
        have z0 := h9 c9 ht'
        exact absurd ((qw c ht').2.2.1 (by omega)) hw
      · rw [upf_ne z] at hw ⊢; exact q t' ht' hw
  by_cases c13 : s = 13
  · rw [c13, ef_13]; exact self _ _ rfl rfl
  by_cases c14 : s = 14
  · rw [c14, ef_14]; exact self _ _ rfl rfl
  by_cases c15 : s = 15
  · rw [c15, ef_15]
    exact lock _ (t + 1, (M.2.2 t).2.2.2.2.1) (Or.inr rfl) (fun t' ne => by
      show upf M.2.2 t _ t' = _
      rw [upf_ne ne]) rfl
  · have a : efM C w M t s c e f wk = (M, 0) := by
      unfold efM
      rw [if_neg c0, if_neg c1, if_neg c2, if_neg c3, if_neg c4, if_neg c5, if_neg c6, if_neg n7, if_neg c8, if_neg c9, if_neg c13, if_neg c14, if_neg c15]
    rw [a]; exact same _ rfl rfl
theorem WLk_up {E : gMa} {hh : gTq} (a : ∀ t', t' < 6 → ¬ t' = t → ¬ (E.2.2 t').2.2.2.1 = 0 → ¬ (E.2.1 (obM C (E.2.2 t').2.2.1)).1 = t' + 1) (b : hh.2.2.2.1 = 0) : WLk C (upT E t hh) := by
  intro t' ht' hw
  by_cases z : t' = t
  · refine absurd ?_ hw
    show (upf E.2.2 t hh t').2.2.2.1 = 0
    rw [z, upf_eq]
    exact b
  · have hw : ¬ (upf E.2.2 t hh t').2.2.2.1 = 0 := hw
    show ¬ (E.2.1 (obM C (upf E.2.2 t hh t').2.2.1)).1 = t' + 1
    rw [upf_ne z] at hw ⊢
    exact a t' ht' z hw
theorem WLk_ac (hX : NXc C) (q : WLk C M) (qw : WMw w M) (t6 : t < 6) (h1 : (M.2.2 t).1 = 1) : WLk C (acM C w M t wk) := by
  by_cases L0 : (lkM C w M t).1 = 0
  · by_cases c7 : soM C (M.2.2 t) = 7
    · obtain ⟨w0, es⟩ := so_0 (C := C) (M := M) (t := t) (by omega)
      have o7 : (stN C (M.2.2 t).2.2.1).1 = 7 := by rw [← es]; exact c7
      have li := lkI_n (C := C) (M := M) (t := t) (ix_no hX (by omega))
      have cE : (lkM C w M t).2.1.toNatClampNeg = obM C (M.2.2 t).2.2.1 := by
        rw [(lkM_pl w0 L0).2, li]; rfl
      rw [acM_7 L0 c7, ef_7, cE]
      intro t' ht' hw
      have hw : ¬ (upf M.2.2 t _ t').2.2.2.1 = 0 := hw
      show ¬ (upf M.2.1 (obM C (M.2.2 t).2.2.1) (0, 0) (obM C (upf M.2.2 t _ t').2.2.1)).1 = t' + 1
      by_cases z : t' = t
      · rw [z, upf_eq, upf_eq]
        exact (fun z => nomatch z)
      · rw [upf_ne z] at hw ⊢
        by_cases z2 : obM C (M.2.2 t').2.2.1 = obM C (M.2.2 t).2.2.1
        · rw [z2, upf_eq]
          exact (fun z => nomatch z)
        · rw [upf_ne z2]; exact q t' ht' hw
    · have st9 : soM C (M.2.2 t) = 9 → (M.2.2 (lkM C w M t).2.1.toNatClampNeg).1 = 0 := fun e9 => by
        obtain ⟨w0, es⟩ := so_0 (C := C) (M := M) (t := t) (by omega)
        have rs := lkM_rs w0 L0
        rw [← es, e9, rsF_9] at rs
        exact Classical.byContradiction (fun n => by rw [if_neg n] at rs; exact nomatch rs)
      obtain ⟨-, b1, -, -⟩ := WMw_ef (C := C) (s := soM C (M.2.2 t)) (c := (lkM C w M t).2.1.toNatClampNeg) (e := (lkM C w M t).2.2.1) (f := (lkM C w M t).2.2.2) (wk := wk) qw t6 h1 (Classical.byCases Or.inl (fun n => Or.inr (so_0 n).1)) (fun e9 _ => st9 e9) (fun e9 z => by have := st9 e9; rw [z] at this; omega) c7
      have a := WLk_ef (C := C) (t := t) (s := soM C (M.2.2 t)) (c := (lkM C w M t).2.1.toNatClampNeg) (e := (lkM C w M t).2.2.1) (f := (lkM C w M t).2.2.2) (wk := wk) q qw c7 (fun e9 _ => st9 e9)
      rw [acM_is (E := (efM C w M t (soM C (M.2.2 t)) (lkM C w M t).2.1.toNatClampNeg (lkM C w M t).2.2.1 (lkM C w M t).2.2.2 wk).1) (v := (efM C w M t (soM C (M.2.2 t)) (lkM C w M t).2.1.toNatClampNeg (lkM C w M t).2.2.1 (lkM C w M t).2.2.2 wk).2) L0 c7 rfl]
      exact WLk_up a b1
  · have w0 : (M.2.2 t).2.2.2.1 = 0 := Classical.byContradiction (fun n0 => L0 (by rw [lkM_15 n0]))
    rw [acM_F L0]
    intro t' ht' hw
    by_cases z : t' = t
    · refine absurd ?_ hw
      show (upf M.2.2 t _ t').2.2.2.1 = 0
      rw [z, upf_eq]
      exact w0
    · have hw : ¬ (upf M.2.2 t _ t').2.2.2.1 = 0 := hw
      show ¬ (M.2.1 (obM C (upf M.2.2 t _ t').2.2.1)).1 = t' + 1
      rw [upf_ne z] at hw ⊢
      exact q t' ht' hw
theorem WLk_la (q : WLk C M) : WLk C (laM M t i) := by
  unfold laM
  cases hq : (M.2.2 t).2.2.2.2.2.2.1[i]? with
  | none => exact q
  | some z9 =>
    intro t' ht' hw
    have hw : ¬ (upf M.2.2 t _ t').2.2.2.1 = 0 := hw
    show ¬ (M.2.1 (obM C (upf M.2.2 t _ t').2.2.1)).1 = t' + 1
    by_cases z : t' = t
    · rw [z, upf_eq] at hw ⊢
      rw [z] at ht'
      exact q t ht' hw
    · rw [upf_ne z] at hw ⊢; exact q t' ht' hw
/-- what every state of a run is like -/
def MIv (C : gCo) (w : Nat) (M : gMa) : Prop := WMw w M ∧ WLk C M
theorem MIv_fs : MIv C w (fsM C) := ⟨WMw_fs, WLk_fs⟩
theorem ch_in (h : ch ∈ chM C w M) : chIn C M ch := by
  unfold chM at h
  obtain ⟨t, ht, h⟩ := List.mem_flatMap.mp h
  have ht := List.mem_range.mp ht
  unfold ch1 at h
  rcases List.mem_append.mp h with h | h
  · by_cases c : canM C w M t
    · rw [if_pos c] at h
      by_cases c8 : soM C (M.2.2 t) = 8 ∧ (stN C (M.2.2 t).2.2.1).2.2.2.2.2.2.1 = false ∧ (M.2.1 (obM C (M.2.2 t).2.2.1)).1 = t + 1 ∧ ¬ waM C M (obM C (M.2.2 t).2.2.1) = []
      · rw [if_pos c8] at h
        obtain ⟨u, hu, e⟩ := List.mem_map.mp h
        subst e
        exact ⟨ht, fun _ => ⟨c.1, c.2.1, fun k hk => by cases hk; exact hu⟩, (fun j z => nomatch z)⟩
      · rw [if_neg c8] at h
        cases List.mem_singleton.mp h
        exact ⟨ht, fun _ => ⟨c.1, c.2.1, (fun k hk => nomatch hk)⟩, (fun j z => nomatch z)⟩
    · rw [if_neg c] at h; cases h
  · obtain ⟨u, hu, e⟩ := List.mem_map.mp h
    subst e
    refine ⟨ht, (fun z => nomatch z), fun j z => ?_⟩
    cases z
    exact (ltM_mem.mp hu).1
theorem MIv_do (hX : NXc C) (l6 : C.2.1.length ≤ 6) (q : MIv C w M) (h : ch ∈ chM C w M) : MIv C w (doM C w M ch) := by
  obtain ⟨i1, i2, i3⟩ := ch_in h
  obtain ⟨t, lt9, wk⟩ := ch
  have i1 : t < C.2.1.length := i1
  unfold doM
  cases lt9 with
  | none => exact ⟨WMw_ac q.1 (by show t < 6; omega) (i2 rfl).1, WLk_ac hX q.2 q.1 (by show t < 6; omega) (i2 rfl).1⟩
  | some j => exact ⟨WMw_la q.1 (by show t < 6; omega), WLk_la q.2⟩
end PWL
end
section
/-! the model: memories that stand for all like them, with the machine's state -/
/-- such a memory holds the state M, and its choices -/
def AM (C : gCo) (w : Nat) (M : gMa) (a : gd) : Prop := AV a ∧ MK a C ∧ MM1 a C M ∧ MIv C w M ∧ a.1 0 68 = Int32.ofNat w ∧ chE a (chM C w M)
/-- what is asked of a code -/
def GC (C : gCo) : Prop := NC C ∧ NXc C ∧ C.2.1.length ≤ 6
theorem fc_exM {b : gd} {S : gS} {C : gCo} {M : gMa} {w : Nat} (ri : RI b S) (wy : wy01 b) (hK : MK b C) (hN : NC C) (hX : NXc C) (hM : MM1 b C M) (wyw : b.1 0 68 = Int32.ofNat w) (w01 : w = 0 ∨ w = 1) (hlt : w = 0 → ∀ t', t' < 6 → (M.2.2 t').2.2.2.2.2.2.1 = []) : ∃ a, AV a ∧ fcA b a ∧ md [84] [86, 87, 88] b a ∧ chE a (chM C w M) := by
  obtain ⟨o, a, S', ⟨eo, fc, hcn⟩, m, q⟩ := ds_find3 (d := 0) (Fv := fun y S1 => fC b (Sl b) 84 y S1 ∧ chE y (chM C w M)) (RI_Sl ri) hK hN hX hM wyw w01 hlt (fun y S1 h h2 => ⟨h, h2⟩)
  obtain ⟨f1, f2, f3, f4, f5, f6⟩ := fc
  have e80 : a.1 80 = b.1 80 := f1.2.1 80 (by decide) (by decide)
  have sl : Sl a = Sl b := by
    funext c j
    unfold Sl
    rw [e80]
  have sm : ssub (Sm a) S' := by
    intro c j h
    rcases h with ⟨h1, h2⟩ | ⟨h1, h2⟩ | h
    · rw [h1, h2]; exact f3
    · obtain ⟨g1, g2, g3, _⟩ := f6 j h2
      rcases h1 with h1 | h1 | h1
      · rw [h1]; exact g1
      · rw [h1]; exact g2
      · rw [h1]; exact g3
    · rw [sl] at h
      exact f2 c j h
  have fa : fcA b a := by
    intro G z e
    refine MT_mono (q G z e) (fun o2 z' w => ?_)
    rw [w.1, eo]
    exact rv_i ⟨eqS_w sm w.2.1, w.2.2⟩
  refine ⟨a, ⟨?_, ?_, ?_, f4, f5, ?_⟩, fa, f1, hcn⟩
  · rw [sl]
    exact RI_md f1 rfl rfl (ssub_rf _) (RI_Sl ri)
  · unfold wy01
    rw [f1.1 68 (by decide)]
    exact wy
  · intro i hi
    obtain ⟨_, _, _, g⟩ := f6 i hi
    exact ⟨Or.inr (Or.inl ⟨Or.inl rfl, hi⟩), Or.inr (Or.inl ⟨Or.inr (Or.inl rfl), hi⟩), Or.inr (Or.inl ⟨Or.inr (Or.inr rfl), hi⟩), g⟩
  · intro G z e
    refine fa G z (fun c j h => ?_)
    rw [← sl] at h
    rw [e c j h]
    -- the core and the late writes are those of b
    rcases h with h | h
    · rcases h with ⟨h1, h2⟩ | ⟨n, h1, h2⟩
      · rw [h1]
        refine f1.1 j (fun w => ?_)
        rw [List.mem_singleton.mp w] at h2
        exact absurd h2 (by decide)
      · have hc : c ≠ 0 ∧ c ∉ [86, 87, 88] := by
          simp at h1
          refine ⟨by omega, ?_⟩
          simp
          omega
        rw [f1.2.1 c hc.1 hc.2]
    · obtain ⟨hc, _⟩ := h
      rw [f1.2.1 c (by omega) (by simp; omega)]
theorem lk_exM {C : gCo} {w i : Nat} {M : gMa} {a : gd} {ch : gCh} (gc : GC C) (w01 : w = 0 ∨ w = 1) (h : AM C w M a) (hch : (chM C w M)[i]? = some ch) : ∃ a', AM C w (doM C w M ch) a' ∧ Lk a i a' := by
  obtain ⟨hN, hX, l6⟩ := gc
  obtain ⟨⟨ri, wy, chv, c0, c84, fa⟩, hK, hM, hI, w68, hE⟩ := h
  have hi : (i : Int) < (a.1 0 84).toInt := by have := gt_lt hch; rw [hE.1]; omega
  obtain ⟨_, _, _, ⟨t0, t6⟩, co⟩ := chv i hi
  have tv : vp_in (a.1 86 i) 6 := by rw [vp_in_iff]; exact ⟨t0, t6⟩
  obtain ⟨e86, e87, e88⟩ := hE.2 i ch hch
  have cm := List.mem_of_getElem? hch
  obtain ⟨i1, i2, i3⟩ := ch_in cm
  have hI' := MIv_do hX l6 hI cm
  have ct : (a.1 86 i).toNatClampNeg = ch.1 := by
    rw [e86, t_cl, Int32.toInt_ofNat_of_lt (by omega)]; rfl
  have st : ∃ b, RI b (Sl b) ∧ wy01 b ∧ MK b C ∧ MM1 b C (doM C w M ch) ∧ b.1 0 68 = Int32.ofNat w ∧ Tr a i b := by
    by_cases c : a.1 87 i = -1
    · have g := co.resolve_right (fun z => by rw [c] at z; exact absurd z.1 (by decide))
      have cn : ch.2.1 = none := by
        cases h9 : ch.2.1 with
        | none => rfl
        | some j =>
          have j8 : j < 9 := by
            have := i3 j h9
            have q := (ri.2 ch.1 (by omega)).2.2.2.1
            have := (hM.2.2 ch.1 (by omega)).2.2.2.2.2.2.2.2.1.1
            omega
          rw [h9] at e87
          rw [e87] at c
          have c : Int32.ofNat j = -1 := c
          have : ∀ n, n < 9 → ¬ Int32.ofNat n = -1 := by decide +kernel
          exact absurd c (this j j8)
      have dE : doM C w M ch = acM C w M ch.1 ch.2.2 := by unfold doM; rw [cn]
      obtain ⟨o, b, S', ⟨eo, rb, ss, as', ap, mb⟩, m, q⟩ := ds_doAct3 (d := 0) (wk := ch.2.2) (Fv := fun y S1 => RI y S1 ∧ ssub (Sl a) S1 ∧ acS S1 ∧ acP (srt a (a.1 86 i).toNatClampNeg) y ∧ MM1 y C (acM C w M (a.1 86 i).toNatClampNeg ch.2.2)) (a.1 86 i) (a.1 88 i) tv ri g.2.1 g.2.2 hK hN hX hM (WMw_WM hI.1) w68 w01 (by
        cases h9 : ch.2.2 with
        | none => rw [h9] at e88; exact Or.inl ⟨rfl, e88⟩
        | some k =>
          rw [h9] at e88
          have k6 := (i2 cn).2.2 k h9
          unfold waM at k6
          have := List.mem_range.mp (List.mem_filter.mp k6).1
          exact Or.inr ⟨k, rfl, by omega, e88⟩) (fun y S1 h1 h2 h3 h4 h5 => ⟨h1, h2, h3, h4, h5⟩)
      rw [ct] at mb
      refine ⟨b, RI_Sl rb, by unfold wy01; rw [m.1 68 (by decide)]; exact wy, MK_md m rfl rfl hK, by rw [dE]; exact mb, by rw [m.1 68 (by decide)]; exact w68, fun _ G z e => MT_mono (q G z e) (fun o2 z' w => ?_), fun n => absurd c n⟩
      rw [w.1, eo]
      refine rv_i ⟨eqS_w (Sl_in rb) w.2.1, w.2.2, ?_⟩
      unfold acP
      rw [w.2.1 0 88 (Or.inr as'.1), w.2.1 0 89 (Or.inr as'.2.1)]
      exact ap
    · have g := co.resolve_left (fun z => c z.1)
      obtain ⟨j, hj⟩ : ∃ j, ch.2.1 = some j := by
        cases h9 : ch.2.1 with
        | none => rw [h9] at e87; exact absurd e87 c
        | some j => exact ⟨j, rfl⟩
      rw [hj] at e87
      have e87 : a.1 87 i = Int32.ofNat j := e87
      have dE : doM C w M ch = laM M ch.1 j := by unfold doM; rw [hj]
      have j8 : j < 9 := by
        have := i3 j hj
        have q := (ri.2 ch.1 (by omega)).2.2.2.1
        have := (hM.2.2 ch.1 (by omega)).2.2.2.2.2.2.2.2.1.1
        omega
      have ej : (a.1 87 i).toInt.toNat = j := by rw [e87, Int32.toInt_ofNat_of_lt (by omega)]; rfl
      obtain ⟨o, b, S', ⟨eo, rb, ss, mb, mm⟩, m, q⟩ := ds_doLate3 (d := 4) (C := C) (M := M) (Fv := fun y S1 => RI y S1 ∧ ssub (Sl a) S1 ∧ md [] [70, 80, 81, 82] a y ∧ MM1 y C (laM M (a.1 86 i).toNatClampNeg (a.1 87 i).toInt.toNat)) (a.1 86 i) (a.1 87 i) tv ri g.1 g.2 hM (fun y S1 h1 h2 h3 h4 => ⟨h1, h2, h3, h4⟩)
      rw [ct, ej] at mm
      refine ⟨b, RI_Sl rb, by unfold wy01; rw [m.1 68 (by decide)]; exact wy, MK_md m rfl rfl hK, by rw [dE]; exact mm, by rw [m.1 68 (by decide)]; exact w68, fun n => absurd n c, fun _ G z e => MT_mono (q G z e) (fun o2 z' w => ?_)⟩
      rw [w.1, eo]
      exact rv_i ⟨eqS_w (Sl_in rb) w.2.1, w.2.2⟩
  obtain ⟨b, h1, h2, hKb, hMb, wb, h3⟩ := st
  obtain ⟨a', g1, g2, g3, g4⟩ := fc_exM h1 h2 hKb hN hX hMb wb w01 (fun z t ht => (hI'.1 t ht).2.2.2 z)
  exact ⟨a', ⟨g1, MK_md g3 rfl rfl hKb, MM1_md g3 rfl hMb, hI', by rw [g3.1 68 (by decide)]; exact wb, g4⟩, b, h3, g2⟩
section DSY
variable {x : gd} {C : gCo}
theorem first_exM (cp : CP x) (hK : MK x C) (hN : NC C) : ∃ b, RI b (Sl b) ∧ MM1 b C (fsM C) ∧ MK b C ∧ b.1 0 68 = x.1 0 68 ∧ prE x b ∧ ∀ (G : mG) (D : Nat) (z : gd), 5 ≤ D → prE x z → z.1 0 68 = x.1 0 68 → MT G D z_setFirst 0 [(0, vr 0)] [] z (rv (fun z' => eqS (Sl b) b z' ∧ md rL rA z z')) := by
  have ii := ix_ini x
  have i2 : ∀ j : Nat, j < 24 → (ix x).1 70 j = (fsM C).1 j := fun j hj => by
    have e : (ix x).1 70 j = if (j : Int) < (x.1 0 23).toInt then x.1 36 j else 0 := ii.2.1 j hj
    rw [e]
    have l23 : (x.1 0 23).toInt = C.2.2.1.length := hK.2.2.1.1
    show _ = (match C.2.2.1[j]? with | some q => q.1 | none => 0)
    cases hq : C.2.2.1[j]? with
    | some q => rw [if_pos (by have := gt_lt hq; omega)]; exact (hK.2.2.1.2 j q hq).1
    | none => rw [if_neg (by have := List.getElem?_eq_none_iff.mp hq; omega)]
  obtain ⟨o, b, S', ⟨eo, rb, hfs⟩, m, q⟩ := ds_setTail3 (x := ix x) (S := fun _ _ => False) (Fv := fun y S1 => RI y S1 ∧ MM1 y C (fsM C)) (CP_md ii.1 rfl rfl cp) ii.2.2.2.1 ii.2.2.1 i2 ii.2.2.2.2 (MK_md ii.1 rfl rfl hK) hN (fun y S1 h h2 => ⟨h, h2⟩)
  refine ⟨b, RI_Sl rb, hfs, MK_md m rfl rfl (MK_md ii.1 rfl rfl hK), ?_, ?_, fun G D z hD p w => ?_⟩
  · rw [m.1 68 (by decide), ii.1.1 68 (by decide)]
  · exact prE_mi (prE_mi (prE_rf x) (mi_of ii.1) rfl rfl) (mi_of m) rfl rfl
  · obtain ⟨D, rfl⟩ : ∃ D', D = D' + 1 := ⟨D - 1, by omega⟩
    refine sp_setInit (fun y iy => MT_up (d := 4) (by omega) (MT_mono (q G y (ini_eq p w ii iy)) (fun o2 z' v => ?_)))
    rw [v.1, eo]
    exact rv_i ⟨eqS_w (Sl_in rb) v.2.1, md_tr (md_w iy.1 (L2 := rL) (A2 := rA) (by decide) (by decide)) v.2.2 rfl rfl⟩
theorem start_exM (cp : CP x) (hK : MK x C) (hN : NC C) (hX : NXc C) {wn : Nat} (w01 : wn = 0 ∨ wn = 1) (w : Int32) (ew0 : w = Int32.ofNat wn) (hw : w = 0 ∨ w = 1) : ∃ a0, AM C wn (fsM C) a0 ∧ AV a0 ∧ a0.1 0 68 = w ∧ prE x a0 ∧ St x w a0 ∧ ∃ b, md [84] [86, 87, 88] b a0 ∧ ∀ (G : mG) (D : Nat) (z : gd), 5 ≤ D → prE x z → z.1 0 68 = w → MT G D z_setFirst 0 [(0, vr 0)] [] z (rv (fun z' => eqS (Sl b) b z' ∧ md rL rA z z')) := by
  have k0 : (0 : Int32).toInt = 0 := rfl
  have k1 : (1 : Int32).toInt = 1 := rfl
  have k6 : (6 : Int32).toInt = 6 := rfl
  have mw := md_f x 68 w
  obtain ⟨xw, exw⟩ : ∃ xw, xw = si x 0 68 w := ⟨_, rfl⟩
  rw [← exw] at mw
  have ew : xw.1 0 68 = w := by rw [exw, si_get, if_pos ⟨rfl, rfl⟩]
  have pw : prE x xw := prE_mi (prE_rf x) (mi_of mw) rfl rfl
  obtain ⟨b, rb, hfs, hKb, b68, pb, hb⟩ := first_exM (CP_md mw rfl rfl cp) (MK_md mw rfl rfl hK) hN
  rw [ew] at b68
  obtain ⟨a0, av, fa, ma, hcn⟩ := fc_exM rb (by unfold wy01; rw [b68]; exact hw) hKb hN hX hfs (by rw [b68, ew0]) w01 (fun z t ht => (WMw_fs t ht).2.2.2 z)
  refine ⟨a0, ⟨av, MK_md ma rfl rfl hKb, MM1_md ma rfl hfs, MIv_fs, by rw [ma.1 68 (by decide), b68, ew0], hcn⟩, av, by rw [ma.1 68 (by decide), b68], prE_tr pw (prE_mi pb (mi_of ma) rfl rfl), ?_, b, ma, fun G D z hD p hz => hb G D z hD (prE_tr (prE_sy pw) p) (by rw [ew]; exact hz)⟩
  intro G D z Fv hD p hF
  obtain ⟨D, rfl⟩ : ∃ D', D = D' + 1 := ⟨D - 1, by omega⟩
  refine sg_startRun_0 _ (fun z1 e1 z2 e2 z3 e3 z4 e4 => ?_)
  have m1 := md_f z 68 w
  rw [← e1] at m1
  have m2 := md_f z1 67 1
  rw [← e2] at m2
  have m3 := md_f z2 94 0
  rw [← e3] at m3
  have m4 := md_f z3 96 0
  rw [← e4] at m4
  have m14 : md [68, 67, 94, 96] [] z z4 := md_tr (md_tr (L3 := [68, 67, 94]) (A3 := []) (md_tr (L3 := [68, 67]) (A3 := []) m1 m2 rfl rfl) m3 rfl rfl) m4 rfl rfl
  have f68 : z4.1 0 68 = w := by rw [m4.1 68 (by decide), m3.1 68 (by decide), m2.1 68 (by decide), e1, si_get, if_pos ⟨rfl, rfl⟩]
  have f67 : z4.1 0 67 = 1 := by rw [m4.1 67 (by decide), m3.1 67 (by decide), e2, si_get, if_pos ⟨rfl, rfl⟩]
  have f94 : z4.1 0 94 = 0 := by rw [m4.1 94 (by decide), e3, si_get, if_pos ⟨rfl, rfl⟩]
  have f96 : z4.1 0 96 = 0 := by rw [e4, si_get, if_pos ⟨rfl, rfl⟩]
  have loop : ∀ (n : Nat) (y : gd) (t : Int32), 0 ≤ t.toInt → t.toInt ≤ 6 → 6 - t.toInt ≤ n → md [] [106, 107] z4 y → (∀ j : Nat, (j : Int) < t.toInt → y.1 106 j = -1 ∧ y.1 107 j = -1) → MT G (D + 1) z_startRun 22 [(0, vr 0), (2, vi t)] [] y (rv Fv) := by
    have last : ∀ y : gd, md [] [106, 107] z4 y → (∀ j : Nat, j < 6 → y.1 106 j = -1 ∧ y.1 107 j = -1) → MT G D z_setFirst 0 [(0, vr 0)] [] y (rv (fun x2 => MT G D z_findChoices 0 [(0, vr 0)] [] x2 (rv (fun x3 => rv Fv none x3)))) := by
      intro y my hy
      have py : prE xw y := prE_tr (prE_sy pw) (prE_mi (prE_mi p (mi_of m14) rfl rfl) (mi_of my) rfl rfl)
      have wy' : y.1 0 68 = xw.1 0 68 := by rw [my.1 68 (by decide), f68, ew]
      refine MTv_mono (hb G D y (by omega) py wy') (fun u q => MT_up (by omega) (MTv_mono (fa G u q.1) (fun v qv => rv_i (hF v qv.1 ?_))))
      have g : mi [82, 84, 88, 89, 90, 91, 92, 93] rA y v := mi_of (md_rt q.2 qv.2)
      have v94 : v.1 0 94 = 0 := by rw [g.1 94 (by decide), my.1 94 (by decide), f94]
      have v96 : v.1 0 96 = 0 := by rw [g.1 96 (by decide), my.1 96 (by decide), f96]
      refine ⟨mi_tr (mi_tr (L3 := sL') (A3 := sA') (mi_of m14) (mi_of my) rfl rfl) g rfl rfl, v94, ⟨by rw [v96]; decide, by rw [v96, v94]; decide, by rw [v94]; decide, fun j hj => by rw [v96, k0] at hj; omega, fun t ht => ?_⟩, by rw [g.1 67 (by decide), my.1 67 (by decide), f67], by rw [g.1 68 (by decide), my.1 68 (by decide), f68]⟩
      rw [g.2 106 (by decide) (by decide), g.2 107 (by decide) (by decide)]
      exact ⟨Or.inl (hy t ht).1, Or.inl (hy t ht).2⟩
    intro n
    induction n with
    | zero =>
      intro y t t0 t6 hn my hy
      exact sg_startRun_22 _ ⟨fun _ => last y my (fun j hj => hy j (by omega)), fun c => absurd (t_le.mpr (by rw [k6]; omega)) c⟩
    | succ n ih =>
      intro y t t0 t6 hn my hy
      refine sg_startRun_22 _ ⟨fun c => last y my (fun j hj => hy j (by rw [t_le, k6] at c; omega)), fun c => ?_⟩
      rw [t_le, k6] at c
      have tv : vp_in t 6 := by rw [vp_in_iff]; omega
      have ct := cl_i t0
      have ti : (t + 1).toInt = t.toInt + 1 := by rw [t_add (by omega) (by omega), k1]
      refine ⟨tv, fun y5 e5 => ⟨tv, fun y7 e7 => ?_⟩⟩
      have m5 := md_a y 106 t.toNatClampNeg (-1) (by decide)
      rw [← e5] at m5
      have m7 := md_a y5 107 t.toNatClampNeg (-1) (by decide)
      rw [← e7] at m7
      refine ih y7 (t + 1) (by omega) (by omega) (by omega) (md_tr (md_tr (L3 := []) (A3 := [106, 107]) my m5 rfl rfl) m7 rfl rfl) (fun j hj => ?_)
      by_cases q : j = t.toNatClampNeg
      · rw [q]
        exact ⟨by rw [e7, si_cell (by decide), e5, si_get, if_pos ⟨rfl, rfl⟩], by rw [e7, si_get, if_pos ⟨rfl, rfl⟩]⟩
      · rw [e7, si_ne 106 j q, si_ne 107 j q, e5, si_ne 106 j q, si_ne 107 j q]
        exact hy j (by omega)
  exact loop 6 z4 0 (by decide) (by decide) (by decide) (md_w (md_rf _) (by decide) (by decide)) (fun j hj => by rw [k0] at hj; omega)
end DSY
end
section
/-! the model: a run, with the machine's states that it goes through -/
/-- the state behind k choices of a row -/
noncomputable def runM (C : gCo) (w : Nat) (c : Nat → Nat) : Nat → gMa
  | 0 => fsM C
  | k + 1 => doM C w (runM C w c k) (((chM C w (runM C w c k))[c k]?).getD (0, none, none))
/-- the row of choices done -/
def c96 (z : gd) : Nat → Nat := fun k => (z.1 96 k).toNatClampNeg
def HistC (C : gCo) (w : Nat) (z : gd) : Prop := ∃ (a : Nat → gd) (n : Nat), (n : Int) = (z.1 0 94).toInt ∧ (∀ k : Nat, k ≤ n → AM C w (runM C w (c96 z) k) (a k)) ∧ (∀ k : Nat, k < n → 0 ≤ (z.1 96 k).toInt ∧ c96 z k < (chM C w (runM C w (c96 z) k)).length ∧ Lk (a k) (c96 z k) (a (k + 1))) ∧ eqS (Sm (a n)) (a n) z ∧ St z (z.1 0 68) (a 0) ∧ ((w = 0 ∨ w = 1) ∧ z.1 0 68 = Int32.ofNat w) ∧ HA z
section MRU
variable {G : mG} {d D : Nat} {x z a : gd} {F : Int32 → gd → Prop} {Fv : gd → Prop} {C : gCo} {w : Nat}
theorem runM_s {c : Nat → Nat} {k : Nat} {ch : gCh} (h : (chM C w (runM C w c k))[c k]? = some ch) : runM C w c (k + 1) = doM C w (runM C w c k) ch := by
  rw [runM, h]
  rfl
theorem runM_cg {c c' : Nat → Nat} : ∀ {n : Nat}, (∀ k, k < n → c k = c' k) → runM C w c n = runM C w c' n := by
  intro n
  induction n with
  | zero => intro _; rfl
  | succ n ih =>
    intro h
    rw [runM, runM, ih (fun k hk => h k (by omega)), h n (by omega)]
theorem AM_n {M : gMa} (h : AM C w M a) : (a.1 0 84).toInt = ((chM C w M).length : Nat) := h.2.2.2.2.2.1
theorem wy_i {a : gd} (w01 : w = 0 ∨ w = 1) (h : a.1 0 68 = Int32.ofNat w) : wy01 a := by
  unfold wy01
  rw [h]
  rcases w01 with e | e <;> rw [e]
  · exact Or.inl rfl
  · exact Or.inr rfl
theorem HistC_H (h : HistC C w z) : Hist z := by
  obtain ⟨a, n, q1, q2, q3, q4, q5, q6, q7⟩ := h
  refine ⟨a, n, q1, fun k hk => (q2 k hk).1, fun k hk => ?_, q4, q5, wy_i q6.1 q6.2, q7⟩
  obtain ⟨b1, b2, b3⟩ := q3 k hk
  have e := AM_n (q2 k (by omega))
  have ci := cl_i b1
  have b2 : (z.1 96 k).toNatClampNeg < (chM C w (runM C w (c96 z) k)).length := b2
  exact ⟨b1, by omega, b3⟩
/-- how many choices there are -/
theorem HistC_n (h : HistC C w z) : (z.1 0 84).toInt = ((chM C w (runM C w (c96 z) (z.1 0 94).toInt.toNat)).length : Nat) := by
  obtain ⟨a, n, q1, q2, q3, q4, -⟩ := h
  have e : z.1 0 84 = (a n).1 0 84 := q4 0 84 (Or.inr (Or.inl ⟨rfl, rfl⟩))
  rw [e, ← q1]
  exact AM_n (q2 n (Nat.le_refl _))
theorem HistC_mi {L A : List Nat} {z' : gd} (m : mi L A z z') (hL : [23, 24, 25, 26, 27, 68, 84, 94, 96].all (fun k => !L.elem k) = true) (hA : [36, 37, 38, 51, 52, 54, 55, 56, 57, 58, 59, 60, 61, 62, 64, 65, 66, 70, 71, 72, 73, 74, 75, 76, 77, 78, 79, 80, 81, 82, 86, 87, 88, 96, 98, 99, 100, 103, 106, 107].all (fun k => !A.elem k) = true) (q : HistC C w z) : HistC C w z' := by
  have L2 : ∀ M : List Nat, M.all ([23, 24, 25, 26, 27, 68, 84, 94, 96].elem ·) = true → M.all (fun k => !L.elem k) = true := fun M hM => List.all_eq_true.mpr (fun k hk => List.all_eq_true.mp hL k (List.elem_iff.mp (List.all_eq_true.mp hM k hk)))
  have A2 : ∀ M : List Nat, M.all ([36, 37, 38, 51, 52, 54, 55, 56, 57, 58, 59, 60, 61, 62, 64, 65, 66, 70, 71, 72, 73, 74, 75, 76, 77, 78, 79, 80, 81, 82, 86, 87, 88, 96, 98, 99, 100, 103, 106, 107].elem ·) = true → M.all (fun k => !A.elem k) = true := fun M hM => List.all_eq_true.mpr (fun k hk => List.all_eq_true.mp hA k (List.elem_iff.mp (List.all_eq_true.mp hM k hk)))
  have f := fun k hk => m.1 k (all_no hL k hk)
  obtain ⟨a, n, q1, q2, q3, q4, q5, q6, q7⟩ := q
  have g96 : z'.1 96 = z.1 96 := m.2 96 (by decide) (all_no hA 96 (by decide))
  have c9 : c96 z' = c96 z := by unfold c96; rw [g96]
  refine ⟨a, n, by rw [f 94 (by decide)]; exact q1, by rw [c9]; exact q2, by rw [c9, g96]; exact q3, eqS_mi q4 m (L2 _ rfl) (A2 _ rfl) (ssub_rf _), ?_, by rw [f 68 (by decide)]; exact q6, HA_mi m (L2 _ rfl) (A2 _ rfl) q7⟩
  rw [f 68 (by decide)]
  exact St_pr (prE_mi (prE_rf z) m (L2 _ rfl) (A2 _ rfl)) q5
/-- a choice more -/
theorem sc_more (gc : GC C) (hh : HistC C w z) (hd : (z.1 0 94).toInt < 400) (i : Int32) (i0 : 0 ≤ i.toInt) (i1 : i.toInt < (z.1 0 84).toInt) (hD : 6 ≤ D) (h : ∀ z', HistC C w z' → dF z z' i → Fv z') : MT G D z_doChoice 0 [(0, vr 0), (1, vi i)] [] z (rv Fv) := by
  obtain ⟨s, n, q1, q2, q3, q4, q5, q6, q7⟩ := hh
  have e84 : z.1 0 84 = (s n).1 0 84 := q4 0 84 (Or.inr (Or.inl ⟨rfl, rfl⟩))
  rw [e84] at i1
  have ci := cl_i i0
  have am := q2 n (Nat.le_refl _)
  have en := AM_n am
  have hil : i.toNatClampNeg < (chM C w (runM C w (c96 z) n)).length := by omega
  obtain ⟨ch, hch⟩ : ∃ ch, (chM C w (runM C w (c96 z) n))[i.toNatClampNeg]? = some ch := ⟨_, List.getElem?_eq_getElem hil⟩
  obtain ⟨a', av', lk⟩ := lk_exM gc q6.1 am hch
  refine sp_doChoice am.1 i i0 i1 lk q4 q7 hd hD (fun z' e' ha' df => h z' ?_ df)
  obtain ⟨m, d94, d96, d96b⟩ := df
  have cn : (z.1 0 94).toNatClampNeg = n := by have := cl_i (a := z.1 0 94) (by omega); omega
  rw [cn] at d96 d96b
  have f68 : z'.1 0 68 = z.1 0 68 := m.1 68 (by decide)
  have cE : ∀ k, k < n → c96 z' k = c96 z k := fun k hk => by unfold c96; rw [d96b k (by omega)]
  have cN : c96 z' n = i.toNatClampNeg := by unfold c96; rw [d96]
  have rE : ∀ k, k ≤ n → runM C w (c96 z') k = runM C w (c96 z) k := fun k hk => runM_cg (fun j hj => cE j (by omega))
  have rN : runM C w (c96 z') (n + 1) = doM C w (runM C w (c96 z) n) ch := by
    rw [runM_s (c := c96 z') (k := n) (ch := ch) (by rw [rE n (Nat.le_refl _), cN]; exact hch), rE n (Nat.le_refl _)]
  refine ⟨fun k => if k = n + 1 then a' else s k, n + 1, by omega, fun k hk => ?_, fun k hk => ?_, ?_, ?_, by rw [f68]; exact q6, ha'⟩
  · by_cases c : k = n + 1
    · simp only [if_pos c]; rw [c, rN]; exact av'
    · simp only [if_neg c]; rw [rE k (by omega)]; exact q2 k (by omega)
  · by_cases c : k = n
    · rw [c, d96, cN, rE n (Nat.le_refl _)]
      simp only [if_neg (show ¬ n = n + 1 by omega), if_pos]
      exact ⟨i0, hil, lk⟩
    · rw [d96b k c, cE k (by omega), rE k (by omega)]
      simp only [if_neg (show ¬ k = n + 1 by omega), if_neg (show ¬ k + 1 = n + 1 by omega)]
      exact q3 k (by omega)
  · simp only [if_pos]
    exact e'
  · simp only [if_neg (show ¬ 0 = n + 1 by omega)]
    rw [f68]
    exact St_pr (prE_mi (prE_rf z) m rfl rfl) q5
/-- a run begun -/
theorem sc_startRun (gc : GC C) (cp : CP z) (hK : MK z C) (w01 : w = 0 ∨ w = 1) (hD : 6 ≤ D) (h : ∀ z', HistC C w z' → sF (Int32.ofNat w) z z' → Fv z') : MT G D z_startRun 0 [(0, vr 0), (1, vi (Int32.ofNat w))] [] z (rv Fv) := by
  have hw : Int32.ofNat w = 0 ∨ Int32.ofNat w = 1 := by
    rcases w01 with e | e <;> rw [e]
    · exact Or.inl rfl
    · exact Or.inr rfl
  obtain ⟨a0, am, av, e68, pa, st, _⟩ := start_exM cp hK gc.1 gc.2.1 w01 _ rfl hw
  refine st G D z Fv hD (prE_rf z) (fun z' e sf => h z' ?_ sf)
  obtain ⟨m, f94, ha, f67, f68⟩ := sf
  refine ⟨fun _ => a0, 0, by rw [f94]; rfl, fun k hk => ?_, fun k hk => absurd hk (Nat.not_lt_zero _), e, ?_, ⟨w01, f68⟩, ha⟩
  · have : k = 0 := by omega
    rw [this]; exact am
  · rw [f68]
    exact St_pr (prE_mi (prE_rf z) m rfl rfl) st
end MRU
end
section
/-! the cells of a row are sure all, or none -/
def n8T (L L' : gU) : Prop := ∃ N, L' = L ++ N ∧ ∀ v ∈ N, ¬ (v.1 = 31 ∨ v.1 = 32 ∨ 80 ≤ v.1)
section NT8
variable {K : Nat → Int32} {L L' L2 : gU} {o : Bool}
theorem n8T_rf : n8T L L := ⟨[], by rw [List.append_nil], fun _ h => by cases h⟩
theorem n8T_tr (h : n8T L L') (g : n8T L' L2) : n8T L L2 := by
  obtain ⟨N, e, h⟩ := h
  obtain ⟨N2, e2, g⟩ := g
  exact ⟨N ++ N2, by rw [e2, e, List.append_assoc], fun v hv => (List.mem_append.mp hv).elim (h v) (g v)⟩
theorem n8T_k {k a b : Nat} (h : ¬ (k = 31 ∨ k = 32 ∨ 80 ≤ k)) : n8T L (L ++ [(k, a, b)]) := ⟨_, rfl, fun v hv => by rw [List.mem_singleton.mp hv]; exact h⟩
theorem n8T_k2 {k a b k' a' b' : Nat} (h : ¬ (k = 31 ∨ k = 32 ∨ 80 ≤ k)) (h' : ¬ (k' = 31 ∨ k' = 32 ∨ 80 ≤ k')) : n8T L (L ++ [(k, a, b), (k', a', b')]) := ⟨_, rfl, fun v hv => by
  rcases List.mem_cons.mp hv with e | e
  · rw [e]; exact h
  · rw [List.mem_singleton.mp e]; exact h'⟩
theorem pt_n8T {w : Int32} {q r : Nat × gU} (h : pt K w q = some r) : n8T q.2 r.2 := by
  obtain ⟨-, -, e⟩ := pt_is h
  rw [e]; exact n8T_rf
theorem pan_n8T {v : Nat × Nat × Nat} {q r : Nat × gU} (hv : ¬ (v.1 = 31 ∨ v.1 = 32 ∨ 80 ≤ v.1)) (h : pan v q = some r) : n8T q.2 r.2 := by
  unfold pan at h
  cases Option.some.inj h
  exact n8T_k hv
abbrev ng8 (rE : Nat → Nat → gU → gOp) : Prop := ∀ s i L q, rE s i L = some q → n8T L q.2
theorem pW_n8T {rE : Nat → Nat → gU → gOp} {th : Nat} (hr : ng8 rE) : ∀ (f j : Nat) (L : gU) (q : Nat × gU), pW rE K th f j L = some q → n8T L q.2 := by
  intro f
  induction f with
  | zero => intro j L q h; exact absurd h (by simp [pW])
  | succ f ih =>
    intro j L q h
    rw [pW] at h
    split at h
    · split at h
      · obtain ⟨z, hz, h2⟩ := Option.bind_eq_some_iff.mp h
        exact n8T_tr (hr _ _ _ _ hz) (n8T_tr (n8T_k (by decide)) (ih _ _ _ h2))
      · exact absurd h (by simp)
    · cases Option.some.inj h; exact n8T_rf
theorem pO_n8T {rE : Nat → Nat → gU → gOp} (hr : ng8 rE) {i : Nat} {q : Nat × gU} (h : pO rE K o i L = some q) : n8T L q.2 := by
  unfold pO at h
  split at h
  · exact absurd h (by simp)
  · split at h
    · cases Option.some.inj h; exact n8T_k (by decide)
    · split at h
      · cases Option.some.inj h; exact n8T_k (by decide)
      · split at h
        · obtain ⟨z, hz, h2⟩ := Option.bind_eq_some_iff.mp h
          exact n8T_tr (hr _ _ _ _ hz) (pt_n8T h2)
        · split at h
          · split at h
            · split at h
              · split at h
                · cases Option.some.inj h; exact n8T_k2 (by decide) (by decide)
                · exact absurd h (by simp)
              · cases Option.some.inj h; exact n8T_k (by decide)
            · cases Option.some.inj h; exact n8T_k (by decide)
          · exact absurd h (by simp)
theorem pE_n8T : ∀ f : Nat, ng8 (pE K o f) := by
  intro f
  induction f with
  | zero => intro s i L q h; exact absurd h (by simp [pE])
  | succ f ih =>
    intro s i L q h
    rw [pE] at h
    split at h
    · obtain ⟨z, hz, h2⟩ := Option.bind_eq_some_iff.mp h
      refine n8T_tr ?_ (pW_n8T ih _ _ _ _ h2)
      split at hz
      · split at hz
        · obtain ⟨y, hy, h3⟩ := Option.bind_eq_some_iff.mp hz
          cases Option.some.inj h3
          exact n8T_tr (ih _ _ _ _ hy) (n8T_k (by decide))
        · exact absurd hz (by simp)
      · exact pO_n8T ih hz
    · exact absurd h (by simp)
theorem pX_n8T {f i : Nat} {q : Nat × gU} (h : pX K o f i L = some q) : n8T L q.2 := by
  obtain ⟨z, hz, h2⟩ := Option.bind_eq_some_iff.mp h
  exact n8T_tr (pE_n8T f _ _ _ _ hz) (pan_n8T (show ¬ (54 = 31 ∨ 54 = 32 ∨ 80 ≤ 54) by decide) h2)
theorem pXq_n8T {f : Nat} {r q : Nat × gU} (h : pXq K f r = some q) : n8T r.2 q.2 := pX_n8T h
theorem pP_n8T {f i : Nat} {q : Nat × gU} (h : pP K f i L = some q) : n8T L q.2 := by
  unfold pP at h
  split at h
  · split at h
    · split at h
      · obtain ⟨z, hz, h2⟩ := Option.bind_eq_some_iff.mp h
        exact n8T_tr (n8T_tr (n8T_k (by decide)) (pX_n8T hz)) (pt_n8T h2)
      · exact absurd h (by simp)
    · cases Option.some.inj h; exact n8T_k (by decide)
  · exact absurd h (by simp)
theorem pme_n8T {t : Option Nat} : n8T L (L ++ pme t) := by
  cases t with
  | none => rw [pme, List.append_nil]; exact n8T_rf
  | some t => exact n8T_k (by decide)
theorem pma_n8T {t : Option Nat} : n8T L (L ++ pma t) := by
  cases t with
  | none => rw [pma, List.append_nil]; exact n8T_rf
  | some t => exact n8T_k (by decide)
theorem pal_n8T {t : Option Nat} {i : Nat} : n8T L (L ++ [pal t i]) := by
  cases t with
  | none => exact n8T_k (by decide)
  | some t => exact n8T_k (by decide)
theorem pR_n8T {f i : Nat} {t : Option Nat} {q : Nat × gU} (h : pR K f t i L = some q) : n8T L q.2 := by
  unfold pR at h
  split at h
  · split at h
    · obtain ⟨z4, hz4, h4⟩ := Option.bind_eq_some_iff.mp h
      obtain ⟨z3, hz3, h3⟩ := Option.bind_eq_some_iff.mp hz4
      obtain ⟨z2, hz2, h2⟩ := Option.bind_eq_some_iff.mp hz3
      obtain ⟨z5, hz5, h5⟩ := Option.bind_eq_some_iff.mp h4
      have d : n8T z5.2 q.2 := pan_n8T (show ¬ (74 = 31 ∨ 74 = 32 ∨ 80 ≤ 74) by decide) h5
      have a : n8T L z4.2 := n8T_tr (n8T_tr (n8T_tr pme_n8T (pP_n8T hz2)) (pt_n8T h2)) (pXq_n8T h3)
      split at hz5
      · obtain ⟨z6, hz6, h6⟩ := Option.bind_eq_some_iff.mp hz5
        exact n8T_tr (n8T_tr (n8T_tr a (pt_n8T hz6)) (pXq_n8T h6)) d
      · cases Option.some.inj hz5; exact n8T_tr a d
    · exact absurd h (by simp)
  · split at h
    · obtain ⟨z, hz, h2⟩ := Option.bind_eq_some_iff.mp h
      exact n8T_tr (n8T_tr pme_n8T (pP_n8T hz)) (pan_n8T (show ¬ (75 = 31 ∨ 75 = 32 ∨ 80 ≤ 75) by decide) h2)
    · split at h
      · split at h
        · cases Option.some.inj h; exact pal_n8T
        · exact absurd h (by simp)
      · obtain ⟨z, hz, h2⟩ := Option.bind_eq_some_iff.mp h
        exact n8T_tr (n8T_tr pma_n8T (pX_n8T hz)) (pan_n8T (show ¬ (76 = 31 ∨ 76 = 32 ∨ 80 ≤ 76) by decide) h2)
abbrev nh8 (rS : Nat → Nat → gU → gTs) : Prop := ∀ c i L q, rS c i L = some q → n8T L q.2.2
theorem pBl_n8T {rS : Nat → Nat → gU → gTs} {z : Nat} (hr : nh8 rS) : ∀ (n c i : Nat) (L : gU) (q : Nat × Nat × gU), pBl rS K z n c i L = some q → n8T L q.2.2 := by
  intro n
  induction n with
  | zero => intro c i L q h; exact absurd h (by simp [pBl])
  | succ n ih =>
    intro c i L q h
    rw [pBl] at h
    split at h
    · split at h
      · cases Option.some.inj h; exact n8T_k (by decide)
      · exact absurd h (by simp)
    · obtain ⟨y, hy, h2⟩ := Option.bind_eq_some_iff.mp h
      exact n8T_tr (hr _ _ _ _ hy) (ih _ _ _ _ h2)
theorem pBk_n8T {rS : Nat → Nat → gU → gTs} {z : Nat} (hr : nh8 rS) {c i : Nat} {q : Nat × Nat × gU} (h : pBk rS K z c i L = some q) : n8T L q.2.2 := by
  unfold pBk at h
  split at h
  · exact n8T_tr (n8T_k (by decide)) (pBl_n8T hr _ _ _ _ _ h)
  · exact absurd h (by simp)
theorem pEl_n8T {rS : Nat → Nat → gU → gTs} (hr : nh8 rS) {q r : Nat × Nat × gU} (h : pEl rS K q = some r) : n8T q.2.2 r.2.2 := by
  unfold pEl at h
  split at h
  · split at h
    · split at h
      · exact n8T_tr (n8T_k (by decide)) (hr _ _ _ _ h)
      · exact n8T_tr (n8T_k (by decide)) (pBk_n8T hr h)
    · exact absurd h (by simp)
  · cases Option.some.inj h; exact n8T_rf
theorem pup_n8T {c : Nat} {v : Nat × Nat × Nat} {r : gOp} {q : Nat × Nat × gU} (hv : ¬ (v.1 = 31 ∨ v.1 = 32 ∨ 80 ≤ v.1)) (h : pup c v r = some q) : ∃ z, r = some z ∧ n8T z.2 q.2.2 := by
  unfold pup at h
  obtain ⟨z, hz, e⟩ := Option.bind_eq_some_iff.mp h
  cases Option.some.inj e
  exact ⟨z, hz, n8T_k hv⟩
theorem pS1_n8T {f c i : Nat} {q : Nat × Nat × gU} (h : pS1 K f c i L = some q) : n8T L q.2.2 := by
  unfold pS1 at h
  split at h
  · split at h
    · obtain ⟨z, h, g⟩ := pup_n8T (show ¬ (22 = 31 ∨ 22 = 32 ∨ 80 ≤ 22) by decide) h
      obtain ⟨y, hy, h2⟩ := Option.bind_eq_some_iff.mp h
      exact n8T_tr (n8T_tr (n8T_tr (n8T_k (by decide)) (pR_n8T hy)) (pt_n8T h2)) g
    · exact absurd h (by simp)
  · split at h
    · split at h
      · split at h
        · obtain ⟨z, h, g⟩ := pup_n8T (show ¬ (78 = 31 ∨ 78 = 32 ∨ 80 ≤ 78) by decide) h
          obtain ⟨y5, hy5, h5⟩ := Option.bind_eq_some_iff.mp h
          obtain ⟨y4, hy4, h4⟩ := Option.bind_eq_some_iff.mp hy5
          obtain ⟨y3, hy3, h3⟩ := Option.bind_eq_some_iff.mp hy4
          obtain ⟨y2, hy2, h2⟩ := Option.bind_eq_some_iff.mp hy3
          exact n8T_tr (n8T_tr (n8T_tr (n8T_tr (n8T_tr (n8T_tr (n8T_k (by decide)) (pX_n8T hy2)) (pt_n8T h2)) (pt_n8T h3)) (pXq_n8T h4)) (pt_n8T h5)) g
        · exact absurd h (by simp)
      · split at h
        · obtain ⟨z, h, g⟩ := pup_n8T (show ¬ (77 = 31 ∨ 77 = 32 ∨ 80 ≤ 77) by decide) h
          obtain ⟨y2, hy2, h2⟩ := Option.bind_eq_some_iff.mp h
          exact n8T_tr (n8T_tr (pR_n8T hy2) (pt_n8T h2)) g
        · exact absurd h (by simp)
    · split at h
      · obtain ⟨z, h, g⟩ := pup_n8T (show ¬ (68 = 31 ∨ 68 = 32 ∨ 80 ≤ 68) by decide) h
        have := pt_n8T h
        exact n8T_tr this g
      · split at h
        · obtain ⟨z, h, g⟩ := pup_n8T (show ¬ (69 = 31 ∨ 69 = 32 ∨ 80 ≤ 69) by decide) h
          obtain ⟨y2, hy2, h2⟩ := Option.bind_eq_some_iff.mp h
          exact n8T_tr (n8T_tr (pX_n8T hy2) (pt_n8T h2)) g
        · split at h
          · split at h
            · obtain ⟨z, h, g⟩ := pup_n8T (show ¬ (70 = 31 ∨ 70 = 32 ∨ 80 ≤ 70) by decide) h
              obtain ⟨y2, hy2, h2⟩ := Option.bind_eq_some_iff.mp h
              exact n8T_tr (n8T_tr (pX_n8T hy2) (pt_n8T h2)) g
            · exact absurd h (by simp)
          · split at h
            · split at h
              · obtain ⟨z, h, g⟩ := pup_n8T (show ¬ (66 = 31 ∨ 66 = 32 ∨ 80 ≤ 66) by decide) h
                have := pt_n8T h
                exact n8T_tr this g
              · exact absurd h (by simp)
            · split at h
              · split at h
                · obtain ⟨z, h, g⟩ := pup_n8T (show ¬ (67 = 31 ∨ 67 = 32 ∨ 80 ≤ 67) by decide) h
                  have := pt_n8T h
                  exact n8T_tr this g
                · exact absurd h (by simp)
              · exact absurd h (by simp)
theorem pfi_n8T {q r : Nat × Nat × gU} (h : pfi q = some r) : n8T q.2.2 r.2.2 := by
  unfold pfi at h
  cases Option.some.inj h
  exact n8T_k (by decide)
theorem pS_n8T : ∀ f : Nat, nh8 (pS K f) := by
  intro f
  induction f with
  | zero => intro c i L q h; exact absurd h (by simp [pS])
  | succ f ih =>
    intro c i L q h
    rw [pS] at h
    split at h
    · exact absurd h (by simp)
    · split at h
      · obtain ⟨z, hz, h2⟩ := Option.bind_eq_some_iff.mp h
        obtain ⟨x, hx, h4⟩ := Option.bind_eq_some_iff.mp h2
        obtain ⟨y, hy, h3⟩ := Option.bind_eq_some_iff.mp hx
        exact n8T_tr (n8T_tr (n8T_tr (n8T_tr (pX_n8T hz) (n8T_k (by decide))) (pBk_n8T ih hy)) (pEl_n8T ih h3)) (pfi_n8T h4)
      · split at h
        · obtain ⟨z, hz, h2⟩ := Option.bind_eq_some_iff.mp h
          exact n8T_tr (n8T_tr (pX_n8T hz) (n8T_k (by decide))) (pBk_n8T ih h2)
        · split at h
          · split at h
            · exact n8T_tr (n8T_k (by decide)) (pBk_n8T ih h)
            · exact absurd h (by simp)
          · exact pS1_n8T h
/-- cells as told: each name's cells are alike; they are as many as the numbers say -/
def celP (K V : Nat → Int32) (L : gU) : Prop := (cel K V L).length = nbT 0 (L.filterMap (te1 K V)) ∧ ∀ T1 q T2, L.filterMap (te1 K V) = T1 ++ q :: T2 → q.2.1 = 0 → ∃ p : Int32 × Bool, ∀ i, i < max q.2.2.1 1 → (cel K V L)[nbT 0 T1 + i]? = some p
theorem celP_0 {V : Nat → Int32} : celP K V [] := ⟨rfl, fun T1 q T2 h => by
  have h : ([] : gTd) = T1 ++ q :: T2 := h
  cases T1 <;> cases h⟩
theorem nbT_0 {T : gTd} (h : ∀ q ∈ T, ¬ q.2.1 = 0) : nbT 0 T = 0 := by
  induction T with
  | nil => rfl
  | cons q T ih => rw [nbT, if_neg (h q List.mem_cons_self), ih (fun r hr => h r (List.mem_cons_of_mem _ hr))]
/-- one more entry -/
theorem app_one {T T1 T2 : gTd} {q r : Nat × Nat × Nat × Nat} (h : T ++ [r] = T1 ++ q :: T2) : (T1 = T ∧ q = r ∧ T2 = []) ∨ ∃ T3, T = T1 ++ q :: T3 ∧ T2 = T3 ++ [r] := by
  rcases List.append_eq_append_iff.mp h with ⟨a, h1, h2⟩ | ⟨a, h1, h2⟩
  · cases a with
    | nil =>
      rw [List.nil_append] at h2
      rw [List.append_nil] at h1
      cases h2
      exact Or.inl ⟨h1, rfl, rfl⟩
    | cons b a =>
      rw [List.cons_append] at h2
      have := congrArg List.length h2
      simp at this
  · cases a with
    | nil =>
      rw [List.nil_append] at h2
      rw [List.append_nil] at h1
      cases h2
      exact Or.inl ⟨h1.symm, rfl, rfl⟩
    | cons b a =>
      rw [List.cons_append] at h2
      cases h2
      exact Or.inr ⟨a, h1, rfl⟩
/-- what tells of no cell -/
theorem celP_no {V : Nat → Int32} {N : gU} (h : celP K V L) (hN : ∀ v ∈ N, ¬ (v.1 = 31 ∨ v.1 = 32 ∨ 80 ≤ v.1)) : celP K V (L ++ N) := by
  have e : cel K V (L ++ N) = cel K V L := by unfold cel; rw [ces_app, ces_no hN]
  have n0 : ∀ q ∈ N.filterMap (te1 K V), ¬ q.2.1 = 0 := fun q hq => by
    obtain ⟨v, hv, hq⟩ := List.mem_filterMap.mp hq
    have nv := hN v hv
    unfold te1 at hq
    rw [if_neg (fun z => nv (Or.inl z)), if_neg (fun z => nv (Or.inr (Or.inl z)))] at hq
    split at hq
    · cases hq; exact (by decide : ¬ (1 : Nat) = 0)
    · split at hq
      · cases hq; exact (by decide : ¬ (2 : Nat) = 0)
      · cases hq
  unfold celP
  rw [e, List.filterMap_append]
  refine ⟨by rw [nbT_app, nbT_0 n0]; exact h.1, fun T1 q T2 hT hq => ?_⟩
  rcases List.append_eq_append_iff.mp hT with ⟨a, h1, h2⟩ | ⟨a, h1, h2⟩
  · -- it lies in what is new: no cell
    have : q ∈ N.filterMap (te1 K V) := by rw [h2]; exact List.mem_append_right _ List.mem_cons_self
    exact absurd hq (n0 q this)
  · cases a with
    | nil =>
      rw [List.nil_append] at h2
      have : q ∈ N.filterMap (te1 K V) := by rw [← h2]; exact List.mem_cons_self
      exact absurd hq (n0 q this)
    | cons b a =>
      rw [List.cons_append] at h2
      cases h2
      exact h.2 T1 q a h1 hq
/-- a cell, or a row of them -/
theorem celP_one {V : Nat → Int32} {v w : Nat × Nat × Nat} {i t : Nat} (h : celP K V L) (hv : v = (31, t, 0) ∨ v = (32, t, t + 2)) (hw : w.1 = 80 ∨ w.1 = 81 ∨ w.1 = 82) : celP K V (L ++ [v] ++ [w] ++ [(83, i, t)]) := by
  obtain ⟨c, ec⟩ : ∃ c, c = ces K V L (0, 0, []) := ⟨_, rfl⟩
  obtain ⟨n, en⟩ : ∃ n : Nat, n = (if v.1 = 31 then 1 else prz K V v.2.2) := ⟨_, rfl⟩
  have n1 : 1 ≤ n ∧ (∀ q, te1 K V v = some q → q.2.1 = 0 ∧ max q.2.2.1 1 = n) := by
    have pz : 1 ≤ prz K V v.2.2 := by
      unfold prz
      split
      · next z =>
        have k1 : (1 : Int32).toInt = 1 := rfl
        have := t_le.mp z.2.1
        rw [t_cl]
        omega
      · exact Nat.le_refl _
    rcases hv with e | e
    · subst e
      rw [en]
      refine ⟨Nat.le_refl _, fun q hq => ?_⟩
      cases hq
      exact ⟨rfl, rfl⟩
    · subst e
      rw [en]
      refine ⟨pz, fun q hq => ?_⟩
      cases hq
      refine ⟨rfl, ?_⟩
      show max (prz K V (t + 2)) 1 = prz K V (t + 2)
      exact Nat.max_eq_left pz
  obtain ⟨q0, hq0⟩ : ∃ q, te1 K V v = some q := by rcases hv with e | e <;> subst e <;> exact ⟨_, rfl⟩
  obtain ⟨k0, mx⟩ := n1.2 q0 hq0
  have s1 : ceV K V c v = (n, c.2) := by rcases hv with e | e <;> subst e <;> rw [en] <;> rfl
  obtain ⟨s, s2⟩ : ∃ s, ceV K V (n, c.2) w = (n, s, c.2.2) := by
    unfold ceV
    rw [if_neg (by omega), if_neg (by omega)]
    rcases hw with e | e | e
    · rw [if_pos e]; exact ⟨_, rfl⟩
    · rw [if_neg (by omega), if_pos e]; exact ⟨_, rfl⟩
    · rw [if_neg (by omega), if_neg (by omega), if_pos e]; exact ⟨_, rfl⟩
  obtain ⟨b, s3⟩ : ∃ b : Bool, ceV K V (n, s, c.2.2) (83, i, t) = (n, s, c.2.2 ++ List.replicate n (s, b)) := ⟨_, rfl⟩
  have ce : cel K V (L ++ [v] ++ [w] ++ [(83, i, t)]) = cel K V L ++ List.replicate n (s, b) := by
    unfold cel
    rw [ces_app, ces_app, ces_app, ← ec]
    show (ceV K V (ceV K V (ceV K V c v) w) (83, i, t)).2.2 = c.2.2 ++ _
    rw [s1, s2, s3]
  have tw : te1 K V w = none := by
    unfold te1
    rw [if_neg (by omega), if_neg (by omega), if_neg (by omega), if_neg (by omega)]
  have te : (L ++ [v] ++ [w] ++ [(83, i, t)]).filterMap (te1 K V) = L.filterMap (te1 K V) ++ [q0] := by
    rw [List.filterMap_append, List.filterMap_append, List.filterMap_append]
    have a1 : [v].filterMap (te1 K V) = [q0] := by simp [hq0]
    have a2 : [w].filterMap (te1 K V) = [] := by simp [tw]
    have a3 : [((83, i, t) : Nat × Nat × Nat)].filterMap (te1 K V) = [] := rfl
    rw [a1, a2, a3, List.append_nil, List.append_nil]
  unfold celP
  rw [ce, te]
  refine ⟨?_, fun T1 q T2 hT hq => ?_⟩
  · rw [List.length_append, List.length_replicate, nbT_app, h.1, nbT, nbT, if_pos k0, mx, Nat.add_zero]
  · rcases app_one hT with ⟨e1, e2, -⟩ | ⟨T3, e1, -⟩
    · rw [e1, e2, mx, ← h.1]
      refine ⟨(s, b), fun j hj => ?_⟩
      rw [List.getElem?_append_right (by omega), Nat.add_sub_cancel_left, List.getElem?_replicate, if_pos hj]
    · obtain ⟨p, hp⟩ := h.2 T1 q T3 e1 hq
      refine ⟨p, fun j hj => ?_⟩
      have := hp j hj
      rw [List.getElem?_append_left (gt_lt this)]
      exact this
theorem pCl_cP {V : Nat → Int32} {n i t : Nat} {q : Nat × Nat × gU} (hc : celP K V L) (h : pCl K V n i t L = some q) : celP K V q.2.2 := by
  have cv : ∀ {j : Nat} {v : Nat × Nat × Nat} {m : Nat} {q : Nat × Nat × gU}, (v = (31, t, 0) ∨ v = (32, t, t + 2)) → ((pCv K (j, L ++ [v])).bind (pt K 67)).bind (fun q => some (m, q.1, q.2 ++ [(83, i, t)])) = some q → celP K V q.2.2 := fun {j v m q} hv hz => by
    obtain ⟨z, hz, h2⟩ := Option.bind_eq_some_iff.mp hz
    obtain ⟨y, hy, h3⟩ := Option.bind_eq_some_iff.mp hz
    obtain ⟨-, -, e3⟩ := pt_is h3
    cases h2
    show celP K V (z.2 ++ [(83, i, t)])
    rw [e3]
    unfold pCv at hy
    split at hy
    · split at hy
      · split at hy
        · split at hy
          · cases Option.some.inj hy
            exact celP_one hc hv (Or.inr (Or.inl rfl))
          · exact absurd hy (by simp)
        · split at hy
          · cases Option.some.inj hy
            exact celP_one hc hv (Or.inl rfl)
          · exact absurd hy (by simp)
      · exact absurd hy (by simp)
    · cases Option.some.inj hy
      exact celP_one hc hv (Or.inr (Or.inr rfl))
  unfold pCl at h
  split at h
  · split at h
    · split at h
      · exact cv (Or.inr rfl) h
      · exact absurd h (by simp)
    · exact cv (Or.inl rfl) h
  · exact absurd h (by simp)
theorem celP_n8 {V : Nat → Int32} (hc : celP K V L) (h : n8T L L') : celP K V L' := by
  obtain ⟨N, e, hN⟩ := h
  rw [e]
  exact celP_no hc hN
theorem pD_cP {V : Nat → Int32} {n : gN} {i : Nat} {q : gN × Nat × gU} (hc : celP K V L) (h : pD K V n i L = some q) : celP K V q.2.2 := by
  have blk : ∀ {m j : Nat} {v : Nat × Nat × Nat} {r : Nat × Nat × gU}, ¬ (v.1 = 31 ∨ v.1 = 32 ∨ 80 ≤ v.1) → pBk (pS K 16) K 0 0 j (L ++ [v]) = some r → celP K V r.2.2 := fun {m j v r} hv hr => celP_n8 (celP_no hc (fun w hw => by rw [List.mem_singleton.mp hw]; exact hv)) (pBk_n8T (pS_n8T 16) hr)
  unfold pD at h
  split at h
  · split at h
    · obtain ⟨z, hz, h2⟩ := Option.bind_eq_some_iff.mp h
      cases h2
      exact pCl_cP hc hz
    · exact absurd h (by simp)
  · split at h
    · obtain ⟨z, hz, h2⟩ := Option.bind_eq_some_iff.mp h
      cases h2
      exact pCl_cP hc hz
    · split at h
      · split at h
        · cases Option.some.inj h
          exact celP_no hc (fun w hw => by rw [List.mem_singleton.mp hw]; show ¬ (33 = 31 ∨ 33 = 32 ∨ 80 ≤ 33); decide)
        · exact absurd h (by simp)
      · split at h
        · split at h
          · obtain ⟨z, hz, h2⟩ := Option.bind_eq_some_iff.mp h
            cases h2
            exact blk (m := 0) (show ¬ (34 = 31 ∨ 34 = 32 ∨ 80 ≤ 34) by decide) hz
          · exact absurd h (by simp)
        · split at h
          · split at h
            · obtain ⟨z, hz, h2⟩ := Option.bind_eq_some_iff.mp h
              cases h2
              exact blk (m := 0) (show ¬ (34 = 31 ∨ 34 = 32 ∨ 80 ≤ 34) by decide) hz
            · exact absurd h (by simp)
          · split at h
            · split at h
              · obtain ⟨z, hz, h2⟩ := Option.bind_eq_some_iff.mp h
                obtain ⟨y, hy, h3⟩ := Option.bind_eq_some_iff.mp hz
                cases h2
                exact celP_n8 (celP_n8 (celP_no hc (fun w hw => by rw [List.mem_singleton.mp hw]; show ¬ (35 = 31 ∨ 35 = 32 ∨ 80 ≤ 35); decide)) (pX_n8T hy)) (pt_n8T h3)
              · exact absurd h (by simp)
            · split at h
              · split at h
                · obtain ⟨z, hz, h2⟩ := Option.bind_eq_some_iff.mp h
                  obtain ⟨y, hy, h3⟩ := Option.bind_eq_some_iff.mp hz
                  cases h2
                  exact celP_n8 (celP_n8 (celP_no hc (fun w hw => by rw [List.mem_singleton.mp hw]; show ¬ (36 = 31 ∨ 36 = 32 ∨ 80 ≤ 36); decide)) (pX_n8T hy)) (pt_n8T h3)
                · exact absurd h (by simp)
              · exact absurd h (by simp)
theorem pAl_cP {V : Nat → Int32} : ∀ (m : Nat) (n : gN) (i : Nat) (L : gU) (q : gN × Nat × gU), celP K V L → pAl K V m n i L = some q → celP K V q.2.2 := by
  intro m
  induction m with
  | zero => intro n i L q _ h; exact absurd h (by simp [pAl])
  | succ m ih =>
    intro n i L q hc h
    rw [pAl] at h
    split at h
    · cases Option.some.inj h; exact hc
    · obtain ⟨z, hz, h2⟩ := Option.bind_eq_some_iff.mp h
      exact ih _ _ _ _ (pD_cP hc hz) h2
/-- the first of a name -/
theorem nm_first {sN : Nat → Nat → Bool} {t : Nat} : ∀ {T : gTd} {q : Nat × Nat × Nat × Nat}, mtP sN T 0 t = some q → ∃ T1 T2, T = T1 ++ q :: T2 ∧ q.2.1 = 0 ∧ nmT sN 0 t T = nbT 0 T1 := by
  intro T
  induction T with
  | nil => intro q h; cases h
  | cons r T ih =>
    intro q h
    unfold mtP at h
    rw [List.find?_cons] at h
    cases hr : (decide (r.2.1 = 0) && sN r.1 t) with
    | true =>
      rw [hr] at h
      cases h
      rw [Bool.and_eq_true, decide_eq_true_eq] at hr
      refine ⟨[], T, rfl, hr.1, ?_⟩
      rw [nmT, if_pos (by rw [Bool.and_eq_true, decide_eq_true_eq]; exact hr)]
      rfl
    | false =>
      rw [hr] at h
      obtain ⟨T1, T2, e1, e2, e3⟩ := ih (q := q) h
      refine ⟨r :: T1, T2, by rw [e1]; rfl, e2, ?_⟩
      rw [nmT, if_neg (by rw [hr]; decide), nbT, e3]
end NT8
section NX3S
variable {sN : Nat → Nat → Bool} {V K : Nat → Int32} {L : gU} {P : Nat × Nat × Nat → Prop}
theorem NX3_of (hc : celP K V L) (l24 : (cel K V L).length ≤ 24) (h : WC sN K P (cds sN K L cd0)) : NX3 (codN sN V K L) := by
  obtain ⟨E, S, r, b, l, ec, -, -, w1, w2, w3⟩ := h
  have e1 : (cds sN K L cd0).2.1 = S := by rw [ec]
  intro j st hj o4 hix i hi
  have cs : (codN sN V K L).2.2.1 = cel K V L := rfl
  unfold codN at hj
  rw [e1] at hj
  obtain ⟨T, eT⟩ : ∃ T, T = L.filterMap (te1 K V) := ⟨_, rfl⟩
  have hj : (S.map (nStp sN (L.filterMap (te1 K V)) V K))[j]? = some st := hj
  rw [← eT] at hj
  rw [List.getElem?_map] at hj
  obtain ⟨s0, g0, e⟩ := Option.map_eq_some_iff.mp hj
  subst e
  obtain ⟨-, E0, ⟨q1, q2, q3, q4, q5, q5', q6, -⟩, -⟩ := w1 j s0 g0
  have o4 : s0.1 ≤ 4 := o4
  obtain ⟨tk, h5, -⟩ := q4 (by omega)
  have fl : s0.2.2.2.2.2.1 = true := (q6 o4).mpr (fun z => hix (by show s0.2.2.2.2.2.2.1.map _ = none; rw [z]; rfl))
  have eo : mOf sN T V s0 = Int32.ofNat (nmT sN 0 tk T) := by unfold mOf; rw [h5]; exact if_pos o4
  have es : mSz sN T s0 = Int32.ofNat (rsT sN T tk) := by unfold mSz; rw [if_pos fl, if_pos o4, h5]; rfl
  have hi : (i : Int) < (mSz sN T s0).toInt := hi
  rw [es] at hi
  show suM _ ((mOf sN T V s0).toNatClampNeg + i) = suM _ (mOf sN T V s0).toNatClampNeg
  rw [eo]
  unfold rsT at hi
  cases hm : mtP sN T 0 tk with
  | none =>
    simp only [hm] at hi
    have k0 : (Int32.ofNat 0).toInt = 0 := rfl
    rw [k0] at hi
    omega
  | some q =>
    simp only [hm] at hi
    obtain ⟨T1, T2, a1, a2, a3⟩ := nm_first hm
    obtain ⟨p, hp⟩ := hc.2 T1 q T2 (by rw [← eT]; exact a1) a2
    have p0 := hp 0 (by omega)
    have l0 := gt_lt p0
    have tot : nbT 0 T1 + max q.2.2.1 1 ≤ (cel K V L).length := by
      have := gt_lt (hp (max q.2.2.1 1 - 1) (by omega))
      omega
    have iq : i < q.2.2.1 := by
      have : (Int32.ofNat q.2.2.1).toInt = (q.2.2.1 : Nat) := Int32.toInt_ofNat_of_lt (by omega)
      rw [this] at hi
      omega
    have en : (Int32.ofNat (nmT sN 0 tk T)).toNatClampNeg = nbT 0 T1 := by
      rw [a3, t_cl, Int32.toInt_ofNat_of_lt (by omega)]; rfl
    rw [en]
    have pi := hp i (by omega)
    rw [Nat.add_zero] at p0
    unfold suM
    rw [cs, pi, p0]
end NX3S
end
