/-! the class: all that a program can do -/
theorem t_and8 (a : Int32) : 0 ≤ (a &&& 8191).toInt ∧ (a &&& 8191).toInt < 8192 := by
  have h : (a &&& 8191).toBitVec.toNat ≤ 8191 := by
    rw [Int32.toBitVec_and, BitVec.toNat_and]
    exact Nat.and_le_right
  have e : (a &&& 8191).toInt = ((a &&& 8191).toBitVec.toNat : Int) := by
    show (a &&& 8191).toBitVec.toInt = _
    exact BitVec.toInt_eq_toNat_of_lt (by omega)
  omega
/-- the code is alike -/
def agC (x y : gd) : Prop := ∀ c k, (60 ≤ c ∧ c < 90 ∧ ¬ (c = 60 ∧ k = 5) ∧ c ≠ 65) → y.1 c k = x.1 c k
def agM (o : Nat) (x y : gd) : Prop := ∀ k, 3 ≤ k → k ≤ 9 → y.1 o k = x.1 o k
section KEX
variable {G : kG} {q : kP} {d : Nat} {x x0 y z : gd} {o : Nat} {F : Int32 → gd → Prop} {Fv : gd → Prop}
theorem MG_ag (hc : agC x y) (hm : agM o x y) (h : MG x o) : MG y o := by
  unfold MG at h ⊢
  rw [hm 3 (by omega) (by omega), hm 5 (by omega) (by omega), hm 6 (by omega) (by omega), hm 7 (by omega) (by omega), hm 8 (by omega) (by omega), hm 9 (by omega) (by omega), hc 60 6 (by omega), hc 60 9 (by omega), hc 60 13 (by omega), hc 60 10 (by omega)]
  exact h
theorem pa_lt (hG : MG x o) {t k : Nat} (ht : (t : Int) < (x.1 60 10).toInt) (hk : (k : Int) < (x.1 o 8).toInt) (h7 : 0 ≤ (x.1 o 7).toInt) : (pa x o t k : Int) < (x.1 o 5).toInt := by
  obtain ⟨-, -, -, -, -, h5⟩ := hG
  unfold pa
  rw [h5]
  obtain ⟨S, hS⟩ : ∃ S : Nat, (x.1 o 8).toInt = S := ⟨(x.1 o 8).toInt.toNat, by omega⟩
  obtain ⟨N, hN⟩ : ∃ N : Nat, (x.1 60 10).toInt = N := ⟨(x.1 60 10).toInt.toNat, by omega⟩
  rw [hS] at hk ⊢
  rw [hN] at ht ⊢
  have h1 : (t + 1) * S ≤ N * S := Nat.mul_le_mul_right S (by omega)
  rw [Nat.succ_mul] at h1
  have h2 : ((S : Int) * N) = ((N * S : Nat) : Int) := by push_cast; exact Int.mul_comm _ _
  rw [h2]
  have h3 : (S : Int).toNat = S := by omega
  rw [h3]
  obtain ⟨P, hP⟩ : ∃ P, P = t * S := ⟨_, rfl⟩
  obtain ⟨Q, hQ⟩ : ∃ Q, Q = N * S := ⟨_, rfl⟩
  rw [← hP] at h1 ⊢
  rw [← hQ] at h1 ⊢
  omega
theorem rg_ag (hC : CO x) (hc : agC x y) (hm : agM o x y) (hr : ∀ k : Nat, (k : Int) < (x.1 o 5).toInt → y.1 (o + 5) k = x.1 (o + 5) k) (hG : MG x o) {t k : Nat} (ht : (t : Int) < (x.1 60 10).toInt) (hk : (k : Int) < (x.1 o 8).toInt) : rg y o t k = rg x o t k := by
  have hp : pa y o t k = pa x o t k := by unfold pa; rw [hm 7 (by omega) (by omega), hm 8 (by omega) (by omega)]
  have b := MG_b hC hG
  unfold rg
  rw [hp, hr _ (pa_lt hG ht hk (by omega))]
/-- a machine looks at code, places, row -/
theorem MM_ag (hc : agC x y) (hm : agM o x y) (hr : ∀ k : Nat, (k : Int) < (x.1 o 5).toInt → y.1 (o + 5) k = x.1 (o + 5) k) (h : MM x o) : MM y o := by
  obtain ⟨hC, hG, hT⟩ := h
  have b := MG_b hC hG
  have b1 := b.2.1
  have b2 := b.2.2.2.2.1
  refine ⟨CO_fm hC hc, MG_ag hc hm hG, fun t ht => ?_⟩
  rw [hc 60 10 (by omega)] at ht
  have e : ∀ k : Nat, (k : Int) < (x.1 o 8).toInt → rg y o t k = rg x o t k := fun k hk => rg_ag hC hc hm hr hG ht hk
  obtain ⟨a, g⟩ := hT t ht
  constructor
  · unfold TA ssm at a ⊢
    rw [e 2 (by omega), e 7 (by omega), e 0 (by omega), e 3 (by omega), hc 80 9 (by omega), hm 3 (by omega) (by omega), hm 9 (by omega) (by omega), hc 60 6 (by omega)]
    refine ⟨a.1, a.2.1, a.2.2.1, fun j hj => ?_, a.2.2.2.2⟩
    by_cases hw : x.1 o 3 = 1
    · have := b2 hw
      rw [e _ (by omega)]; exact a.2.2.2.1 j hj
    · rw [a.2.2.1 hw] at hj
      have : (0 : Int32).toInt = 0 := rfl
      omega
  · unfold TGo sop at g ⊢
    rw [e 0 (by omega), e 2 (by omega), e 3 (by omega), hc 81 _ (by omega)]
    exact g
theorem LSk_ag (hM : MM x o) (hc : agC x y) (hm : agM o x y) (hr : ∀ k : Nat, (k : Int) < (x.1 o 5).toInt → y.1 (o + 5) k = x.1 (o + 5) k) (h13 : y.1 o 13 = x.1 o 13) (h1 : ∀ k, y.1 (o + 11) k = x.1 (o + 11) k) (h2 : ∀ k, y.1 (o + 12) k = x.1 (o + 12) k) (h : LSk x o) : LSk y o := by
  have b := (MG_b hM.1 hM.2.1).2.1
  unfold LSk at h ⊢
  rw [h13, hc 60 10 (by omega)]
  refine ⟨h.1, fun i hi => ?_⟩
  obtain ⟨T, a1, a2, a3⟩ := h.2 i hi
  refine ⟨T, by rw [h1]; exact a1, a2, ?_⟩
  have e : ∀ k : Nat, (k : Int) < (x.1 o 8).toInt → rg y o T k = rg x o T k := fun k hk => rg_ag hM.1 hc hm hr hM.2.1 a2 hk
  rw [h2, e 0 (by omega), e 7 (by omega)]; exact a3
/-- a row that was kept is a machine's -/
def KR (x : gd) (s : Nat) : Prop := MM (scp x (1000 + s) 225 0 0 (x.1 220 5).toNatClampNeg) 220
theorem KR_ag {s : Nat} (hc : agC x y) (hm : agM 220 x y) (hr : ∀ k : Nat, k < (x.1 220 5).toNatClampNeg → y.1 (1000 + s) k = x.1 (1000 + s) k) (h : KR x s) : KR y s := by
  unfold KR at h ⊢
  rw [hm 5 (by omega) (by omega)]
  refine MM_ag ?_ ?_ ?_ h
  · intro c k hk
    rw [scp_get, if_neg (by omega), scp_get, if_neg (by omega)]; exact hc c k hk
  · intro k h1 h2
    rw [scp_get, if_neg (by omega), scp_get, if_neg (by omega)]; exact hm k h1 h2
  · intro k hk
    have h5 : (scp x (1000 + s) 225 0 0 (x.1 220 5).toNatClampNeg).1 220 5 = x.1 220 5 := by rw [scp_get, if_neg (by omega)]
    rw [h5] at hk
    have hk2 : k < (x.1 220 5).toNatClampNeg := by rw [t_cl]; omega
    rw [scp_get, if_pos ⟨rfl, by omega, by omega⟩, scp_get, if_pos ⟨rfl, by omega, by omega⟩]
    exact hr _ (by omega)
theorem ke_r {k : Nat} (h : k < q.kn) : (kf q).1 203 k = some (1000 + k) := by
  show kR q 203 k = _
  unfold kR
  rw [if_neg (by omega), if_neg (by omega), if_neg (by omega), if_neg (by omega), if_pos rfl, if_pos h]
theorem ke_k {k : Nat} (h : k < 3000) : kK (1000 + k) = .inr (.int, 228) := by
  unfold kK; rw [if_neg (by omega), if_neg (by omega), if_pos (by omega)]
theorem ke_m (hq : kV q) {k : Nat} (h : k < q.kn) : 1000 + k ∈ (kf q).2.1 := hq.2.2.2.2.2.1 k h
theorem sz_b (hC : CO x) (hG : MG x o) : 0 ≤ (x.1 o 5).toInt ∧ (x.1 o 5).toInt ≤ 228 := by
  have b := MG_b hC hG
  obtain ⟨g1, g2, g3, g4, g5, g6⟩ := hG
  obtain ⟨⟨h1, h2, h3, h4, -⟩, -⟩ := hC
  rw [g6]
  obtain ⟨N, hN⟩ : ∃ N : Nat, (x.1 60 10).toInt = N := ⟨(x.1 60 10).toInt.toNat, by omega⟩
  rw [hN] at h3 ⊢
  have : N = 0 ∨ N = 1 ∨ N = 2 ∨ N = 3 ∨ N = 4 ∨ N = 5 ∨ N = 6 := by omega
  rcases this with e | e | e | e | e | e | e <;> subst e <;> omega
theorem kx_recall (hq : kV q) (he : q.ex = true) (hC : CO x) (hG : MG x 220) (s : Int32) {S : Nat} (es : s.toInt = S) (hs : S < q.kn) (h3 : S < 3000) (hk : KR x S) (h : ∀ y, y = scp x (1000 + S) 225 0 0 (x.1 220 5).toNatClampNeg → MM y 220 → fm (fun c k => c = 225) x y → Fv y) : KT G q (d + 2) zk_X2_recall 0 [(0, vr 200), (1, vi s)] [] x (rv Fv) := by
  have k0 : (0 : Int32).toInt = 0 := rfl
  have b := sz_b hC hG
  refine kg_X2_recall_0 hq he _ ⟨by rw [vp_in_iff]; omega, fun u e => ?_⟩
  rw [t_cl, es, show ((S : Nat) : Int).toNat = S by omega, ke_r hs] at e
  refine ⟨_, e, ke_k h3, ke_m hq hs, by decide, by decide, by rw [t_lt, k0]; omega, by rw [tn0, t_cl]; omega, by rw [tn0, t_cl]; omega, fun z ez => rv_i (h z ez ?_ ?_)⟩
  · rw [ez]; exact hk
  · intro c k hc
    rw [ez, scp_get, if_neg (by omega)]
def sKp (c k : Nat) : Prop := c = 200 ∧ (k = 5 ∨ k = 6)
theorem kx_isKept (hq : kV q) (he : q.ex = true) (hM : MM x 220) (hn : q.kn ≤ 3000) (hT : ∀ j : Nat, j < 8192 → 0 ≤ (x.1 205 j).toInt ∧ (x.1 205 j).toInt ≤ q.kn) (h : ∀ r y, gbool r → fm sKp x y → (0 ≤ (y.1 200 5).toInt ∧ (y.1 200 5).toInt < 8192) → F r y) : KT G q (d + 3) zk_X2_isKept 0 [(0, vr 200)] [] x (ri F) := by
  have kM : (8192 : Int32).toInt = 8192 := rfl
  have k1 : (1 : Int32).toInt = 1 := rfl
  have k0 : (0 : Int32).toInt = 0 := rfl
  have mm : ∀ y, fm sKp x y → MM y 220 := fun y f => MM_ag (fun c k hc => f c k (by unfold sKp; omega)) (fun k h1 h2 => f _ _ (by unfold sKp; omega)) (fun k hk => f _ _ (by unfold sKp; omega)) hM
  have loop : ∀ (n k : Nat) (i : Int32) (y : gd), i.toInt = k → (8192 : Int) - k ≤ n → fm sKp x y → (0 ≤ (y.1 200 5).toInt ∧ (y.1 200 5).toInt < 8192) → KT G q (d + 3) zk_X2_isKept 25 [(0, vr 200), (1, vi i)] [] y (ri F) := by
    intro n
    induction n with
    | zero =>
      intro k i y ei hn fy hy
      refine kg_X2_isKept_25 hq he _ ⟨fun _ => ri_i (h _ _ gbool_0 fy hy), fun c => ?_⟩
      rw [t_le, kM] at c; omega
    | succ n ih =>
      intro k i y ei hn2 fy hy
      refine kg_X2_isKept_25 hq he _ ⟨fun _ => ri_i (h _ _ gbool_0 fy hy), fun c => ?_⟩
      rw [t_le, kM] at c
      have e1 : (i + 1).toInt = ((k + 1 : Nat) : Int) := by rw [t_add (by show _ ≤ _ + (1 : Int); omega) (by show _ + (1 : Int) ≤ _; omega), ei]; rfl
      have v8 : vp_in (y.1 200 5) 8192 := by rw [vp_in_iff]; omega
      refine ⟨v8, fun _ => ri_i (h _ _ gbool_0 fy hy), fun c2 => ⟨v8, ?_⟩⟩
      obtain ⟨J, hJ⟩ : ∃ J : Nat, J = (y.1 200 5).toNatClampNeg := ⟨_, rfl⟩
      rw [← hJ] at c2 ⊢
      have hJ8 : J < 8192 := by rw [hJ, t_cl]; omega
      have tj := hT J hJ8
      rw [fy 205 J (by unfold sKp; omega)] at c2 ⊢
      rw [t_eq, k0] at c2
      obtain ⟨s, hs⟩ : ∃ s : Int32, s = x.1 205 J - 1 := ⟨_, rfl⟩
      have es : s.toInt = (x.1 205 J).toInt - 1 := by rw [hs, t_sub (by rw [k1]; omega) (by rw [k1]; omega), k1]
      rw [← hs]
      clear hs
      have vs : vp_in s 3000 := by rw [vp_in_iff]; omega
      have go : ∀ z w, fm sKp x z → w = si z 200 5 ((z.1 200 5 + 1) &&& 8191) → KT G q (d + 3) zk_X2_isKept 25 [(0, vr 200), (1, vi (i + 1))] [] w (ri F) := by
        intro z w fz ew
        refine ih (k + 1) _ w e1 (by push_cast; omega) (by rw [ew]; exact fm_si fz (by unfold sKp; omega)) ?_
        have : w.1 200 5 = (z.1 200 5 + 1) &&& 8191 := by rw [ew, si_get, if_pos ⟨rfl, rfl⟩]
        rw [this]; exact t_and8 _
      refine ⟨vs, fun _ z ez => go y z fy ez, fun _ => ⟨vs, fun u eu => ?_⟩⟩
      have eS : s.toNatClampNeg = s.toInt.toNat := rfl
      have hsk : s.toInt.toNat < q.kn := by omega
      rw [eS, ke_r hsk] at eu
      exact ⟨_, eu, ke_k (by omega), ke_m hq hsk, km_isSame hq (Or.inr ⟨rfl, he⟩) (mm y fy) (ke_k (by omega)) (ke_m hq hsk) (fun r hr => ⟨fun _ z ez => go y z fy ez, fun _ => ri_i (h _ _ gbool_1 fy hy)⟩)⟩
  refine kg_X2_isKept_0 hq he (km_mix hq (Or.inr ⟨rfl, he⟩) hM (fun r x3 e3 x4 e4 => ?_))
  refine loop 8192 0 _ x4 rfl (by omega) (by rw [e4, e3]; exact fm_si (fm_si (fm_rf _ _) (by unfold sKp; omega)) (by unfold sKp; omega)) ?_
  have : x4.1 200 5 = (x3.1 200 6) &&& 8191 := by rw [e4, si_get, if_pos ⟨rfl, rfl⟩]
  rw [this]; exact t_and8 _
theorem kx_isFalse (hq : kV q) (he : q.ex = true) (hC : CO x) (s : Int32) (h : ∀ r y, gbool r → fm sWk x y → F r y) : KT G q (d + 2) zk_X2_isFalse 0 [(0, vr 200), (1, vi s)] [] x (ri F) :=
  kg_X2_isFalse_0 hq he _ (kp_work hq hC kk_225 (kl_225 hq he) _ _ _ (by decide) (by decide) (fun r y fy => ⟨fun _ => ri_i (h _ _ gbool_1 fy), fun _ => ⟨fun _ => ri_i (h _ _ gbool_0 fy), fun _ => ri_i (h _ _ gbool_1 fy)⟩⟩))
theorem kx_isRacing (hq : kV q) (he : q.ex = true) (hC : CO x) (h : ∀ r : Int32, F r x) : KT G q (d + 1) zk_X2_isRacing 0 [(0, vr 200)] [] x (ri F) := by
  have t6 := hC.1.2.2.1
  have outer : ∀ (m j : Nat) (t : Int32), t.toInt = j → (x.1 60 10).toInt - j ≤ m → KT G q (d + 1) zk_X2_isRacing 2 [(0, vr 200), (1, vi t)] [] x (ri F) := by
    intro m
    induction m with
    | zero =>
      intro j t ej hm
      refine kg_X2_isRacing_2 hq he _ ⟨fun _ => ri_i (h _), fun c => ?_⟩
      rw [t_le] at c; omega
    | succ m ih =>
      intro j t ej hm
      refine kg_X2_isRacing_2 hq he _ ⟨fun _ => ri_i (h _), fun c => ?_⟩
      rw [t_le] at c
      have e1 : (t + 1).toInt = ((j + 1 : Nat) : Int) := by rw [t_add (by show _ ≤ _ + (1 : Int); omega) (by show _ + (1 : Int) ≤ _; omega), ej]; rfl
      have vt : vp_in t 6 := by rw [vp_in_iff]; omega
      have loop : ∀ (n k : Nat) (u : Int32), u.toInt = k → (j : Int) - k ≤ n → KT G q (d + 1) zk_X2_isRacing 15 [(0, vr 200), (1, vi t), (2, vi u)] [] x (ri F) := by
        intro n
        induction n with
        | zero =>
          intro k u eu hn
          refine kg_X2_isRacing_15 hq he _ _ ⟨fun _ => ih (j + 1) _ e1 (by push_cast; omega), fun c => ?_⟩
          rw [t_le] at c; omega
        | succ n ihn =>
          intro k u eu hn
          refine kg_X2_isRacing_15 hq he _ _ ⟨fun _ => ih (j + 1) _ e1 (by push_cast; omega), fun c => ?_⟩
          rw [t_le] at c
          have eu1 : (u + 1).toInt = ((k + 1 : Nat) : Int) := by rw [t_add (by show _ ≤ _ + (1 : Int); omega) (by show _ + (1 : Int) ≤ _; omega), eu]; rfl
          have vu : vp_in u 6 := by rw [vp_in_iff]; omega
          have go : KT G q (d + 1) zk_X2_isRacing 15 [(0, vr 200), (1, vi t), (2, vi (u + 1))] [] x (ri F) := ihn (k + 1) _ eu1 (by push_cast; omega)
          exact ⟨vt, fun _ => go, fun _ => ⟨vt, vu, fun _ => go, fun _ => ⟨vt, vu, kj_sortsRace hq _ _ (fun r hr => ⟨fun _ => go, fun _ => ri_i (h _)⟩)⟩⟩⟩
      exact loop 6 0 _ rfl (by omega)
  exact kg_X2_isRacing_0 hq he (outer 6 0 _ rfl (by omega))
/-- what looking at the acts changes -/
def sIn (o c k : Nat) : Prop := c = 209 ∨ c = 210 ∨ (c = o ∧ k = 4) ∨ c = o + 8 ∨ c = o + 9 ∨ (c = 220 ∧ k = 14) ∨ (c = 60 ∧ k = 5) ∨ c = 65
theorem iT_O (ho : kiT q o) : o = 260 ∨ o = 280 := by
  rcases ho with ⟨e, -⟩ | ⟨e, -⟩
  · exact Or.inl e
  · exact Or.inr e
theorem sIn_MM (ho : kiT q o) (f : fm (sIn o) x y) (h : MM x 220) : MM y 220 := by
  have hO := iT_O ho
  exact MM_ag (fun c k hc => f c k (by unfold sIn; omega)) (fun k h1 h2 => f _ _ (by unfold sIn; omega)) (fun k hk => f _ _ (by unfold sIn; omega)) h
theorem et_r (h : q.et = some o) : (kf q).1 200 7 = some o := by
  show kR q 200 7 = _
  unfold kR
  rw [if_neg (by omega), if_neg (by omega), if_neg (by omega), if_pos ⟨rfl, rfl⟩, h]
theorem kx_inspectAct (hq : kV q) (he : q.ex = true) (ho : kiT q o) (ht : q.et = some o) (hM : MM x 220) (t : Int32) {T : Nat} (et : t.toInt = T) (hT : (T : Int) < (x.1 60 10).toInt) (h : ∀ y, fm (sIn o) x y → Fv y) : KT G q (d + 4) zk_X2_inspectAct 0 [(0, vr 200), (1, vi t)] [] x (rv Fv) := by
  have hO := iT_O ho
  have hm : kiM q 220 := Or.inr ⟨rfl, he⟩
  have t6 := hM.1.1.2.2.1
  have c24 := hM.1.1.1
  have v6 : vp_in t 6 := by rw [vp_in_iff]; omega
  have p39 : ∀ (s ob : Int32) (y : gd), fm (sIn o) x y → (s.toInt ≤ 4 → sop x (rg x 220 T 2).toInt.toNat ≤ 4 ∧ (ob = -1 ∨ (0 ≤ ob.toInt ∧ ob.toInt < 24))) → KT G q (d + 4) zk_X2_inspectAct 39 [(0, vr 200), (1, vi t), (2, vi s), (3, vi ob)] [] y (rv Fv) := by
    intro s ob y fy hs
    have k4 : (4 : Int32).toInt = 4 := rfl
    have hMy := sIn_MM ho fy hM
    refine kg_X2_inspectAct_39 hq he _ _ _ ⟨fun _ => rv_i (h y fy), fun c => ⟨fun c2 => fun u eu => ?_, fun _ => rv_i (h y fy)⟩⟩
    rw [t_lt, k4] at c
    rw [et_r ht] at eu
    obtain ⟨hs1, hs2⟩ := hs (by omega)
    have hob : 0 ≤ ob.toInt ∧ ob.toInt < 24 := by
      rcases hs2 with e | e
      · exact absurd e c2
      · exact e
    have vo : vp_in ob 24 := by rw [vp_in_iff]; omega
    refine ⟨o, eu, ho, vo, kp_heldBy hq hm hMy.1 hMy.2.1 _ (fun r => ⟨vo, fun x10 e10 => ⟨vo, ?_⟩⟩)⟩
    have f10 : fm (sIn o) x x10 := by rw [e10]; exact fm_si fy (by unfold sIn; omega)
    refine ⟨fun _ => rv_i (h _ f10), fun _ => ?_⟩
    have hM10 := sIn_MM ho f10 hM
    have e2 : rg x10 220 T 2 = rg x 220 T 2 := by
      unfold rg pa
      rw [f10 220 7 (by unfold sIn; omega), f10 220 8 (by unfold sIn; omega), f10 225 _ (by unfold sIn; omega)]
    refine km_accessFails hq hm hM10 _ et (by rw [f10 60 10 (by unfold sIn; omega)]; exact hT) ?_ (fun r14 w fw => ?_)
    · rw [e2]; unfold sop; rw [f10 81 _ (by unfold sIn; omega)]; exact hs1
    · have fw2 : fm (sIn o) x w := fm_tr f10 (fm_w fw (fun c k q => by unfold sLk at q; unfold sIn; omega))
      refine ⟨fun _ => rv_i (h _ fw2), fun _ => ⟨v6, fun x17 e17 => ⟨v6, fun x19 e19 => rv_i (h _ ?_)⟩⟩⟩
      rw [e19, e17]; exact fm_si (fm_si fw2 (by unfold sIn; omega)) (by unfold sIn; omega)
  have after : ∀ s : Int32, (s.toInt ≤ 4 → rg x 220 T 3 = 0 ∧ sop x (rg x 220 T 2).toInt.toNat ≤ 4) → KT G q (d + 3) zk_X5_objectOf 0 [(0, vr 220), (1, vi t)] [] x (ri (fun r4 x3 => ((¬ (s = (5 : Int32)) → KT G q (d + 4) zk_X2_inspectAct 39 [(0, vr 200), (1, vi t), (2, vi s), (3, vi r4)] [] x3 (rv Fv)) ∧ (s = (5 : Int32) → (∀ u6, u6 = (kf q).1 200 7 → gokv (kf q).2.1 (vo u6) = true ∧ KT G q (d + 3) zk_X5_heldBy 0 [(0, vr 220), (1, vi t)] [] x3 (ri (fun r9 x8 => ∃ c10, u6 = some c10 ∧ kiT q c10 ∧ KT G q (d + 3) zk_X10_addTake 0 [(0, vr c10), (1, vi r9), (2, vi r4)] [] x8 (rv (fun x12 => KT G q (d + 4) zk_X2_inspectAct 39 [(0, vr 200), (1, vi t), (2, vi s), (3, vi r4)] [] x12 (rv Fv)))))))))) := by
    intro s hs
    refine km_objectOf hq hm hM _ et hT (fun ob w fw hob => ?_)
    have fw2 : fm (sIn o) x w := fm_w fw (fun c k q => by unfold sLk at q; unfold sIn; omega)
    have hso : s.toInt ≤ 4 → sop x (rg x 220 T 2).toInt.toNat ≤ 4 ∧ (ob = -1 ∨ (0 ≤ ob.toInt ∧ ob.toInt < 24)) := fun h4 => by
      obtain ⟨a1, a2⟩ := hs h4
      refine ⟨a2, ?_⟩
      rcases hob a1 a2 with e | e
      · exact Or.inl e
      · exact Or.inr (by omega)
    refine ⟨fun _ => p39 _ _ _ fw2 hso, fun _ u eu => ?_⟩
    rw [et_r ht] at eu
    have hMw := sIn_MM ho fw2 hM
    refine ⟨?_, kp_heldBy hq hm hMw.1 hMw.2.1 _ (fun r9 => ⟨o, eu, ho, kt_addTake hq ho _ _ (fun v fv => p39 _ _ v (fm_tr fw2 (fm_w fv (fun c k q => by unfold sIn; omega))) hso)⟩)⟩
    rw [eu]; exact gkr (kl_T0 hq ho)
  obtain ⟨hA, -⟩ := hM.2.2 T hT
  refine kg_X2_inspectAct_0 hq he _ (kp_sortOf hq hm hM.1 hM.2.1 _ et (by omega) hA (fun h0 => after _ (fun h4 => ⟨h0, ?_⟩)) (fun _ => after _ (fun h4 => ?_)))
  · exact h4
  · exact absurd h4 (by decide)
theorem kx_inspectActs (hq : kV q) (he : q.ex = true) (ho : kiT q o) (ht : q.et = some o) (hM : MM x 220) (hL : LSk x 220) (h : ∀ y, fm (sIn o) x y → Fv y) : KT G q (d + 5) zk_X2_inspectActs 0 [(0, vr 200)] [] x (rv Fv) := by
  have hO := iT_O ho
  have hm : kiM q 220 := Or.inr ⟨rfl, he⟩
  have t6 := hM.1.1.2.2.1
  have l84 := hL.1
  have loop2 : ∀ (n k : Nat) (i l1 l2 : Int32) (y : gd), i.toInt = k → (x.1 60 10).toInt - k ≤ n → fm (sIn o) x y → KT G q (d + 5) zk_X2_inspectActs 52 [(0, vr 200), (1, vi l1), (2, vi l2), (3, vi i)] [] y (rv Fv) := by
    intro n
    have out : ∀ (l2 : Int32) (y : gd), fm (sIn o) x y → ((l2 = (0 : Int32) → rv Fv none y) ∧ (¬ (l2 = (0 : Int32)) → (∀ u3, u3 = (kf q).1 200 7 → ∃ c4, u3 = some c4 ∧ kiT q c4 ∧ (∀ x6, x6 = si y c4 4 ((y.1 c4 4) + 1) → rv Fv none x6)))) := by
      intro l2 y fy
      refine ⟨fun _ => rv_i (h y fy), fun _ u eu => ?_⟩
      rw [et_r ht] at eu
      exact ⟨o, eu, ho, fun z ez => rv_i (h z (by rw [ez]; exact fm_si fy (by unfold sIn; omega)))⟩
    induction n with
    | zero =>
      intro k i l1 l2 y ei hn fy
      refine kg_X2_inspectActs_52 hq he _ _ _ ⟨fun _ => out l2 y fy, fun c => ?_⟩
      rw [t_le, fy 60 10 (by unfold sIn; omega)] at c; omega
    | succ n ih =>
      intro k i l1 l2 y ei hn fy
      refine kg_X2_inspectActs_52 hq he _ _ _ ⟨fun _ => out l2 y fy, fun c => ?_⟩
      rw [t_le, fy 60 10 (by unfold sIn; omega)] at c
      have e1 : (i + 1).toInt = ((k + 1 : Nat) : Int) := by rw [t_add (by show _ ≤ _ + (1 : Int); omega) (by show _ + (1 : Int) ≤ _; omega), ei]; rfl
      refine ⟨by rw [vp_in_iff]; omega, fun z ez => ?_⟩
      have fz : fm (sIn o) x z := by rw [ez]; exact fm_si fy (by unfold sIn; omega)
      have hMz := sIn_MM ho fz hM
      have go : ∀ l2 w, fm (sIn o) x w → KT G q (d + 5) zk_X2_inspectActs 52 [(0, vr 200), (1, vi l1), (2, vi l2), (3, vi (i + 1))] [] w (rv Fv) := fun l2 w fw => ih (k + 1) _ _ _ w e1 (by push_cast; omega) fw
      exact ⟨fun _ => kp_isGoing hq hm hMz.1 hMz.2.1 _ ei (by omega) (fun _ => ⟨fun _ => go _ _ fz, fun _ => go _ _ fz⟩) (fun _ => ⟨fun _ => go _ _ fz, fun _ => go _ _ fz⟩), fun _ => kx_inspectAct hq he ho ht hMz _ ei (by rw [fz 60 10 (by unfold sIn; omega)]; omega) (fun w fw => go _ _ (fm_tr fz fw))⟩
  have loop : ∀ (n k : Nat) (i l1 : Int32), i.toInt = k → (x.1 220 13).toInt - k ≤ n → KT G q (d + 5) zk_X2_inspectActs 4 [(0, vr 200), (1, vi l1), (2, vi i)] [] x (rv Fv) := by
    intro n
    induction n with
    | zero =>
      intro k i l1 ei hn
      refine kg_X2_inspectActs_4 hq he _ _ ⟨fun _ => loop2 6 0 _ _ _ x rfl (by omega) (fm_rf _ _), fun c => ?_⟩
      rw [t_le] at c; omega
    | succ n ih =>
      intro k i l1 ei hn
      refine kg_X2_inspectActs_4 hq he _ _ ⟨fun _ => loop2 6 0 _ _ _ x rfl (by omega) (fm_rf _ _), fun c => ?_⟩
      rw [t_le] at c
      have e1 : (i + 1).toInt = ((k + 1 : Nat) : Int) := by rw [t_add (by show _ ≤ _ + (1 : Int); omega) (by show _ + (1 : Int) ≤ _; omega), ei]; rfl
      have v84 : vp_in i 84 := by rw [vp_in_iff]; omega
      exact ⟨v84, fun _ => ih (k + 1) _ _ e1 (by push_cast; omega), fun _ => ⟨v84, ih (k + 1) _ _ e1 (by push_cast; omega)⟩⟩
  exact kg_X2_inspectActs_0 hq he (loop 84 0 _ _ rfl (by omega))
end KEX
