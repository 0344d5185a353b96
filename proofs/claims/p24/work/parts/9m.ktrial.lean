section
/-! the class: what a trying has told -/
def oN (q : kP) (o : Nat) : Nat := if o = 260 then q.o0 else q.o1
/-- outcomes: their rows are there, their order is one of them -/
def TO (x : gd) (q : kP) (o : Nat) : Prop := (0 ≤ (x.1 o 3).toInt ∧ (x.1 o 3).toInt ≤ oN q o ∧ oN q o ≤ 3000) ∧ ∀ i : Nat, (i : Int) < (x.1 o 3).toInt → 0 ≤ (x.1 (o + 14) i).toInt ∧ (x.1 (o + 14) i).toInt < (x.1 o 3).toInt
/-- states: the first of each finding, where each comes from -/
def TZ (x : gd) (o : Nat) : Prop := (0 ≤ (x.1 o 0).toInt ∧ (x.1 o 0).toInt ≤ 3000) ∧ (∀ f : Nat, f < 11 → x.1 (o + 7) f = -1 ∨ (0 ≤ (x.1 (o + 7) f).toInt ∧ (x.1 (o + 7) f).toInt < (x.1 o 0).toInt)) ∧ ∀ s : Nat, (s : Int) < (x.1 o 0).toInt → (0 ≤ (x.1 (o + 12) s).toInt ∧ (x.1 (o + 12) s).toInt ≤ s) ∧ ((x.1 (o + 12) s).toInt = 0 ∨ (0 ≤ (x.1 (o + 10) s).toInt ∧ (x.1 (o + 10) s).toInt < s ∧ (x.1 (o + 12) s).toInt = (x.1 (o + 12) (x.1 (o + 10) s).toInt.toNat).toInt + 1))
def sTr (o c k : Nat) : Prop := o ≤ c ∧ c ≤ o + 14
theorem tr_row {q : kP} {o i : Nat} (hq : kV q) (ho : kiT q o) (hi : i < oN q o) : ∃ c, (kf q).1 (o + 13) i = some c ∧ kK c = .inr (.int, 24) ∧ c ∈ (kf q).2.1 ∧ 4000 ≤ c := by
  rcases ho with ⟨rfl, h⟩ | ⟨rfl, h⟩
  · have hi : i < q.o0 := hi
    refine ⟨4000 + i, ?_, ?_, hq.2.2.2.2.2.2.1 i hi, by omega⟩
    · show kR q 273 i = _
      unfold kR
      rw [if_neg (by omega), if_neg (by omega), if_neg (by omega), if_neg (by omega), if_neg (by omega), if_pos rfl, if_pos hi]
    · unfold kK; rw [if_neg (by omega), if_neg (by omega), if_neg (by omega)]
  · have hi : i < q.o1 := hi
    refine ⟨7000 + i, ?_, ?_, hq.2.2.2.2.2.2.2 i hi, by omega⟩
    · show kR q 293 i = _
      unfold kR
      rw [if_neg (by omega), if_neg (by omega), if_neg (by omega), if_neg (by omega), if_neg (by omega), if_neg (by omega), if_pos rfl, if_pos hi]
    · unfold kK; rw [if_neg (by omega), if_neg (by omega), if_neg (by omega)]
theorem TO_fm {x y : gd} {q : kP} {o : Nat} {S : Nat → Nat → Prop} (f : fm S x y) (h1 : ¬ S o 3) (h2 : ∀ k, ¬ S (o + 14) k) (h : TO x q o) : TO y q o := by
  unfold TO at h ⊢
  rw [f o 3 h1]
  refine ⟨h.1, fun i hi => ?_⟩
  rw [f (o + 14) i (h2 i)]; exact h.2 i hi
theorem TZ_fm {x y : gd} {o : Nat} {S : Nat → Nat → Prop} (f : fm S x y) (h1 : ¬ S o 0) (h2 : ∀ c k, c = o + 7 ∨ c = o + 10 ∨ c = o + 12 → ¬ S c k) (h : TZ x o) : TZ y o := by
  unfold TZ at h ⊢
  rw [f o 0 h1]
  refine ⟨h.1, fun g hg => ?_, fun s hs => ?_⟩
  · rw [f (o + 7) g (h2 _ _ (by omega))]; exact h.2.1 g hg
  · rw [f (o + 12) s (h2 _ _ (by omega)), f (o + 10) s (h2 _ _ (by omega)), f (o + 12) _ (h2 _ _ (by omega))]; exact h.2.2 s hs
section KTR
variable {G : kG} {q : kP} {d o : Nat} {x x0 y z : gd} {F : Int32 → gd → Prop} {Fv : gd → Prop}
theorem kt_valueOf (hq : kV q) (ho : kiT q o) (i c : Int32) (hT : TO x q o) (hi : 0 ≤ i.toInt ∧ i.toInt < (x.1 o 3).toInt) (hc : 0 ≤ c.toInt ∧ c.toInt < 24) (h : ∀ r, F r x) : KT G q d zk_X10_valueOf 0 [(0, vr o), (1, vi i), (2, vi c)] [] x (ri F) := by
  obtain ⟨⟨b0, b1, b2⟩, hO⟩ := hT
  have eI : i.toNatClampNeg = i.toInt.toNat := rfl
  obtain ⟨o0, o1⟩ := hO i.toInt.toNat (by omega)
  refine kg_X10_valueOf_0 hq ho _ _ ⟨by rw [vp_in_iff]; omega, ?_⟩
  rw [eI]
  refine ⟨by rw [vp_in_iff]; omega, fun u3 e3 => ?_⟩
  have eO : (x.1 (o + 14) i.toInt.toNat).toNatClampNeg = (x.1 (o + 14) i.toInt.toNat).toInt.toNat := rfl
  obtain ⟨c4, r1, r2, r3, -⟩ := tr_row (i := (x.1 (o + 14) i.toInt.toNat).toInt.toNat) hq ho (by omega)
  rw [eO, r1] at e3
  exact ⟨c4, e3, r2, r3, by rw [vp_in_iff]; omega, ri_i (h _)⟩
theorem kt_order (hq : kV q) (ho : kiT q o) {a b na nb : Nat} (ka : kK a = .inr (.int, na)) (ma : a ∈ (kf q).2.1) (kb : kK b = .inr (.int, nb)) (mb : b ∈ (kf q).2.1) (n : Int32) (hna : n.toInt ≤ na) (hnb : n.toInt ≤ nb) (h24 : n.toInt ≤ 24) (h : ∀ r, F r x) : KT G q d zk_X10_order 0 [(0, vr a), (1, vr b), (2, vi n)] [] x (ri F) := by
  have loop : ∀ (m k : Nat) (i : Int32), i.toInt = k → n.toInt - k ≤ m → KT G q d zk_X10_order 2 [(0, vr a), (1, vr b), (2, vi n), (3, vi i)] [] x (ri F) := by
    intro m
    induction m with
    | zero =>
      intro k i ei hn
      refine kg_X10_order_2 hq ho ka ma kb mb _ _ ⟨fun _ => ri_i (h _), fun c => ?_⟩
      rw [t_le] at c; omega
    | succ m ih =>
      intro k i ei hn
      refine kg_X10_order_2 hq ho ka ma kb mb _ _ ⟨fun _ => ri_i (h _), fun c => ?_⟩
      rw [t_le] at c
      have ei1 : (i + 1).toInt = ((k + 1 : Nat) : Int) := by rw [t_add (by show _ ≤ _ + (1 : Int); omega) (by show _ + (1 : Int) ≤ _; omega), ei]; rfl
      have va : vp_in i na := by rw [vp_in_iff]; omega
      have vb : vp_in i nb := by rw [vp_in_iff]; omega
      exact ⟨va, vb, fun _ => ih (k + 1) _ ei1 (by push_cast; omega), fun _ => ⟨va, vb, fun _ => ri_i (h _), fun _ => ri_i (h _)⟩⟩
  exact kg_X10_order_0 hq ho ka ma kb mb _ (loop 24 0 _ rfl (by omega))
theorem kt_same (hq : kV q) (ho : kiT q o) {p : Nat} (hp : kiT q p) (n : Int32) (h24 : n.toInt ≤ 24) (hT : TO x q o) (hU : TO x q p) (h : ∀ r, gbool r → F r x) : KT G q (d + 1) zk_X10_sameOutcomes 0 [(0, vr o), (1, vr p), (2, vi n)] [] x (ri F) := by
  obtain ⟨⟨b0, b1, b2⟩, hO⟩ := hT
  obtain ⟨⟨c0, c1, c2⟩, hO2⟩ := hU
  refine kg_X10_sameOutcomes_0 hq ho hp _ ⟨fun eq => ?_, fun _ => ri_i (h _ gbool_0)⟩
  rw [t_eq] at eq
  have loop : ∀ (m k : Nat) (i : Int32), i.toInt = k → (x.1 o 3).toInt - k ≤ m → KT G q (d + 1) zk_X10_sameOutcomes 15 [(0, vr o), (1, vr p), (2, vi n), (3, vi i)] [] x (ri F) := by
    intro m
    induction m with
    | zero =>
      intro k i ei hn
      refine kg_X10_sameOutcomes_15 hq ho hp _ _ ⟨fun _ => ri_i (h _ gbool_1), fun c => ?_⟩
      rw [t_le] at c; omega
    | succ m ih =>
      intro k i ei hn
      refine kg_X10_sameOutcomes_15 hq ho hp _ _ ⟨fun _ => ri_i (h _ gbool_1), fun c => ?_⟩
      rw [t_le] at c
      have ei1 : (i + 1).toInt = ((k + 1 : Nat) : Int) := by rw [t_add (by show _ ≤ _ + (1 : Int); omega) (by show _ + (1 : Int) ≤ _; omega), ei]; rfl
      have v1 : vp_in i 3000 := by rw [vp_in_iff]; omega
      have eI : i.toNatClampNeg = k := by rw [t_cl, ei]; rfl
      obtain ⟨o0, o1⟩ := hO k (by omega)
      obtain ⟨p0, p1⟩ := hO2 k (by omega)
      rw [eI]
      refine ⟨v1, by rw [vp_in_iff]; omega, fun u4 e4 => ⟨v1, by rw [vp_in_iff]; omega, fun u7 e7 => ?_⟩⟩
      have eO : ∀ w : Nat, (x.1 w k).toNatClampNeg = (x.1 w k).toInt.toNat := fun w => rfl
      obtain ⟨r, r1, r2, r3, -⟩ := tr_row (i := (x.1 (o + 14) k).toInt.toNat) hq ho (by omega)
      obtain ⟨s, s1, s2, s3, -⟩ := tr_row (i := (x.1 (p + 14) k).toInt.toNat) hq hp (by omega)
      rw [eO, r1] at e4
      rw [eO, s1] at e7
      exact ⟨r, e4, r2, r3, s, e7, s2, s3, kt_order hq ho r2 r3 s2 s3 _ h24 h24 h24 (fun r9 => ⟨fun _ => ih (k + 1) _ ei1 (by push_cast; omega), fun _ => ri_i (h _ gbool_0)⟩)⟩
  exact loop 3000 0 _ rfl (by omega)
end KTR
end
section
/-! the class: all that a program can do -/
theorem t_and8 (a : Int32) : 0 ≤ (a &&& 8191).toInt ∧ (a &&& 8191).toInt < 8192 := by
  have h : (a &&& 8191).toBitVec.toNat ≤ 8191 := by
    rw [Int32.toBitVec_and, BitVec.toNat_and]
    exact Nat.and_le_right
  have e : (a &&& 8191).toInt = ((a &&& 8191).toBitVec.toNat : Int) := by
    show (a &&& 8191).toBitVec.toInt = _
    exact BitVec.toInt_eq_toNat_of_lt (by omega)
  omega
/-- the code is alike -/
def agC (x y : gd) : Prop := ∀ c k, (60 ≤ c ∧ c < 90 ∧ ¬ (c = 60 ∧ k = 5) ∧ c ≠ 65) → y.1 c k = x.1 c k
def agM (o : Nat) (x y : gd) : Prop := ∀ k, 3 ≤ k → k ≤ 9 → y.1 o k = x.1 o k
section KEX
variable {G : kG} {q : kP} {d : Nat} {x x0 y z : gd} {o : Nat} {F : Int32 → gd → Prop} {Fv : gd → Prop}
theorem MG_ag (hc : agC x y) (hm : agM o x y) (h : MG x o) : MG y o := by
  unfold MG at h ⊢
  rw [hm 3 (by omega) (by omega), hm 5 (by omega) (by omega), hm 6 (by omega) (by omega), hm 7 (by omega) (by omega), hm 8 (by omega) (by omega), hm 9 (by omega) (by omega), hc 60 6 (by omega), hc 60 9 (by omega), hc 60 13 (by omega), hc 60 10 (by omega)]
  exact h
theorem pa_lt (hG : MG x o) {t k : Nat} (ht : (t : Int) < (x.1 60 10).toInt) (hk : (k : Int) < (x.1 o 8).toInt) (h7 : 0 ≤ (x.1 o 7).toInt) : (pa x o t k : Int) < (x.1 o 5).toInt := by
  obtain ⟨-, -, -, -, -, h5⟩ := hG
  unfold pa
  rw [h5]
  obtain ⟨S, hS⟩ : ∃ S : Nat, (x.1 o 8).toInt = S := ⟨(x.1 o 8).toInt.toNat, by omega⟩
  obtain ⟨N, hN⟩ : ∃ N : Nat, (x.1 60 10).toInt = N := ⟨(x.1 60 10).toInt.toNat, by omega⟩
  rw [hS] at hk ⊢
  rw [hN] at ht ⊢
  have h1 : (t + 1) * S ≤ N * S := Nat.mul_le_mul_right S (by omega)
  rw [Nat.succ_mul] at h1
  have h2 : ((S : Int) * N) = ((N * S : Nat) : Int) := by push_cast; exact Int.mul_comm _ _
  rw [h2]
  have h3 : (S : Int).toNat = S := by omega
  rw [h3]
  obtain ⟨P, hP⟩ : ∃ P, P = t * S := ⟨_, rfl⟩
  obtain ⟨Q, hQ⟩ : ∃ Q, Q = N * S := ⟨_, rfl⟩
  rw [← hP] at h1 ⊢
  rw [← hQ] at h1 ⊢
  omega
theorem rg_ag (hC : CO x) (hc : agC x y) (hm : agM o x y) (hr : ∀ k : Nat, (k : Int) < (x.1 o 5).toInt → y.1 (o + 5) k = x.1 (o + 5) k) (hG : MG x o) {t k : Nat} (ht : (t : Int) < (x.1 60 10).toInt) (hk : (k : Int) < (x.1 o 8).toInt) : rg y o t k = rg x o t k := by
  have hp : pa y o t k = pa x o t k := by unfold pa; rw [hm 7 (by omega) (by omega), hm 8 (by omega) (by omega)]
  have b := MG_b hC hG
  unfold rg
  rw [hp, hr _ (pa_lt hG ht hk (by omega))]
/-- a machine looks at code, places, row -/
theorem MM_ag (hc : agC x y) (hm : agM o x y) (hr : ∀ k : Nat, (k : Int) < (x.1 o 5).toInt → y.1 (o + 5) k = x.1 (o + 5) k) (h : MM x o) : MM y o := by
  obtain ⟨hC, hG, hT⟩ := h
  have b := MG_b hC hG
  have b1 := b.2.1
  have b2 := b.2.2.2.2.1
  refine ⟨CO_fm hC hc, MG_ag hc hm hG, fun t ht => ?_⟩
  rw [hc 60 10 (by omega)] at ht
  have e : ∀ k : Nat, (k : Int) < (x.1 o 8).toInt → rg y o t k = rg x o t k := fun k hk => rg_ag hC hc hm hr hG ht hk
  obtain ⟨a, g⟩ := hT t ht
  constructor
  · unfold TA ssm at a ⊢
    rw [e 2 (by omega), e 7 (by omega), e 0 (by omega), e 3 (by omega), hc 80 9 (by omega), hm 3 (by omega) (by omega), hm 9 (by omega) (by omega), hc 60 6 (by omega)]
    refine ⟨a.1, a.2.1, a.2.2.1, fun j hj => ?_, a.2.2.2.2⟩
    by_cases hw : x.1 o 3 = 1
    · have := b2 hw
      rw [e _ (by omega)]; exact a.2.2.2.1 j hj
    · rw [a.2.2.1 hw] at hj
      have : (0 : Int32).toInt = 0 := rfl
      omega
  · unfold TGo sop at g ⊢
    rw [e 0 (by omega), e 2 (by omega), e 3 (by omega), hc 81 _ (by omega)]
    exact g
theorem LSk_ag (hM : MM x o) (hc : agC x y) (hm : agM o x y) (hr : ∀ k : Nat, (k : Int) < (x.1 o 5).toInt → y.1 (o + 5) k = x.1 (o + 5) k) (h13 : y.1 o 13 = x.1 o 13) (h1 : ∀ k, y.1 (o + 11) k = x.1 (o + 11) k) (h2 : ∀ k, y.1 (o + 12) k = x.1 (o + 12) k) (h : LSk x o) : LSk y o := by
  have b := (MG_b hM.1 hM.2.1).2.1
  unfold LSk at h ⊢
  rw [h13, hc 60 10 (by omega)]
  refine ⟨h.1, fun i hi => ?_⟩
  obtain ⟨T, a1, a2, a3⟩ := h.2 i hi
  refine ⟨T, by rw [h1]; exact a1, a2, ?_⟩
  have e : ∀ k : Nat, (k : Int) < (x.1 o 8).toInt → rg y o T k = rg x o T k := fun k hk => rg_ag hM.1 hc hm hr hM.2.1 a2 hk
  rw [h2, e 0 (by omega), e 7 (by omega)]; exact a3
/-- a row that was kept is a machine's -/
def KR (x : gd) (s : Nat) : Prop := MM (scp x (1000 + s) 225 0 0 (x.1 220 5).toNatClampNeg) 220
theorem KR_ag {s : Nat} (hc : agC x y) (hm : agM 220 x y) (hr : ∀ k : Nat, k < (x.1 220 5).toNatClampNeg → y.1 (1000 + s) k = x.1 (1000 + s) k) (h : KR x s) : KR y s := by
  unfold KR at h ⊢
  rw [hm 5 (by omega) (by omega)]
  refine MM_ag ?_ ?_ ?_ h
  · intro c k hk
    rw [scp_get, if_neg (by omega), scp_get, if_neg (by omega)]; exact hc c k hk
  · intro k h1 h2
    rw [scp_get, if_neg (by omega), scp_get, if_neg (by omega)]; exact hm k h1 h2
  · intro k hk
    have h5 : (scp x (1000 + s) 225 0 0 (x.1 220 5).toNatClampNeg).1 220 5 = x.1 220 5 := by rw [scp_get, if_neg (by omega)]
    rw [h5] at hk
    have hk2 : k < (x.1 220 5).toNatClampNeg := by rw [t_cl]; omega
    rw [scp_get, if_pos ⟨rfl, by omega, by omega⟩, scp_get, if_pos ⟨rfl, by omega, by omega⟩]
    exact hr _ (by omega)
theorem ke_r {k : Nat} (h : k < q.kn) : (kf q).1 203 k = some (1000 + k) := by
  show kR q 203 k = _
  unfold kR
  rw [if_neg (by omega), if_neg (by omega), if_neg (by omega), if_neg (by omega), if_pos rfl, if_pos h]
theorem ke_k {k : Nat} (h : k < 3000) : kK (1000 + k) = .inr (.int, 228) := by
  unfold kK; rw [if_neg (by omega), if_neg (by omega), if_pos (by omega)]
theorem ke_m (hq : kV q) {k : Nat} (h : k < q.kn) : 1000 + k ∈ (kf q).2.1 := hq.2.2.2.2.2.1 k h
theorem sz_b (hC : CO x) (hG : MG x o) : 0 ≤ (x.1 o 5).toInt ∧ (x.1 o 5).toInt ≤ 228 := by
  have b := MG_b hC hG
  obtain ⟨g1, g2, g3, g4, g5, g6⟩ := hG
  obtain ⟨⟨h1, h2, h3, h4, -⟩, -⟩ := hC
  rw [g6]
  obtain ⟨N, hN⟩ : ∃ N : Nat, (x.1 60 10).toInt = N := ⟨(x.1 60 10).toInt.toNat, by omega⟩
  rw [hN] at h3 ⊢
  have : N = 0 ∨ N = 1 ∨ N = 2 ∨ N = 3 ∨ N = 4 ∨ N = 5 ∨ N = 6 := by omega
  rcases this with e | e | e | e | e | e | e <;> subst e <;> omega
theorem kx_recall (hq : kV q) (he : q.ex = true) (hC : CO x) (hG : MG x 220) (s : Int32) {S : Nat} (es : s.toInt = S) (hs : S < q.kn) (h3 : S < 3000) (hk : KR x S) (h : ∀ y, y = scp x (1000 + S) 225 0 0 (x.1 220 5).toNatClampNeg → MM y 220 → fm (fun c k => c = 225) x y → Fv y) : KT G q (d + 2) zk_X2_recall 0 [(0, vr 200), (1, vi s)] [] x (rv Fv) := by
  have k0 : (0 : Int32).toInt = 0 := rfl
  have b := sz_b hC hG
  refine kg_X2_recall_0 hq he _ ⟨by rw [vp_in_iff]; omega, fun u e => ?_⟩
  rw [t_cl, es, show ((S : Nat) : Int).toNat = S by omega, ke_r hs] at e
  refine ⟨_, e, ke_k h3, ke_m hq hs, by decide, by decide, by rw [t_lt, k0]; omega, by rw [tn0, t_cl]; omega, by rw [tn0, t_cl]; omega, fun z ez => rv_i (h z ez ?_ ?_)⟩
  · rw [ez]; exact hk
  · intro c k hc
    rw [ez, scp_get, if_neg (by omega)]
def sKp (c k : Nat) : Prop := c = 200 ∧ (k = 5 ∨ k = 6)
/-- what looking at the acts changes -/
def sIn (o c k : Nat) : Prop := c = 209 ∨ c = 210 ∨ (c = o ∧ k = 4) ∨ c = o + 8 ∨ c = o + 9 ∨ (c = 220 ∧ k = 14) ∨ (c = 60 ∧ k = 5) ∨ c = 65
theorem iT_O (ho : kiT q o) : o = 260 ∨ o = 280 := by
  rcases ho with ⟨e, -⟩ | ⟨e, -⟩
  · exact Or.inl e
  · exact Or.inr e
theorem sIn_MM (ho : kiT q o) (f : fm (sIn o) x y) (h : MM x 220) : MM y 220 := by
  have hO := iT_O ho
  exact MM_ag (fun c k hc => f c k (by unfold sIn; omega)) (fun k h1 h2 => f _ _ (by unfold sIn; omega)) (fun k hk => f _ _ (by unfold sIn; omega)) h
theorem et_r (h : q.et = some o) : (kf q).1 200 7 = some o := by
  show kR q 200 7 = _
  unfold kR
  rw [if_neg (by omega), if_neg (by omega), if_neg (by omega), if_pos ⟨rfl, rfl⟩, h]
end KEX
end
section
/-! the class: what is made while all is tried -/
theorem rm_i {q q1 : kP} {F : gd → kP → Prop} {x : gd} (hu : kU q1) (hl : kle q q1) (h : F x q1) : rm q F none x q1 := ⟨rfl, hu, hl, h⟩
theorem zn_get {x : gd} {c c' k : Nat} : (znew x c).1 c' k = if c' = c then 0 else x.1 c' k := by
  show (if c' = c then fun _ => (0 : Int32) else x.1 c') k = _
  split <;> rfl
theorem t_div2 {a : Int32} (h : 0 ≤ a.toInt) : (a / 2).toInt = a.toInt / 2 := by
  rw [Int32.toInt_div_of_ne_right _ _ (by decide), show (2 : Int32).toInt = 2 from rfl, Int.tdiv_eq_ediv_of_nonneg h]
theorem tr_none {q : kP} {o i : Nat} (ho : kiT q o) (hi : ¬ i < oN q o) : (kf q).1 (o + 13) i = none := by
  rcases ho with ⟨rfl, h⟩ | ⟨rfl, h⟩
  · have hi : ¬ i < q.o0 := hi
    show kR q 273 i = _
    unfold kR
    rw [if_neg (by omega), if_neg (by omega), if_neg (by omega), if_neg (by omega), if_neg (by omega), if_pos rfl, if_neg hi]
  · have hi : ¬ i < q.o1 := hi
    show kR q 293 i = _
    unfold kR
    rw [if_neg (by omega), if_neg (by omega), if_neg (by omega), if_neg (by omega), if_neg (by omega), if_neg (by omega), if_pos rfl, if_neg hi]
theorem ke_no {q : kP} {k : Nat} (h : ¬ k < q.kn) : (kf q).1 203 k = none := by
  show kR q 203 k = _
  unfold kR
  rw [if_neg (by omega), if_neg (by omega), if_neg (by omega), if_neg (by omega), if_pos rfl, if_neg h]
theorem oN_U {q : kP} (hu : kU q) (o : Nat) : oN q o ≤ 3000 := by
  unfold oN; split
  · exact hu.2.2.2.2.2.1
  · exact hu.2.2.2.2.2.2
theorem oN_le {q q1 : kP} (h : kle q q1) (o : Nat) : oN q o ≤ oN q1 o := by
  unfold oN; split
  · exact h.2.2.1.2.1
  · exact h.2.2.1.2.2
theorem TO_le {x : gd} {q q1 : kP} {o : Nat} (hu : kU q1) (hl : kle q q1) (h : TO x q o) : TO x q1 o := ⟨⟨h.1.1, Int.le_trans h.1.2.1 (by have := oN_le hl o; omega), oN_U hu o⟩, h.2⟩
def sOu (o c k : Nat) : Prop := (c = o ∧ k = 3) ∨ c = o + 14 ∨ 4000 ≤ c
section KMD
variable {G : kG} {q : kP} {d : Nat} {x x0 y z : gd} {o : Nat} {F : Int32 → gd → Prop} {Fv : gd → Prop} {Fm : gd → kP → Prop} {X : String → gd → kP → Prop}
end KMD
end
section
/-! the class: all that can be done is tried -/
/-- what stands while states are looked at -/
def XI (x : gd) (q : kP) (o : Nat) : Prop := (CO x ∧ MG x 220) ∧ (TZ x o ∧ TO x q o) ∧ (x.1 o 0).toInt ≤ q.kn ∧ (∀ s : Nat, (s : Int) < (x.1 o 0).toInt → KR x s) ∧ ∀ j : Nat, j < 8192 → 0 ≤ (x.1 205 j).toInt ∧ (x.1 205 j).toInt ≤ (x.1 o 0).toInt
def sQu (o c k : Nat) : Prop := c = 225 ∨ (c = 220 ∧ (k = 13 ∨ k = 14)) ∨ (231 ≤ c ∧ c ≤ 233) ∨ c = 209 ∨ c = 210 ∨ c = 240 ∨ (c = 200 ∧ (k = 5 ∨ k = 6)) ∨ (c = o ∧ (k = 1 ∨ k = 2 ∨ k = 4 ∨ k = 5)) ∨ c = o + 8 ∨ c = o + 9 ∨ (c = 60 ∧ k = 5) ∨ c = 65
def sWd (o c k : Nat) : Prop := sQu o c k ∨ c = o + 7 ∨ (c = o ∧ k = 3) ∨ c = o + 14 ∨ 4000 ≤ c
/-- all that a trying changes -/
def sEx (o c k : Nat) : Prop := (200 ≤ c ∧ c ≤ 259) ∨ (o ≤ c ∧ c ≤ o + 14) ∨ 1000 ≤ c ∨ (c = 60 ∧ k = 5) ∨ c = 65
section KAL
variable {G : kG} {q q0 q1 : kP} {d : Nat} {x x0 y z : gd} {o : Nat} {F : Int32 → gd → Prop} {Fv : gd → Prop} {Fm : gd → kP → Prop} {X : String → gd → kP → Prop}
theorem sWd_C (hO : o = 260 ∨ o = 280) (f : fm (sWd o) x y) : agC x y ∧ agM 220 x y := ⟨fun c k hc => f c k (by unfold sWd sQu; omega), fun k h1 h2 => f _ _ (by unfold sWd sQu; omega)⟩
theorem XI_w (hO : o = 260 ∨ o = 280) (f : fm (sWd o) x y) (hz : TZ y o) (ht : TO y q1 o) (hk : q.kn ≤ q1.kn) (h : XI x q o) (h3 : q.kn ≤ 3000) : XI y q1 o := by
  obtain ⟨⟨hC, hG⟩, -, hn, hr, hb⟩ := h
  obtain ⟨hc, hm⟩ := sWd_C hO f
  have e0 : y.1 o 0 = x.1 o 0 := f o 0 (by unfold sWd sQu; omega)
  refine ⟨⟨CO_fm hC hc, MG_ag hc hm hG⟩, ⟨hz, ht⟩, by rw [e0]; omega, fun s hs => ?_, fun j hj => ?_⟩
  · rw [e0] at hs
    exact KR_ag hc hm (fun k hk => f _ _ (by unfold sWd sQu; omega)) (hr s hs)
  · rw [e0, f 205 j (by unfold sWd sQu; omega)]; exact hb j hj
theorem XI_q (hO : o = 260 ∨ o = 280) (f : fm (sQu o) x y) (h : XI x q o) (h3 : q.kn ≤ 3000) : XI y q o :=
  XI_w hO (fm_w f (fun c k q => Or.inl q)) (TZ_fm f (by unfold sQu; omega) (fun c k hc => by unfold sQu; omega) h.2.1.1) (TO_fm f (by unfold sQu; omega) (fun k => by unfold sQu; omega) h.2.1.2) (Nat.le_refl _) h h3
def sKe (o c k : Nat) : Prop := (c = 200 ∧ (k = 5 ∨ k = 6)) ∨ (c = o ∧ (k = 0 ∨ k = 1)) ∨ (o + 10 ≤ c ∧ c ≤ o + 12) ∨ c = 204 ∨ c = 205 ∨ (1000 ≤ c ∧ c < 4000)
theorem sKe_C (hO : o = 260 ∨ o = 280) (f : fm (sKe o) x y) : agC x y ∧ agM 220 x y := ⟨fun c k hc => f c k (by unfold sKe; omega), fun k h1 h2 => f _ _ (by unfold sKe; omega)⟩
end KAL
end
section
/-! the class: a state is looked at; the trying itself -/
def sVi (o c k : Nat) : Prop := (c = o ∧ (k = 2 ∨ k = 3 ∨ k = 5)) ∨ c = o + 7 ∨ c = o + 14 ∨ 4000 ≤ c ∨ (c = 60 ∧ k = 5) ∨ c = 65
section KTY
variable {G : kG} {q q0 q1 : kP} {d : Nat} {x x0 y z : gd} {o : Nat} {F : Int32 → gd → Prop} {Fv : gd → Prop} {Fm : gd → kP → Prop} {X : String → gd → kP → Prop}
/-- what looking at a state keeps: the machine, what was told of the trying -/
def VI (x0 x : gd) (q : kP) (o : Nat) : Prop := fm (sVi o) x0 x ∧ MM x 220 ∧ TZ x o ∧ TO x q o
theorem VI_st (hO : o = 260 ∨ o = 280) (h : VI x0 x q o) (f : fm (fun c k => (c = o ∧ (k = 2 ∨ k = 5)) ∨ (c = 60 ∧ k = 5) ∨ c = 65) x y) : VI x0 y q o :=
  ⟨fm_tr h.1 (fm_w f (fun c k q => by unfold sVi; omega)), MM_ag (fun c k hc => f c k (by omega)) (fun k h1 h2 => f _ _ (by omega)) (fun k hk => f _ _ (by omega)) h.2.1, TZ_fm f (by omega) (fun c k hc => by omega) h.2.2.1, TO_fm f (by omega) (fun k => by omega) h.2.2.2⟩
theorem VI_fi (hO : o = 260 ∨ o = 280) (h : VI x0 x q o) (f : fm (fun c k => c = o + 7) x y) (hz : TZ y o) : VI x0 y q o :=
  ⟨fm_tr h.1 (fm_w f (fun c k q => by unfold sVi; omega)), MM_ag (fun c k hc => f c k (by omega)) (fun k h1 h2 => f _ _ (by omega)) (fun k hk => f _ _ (by omega)) h.2.1, hz, TO_fm f (by omega) (fun k => by omega) h.2.2.2⟩
theorem VI_ou (hO : o = 260 ∨ o = 280) (h : VI x0 x q o) (f : fm (sOu o) x y) (ht : TO y q1 o) : VI x0 y q1 o :=
  ⟨fm_tr h.1 (fm_w f (fun c k q => by unfold sOu at q; unfold sVi; omega)), MM_ag (fun c k hc => f c k (by unfold sOu; omega)) (fun k h1 h2 => f _ _ (by unfold sOu; omega)) (fun k hk => f _ _ (by unfold sOu; omega)) h.2.1, TZ_fm f (by unfold sOu; omega) (fun c k hc => by unfold sOu; omega) h.2.2.1, ht⟩
theorem VI_0 (hO : o = 260 ∨ o = 280) (h : VI x0 x q o) : x.1 o 0 = x0.1 o 0 ∧ (∀ c k, 60 ≤ c → c < 90 → ¬ (c = 60 ∧ k = 5) → c ≠ 65 → x.1 c k = x0.1 c k) := ⟨h.1 o 0 (by unfold sVi; omega), fun c k h1 h2 h3 h4 => h.1 c k (by unfold sVi; omega)⟩
end KTY
end
section
/-! the class: all states, one after another -/
section KXP
variable {G : kG} {q q0 q1 : kP} {d : Nat} {x x0 y z : gd} {o : Nat} {F : Int32 → gd → Prop} {Fv : gd → Prop} {Fm : gd → kP → Prop} {X : String → gd → kP → Prop}
theorem ex_25 {c k : Nat} (h : c = 225) : sEx o c k := by unfold sEx; omega
theorem ex_Li {c k : Nat} (h : sLi 220 c k) : sEx o c k := by unfold sLi at h; unfold sEx; omega
theorem ex_In {c k : Nat} (h : sIn o c k) : sEx o c k := by unfold sIn at h; unfold sEx; omega
theorem ex_Vi {c k : Nat} (h : sVi o c k) : sEx o c k := by unfold sVi at h; unfold sEx; omega
theorem ex_Mk {c k : Nat} (h : sMk 220 c k) : sEx o c k := by unfold sMk at h; unfold sEx; omega
theorem ex_Ke {c k : Nat} (h : sKe o c k) : sEx o c k := by unfold sKe at h; unfold sEx; omega
theorem ex_Tr {c k : Nat} (h : sTr o c k) : sEx o c k := by unfold sTr at h; unfold sEx; omega
theorem ex_Re {c k : Nat} (h : sRe 220 c k) : sEx o c k := by unfold sRe at h; unfold sEx; omega
theorem qu_25 {c k : Nat} (h : c = 225) : sQu o c k := Or.inl h
theorem qu_Li {c k : Nat} (h : sLi 220 c k) : sQu o c k := by unfold sLi at h; unfold sQu; omega
theorem qu_In {c k : Nat} (h : sIn o c k) : sQu o c k := by unfold sIn at h; unfold sQu; omega
theorem qu_Mk {c k : Nat} (h : sMk 220 c k) : sQu o c k := by unfold sMk at h; unfold sQu; omega
theorem wd_Vi {c k : Nat} (h : sVi o c k) : sWd o c k := by
  unfold sVi at h
  unfold sWd
  rcases h with ⟨h1, h2 | h2 | h2⟩ | h | h | h | h | h
  · exact Or.inl (by unfold sQu; omega)
  · exact Or.inr (Or.inr (Or.inl ⟨h1, h2⟩))
  · exact Or.inl (by unfold sQu; omega)
  · exact Or.inr (Or.inl h)
  · exact Or.inr (Or.inr (Or.inr (Or.inl h)))
  · exact Or.inr (Or.inr (Or.inr (Or.inr h)))
  · exact Or.inl (by unfold sQu; omega)
  · exact Or.inl (by unfold sQu; omega)
theorem c13_25 (f : fm (fun c k => c = 225) x y) : y.1 220 13 = x.1 220 13 := f _ _ (by omega)
theorem c13_In (hO : o = 260 ∨ o = 280) (f : fm (sIn o) x y) : y.1 220 13 = x.1 220 13 := f _ _ (by unfold sIn; omega)
theorem c13_Vi (hO : o = 260 ∨ o = 280) (f : fm (sVi o) x y) : y.1 220 13 = x.1 220 13 := f _ _ (by unfold sVi; omega)
theorem c13_Mk (f : fm (sMk 220) x y) : y.1 220 13 = x.1 220 13 := f _ _ (by unfold sMk; omega)
theorem c13_Ke (hO : o = 260 ∨ o = 280) (f : fm (sKe o) x y) : y.1 220 13 = x.1 220 13 := f _ _ (by unfold sKe; omega)
theorem co0_25 (hO : o = 260 ∨ o = 280) (f : fm (fun c k => c = 225) x y) : y.1 o 0 = x.1 o 0 := f _ _ (by omega)
theorem co0_Li (hO : o = 260 ∨ o = 280) (f : fm (sLi 220) x y) : y.1 o 0 = x.1 o 0 := f _ _ (by unfold sLi; omega)
theorem co0_In (hO : o = 260 ∨ o = 280) (f : fm (sIn o) x y) : y.1 o 0 = x.1 o 0 := f _ _ (by unfold sIn; omega)
end KXP
end
section
/-! the class: the house; what stands between calls -/
def RUN (x : gd) : Prop := MM x 120 ∧ LSk x 120 ∧ JN x
def TRI (x : gd) (q : kP) (o : Nat) : Prop := TO x q o ∧ (x.1 o 0 = 0 ∨ (TZ x o ∧ CO x))
def HOI (x : gd) (q : kP) : Prop := kL x ∧ (¬ x.1 0 9 = 0 → CO x) ∧ (¬ x.1 0 10 = 0 → RUN x) ∧ ∀ o, (o = 260 ∨ o = 280) → TRI x q o ∧ (¬ kiT q o → x.1 o 0 = 0)
/-- what a run changes; what a compiling; what is beside -/
def sRn (c k : Nat) : Prop := (120 ≤ c ∧ c < 180) ∨ (c = 0 ∧ k = 10) ∨ (c = 60 ∧ k = 5) ∨ c = 65
def sCm (c k : Nat) : Prop := (20 ≤ c ∧ c < 120) ∨ c = 0 ∨ ((c = 260 ∨ c = 280) ∧ k = 0)
def sNw (c k : Nat) : Prop := (180 ≤ c ∧ c < 260) ∨ 300 ≤ c
def sFo (c k : Nat) : Prop := (c = 0 ∧ (k = 9 ∨ k = 10)) ∨ ((c = 260 ∨ c = 280) ∧ k = 0)
section KHO
variable {G : kG} {q q0 q1 : kP} {d : Nat} {x x0 y z : gd} {o : Nat} {F : Int32 → gd → Prop} {Fv : gd → Prop} {P : Option gv → gd → Prop} {X : String → gd → Prop}
theorem JN_o (f : ∀ c k, 160 ≤ c → c < 180 → y.1 c k = x.1 c k) (h : JN x) : JN y := by
  unfold JN at h ⊢
  rw [f 160 3 (by omega) (by omega), f 160 2 (by omega) (by omega)]
  refine ⟨h.1, fun a ha => JA_eq (fun c k hc => f c k (by omega) (by omega)) (h.2.1 a ha), fun t ht => ?_⟩
  rw [f 174 t (by omega) (by omega)]; exact h.2.2 t ht
theorem RUN_o (hc : agC x y) (f : ∀ c k, 120 ≤ c → c < 180 → y.1 c k = x.1 c k) (h : RUN x) : RUN y := by
  obtain ⟨h1, h2, h3⟩ := h
  exact ⟨MM_ag hc (fun k a b => f _ _ (by omega) (by omega)) (fun k hk => f _ _ (by omega) (by omega)) h1, LSk_ag h1 hc (fun k a b => f _ _ (by omega) (by omega)) (fun k hk => f _ _ (by omega) (by omega)) (f _ _ (by omega) (by omega)) (fun k => f _ _ (by omega) (by omega)) (fun k => f _ _ (by omega) (by omega)) h2, JN_o (fun c k a b => f c k (by omega) (by omega)) h3⟩
theorem RUN_Lk (f : fm (sLk 120) x y) (h : RUN x) : RUN y := by
  obtain ⟨h1, h2, h3⟩ := h
  have hc : agC x y := fun c k hc => f c k (by unfold sLk; omega)
  have hm : agM 120 x y := fun k a b => f _ _ (by unfold sLk; omega)
  have hr : ∀ k : Nat, (k : Int) < (x.1 120 5).toInt → y.1 (120 + 5) k = x.1 (120 + 5) k := fun k hk => f _ _ (by unfold sLk; omega)
  exact ⟨MM_ag hc hm hr h1, LSk_ag h1 hc hm hr (f _ _ (by unfold sLk; omega)) (fun k => f _ _ (by unfold sLk; omega)) (fun k => f _ _ (by unfold sLk; omega)) h2, JN_o (fun c k a b => f c k (by unfold sLk; omega)) h3⟩
theorem TRI_fm {S : Nat → Nat → Prop} (hO : o = 260 ∨ o = 280) (f : fm S x y) (hc : agC x y) (hS : ∀ c k, 260 ≤ c → c < 300 → ¬ S c k) (h : TRI x q o) : TRI y q o := by
  obtain ⟨h1, h2⟩ := h
  refine ⟨TO_fm f (hS _ _ (by omega) (by omega)) (fun k => hS _ _ (by omega) (by omega)) h1, ?_⟩
  rw [f o 0 (hS _ _ (by omega) (by omega))]
  rcases h2 with e | ⟨a, b⟩
  · exact Or.inl e
  · exact Or.inr ⟨TZ_fm f (hS _ _ (by omega) (by omega)) (fun c k hc => hS _ _ (by omega) (by omega)) a, CO_fm b hc⟩
theorem HOI_run (f : fm sRn x y) (hR : RUN y) (h : HOI x q) : HOI y q := by
  obtain ⟨h1, h2, h3, h4⟩ := h
  have hc : agC x y := fun c k hc => f c k (by unfold sRn; omega)
  refine ⟨?_, fun h9 => ?_, fun _ => hR, fun o hO => ⟨TRI_fm hO f hc (fun c k a b => by unfold sRn; omega) (h4 o hO).1, fun hn => ?_⟩⟩
  · unfold kL at h1 ⊢; rw [f 20 1 (by unfold sRn; omega)]; exact h1
  · rw [f 0 9 (by unfold sRn; omega)] at h9; exact CO_fm (h2 h9) hc
  · rw [f o 0 (by unfold sRn; omega)]; exact (h4 o hO).2 hn
theorem HOI_z (f : fm sCm x y) (hL : kL y) (h9 : ¬ y.1 0 9 = 0 → CO y) (h10 : y.1 0 10 = 0) (hz : ∀ o, kiT q o → y.1 o 0 = 0) (h : HOI x q) (hf : ∀ o, (o = 260 ∨ o = 280) → ¬ kiT q o → y.1 o 0 = x.1 o 0) : HOI y q := by
  refine ⟨hL, h9, fun e => absurd h10 e, fun o hO => ?_⟩
  have z0 : y.1 o 0 = 0 := by
    by_cases e : kiT q o
    · exact hz o e
    · rw [hf o hO e]; exact (h.2.2.2 o hO).2 e
  exact ⟨⟨TO_fm f (by unfold sCm; omega) (fun k => by unfold sCm; omega) (h.2.2.2 o hO).1.1, Or.inl z0⟩, fun _ => z0⟩
theorem HOI_th (h : HOI x q) : HOI x (kTh q) := h
theorem HOI_mk (hl : kle q q1) (hu1 : kU q1) (f : fm sNw x y) (h : HOI x q) : HOI y q1 := by
  obtain ⟨h1, h2, h3, h4⟩ := h
  have hc : agC x y := fun c k hc => f c k (by unfold sNw; omega)
  refine ⟨?_, fun h9 => ?_, fun h10 => ?_, fun o hO => ?_⟩
  · unfold kL at h1 ⊢; rw [f 20 1 (by unfold sNw; omega)]; exact h1
  · rw [f 0 9 (by unfold sNw; omega)] at h9; exact CO_fm (h2 h9) hc
  · rw [f 0 10 (by unfold sNw; omega)] at h10
    exact RUN_o hc (fun c k a b => f c k (by unfold sNw; omega)) (h3 h10)
  · have t := TRI_fm hO f hc (fun c k a b => by unfold sNw; omega) (h4 o hO).1
    refine ⟨⟨TO_le hu1 hl t.1, t.2⟩, fun hn => ?_⟩
    rw [f o 0 (by unfold sNw; omega)]
    exact (h4 o hO).2 (fun e => hn (kle_T hl e))
theorem HOI_ex (hl : kle q q1) (hu1 : kU q1) (ho : kiT q o) (f : fm (sEx o) x y) (hz : TZ y o) (ht : TO y q1 o) (hC : CO x) (h : HOI x q) : HOI y q1 := by
  obtain ⟨h1, h2, h3, h4⟩ := h
  have hO := iT_O ho
  have hc : agC x y := fun c k hc => f c k (by unfold sEx; omega)
  refine ⟨?_, fun h9 => CO_fm hC hc, fun h10 => ?_, fun p hp => ?_⟩
  · unfold kL at h1 ⊢; rw [f 20 1 (by unfold sEx; omega)]; exact h1
  · rw [f 0 10 (by unfold sEx; omega)] at h10
    exact RUN_o hc (fun c k a b => f c k (by unfold sEx; omega)) (h3 h10)
  · by_cases e : p = o
    · subst e
      exact ⟨⟨ht, Or.inr ⟨hz, CO_fm hC hc⟩⟩, fun hn => absurd (kle_T hl ho) hn⟩
    · obtain ⟨⟨t1, t2⟩, t3⟩ := h4 p hp
      have g0 : ∀ k, y.1 p k = x.1 p k := fun k => f p k (by unfold sEx; omega)
      have ff : fm (fun c k => ¬ (p ≤ c ∧ c ≤ p + 14)) x y := fun c k hk => f c k (by unfold sEx; omega)
      refine ⟨⟨TO_le hu1 hl (TO_fm ff (by omega) (fun k => by omega) t1), ?_⟩, fun hn => ?_⟩
      · rw [g0]
        rcases t2 with e2 | ⟨a, b⟩
        · exact Or.inl e2
        · exact Or.inr ⟨TZ_fm ff (by omega) (fun c k hc => by omega) a, CO_fm b hc⟩
      · rw [g0]; exact t3 (fun e3 => hn (kle_T hl e3))
theorem k7_T {n : Nat} (h : (kf q).1 7 n = some o) : kiT q o := by
  have h : kR q 7 n = some o := h
  unfold kR at h
  rw [if_neg (by omega), if_neg (by omega), if_pos rfl] at h
  by_cases e0 : n = 0
  · rw [if_pos e0] at h
    by_cases e : q.t0 = true
    · rw [if_pos e] at h; cases h; exact Or.inl ⟨rfl, e⟩
    · rw [if_neg e] at h; cases h
  · rw [if_neg e0] at h
    by_cases e1 : n = 1
    · rw [if_pos e1] at h
      by_cases e : q.t1 = true
      · rw [if_pos e] at h; cases h; exact Or.inr ⟨rfl, e⟩
      · rw [if_neg e] at h; cases h
    · rw [if_neg e1] at h; cases h
theorem k7_0 (h : (kf q).1 7 0 = none) : ¬ kiT q 260 := by
  intro e
  rcases e with ⟨-, e⟩ | ⟨e, -⟩
  · have h : (if q.t0 = true then some 260 else none) = (none : Option Nat) := h
    rw [if_pos e] at h; cases h
  · omega
theorem k7_1 (h : (kf q).1 7 1 = none) : ¬ kiT q 280 := by
  intro e
  rcases e with ⟨e, -⟩ | ⟨-, e⟩
  · omega
  · have h : (if q.t1 = true then some 280 else none) = (none : Option Nat) := h
    rw [if_pos e] at h; cases h
theorem kz_forget (hq : kV q) (h : ∀ y, fm sFo x y → y.1 0 9 = 0 → y.1 0 10 = 0 → (∀ o, kiT q o → y.1 o 0 = 0) → (∀ o, (o = 260 ∨ o = 280) → ¬ kiT q o → y.1 o 0 = x.1 o 0) → Fv y) : KT G q d zk_X11_forgetAll 0 [(0, vr 0)] [] x (rv Fv) := by
  have k2 : (2 : Int32).toInt = 2 := rfl
  have n0 : (0 : Int32).toNatClampNeg = 0 := rfl
  have n1 : (0 + 1 : Int32).toNatClampNeg = 1 := by decide
  have v0 : vp_in (0 : Int32) 2 := vin0 (by omega)
  have v1 : vp_in (0 + 1 : Int32) 2 := by rw [vp_in_iff]; decide
  refine kg_X11_forgetAll_0 hq (fun x1 e1 x2 e2 => ?_)
  have f2 : fm sFo x x2 := by rw [e2, e1]; exact fm_si (fm_si (fm_rf _ _) (by unfold sFo; omega)) (by unfold sFo; omega)
  have a9 : x2.1 0 9 = 0 := by rw [e2, si_get, if_neg (by omega), e1, si_get, if_pos ⟨rfl, rfl⟩]
  have a10 : x2.1 0 10 = 0 := by rw [e2, si_get, if_pos ⟨rfl, rfl⟩]
  have a26 : x2.1 260 0 = x.1 260 0 := by rw [e2, si_get, if_neg (by omega), e1, si_get, if_neg (by omega)]
  have a28 : x2.1 280 0 = x.1 280 0 := by rw [e2, si_get, if_neg (by omega), e1, si_get, if_neg (by omega)]
  have last : ∀ w : gd, fm sFo x w → w.1 0 9 = 0 → w.1 0 10 = 0 → (∀ o, kiT q o → w.1 o 0 = 0) → (∀ o, (o = 260 ∨ o = 280) → ¬ kiT q o → w.1 o 0 = x.1 o 0) → KT G q d zk_X11_forgetAll 12 [(0, vr 0), (1, vi (0 + 1 + 1))] [] w (rv Fv) := fun w a b c e g => kg_X11_forgetAll_12 hq _ ⟨fun _ => rv_i (h w a b c e g), fun c9 => absurd (by decide) c9⟩
  have second : ∀ w : gd, fm sFo x w → w.1 0 9 = 0 → w.1 0 10 = 0 → (kiT q 260 → w.1 260 0 = 0) → (¬ kiT q 260 → w.1 260 0 = x.1 260 0) → w.1 280 0 = x.1 280 0 → KT G q d zk_X11_forgetAll 12 [(0, vr 0), (1, vi (0 + 1))] [] w (rv Fv) := by
    intro w fw w9 w10 wT wF w8
    refine kg_X11_forgetAll_12 hq _ ⟨fun c9 => absurd c9 (by decide), fun _ => ⟨v1, fun u3 e3 => ?_⟩⟩
    rw [n1] at e3
    rw [n1]
    refine ⟨fun hn => last w fw w9 w10 (fun o ho => ?_) (fun o hO hno => ?_), fun c5 h5 => ⟨v1, fun u7 e7 => ⟨c5, by rw [e7, ← e3, h5], k7_T (by rw [← e3, h5]), fun x10 e10 => ?_⟩⟩⟩
    · rw [hn] at e3
      rcases iT_O ho with e | e
      · subst e; exact wT ho
      · subst e; exact absurd ho (k7_1 e3.symm)
    · rcases hO with e | e
      · subst e; exact wF hno
      · subst e; exact w8
    · have hc5 : c5 = 280 := by
        have : (if q.t1 = true then some 280 else none) = some c5 := by rw [← h5, e3]; rfl
        by_cases e : q.t1 = true
        · rw [if_pos e] at this; cases this; rfl
        · rw [if_neg e] at this; cases this
      subst hc5
      have g : ∀ c k, ¬ (c = 280 ∧ k = 0) → x10.1 c k = w.1 c k := fun c k hc => by rw [e10, si_get, if_neg hc]
      refine last x10 (fm_tr fw (by rw [e10]; exact fm_si (fm_rf _ _) (by unfold sFo; omega))) (by rw [g _ _ (by omega)]; exact w9) (by rw [g _ _ (by omega)]; exact w10) (fun o ho => ?_) (fun o hO hno => ?_)
      · rcases iT_O ho with e | e
        · subst e; rw [g _ _ (by omega)]; exact wT ho
        · subst e; rw [e10, si_get, if_pos ⟨rfl, rfl⟩]
      · rcases hO with e | e
        · subst e; rw [g _ _ (by omega)]; exact wF hno
        · subst e; exact absurd (k7_T (by rw [← e3, h5])) hno
  refine kg_X11_forgetAll_12 hq _ ⟨fun c9 => absurd c9 (by decide), fun _ => ⟨v0, fun u3 e3 => ?_⟩⟩
  rw [n0] at e3
  rw [n0]
  refine ⟨fun hn => second x2 f2 a9 a10 (fun ho => ?_) (fun _ => a26) a28, fun c5 h5 => ⟨v0, fun u7 e7 => ⟨c5, by rw [e7, ← e3, h5], k7_T (by rw [← e3, h5]), fun x10 e10 => ?_⟩⟩⟩
  · rw [hn] at e3; exact absurd ho (k7_0 e3.symm)
  · have hc5 : c5 = 260 := by
      have : (if q.t0 = true then some 260 else none) = some c5 := by rw [← h5, e3]; rfl
      by_cases e : q.t0 = true
      · rw [if_pos e] at this; cases this; rfl
      · rw [if_neg e] at this; cases this
    subst hc5
    have g : ∀ c k, ¬ (c = 260 ∧ k = 0) → x10.1 c k = x2.1 c k := fun c k hc => by rw [e10, si_get, if_neg hc]
    exact second x10 (fm_tr f2 (by rw [e10]; exact fm_si (fm_rf _ _) (by unfold sFo; omega))) (by rw [g _ _ (by omega)]; exact a9) (by rw [g _ _ (by omega)]; exact a10) (fun _ => by rw [e10, si_get, if_pos ⟨rfl, rfl⟩]) (fun hno => absurd (k7_T (by rw [← e3, h5])) hno) (by rw [g _ _ (by omega)]; exact a28)
theorem fo_cm {c k : Nat} (h : sFo c k) : sCm c k := by unfold sFo at h; unfold sCm; omega
/-! what is needed first -/
theorem kz_run (hq : kV q) (hH : HOI x q) (hS : X iSE x) (h : RUN x → Fv x) : KE G q (d + 6) zk_X11_needRun 0 [(0, vr 0)] [] x (rv Fv) X :=
  kg_X11_needRun_0 hq ⟨fun c => rv_i (h (hH.2.2.1 c)), fun _ => hS⟩
theorem kz_way (hq : kV q) (l : Int32) (hA : X iAE x) (h : (l = 0 ∨ l = 1) → Fv x) : KE G q (d + 6) zk_X11_needWay 0 [(0, vi l)] [] x (rv Fv) X := by
  refine kg_X11_needWay_0 hq l ⟨fun _ => kg_X11_needWay_9 hq hA, fun c => ⟨fun c2 => rv_i (h ?_), fun _ => kg_X11_needWay_9 hq hA⟩⟩
  have k0 : (0 : Int32).toInt = 0 := rfl
  have k1 : (1 : Int32).toInt = 1 := rfl
  have k2 : (2 : Int32).toInt = 2 := rfl
  rw [t_lt, k0] at c
  rw [t_lt, k2] at c2
  rw [t_eq, t_eq, k0, k1]; omega
theorem kz_ix (hq : kV q) (l n : Int32) (hO : X iOE x) (h : 0 ≤ l.toInt → l.toInt < n.toInt → Fv x) : KE G q (d + 6) zk_X11_needIndex 0 [(0, vi l), (1, vi n)] [] x (rv Fv) X := by
  refine kg_X11_needIndex_0 hq l n ⟨fun _ => kg_X11_needIndex_9 hq hO, fun c => ⟨fun c2 => rv_i (h ?_ ?_), fun _ => kg_X11_needIndex_9 hq hO⟩⟩
  · have k0 : (0 : Int32).toInt = 0 := rfl
    rw [t_lt, k0] at c; omega
  · rw [t_lt] at c2; exact c2
theorem kz_what (hq : kV q) (l n : Int32) (hO : X iOE x) (h : Fv x) : KE G q (d + 6) zk_X11_needWhat 0 [(0, vi l), (1, vi n)] [] x (rv Fv) X :=
  kg_X11_needWhat_0 hq l n ⟨fun _ => kg_X11_needWhat_9 hq hO, fun _ => ⟨fun _ => rv_i h, fun _ => kg_X11_needWhat_9 hq hO⟩⟩
theorem way_in {l : Int32} (hw : l = 0 ∨ l = 1) : vp_in l 2 := by
  rw [vp_in_iff]
  rcases hw with e | e <;> rw [e] <;> decide
theorem kz_was (hq : kV q) (hH : HOI x q) (l : Int32) (hw : l = 0 ∨ l = 1) (h0 : F 0 x) (h1 : ∀ o, (kf q).1 7 l.toNatClampNeg = some o → kiT q o → TZ x o → TO x q o → CO x → 0 < (x.1 o 0).toInt → F 1 x) : KT G q d zk_X11_wasTried 0 [(0, vr 0), (1, vi l)] [] x (ri F) := by
  have k0 : (0 : Int32).toInt = 0 := rfl
  have v := way_in hw
  refine kg_X11_wasTried_0 hq l ⟨v, fun u2 e2 => ⟨fun _ => ri_i h0, fun c4 h4 => ⟨v, fun u6 e6 => ⟨c4, by rw [e6, ← e2, h4], k7_T (by rw [← e2, h4]), fun _ => ri_i h0, fun c => ri_i ?_⟩⟩⟩⟩
  have ho : kiT q c4 := k7_T (by rw [← e2, h4])
  rw [t_le, k0] at c
  obtain ⟨⟨t1, t2⟩, -⟩ := hH.2.2.2 c4 (iT_O ho)
  rcases t2 with e | ⟨a, b⟩
  · rw [e, k0] at c; omega
  · exact h1 c4 (by rw [← e2, h4]) ho a t1 b (by omega)
end KHO
end
section
/-! the class: begin() -/
section KBF
variable {G : kG} {q : kP} {d : Nat} {x y : gd} {F : Int32 → gd → Prop} {Fv : gd → Prop} {X : String → gd → Prop} {C : gCo}
theorem kf_comp (hq : kV q) (hH : HOI x q) (hS : x.1 0 9 = 0 → X iSE x) (h : ¬ x.1 0 9 = 0 → CO x → Fv x) : KE G q (d + 6) zk_X11_needCompiled 0 [(0, vr 0)] [] x (rv Fv) X :=
  kg_X11_needCompiled_0 hq ⟨fun c => rv_i (h c (hH.2.1 c)), fun c => hS c⟩
theorem kf_way (hq : kV q) (l : Int32) (hA : ¬ (l = 0 ∨ l = 1) → X iAE x) (h : (l = 0 ∨ l = 1) → Fv x) : KE G q (d + 6) zk_X11_needWay 0 [(0, vi l)] [] x (rv Fv) X := by
  have k0 : (0 : Int32).toInt = 0 := rfl
  have k1 : (1 : Int32).toInt = 1 := rfl
  have k2 : (2 : Int32).toInt = 2 := rfl
  refine kg_X11_needWay_0 hq l ⟨fun c => kg_X11_needWay_9 hq (hA (fun z => ?_)), fun c => ⟨fun c2 => rv_i (h ?_), fun c2 => kg_X11_needWay_9 hq (hA (fun z => ?_))⟩⟩
  · rw [t_lt, k0] at c
    rcases z with z | z <;> rw [z] at c
    · rw [k0] at c; omega
    · rw [k1] at c; omega
  · rw [t_lt, k0] at c
    rw [t_lt, k2] at c2
    rw [t_eq, t_eq, k0, k1]
    omega
  · rw [t_lt, k2] at c2
    rcases z with z | z <;> rw [z] at c2
    · rw [k0] at c2; omega
    · rw [k1] at c2; omega
end KBF
end
