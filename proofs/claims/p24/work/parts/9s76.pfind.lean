section
/-! what a state shows; the class's looks at it -/
/-- a claim's sum -/
def evC (M : gMa) (Q : List gQ) : Option Int32 := wkQ (fun _ => 0) (fun c => M.1 c.toNatClampNeg) 0 Q
def badC (M : gMa) (Q : List gQ) : Prop := evC M Q = none ∨ evC M Q = some 0
/-- whether two accesses of one cell can be a race -/
def srM (a b : Nat) : Prop := ¬ (a = 0 ∧ b = 0) ∧ ¬ (2 ≤ a ∧ 2 ≤ b)
/-- a thread may access a cell that is not sure, and doesn't fail -/
def axM (C : gCo) (w : Nat) (M : gMa) (t : Nat) : Prop := canM C w M t ∧ soM C (M.2.2 t) ≤ 4 ∧ (lkM C w M t).1 = 0 ∧ suM C (lkM C w M t).2.1.toNatClampNeg = false
def rcM (C : gCo) (w : Nat) (M : gMa) : Prop := ∃ t u, u < t ∧ t < C.2.1.length ∧ axM C w M t ∧ axM C w M u ∧ (lkM C w M t).2.1 = (lkM C w M u).2.1 ∧ srM (soM C (M.2.2 t)) (soM C (M.2.2 u))
def goM (C : gCo) (M : gMa) : Prop := ∃ t, t < C.2.1.length ∧ (M.2.2 t).1 = 1
/-- the findings of a state -/
def fnM (C : gCo) (w : Nat) (M : gMa) (f : Nat) : Prop := (f < 4 ∧ ∃ Q, C.2.2.2.1[f]? = some Q ∧ badC M Q) ∨ (4 ≤ f ∧ f < 8 ∧ chM C w M = [] ∧ ¬ goM C M ∧ ∃ Q, C.2.2.2.2[f - 4]? = some Q ∧ badC M Q) ∨ (f = 8 ∧ chM C w M = [] ∧ goM C M) ∨ (f = 9 ∧ ∃ t, t < C.2.1.length ∧ (M.2.2 t).1 = 3) ∨ (f = 10 ∧ rcM C w M)
/-- what else claims are like -/
def NCq (C : gCo) : Prop := ∀ Q, Q ∈ C.2.2.2.1 ∨ Q ∈ C.2.2.2.2 → ∀ p ∈ Q, ¬ p.1 = 3 ∧ (p.1 = 4 → 0 ≤ p.2.2.toInt ∧ p.2.2.toInt < C.2.2.1.length)
section PFN
variable {G : kG} {q : kP} {d : Nat} {x y z : gd} {o : Nat} {F : Int32 → gd → Prop} {Fv : gd → Prop} {C : gCo} {M : gMa} {T w : Nat}
theorem kst0 (g : kTq x o C T (M.2.2 T)) {n : Nat} (hn : n ≤ 3) : rg x o T 0 = Int32.ofNat n ↔ (M.2.2 T).1 = n := by
  have s : ∀ a, a < 4 → ∀ b, b < 4 → ((Int32.ofNat a = Int32.ofNat b) ↔ a = b) := by decide +kernel
  rw [g.1.1]
  exact s _ (by have := g.1.2; omega) _ (by omega)
theorem kh_anyGoing (hq : kV q) (ho : kiM q o) (h : MM x o) (hK : CK x C) (g : KMm x o C M) (hF : ∀ r : Int32, (¬ r = 0 ↔ goM C M) → F r x) : KT G q (d + 2) zk_X5_anyGoing 0 [(0, vr o)] [] x (ri F) := by
  have t6 := h.1.1.2.2.1
  have nT : (x.1 60 10).toInt = C.2.1.length := hK.2.1.1
  have loop : ∀ (n k : Nat) (i : Int32), i.toInt = k → (x.1 60 10).toInt - k ≤ n → (∀ t, t < k → ¬ (M.2.2 t).1 = 1) → KT G q (d + 2) zk_X5_anyGoing 2 [(0, vr o), (1, vi i)] [] x (ri F) := by
    intro n
    have fin : ∀ (k : Nat) (i : Int32), i.toInt = k → (∀ t, t < k → ¬ (M.2.2 t).1 = 1) → x.1 60 10 ≤ i → ri F (some (vi 0)) x := fun k i ei hno c => ri_i (hF _ ⟨fun z => absurd rfl z, fun ⟨t, t1, t2⟩ => absurd t2 (hno t (by rw [t_le] at c; omega))⟩)
    induction n with
    | zero =>
      intro k i ei hn hno
      refine kg_X5_anyGoing_2 hq ho _ ⟨fun c => fin k i ei hno c, fun c => ?_⟩
      exfalso; rw [t_le] at c; omega
    | succ n ih =>
      intro k i ei hn hno
      refine kg_X5_anyGoing_2 hq ho _ ⟨fun c => fin k i ei hno c, fun c => ?_⟩
      rw [t_le] at c
      have hk : k < C.2.1.length := by omega
      have e1 : (i + 1).toInt = ((k + 1 : Nat) : Int) := by rw [t_add (by show _ ≤ _ + (1 : Int); omega) (by show _ + (1 : Int) ≤ _; omega), ei]; rfl
      refine kp_isGoing hq ho h.1 h.2.1 _ ei (by omega) (fun c1 => ⟨fun z => absurd z (by decide), fun _ => ri_i (hF _ ⟨fun _ => ⟨k, hk, (kst0 (g.2 k hk) (by omega)).mp c1⟩, fun _ => by decide⟩)⟩) (fun c1 => ⟨fun _ => ih (k + 1) _ e1 (by push_cast; omega) (fun t ht => ?_), fun z => absurd rfl z⟩)
      by_cases e : t = k
      · rw [e]; exact fun z => c1 ((kst0 (n := 1) (g.2 k hk) (by omega)).mpr z)
      · exact hno t (by omega)
  exact kg_X5_anyGoing_0 hq ho (loop 6 0 _ rfl (by omega) (fun t ht => absurd ht (Nat.not_lt_zero _)))
theorem kh_anyFailed (hq : kV q) (ho : kiM q o) (h : MM x o) (hK : CK x C) (g : KMm x o C M) (hF : ∀ r : Int32, (¬ r = 0 ↔ ∃ t, t < C.2.1.length ∧ (M.2.2 t).1 = 3) → F r x) : KT G q (d + 1) zk_X5_anyFailed 0 [(0, vr o)] [] x (ri F) := by
  have t6 := h.1.1.2.2.1
  have nT : (x.1 60 10).toInt = C.2.1.length := hK.2.1.1
  have loop : ∀ (n k : Nat) (i : Int32), i.toInt = k → (x.1 60 10).toInt - k ≤ n → (∀ t, t < k → ¬ (M.2.2 t).1 = 3) → KT G q (d + 1) zk_X5_anyFailed 2 [(0, vr o), (1, vi i)] [] x (ri F) := by
    intro n
    have fin : ∀ (k : Nat) (i : Int32), i.toInt = k → (∀ t, t < k → ¬ (M.2.2 t).1 = 3) → x.1 60 10 ≤ i → ri F (some (vi 0)) x := fun k i ei hno c => ri_i (hF _ ⟨fun z => absurd rfl z, fun ⟨t, t1, t2⟩ => absurd t2 (hno t (by rw [t_le] at c; omega))⟩)
    induction n with
    | zero =>
      intro k i ei hn hno
      refine kg_X5_anyFailed_2 hq ho _ ⟨fun c => fin k i ei hno c, fun c => ?_⟩
      exfalso; rw [t_le] at c; omega
    | succ n ih =>
      intro k i ei hn hno
      refine kg_X5_anyFailed_2 hq ho _ ⟨fun c => fin k i ei hno c, fun c => ?_⟩
      rw [t_le] at c
      have hk : k < C.2.1.length := by omega
      have e1 : (i + 1).toInt = ((k + 1 : Nat) : Int) := by rw [t_add (by show _ ≤ _ + (1 : Int); omega) (by show _ + (1 : Int) ≤ _; omega), ei]; rfl
      refine kp_get hq ho h.1 h.2.1 _ _ ei (show (0 : Int32).toInt = ((0 : Nat) : Int) from rfl) (by omega) (by omega) ⟨fun c1 => ih (k + 1) _ e1 (by push_cast; omega) (fun t ht => ?_), fun c1 => ri_i (hF _ ⟨fun _ => ⟨k, hk, (kst0 (n := 3) (g.2 k hk) (by omega)).mp c1⟩, fun _ => by decide⟩)⟩
      by_cases e : t = k
      · rw [e]; exact fun z => c1 ((kst0 (n := 3) (g.2 k hk) (by omega)).mpr z)
      · exact hno t (by omega)
  exact kg_X5_anyFailed_0 hq ho (loop 6 0 _ rfl (by omega) (fun t ht => absurd ht (Nat.not_lt_zero _)))
theorem kh_isFalse (hq : kV q) (he : q.ex = true) (hM : MM x 220) (hK : CK x C) (hN : NC C) (hq2 : NCq C) (g : KMm x 220 C M) (s : Int32) {Q : List gQ} (hS : SUk x s (Q.map cQ)) (hQ : Q ∈ C.2.2.2.1 ∨ Q ∈ C.2.2.2.2) (h : ∀ r y, gbool r → fm sWk x y → (¬ r = 0 ↔ badC M Q) → F r y) : KT G q (d + 2) zk_X2_isFalse 0 [(0, vr 200), (1, vi s)] [] x (ri F) := by
  have nC : (x.1 60 6).toInt = C.2.2.1.length := hK.2.2.1.1
  have c24 := hM.1.1.1
  obtain ⟨n1, n2⟩ := hN.2.2 Q hQ
  refine kg_X2_isFalse_0 hq he _ (kf_work hq kk_225 (kl_225 hq he) (by decide) _ _ _ (Q := Q) (lv := fun _ => 0) (cv := fun c => M.1 c.toNatClampNeg) hM.1.2.1.1.2 hS n1 (fun p hp => ?_) (fun r y fy hwk => ?_))
  · refine ⟨(n2 p hp).1, fun c => absurd c (n2 p hp).2, fun c => ?_⟩
    obtain ⟨c0, c1⟩ := (hq2 Q hQ p hp).2 c
    rw [Int32.zero_add]
    refine ⟨by rw [vp_in_iff]; omega, ?_⟩
    exact g.1.1 _ (by rw [t_cl]; omega)
  · have k1 : ¬ (1 : Int32) = 0 := by decide
    rcases hwk with ⟨v, hv, er, y5⟩ | ⟨hv, y5⟩
    · have hv : evC M Q = some v := hv
      refine ⟨fun r0 => ri_i (h _ y gbool_1 fy ⟨fun _ => Or.inr (by rw [hv, ← er, r0]), fun _ => k1⟩), fun rn => ⟨fun _ => ri_i (h _ y gbool_0 fy ⟨fun z => absurd rfl z, fun z => ?_⟩), fun c => absurd y5 c⟩⟩
      rcases z with z | z
      · rw [hv] at z; cases z
      · rw [hv] at z; exact absurd (er.trans (Option.some.inj z)) rn
    · have hv : evC M Q = none := hv
      have b : badC M Q := Or.inl hv
      refine ⟨fun r0 => ri_i (h _ y gbool_1 fy ⟨fun _ => b, fun _ => k1⟩), fun rn => ⟨fun c => ?_, fun _ => ri_i (h _ y gbool_1 fy ⟨fun _ => b, fun _ => k1⟩)⟩⟩
      rw [y5] at c; exact absurd c k1
theorem kh_sortsRace (hq : kV q) {a b : Nat} (ha : a < 22) (hb : b < 22) (h : ∀ r : Int32, (¬ r = 0 ↔ srM a b) → F r x) : KT G q d zk_X4_sortsRace 0 [(0, vi (Int32.ofNat a)), (1, vi (Int32.ofNat b))] [] x (ri F) := by
  have k2 : (2 : Int32).toInt = 2 := rfl
  have k1 : ¬ (1 : Int32) = 0 := by decide
  have ea : (Int32.ofNat a).toInt = (a : Nat) := Int32.toInt_ofNat_of_lt (by omega)
  have eb : (Int32.ofNat b).toInt = (b : Nat) := Int32.toInt_ofNat_of_lt (by omega)
  have z0 : ∀ n, n < 22 → (Int32.ofNat n = 0 ↔ n = 0) := by decide +kernel
  have p29 : ∀ s u : Int32, (¬ s = 0 ↔ a = 0 ∧ b = 0) → (¬ u = 0 ↔ 2 ≤ a ∧ 2 ≤ b) → KT G q d zk_X4_sortsRace 29 [(2, vi s)] [vi u] x (ri F) := fun s u hs hu => kg_X4_sortsRace_29 hq _ _ ⟨fun c => ri_i (h _ ⟨fun z => absurd rfl z, fun z => absurd (hs.mp c) z.1⟩), fun c => ⟨fun c2 => ri_i (h _ ⟨fun z => absurd rfl z, fun z => absurd (hu.mp c2) z.2⟩), fun c2 => ri_i (h _ ⟨fun _ => ⟨fun z => hs.mpr z c, fun z => hu.mpr z c2⟩, fun _ => k1⟩)⟩⟩
  have p13 : ∀ s : Int32, (¬ s = 0 ↔ a = 0 ∧ b = 0) → KT G q d zk_X4_sortsRace 13 [(0, vi (Int32.ofNat a)), (1, vi (Int32.ofNat b))] [vi s] x (ri F) := fun s hs => kg_X4_sortsRace_13 hq _ _ _ ⟨fun c => p29 _ _ hs ⟨fun z => absurd rfl z, fun z => by rw [t_lt, k2] at c; omega⟩, fun c => ⟨fun c2 => p29 _ _ hs ⟨fun z => absurd rfl z, fun z => by rw [t_lt, k2] at c2; omega⟩, fun c2 => p29 _ _ hs ⟨fun _ => by rw [t_lt, k2] at c c2; omega, fun _ => k1⟩⟩⟩
  exact kg_X4_sortsRace_0 hq _ _ ⟨fun c => p13 _ ⟨fun z => absurd rfl z, fun z => absurd ((z0 a ha).mpr z.1) c⟩, fun c => ⟨fun c2 => p13 _ ⟨fun z => absurd rfl z, fun z => absurd ((z0 b hb).mpr z.2) c2⟩, fun c2 => p13 _ ⟨fun _ => ⟨(z0 a ha).mp c, (z0 b hb).mp c2⟩, fun _ => k1⟩⟩⟩
/-- a row's cells are sure alike -/
theorem su_row (hX : NXc C) (hX3 : NX3 C) {st : gNs} (s1 : C.1[(M.2.2 T).2.2.1]? = some st) (s2 : stN C (M.2.2 T).2.2.1 = st) (o4 : st.1 ≤ 4) (c24 : C.2.2.1.length ≤ 24) (l0 : (lkI C M T).1 = 0) : suM C (lkI C M T).2.toNatClampNeg = suM C st.2.2.2.2.1.toNatClampNeg := by
  obtain ⟨x1, x2, x3, -, x5, x6⟩ := hX _ st s1
  cases hix : st.2.2.2.2.2.2.2.1 with
  | none => rw [lkI_n (by rw [s2]; exact hix), s2]
  | some Q =>
    have hix' : (stN C (M.2.2 T).2.2.1).2.2.2.2.2.2.2.1 = some Q := by rw [s2]; exact hix
    cases hwk : wkQ (M.2.2 T).2.2.2.2.2.2.2 (fun _ => 0) (Int32.ofNat T) Q with
    | none => rw [lkI_1 hix' hwk] at l0; exact absurd l0 (by decide)
    | some v =>
      by_cases cv : v < 0 ∨ (stN C (M.2.2 T).2.2.1).2.2.2.2.2.1 ≤ v
      · rw [lkI_2 hix' hwk cv] at l0; exact absurd l0 (by decide)
      · rw [lkI_0 hix' hwk cv, s2]
        rw [s2] at cv
        have v0 : 0 ≤ v.toInt := by
          have : ¬ v < 0 := fun z => cv (Or.inl z)
          rw [t_lt] at this
          have k0 : (0 : Int32).toInt = 0 := rfl
          omega
        have v1 : v.toInt < st.2.2.2.2.2.1.toInt := by
          have : ¬ st.2.2.2.2.2.1 ≤ v := fun z => cv (Or.inr z)
          rw [t_le] at this
          omega
        obtain ⟨z1, z2, z3⟩ := x6 o4
        have z3 := z3 (by rw [hix]; exact fun z => nomatch z)
        have e5 : (st.2.2.2.2.1 + v).toInt = st.2.2.2.2.1.toInt + v.toInt := t_add (by omega) (by omega)
        have := hX3 _ st s1 o4 (by rw [hix]; exact fun z => nomatch z) v.toInt.toNat (by omega)
        rw [← this]
        show suM C (st.2.2.2.2.1 + v).toNatClampNeg = _
        congr 1
        rw [t_cl, t_cl]
        omega
end PFN
end
section
/-! the class: whether an access fails; what a thread may access -/
section KFL
variable {G : kG} {q : kP} {d : Nat} {x y z : gd} {o : Nat} {F : Int32 → gd → Prop} {Fv : gd → Prop} {C : gCo} {M : gMa} {T w : Nat}
theorem kh_accessFails (hq : kV q) (ho : kiM q o) (hM : MM x o) (hK : CK x C) (hN : NC C) (hX : NXc C) (hX3 : NX3 C) (g : KMm x o C M) (wy : x.1 o 3 = Int32.ofNat w) (w01 : w = 0 ∨ w = 1) (t : Int32) (et : t.toInt = T) (hT : T < C.2.1.length) (h1 : (M.2.2 T).1 = 1) (hw0 : (M.2.2 T).2.2.2.1 = 0) (o4 : (stN C (M.2.2 T).2.2.1).1 ≤ 4) (hF : ∀ r y, fm (sLk o) x y → (¬ r = 0 ↔ ¬ (lkM C w M T).1 = 0) → F r y) : KT G q (d + 3) zk_X5_accessFails 0 [(0, vr o), (1, vi t)] [] x (ri F) := by
  have hO := kiM_O ho
  have nT : (x.1 60 10).toInt = C.2.1.length := hK.2.1.1
  have nC : (x.1 60 6).toInt = C.2.2.1.length := hK.2.2.1.1
  have hT6 := MM_6 hM.1 (t := T) (by omega)
  have hA := (hM.2.2 T (by omega)).1
  have c24 := hM.1.1.1
  have k8 : (8 : Int32).toInt = 8 := rfl
  have k1 : ¬ (1 : Int32) = 0 := by decide
  have gT := g.2 T hT
  obtain ⟨st, s1, s2, s3, s4, s5, kn, ns⟩ := kst_at hM hK hN hT gT
  obtain ⟨vs, eN, -⟩ := MM_st hM.1 hA
  rw [s3] at eN
  have o4' := o4
  rw [s2] at o4
  have hml := gT.2.2.2.2.2.2.2.2 (Or.inl h1)
  rw [s2] at hml
  have es2 : (rg x o T 2).toInt = ((M.2.2 T).2.2.1 : Nat) := gT.2.2.1
  have sW : ∀ {y z : gd}, fm sWk y z → fm (sLk o) y z := fun f => fm_w f (fun c k q => by unfold sWk at q; unfold sLk; omega)
  have ag : ∀ y, fm (sLk o) x y → MM y o ∧ CK y C ∧ KMm y o C M ∧ y.1 o 3 = Int32.ofNat w ∧ y.1 60 13 = x.1 60 13 := fun y fy => ⟨MM_Lk hO fy hM, CK_f hK (fun c k hc => fy c k (by unfold sLk; omega)), KMm_Lk hO hM hK fy g, by rw [fy o 3 (by unfold sLk; omega)]; exact wy, fy _ _ (by unfold sLk; omega)⟩
  have p122 : ∀ (y : gd) (e f : Int32), fm (sLk o) x y → (lkI C M T).1 = 0 → evO (M.2.2 T).2.2.2.2.2.2.2 (Int32.ofNat T) st.2.2.2.2.2.2.2.2.1 = some e → evO (M.2.2 T).2.2.2.2.2.2.2 (Int32.ofNat T) st.2.2.2.2.2.2.2.2.2 = some f → KT G q (d + 3) zk_X5_accessFails 122 [(0, vr o), (1, vi t), (2, vi (rg x o T 2))] [] y (ri F) := by
    intro y e f fy l0 e1 e2
    obtain ⟨hy, hKy, gy, wyy, -⟩ := ag y fy
    have ll := lkM_3 (w := w) hw0 l0 (by rw [s2]; exact e1) (by rw [s2]; exact e2)
    have lk : (lkM C w M T).1 = rsF C w M T st.1 (lkI C M T).2.toNatClampNeg := by rw [ll, s2]
    have su := su_row hX hX3 s1 s2 o4 (by omega) l0
    refine kg_X5_accessFails_122 hq ho _ _ (kh_goesLate hq ho hy hKy hN wyy w01 _ es2 s1 (fun r hr => ⟨fun r0 => ri_i (hF _ y fy ⟨fun z => absurd rfl z, fun z => ?_⟩), fun rn => ?_⟩))
    · rw [lk] at z
      by_cases c1 : st.1 = 1
      · rw [c1, rsF_1, su] at z
        by_cases c2 : w = 1 ∧ suM C st.2.2.2.2.1.toNatClampNeg = false ∧ 8 ≤ (M.2.2 T).2.2.2.2.2.2.1.length
        · exact absurd r0 (hr.mpr ⟨c2.1, c1, c2.2.1⟩)
        · rw [if_neg c2] at z; exact absurd rfl z
      · rw [rsF_a o4 c1] at z; exact absurd rfl z
    · obtain ⟨r1, r2, r3⟩ := hr.mp rn
      have l7 : (rg y o T 7).toInt = ((M.2.2 T).2.2.2.2.2.2.1.length : Nat) := (gy.2 T hT).2.2.2.2.2.2.1.1
      rw [r2, rsF_1, su] at lk
      refine kp_get hq ho hy.1 hy.2.1 _ _ et (show (7 : Int32).toInt = ((7 : Nat) : Int) from rfl) hT6 (by omega) ⟨fun c => ri_i (hF _ y fy ⟨fun z => absurd rfl z, fun z => ?_⟩), fun c => ri_i (hF _ y fy ⟨fun _ => ?_, fun _ => k1⟩)⟩
      · rw [lk, if_neg (fun z => by rw [t_lt, k8] at c; omega)] at z
        exact absurd rfl z
      · rw [lk, if_pos ⟨r1, r3, by rw [t_lt, k8] at c; omega⟩]
        decide
  have p70 : ∀ (y : gd) (e : Int32), fm (sLk o) x y → (lkI C M T).1 = 0 → evO (M.2.2 T).2.2.2.2.2.2.2 (Int32.ofNat T) st.2.2.2.2.2.2.2.2.1 = some e → KT G q (d + 3) zk_X5_accessFails 70 [(0, vr o), (1, vi t), (2, vi (rg x o T 2))] [] y (ri F) := by
    intro y e fy l0 e1
    obtain ⟨hy, hKy, gy, wyy, y13⟩ := ag y fy
    have k89 := kn.2.2.2.2.2.2.2.2
    refine kg_X5_accessFails_70 hq ho _ _ ⟨vs, ?_⟩
    rw [eN, fy 89 _ (by unfold sLk; omega)]
    cases hz : st.2.2.2.2.2.2.2.2.2 with
    | none =>
      rw [hz] at k89
      refine ⟨fun _ => p122 y e 0 fy l0 e1 (by rw [hz]; rfl), fun c => absurd k89 c⟩
    | some Q =>
      rw [hz] at k89
      have k89 : SUk x (x.1 89 (M.2.2 T).2.2.1) (Q.map cQ) := k89
      obtain ⟨q1, q2⟩ := ns.2.2.2.2.2.2.2.2.2.1 Q hz
      refine ⟨fun c => ?_, fun _ => ⟨vs, kh_ev hq ho hy hKy hT (gy.2 T hT) _ _ et (SUk_f k89 (fun c k hc => fy c k (by unfold sLk; omega))) q1 q2 (by rw [y13]; exact hml) (fun r z fz hwk => ?_)⟩⟩
      · have := k89.1
        rw [c, tm1] at this
        omega
      · have fz' := fm_tr fy (sW fz)
        rcases hwk with ⟨v, hv, er, y5⟩ | ⟨hv, y5⟩
        · exact ⟨fun _ => p122 z e v fz' l0 e1 (by rw [hz]; exact hv), fun c => absurd y5 c⟩
        · have ll := lkM_2 (w := w) hw0 l0 (by rw [s2]; exact e1) (by rw [s2, hz]; exact hv)
          refine ⟨fun c => ?_, fun _ => ri_i (hF _ z fz' ⟨fun _ => by rw [ll]; show ¬ 1 = 0; decide, fun _ => k1⟩)⟩
          rw [y5] at c; exact absurd c k1
  refine kg_X5_accessFails_0 hq ho _ (kp_get hq ho hM.1 hM.2.1 _ _ et (show (2 : Int32).toInt = ((2 : Nat) : Int) from rfl) hT6 (by omega) (kh_placeOf hq ho hM hK hN g _ et hT h1 o4' (fun r y fy hr => ?_)))
  obtain ⟨hy, hKy, gy, wyy, y13⟩ := ag y fy
  rcases hr with ⟨l0, lc, lc0, lc1⟩ | ⟨ln, lc, l14⟩
  · refine ⟨fun _ => ⟨vs, ?_⟩, fun c => by rw [c, tm1] at lc0; omega⟩
    have k88 := kn.2.2.2.2.2.2.2.1
    rw [eN, fy 88 _ (by unfold sLk; omega)]
    cases hz : st.2.2.2.2.2.2.2.2.1 with
    | none =>
      rw [hz] at k88
      refine ⟨fun _ => p70 y 0 fy l0 (by rw [hz]; rfl), fun c => absurd k88 c⟩
    | some Q =>
      rw [hz] at k88
      have k88 : SUk x (x.1 88 (M.2.2 T).2.2.1) (Q.map cQ) := k88
      obtain ⟨q1, q2⟩ := ns.2.2.2.2.2.2.2.2.1 Q hz
      refine ⟨fun c => ?_, fun _ => ⟨vs, kh_ev hq ho hy hKy hT (gy.2 T hT) _ _ et (SUk_f k88 (fun c k hc => fy c k (by unfold sLk; omega))) q1 q2 (by rw [y13]; exact hml) (fun r z fz hwk => ?_)⟩⟩
      · have := k88.1
        rw [c, tm1] at this
        omega
      · have fz' := fm_tr fy (sW fz)
        rcases hwk with ⟨v, hv, er, y5⟩ | ⟨hv, y5⟩
        · exact ⟨fun _ => p70 z v fz' l0 (by rw [hz]; exact hv), fun c => absurd y5 c⟩
        · have ll := lkM_1 (w := w) hw0 l0 (by rw [s2, hz]; exact hv)
          refine ⟨fun c => ?_, fun _ => ri_i (hF _ z fz' ⟨fun _ => by rw [ll]; show ¬ 1 = 0; decide, fun _ => k1⟩)⟩
          rw [y5] at c; exact absurd c k1
  · refine ⟨fun c => absurd lc c, fun _ => ri_i (hF _ y fy ⟨fun _ => ?_, fun _ => k1⟩)⟩
    rw [lkM_i (w := w) hw0 ln]; exact ln
/-- the cell of a going thread's next act, if it is an access -/
theorem kh_objectOf (hq : kV q) (ho : kiM q o) (hM : MM x o) (hK : CK x C) (hN : NC C) (g : KMm x o C M) (t : Int32) (et : t.toInt = T) (hT : T < C.2.1.length) (h1 : (M.2.2 T).1 = 1) (hF : ∀ r y, fm (sLk o) x y → (soM C (M.2.2 T) ≤ 4 → ((lkI C M T).1 = 0 ∧ r = (lkI C M T).2 ∧ 0 ≤ r.toInt ∧ r.toInt < (x.1 60 6).toInt) ∨ (¬ (lkI C M T).1 = 0 ∧ r = -1)) → (¬ soM C (M.2.2 T) ≤ 4 → r = (stN C (M.2.2 T).2.2.1).2.2.2.2.1 ∨ (stN C (M.2.2 T).2.2.1).1 = 16) → F r y) : KT G q (d + 3) zk_X5_objectOf 0 [(0, vr o), (1, vi t)] [] x (ri F) := by
  have nT : (x.1 60 10).toInt = C.2.1.length := hK.2.1.1
  have hT6 := MM_6 hM.1 (t := T) (by omega)
  have hA := (hM.2.2 T (by omega)).1
  have k4 : (4 : Int32).toInt = 4 := rfl
  have gT := g.2 T hT
  obtain ⟨st, s1, s2, s3, s4, s5, kn, ns⟩ := kst_at hM hK hN hT gT
  obtain ⟨vs, eN, -⟩ := MM_st hM.1 hA
  rw [s3] at eN
  have e81 : (x.1 81 (rg x o T 2).toInt.toNat).toInt = (st.1 : Nat) := by rw [s3]; exact s5
  have w3 : rg x o T 3 = 0 ↔ (M.2.2 T).2.2.2.1 = 0 := kst_w3 hM hK hN hT gT
  have pg : ¬ soM C (M.2.2 T) ≤ 4 → KT G q (d + 2) zk_X5_get 0 [(0, vr o), (1, vi t), (2, vi 2)] [] x (ri (fun r5 x4 => vp_in r5 400 ∧ ri F (some (vi (x4.1 85 (r5 : Int32).toNatClampNeg))) x4)) := fun hn => kp_get hq ho hM.1 hM.2.1 _ _ et (show (2 : Int32).toInt = ((2 : Nat) : Int) from rfl) hT6 (by omega) ⟨vs, ri_i (hF _ x (fm_rf _ _) (fun c => absurd c hn) (fun _ => by
    rw [eN, s2]
    by_cases c16 : st.1 = 16
    · exact Or.inr c16
    · exact Or.inl (kn.2.2.2.2.1 c16)))⟩
  refine kg_X5_objectOf_0 hq ho _ (kp_sortOf hq ho hM.1 hM.2.1 _ et hT6 hA (fun c3 => ⟨fun c4 => pg ?_, fun c4 => ?_⟩) (fun c3 => ⟨fun _ => pg ?_, fun c => absurd (by decide) c⟩))
  · rw [t_lt, k4] at c4
    unfold soM; rw [if_pos (w3.mp c3), s2]; omega
  · rw [t_lt, k4] at c4
    have so : soM C (M.2.2 T) = st.1 := by unfold soM; rw [if_pos (w3.mp c3), s2]
    refine kh_placeOf hq ho hM hK hN g _ et hT h1 (by rw [s2]; omega) (fun r y fy hr => ri_i (hF r y fy (fun _ => hr.imp id (fun z => ⟨z.1, z.2.1⟩)) (fun c => ?_)))
    rw [so] at c; omega
  · unfold soM; rw [if_neg (fun z => c3 (w3.mpr z))]; omega
end KFL
end
section
/-! what a trying tells of all its states: ends, idle ones, choices, locks held, outcomes -/
/-- the locks that a thread holds, of the first n -/
def hdN (M : gMa) (t : Nat) : Nat → Int32
  | 0 => 0
  | n + 1 => if (M.2.1 n).1 = t + 1 then hdN M t n ||| ((1 : Int32) <<< (Int32.ofNat n &&& 31)) else hdN M t n
/-- a thread's access narrows what is held at a cell -/
def caT (C : gCo) (w nl : Nat) (M : gMa) (t c : Nat) (v : Int32) : Int32 := if canM C w M t ∧ soM C (M.2.2 t) ≤ 4 ∧ (lkI C M t).1 = 0 ∧ (lkI C M t).2.toNatClampNeg = c then v &&& hdN M t nl else v
/-- a thread's take comes behind the locks that it holds -/
def tkT (C : gCo) (w nl : Nat) (M : gMa) (t a : Nat) (v : Int32) : Int32 := if canM C w M t ∧ soM C (M.2.2 t) = 5 ∧ ¬ a = obM C (M.2.2 t).2.2.1 ∧ (hdN M t nl >>> (Int32.ofNat a &&& 31)) &&& 1 = 1 then v ||| ((1 : Int32) <<< (Int32.ofNat (obM C (M.2.2 t).2.2.1) &&& 31)) else v
def cmT (C : gCo) (w nl : Nat) (M : gMa) (c : Nat) : Nat → Int32 → Int32
  | 0, v => v
  | t + 1, v => caT C w nl M t c (cmT C w nl M c t v)
def cbT (C : gCo) (w nl : Nat) (M : gMa) (a : Nat) : Nat → Int32 → Int32
  | 0, v => v
  | t + 1, v => tkT C w nl M t a (cbT C w nl M a t v)
/-- some thread goes and can do nothing -/
def idM (C : gCo) (w : Nat) (M : gMa) : Prop := ∃ t, t < C.2.1.length ∧ (M.2.2 t).1 = 1 ∧ ¬ canM C w M t
/-- rows of values: the first that differs decides -/
def ltR : List Int32 → List Int32 → Bool
  | a :: r, b :: s => if a = b then ltR r s else decide (a < b)
  | _, _ => false
def inR (r : List Int32) : List (List Int32) → List (List Int32)
  | [] => [r]
  | s :: L => if s = r then s :: L else if ltR r s = true then r :: s :: L else s :: inR r L
def roM (C : gCo) (M : gMa) : List Int32 := (List.range C.2.2.1.length).map M.1
abbrev gLo := Nat × Nat × Nat × (Nat → Int32) × (Nat → Int32) × List (List Int32)
noncomputable def loM (C : gCo) (w nl : Nat) (M : gMa) (l : gLo) : gLo := (l.1 + (if chM C w M = [] then 1 else 0), l.2.1 + (@ite Nat (idM C w M) (Classical.propDecidable _) 1 0), l.2.2.1 + (chM C w M).length, fun c => cmT C w nl M c C.2.1.length (l.2.2.2.1 c), fun a => cbT C w nl M a C.2.1.length (l.2.2.2.2.1 a), if chM C w M = [] then inR (roM C M) l.2.2.2.2.2 else l.2.2.2.2.2)
def lo0 (nl : Nat) : gLo := (0, 0, 0, fun _ => ((1 : Int32) <<< (Int32.ofNat nl &&& 31)) - 1, fun _ => 0, [])
noncomputable def loS (C : gCo) (w nl : Nat) (T : gTy) : Nat → gLo
  | 0 => lo0 nl
  | k + 1 => match T.1[k]? with
    | some p => loM C w nl p.1 (loS C w nl T k)
    | none => loS C w nl T k
section PLO
variable {C : gCo} {M : gMa} {w nl k : Nat} {T T' : gTy} {r s u : List Int32} {L : List (List Int32)}
theorem loS_go {p : gMa × Nat × Nat} (h : T.1[k]? = some p) : loS C w nl T (k + 1) = loM C w nl p.1 (loS C w nl T k) := by
  rw [loS, h]
theorem loS_T : ∀ {k : Nat}, (∀ s, s < k → T'.1[s]? = T.1[s]?) → loS C w nl T' k = loS C w nl T k := by
  intro k
  induction k with
  | zero => intro _; rfl
  | succ k ih =>
    intro h
    rw [loS, loS, h k (by omega), ih (fun s hs => h s (by omega))]
theorem ltR_irr : ∀ r : List Int32, ltR r r = false := by
  intro r
  induction r with
  | nil => rfl
  | cons a r ih => rw [ltR, if_pos rfl]; exact ih
theorem ltR_tr : ∀ {r s u : List Int32}, ltR r s = true → ltR s u = true → ltR r u = true := by
  intro r
  induction r with
  | nil => intro s u h; cases s <;> exact absurd h (by simp [ltR])
  | cons a r ih =>
    intro s u h1 h2
    cases s with
    | nil => exact absurd h1 (by simp [ltR])
    | cons b s =>
      cases u with
      | nil => exact absurd h2 (by simp [ltR])
      | cons c u =>
        rw [ltR] at h1 h2 ⊢
        by_cases e1 : a = b
        · by_cases e2 : b = c
          · rw [if_pos e1] at h1
            rw [if_pos e2] at h2
            rw [if_pos (e1.trans e2)]
            exact ih h1 h2
          · rw [if_neg e2] at h2
            rw [e1, if_neg e2]; exact h2
        · rw [if_neg e1] at h1
          have h1 := of_decide_eq_true h1
          by_cases e2 : b = c
          · rw [← e2, if_neg e1]; exact decide_eq_true h1
          · rw [if_neg e2] at h2
            have h2 := of_decide_eq_true h2
            rw [t_lt] at h1 h2
            rw [if_neg (fun z => by rw [z] at h1; omega)]
            exact decide_eq_true (by rw [t_lt]; omega)
/-- one goes before the other, where they are as long and differ -/
theorem ltR_tot : ∀ {r s : List Int32}, r.length = s.length → ¬ r = s → ltR r s = true ∨ ltR s r = true := by
  intro r
  induction r with
  | nil => intro s h n; cases s with
    | nil => exact absurd rfl n
    | cons b s => cases h
  | cons a r ih =>
    intro s h n
    cases s with
    | nil => cases h
    | cons b s =>
      rw [ltR, ltR]
      by_cases e : a = b
      · rw [if_pos e, if_pos e.symm]
        exact ih (Nat.succ.inj h) (fun z => n (by rw [e, z]))
      · rw [if_neg e, if_neg (fun z => e z.symm)]
        have e' : ¬ a.toInt = b.toInt := fun z => e (t_eq.mpr z)
        rcases Int.lt_or_gt_of_ne e' with z | z
        · exact Or.inl (decide_eq_true (t_lt.mpr z))
        · exact Or.inr (decide_eq_true (t_lt.mpr z))
/-- rows in order, none twice -/
def soR (L : List (List Int32)) : Prop := L.Pairwise (fun r s => ltR r s = true)
theorem inR_mem (h : soR L) (m : r ∈ L) : inR r L = L := by
  induction L with
  | nil => cases m
  | cons s L ih =>
    rw [inR]
    by_cases e : s = r
    · rw [if_pos e]
    · rw [if_neg e]
      have m : r ∈ L := (List.mem_cons.mp m).resolve_left (fun z => e z.symm)
      have := (List.pairwise_cons.mp h).1 r m
      rw [if_neg (fun z => by have := ltR_tr this z; rw [ltR_irr] at this; cases this), ih (List.pairwise_cons.mp h).2 m]
theorem inR_at : ∀ {L : List (List Int32)} {k : Nat}, k ≤ L.length → (∀ i s, i < k → L[i]? = some s → ltR s r = true) → (∀ i s, k ≤ i → L[i]? = some s → ltR r s = true) → inR r L = L.take k ++ r :: L.drop k := by
  intro L
  induction L with
  | nil => intro k hk _ _; rw [show k = 0 by simpa using hk]; rfl
  | cons s L ih =>
    intro k hk h1 h2
    have ns : ∀ z : List Int32, ltR z r = true → ¬ z = r := fun z hz e => by rw [e, ltR_irr] at hz; cases hz
    have ns' : ∀ z : List Int32, ltR r z = true → ¬ z = r := fun z hz e => by rw [e, ltR_irr] at hz; cases hz
    rw [inR]
    cases k with
    | zero =>
      have := h2 0 s (Nat.le_refl _) rfl
      rw [if_neg (ns' s this), if_pos this]; rfl
    | succ k =>
      have := h1 0 s (Nat.succ_pos _) rfl
      rw [if_neg (ns s this), if_neg (fun z => by have := ltR_tr this z; rw [ltR_irr] at this; cases this), ih (k := k) (Nat.le_of_succ_le_succ hk) (fun i s hi hs => h1 (i + 1) s (by omega) hs) (fun i s hi hs => h2 (i + 1) s (by omega) hs)]
      rfl
theorem inR_in {t : List Int32} : t ∈ inR r L ↔ t = r ∨ t ∈ L := by
  induction L with
  | nil => rw [inR]; exact List.mem_cons
  | cons s L ih =>
    rw [inR]
    by_cases e : s = r
    · rw [if_pos e]
      refine ⟨Or.inr, fun z => z.elim (fun z => ?_) id⟩
      rw [z, e]; exact List.mem_cons_self ..
    · rw [if_neg e]
      by_cases c : ltR r s = true
      · rw [if_pos c]; exact List.mem_cons
      · rw [if_neg c, List.mem_cons, ih, List.mem_cons]
        constructor
        · rintro (z | z | z)
          · exact Or.inr (Or.inl z)
          · exact Or.inl z
          · exact Or.inr (Or.inr z)
        · rintro (z | z | z)
          · exact Or.inr (Or.inl z)
          · exact Or.inl z
          · exact Or.inr (Or.inr z)
theorem inR_so (hl : ∀ s ∈ L, s.length = r.length) (h : soR L) : soR (inR r L) := by
  induction L with
  | nil => rw [inR]; exact List.pairwise_singleton ..
  | cons s L ih =>
    have h1 := List.pairwise_cons.mp h
    rw [inR]
    by_cases e : s = r
    · rw [if_pos e]; exact h
    · rw [if_neg e]
      by_cases c : ltR r s = true
      · rw [if_pos c]
        refine List.pairwise_cons.mpr ⟨fun t ht => ?_, h⟩
        rcases List.mem_cons.mp ht with z | z
        · rw [z]; exact c
        · exact ltR_tr c (h1.1 t z)
      · rw [if_neg c]
        refine List.pairwise_cons.mpr ⟨fun t ht => ?_, ih (fun s hs => hl s (List.mem_cons_of_mem _ hs)) h1.2⟩
        rcases inR_in.mp ht with z | z
        · rw [z]
          exact (ltR_tot (hl s (List.mem_cons_self ..)) e).resolve_right c
        · exact h1.1 t z
theorem inR_len (h : ∀ s ∈ L, s.length = k) (hr : r.length = k) : ∀ s ∈ inR r L, s.length = k := fun s hs => by
  rcases inR_in.mp hs with z | z
  · rw [z]; exact hr
  · exact h s z
/-- outcomes of any of the first states: in order, as long as there are cells -/
theorem loS_so : ∀ k, soR (loS C w nl T k).2.2.2.2.2 ∧ ∀ r ∈ (loS C w nl T k).2.2.2.2.2, r.length = C.2.2.1.length := by
  intro k
  induction k with
  | zero => exact ⟨List.Pairwise.nil, fun r hr => by cases hr⟩
  | succ k ih =>
    rw [loS]
    cases T.1[k]? with
    | none => exact ih
    | some p =>
      show soR (if _ then _ else _) ∧ _
      have el : (roM C p.1).length = C.2.2.1.length := by unfold roM; rw [List.length_map, List.length_range]
      by_cases c : chM C w p.1 = []
      · show soR (if chM C w p.1 = [] then inR (roM C p.1) _ else _) ∧ ∀ r ∈ (if chM C w p.1 = [] then inR (roM C p.1) _ else _), _
        rw [if_pos c]
        exact ⟨inR_so (fun s hs => by rw [ih.2 s hs, el]) ih.1, inR_len ih.2 el⟩
      · show soR (if chM C w p.1 = [] then inR (roM C p.1) _ else _) ∧ ∀ r ∈ (if chM C w p.1 = [] then inR (roM C p.1) _ else _), _
        rw [if_neg c]
        exact ih
theorem inR_n (L : List (List Int32)) : (inR r L).length ≤ L.length + 1 := by
  induction L with
  | nil => exact Nat.le_refl _
  | cons s L ih =>
    rw [inR]
    split
    · exact Nat.le_succ _
    · split
      · exact Nat.le_refl _
      · show (inR r L).length + 1 ≤ _
        exact Nat.succ_le_succ ih
end PLO
end
section
/-! the class: locks held, takes noted, outcomes kept in order -/
def orw (o i : Nat) : Nat := if o = 260 then 4000 + i else 7000 + i
/-- the outcomes that are kept, in order -/
def OUk (x : gd) (o : Nat) (L : List (List Int32)) : Prop := (x.1 o 3).toInt = (L.length : Nat) ∧ ∀ i r, L[i]? = some r → ∀ c v, r[c]? = some v → x.1 (orw o (x.1 (o + 14) i).toInt.toNat) c = v
section KOU
variable {G : kG} {q q1 : kP} {d : Nat} {x x0 y z : gd} {o : Nat} {F : Int32 → gd → Prop} {Fv : gd → Prop} {Fm : gd → kP → Prop} {X : String → gd → kP → Prop} {C : gCo} {M : gMa} {T w nl : Nat} {L : List (List Int32)} {r s : List Int32}
theorem orw_ge (i : Nat) : 4000 ≤ orw o i := by unfold orw; split <;> omega
theorem orw_ne {i j : Nat} (h : ¬ i = j) : ¬ orw o i = orw o j := by unfold orw; split <;> omega
theorem tr_row2 {i : Nat} (hq : kV q) (ho : kiT q o) (hi : i < oN q o) : (kf q).1 (o + 13) i = some (orw o i) ∧ kK (orw o i) = .inr (.int, 24) ∧ orw o i ∈ (kf q).2.1 := by
  rcases ho with ⟨rfl, h⟩ | ⟨rfl, h⟩
  · have hi : i < q.o0 := hi
    refine ⟨?_, ?_, hq.2.2.2.2.2.2.1 i hi⟩
    · show kR q 273 i = _
      unfold kR
      rw [if_neg (by omega), if_neg (by omega), if_neg (by omega), if_neg (by omega), if_neg (by omega), if_pos rfl, if_pos hi]
      rfl
    · show kK (4000 + i) = _
      unfold kK; rw [if_neg (by omega), if_neg (by omega), if_neg (by omega)]
  · have hi : i < q.o1 := hi
    refine ⟨?_, ?_, hq.2.2.2.2.2.2.2 i hi⟩
    · show kR q 293 i = _
      unfold kR
      rw [if_neg (by omega), if_neg (by omega), if_neg (by omega), if_neg (by omega), if_neg (by omega), if_neg (by omega), if_pos rfl, if_pos hi]
      rfl
    · show kK (7000 + i) = _
      unfold kK; rw [if_neg (by omega), if_neg (by omega), if_neg (by omega)]
theorem kh_heldBy (hq : kV q) (ho : kiM q o) (hM : MM x o) (g : KMm x o C M) (en : (x.1 60 9).toInt = (nl : Nat)) (t : Int32) (et : t.toInt = T) (hT : T < 6) (h : F (hdN M T nl) x) : KT G q (d + 1) zk_X5_heldBy 0 [(0, vr o), (1, vi t)] [] x (ri F) := by
  have hb := hM.1.1.2.1
  have tT : t = Int32.ofNat T := i32_of et
  have loop : ∀ (n k : Nat) (a i : Int32), i.toInt = k → nl - k ≤ n → k ≤ nl → a = hdN M T k → KT G q (d + 1) zk_X5_heldBy 4 [(0, vr o), (1, vi t), (2, vi a), (3, vi i)] [] x (ri F) := by
    intro n
    have fin : ∀ (k : Nat) (a i : Int32), i.toInt = k → k ≤ nl → a = hdN M T k → x.1 60 9 ≤ i → ri F (some (vi a)) x := by
      intro k a i ei hk ea c
      rw [t_le] at c
      have ek : k = nl := by omega
      rw [ea, ek]; exact ri_i h
    induction n with
    | zero =>
      intro k a i ei hn hk ea
      refine kg_X5_heldBy_4 hq ho _ _ _ ⟨fun c => fin k a i ei hk ea c, fun c => ?_⟩
      exfalso; rw [t_le] at c; omega
    | succ n ih =>
      intro k a i ei hn hk ea
      refine kg_X5_heldBy_4 hq ho _ _ _ ⟨fun c => fin k a i ei hk ea c, fun c => ?_⟩
      rw [t_le] at c
      have e1 : (i + 1).toInt = ((k + 1 : Nat) : Int) := by rw [t_add (by show _ ≤ _ + (1 : Int); omega) (by show _ + (1 : Int) ≤ _; omega), ei]; rfl
      have hl : (k : Int) < (x.1 60 9).toInt := by omega
      have l6 := (g.1.2 k hl).2.1
      have hh := hol_t (M.2.1 k).1 (by omega) T hT
      refine kh_holder hq ho hM g _ ei hl ⟨fun c => ih (k + 1) _ _ e1 (by omega) (by omega) ?_, fun c => ih (k + 1) _ _ e1 (by omega) (by omega) ?_⟩
      · rw [tT, hh] at c
        rw [hdN, if_neg c]; exact ea
      · rw [tT, hh] at c
        rw [hdN, if_pos c, ← ea, i32_of ei]
  exact kg_X5_heldBy_0 hq ho _ (loop nl 0 _ _ rfl (by omega) (Nat.zero_le _) rfl)
theorem kt_addTake3 (hq : kV q) (ho : kiT q o) (a : Int32) {B : Nat} (hB : B < 6) (h : ∀ y, fm (fun c k => c = o + 9) x y → (∀ k, k < 6 → y.1 (o + 9) k = if ¬ k = B ∧ (a >>> (Int32.ofNat k &&& 31)) &&& 1 = 1 then x.1 (o + 9) k ||| ((1 : Int32) <<< (Int32.ofNat B &&& 31)) else x.1 (o + 9) k) → Fv y) : KT G q d zk_X10_addTake 0 [(0, vr o), (1, vi a), (2, vi (Int32.ofNat B))] [] x (rv Fv) := by
  have k6 : (6 : Int32).toInt = 6 := rfl
  have eqn : ∀ k, k < 7 → ∀ b, b < 6 → (Int32.ofNat k = Int32.ofNat b ↔ k = b) := by decide +kernel
  have loop : ∀ (n k : Nat) (i : Int32) (y : gd), i.toInt = k → 6 - k ≤ n → k ≤ 6 → fm (fun c k => c = o + 9) x y → (∀ k', k' < k → y.1 (o + 9) k' = if ¬ k' = B ∧ (a >>> (Int32.ofNat k' &&& 31)) &&& 1 = 1 then x.1 (o + 9) k' ||| ((1 : Int32) <<< (Int32.ofNat B &&& 31)) else x.1 (o + 9) k') → (∀ k', k ≤ k' → y.1 (o + 9) k' = x.1 (o + 9) k') → KT G q d zk_X10_addTake 2 [(0, vr o), (1, vi a), (2, vi (Int32.ofNat B)), (3, vi i)] [] y (rv Fv) := by
    intro n
    have fin : ∀ (k : Nat) (i : Int32) (y : gd), i.toInt = k → k ≤ 6 → fm (fun c k => c = o + 9) x y → (∀ k', k' < k → y.1 (o + 9) k' = if ¬ k' = B ∧ (a >>> (Int32.ofNat k' &&& 31)) &&& 1 = 1 then x.1 (o + 9) k' ||| ((1 : Int32) <<< (Int32.ofNat B &&& 31)) else x.1 (o + 9) k') → (6 : Int32) ≤ i → rv Fv none y := by
      intro k i y ei hk fy h1 c
      rw [t_le, k6] at c
      exact rv_i (h y fy (fun k' hk' => h1 k' (by clear h1; omega)))
    induction n with
    | zero =>
      intro k i y ei hn hk fy h1 h2
      refine kg_X10_addTake_2 hq ho _ _ _ ⟨fun c => fin k i y ei hk fy h1 c, fun c => ?_⟩
      clear h1 h2
      rw [t_le, k6] at c; omega
    | succ n ih =>
      intro k i y ei hn hk fy h1 h2
      refine kg_X10_addTake_2 hq ho _ _ _ ⟨fun c => fin k i y ei hk fy h1 c, fun c => ?_⟩
      rw [t_le, k6] at c
      have hk6 : k < 6 := by clear h1 h2; omega
      have e1 : (i + 1).toInt = ((k + 1 : Nat) : Int) := by clear h1 h2; rw [t_add (by show _ ≤ _ + (1 : Int); omega) (by show _ + (1 : Int) ≤ _; omega), ei]; rfl
      have v6 : vp_in i 6 := by clear h1 h2; rw [vp_in_iff]; omega
      have iK : i.toNatClampNeg = k := by rw [t_cl, ei]; rfl
      have eI : i = Int32.ofNat k := i32_of ei
      have q2 := eqn k (by omega) B hB
      have go : ∀ z, fm (fun c k => c = o + 9) x z → (∀ k', ¬ k' = k → z.1 (o + 9) k' = y.1 (o + 9) k') → (z.1 (o + 9) k = if ¬ k = B ∧ (a >>> (Int32.ofNat k &&& 31)) &&& 1 = 1 then x.1 (o + 9) k ||| ((1 : Int32) <<< (Int32.ofNat B &&& 31)) else x.1 (o + 9) k) → KT G q d zk_X10_addTake 2 [(0, vr o), (1, vi a), (2, vi (Int32.ofNat B)), (3, vi (i + 1))] [] z (rv Fv) := fun z fz z1 z2 => ih (k + 1) _ z e1 (by clear h1 h2 z1; omega) hk6 fz (fun k' hk' => by
        by_cases e : k' = k
        · rw [e]; exact z2
        · rw [z1 k' e]; exact h1 k' (by omega)) (fun k' hk' => by rw [z1 k' (by omega)]; exact h2 k' (by omega))
      have yk := h2 k (Nat.le_refl _)
      refine ⟨fun e => go y fy (fun _ _ => rfl) ?_, fun e => ⟨fun e2 => go y fy (fun _ _ => rfl) ?_, fun e2 => ⟨v6, v6, fun z ez => ?_⟩⟩⟩
      · rw [eI, q2] at e
        rw [if_neg (fun z => z.1 e)]; exact yk
      · rw [eI] at e2
        rw [if_neg (fun z => e2 z.2)]; exact yk
      · rw [eI] at e2
        rw [eI, q2] at e
        rw [iK] at ez
        refine go z (by rw [ez]; exact fm_si fy rfl) (fun k' hk' => by rw [ez, si_get, if_neg (fun q => hk' q.2)]) ?_
        rw [if_pos ⟨e, e2⟩, ez, si_get, if_pos ⟨rfl, rfl⟩, yk]
  exact kg_X10_addTake_0 hq ho _ _ (loop 6 0 _ x rfl (by omega) (by omega) (fm_rf _ _) (fun k' hk' => absurd hk' (Nat.not_lt_zero _)) (fun _ _ => rfl))
theorem ltR_at : ∀ {k : Nat} {r s : List Int32} {a b : Int32}, r.take k = s.take k → r[k]? = some a → s[k]? = some b → ¬ a = b → ltR r s = decide (a < b) := by
  intro k
  induction k with
  | zero =>
    intro r s a b _ h1 h2 ne
    cases r with
    | nil => cases h1
    | cons a' r =>
      cases s with
      | nil => cases h2
      | cons b' s =>
        have e1 : a' = a := Option.some.inj h1
        have e2 : b' = b := Option.some.inj h2
        rw [ltR, e1, e2, if_neg ne]
  | succ k ih =>
    intro r s a b ht h1 h2 ne
    cases r with
    | nil => cases h1
    | cons a' r =>
      cases s with
      | nil => cases h2
      | cons b' s =>
        rw [List.take_succ_cons, List.take_succ_cons] at ht
        obtain ⟨e1, e2⟩ := List.cons.inj ht
        rw [ltR, if_pos e1]
        exact ih e2 h1 h2 ne
theorem kt_order3 (hq : kV q) (ho : kiT q o) {a b na nb : Nat} (ka : kK a = .inr (.int, na)) (ma : a ∈ (kf q).2.1) (kb : kK b = .inr (.int, nb)) (mb : b ∈ (kf q).2.1) (n : Int32) {N : Nat} (en : n.toInt = N) (hN : N ≤ 24) (hna : 24 ≤ na) (hnb : 24 ≤ nb) (lr : r.length = N) (ls : s.length = N) (hr : ∀ c v, r[c]? = some v → x.1 a c = v) (hs : ∀ c v, s[c]? = some v → x.1 b c = v) (h0 : r = s → F 0 x) (h1 : ltR s r = true → F 1 x) (hm : ltR r s = true → F (-1) x) : KT G q d zk_X10_order 0 [(0, vr a), (1, vr b), (2, vi n)] [] x (ri F) := by
  have loop : ∀ (m k : Nat) (i : Int32), i.toInt = k → N - k ≤ m → k ≤ N → r.take k = s.take k → KT G q d zk_X10_order 2 [(0, vr a), (1, vr b), (2, vi n), (3, vi i)] [] x (ri F) := by
    intro m
    have fin : ∀ (k : Nat) (i : Int32), i.toInt = k → k ≤ N → r.take k = s.take k → n ≤ i → ri F (some (vi 0)) x := by
      intro k i ei hk ht c
      rw [t_le] at c
      refine ri_i (h0 ?_)
      rw [List.take_of_length_le (by omega), List.take_of_length_le (by omega)] at ht
      exact ht
    induction m with
    | zero =>
      intro k i ei hn hk ht
      refine kg_X10_order_2 hq ho ka ma kb mb _ _ ⟨fun c => fin k i ei hk ht c, fun c => ?_⟩
      rw [t_le] at c; omega
    | succ m ih =>
      intro k i ei hn hk ht
      refine kg_X10_order_2 hq ho ka ma kb mb _ _ ⟨fun c => fin k i ei hk ht c, fun c => ?_⟩
      rw [t_le] at c
      have ei1 : (i + 1).toInt = ((k + 1 : Nat) : Int) := by rw [t_add (by show _ ≤ _ + (1 : Int); omega) (by show _ + (1 : Int) ≤ _; omega), ei]; rfl
      have va : vp_in i na := by rw [vp_in_iff]; omega
      have vb : vp_in i nb := by rw [vp_in_iff]; omega
      have iK : i.toNatClampNeg = k := by rw [t_cl, ei]; rfl
      obtain ⟨u, hu⟩ : ∃ u, r[k]? = some u := ⟨_, List.getElem?_eq_getElem (by omega)⟩
      obtain ⟨v, hv⟩ : ∃ v, s[k]? = some v := ⟨_, List.getElem?_eq_getElem (by omega)⟩
      rw [iK, hr k u hu, hs k v hv]
      refine ⟨va, vb, fun e => ih (k + 1) _ ei1 (by omega) (by omega) ?_, fun ne => ⟨va, vb, fun c => ri_i (h1 ?_), fun c => ri_i (hm ?_)⟩⟩
      · rw [List.take_succ, List.take_succ, ht, hu, hv, e]
      · rw [ltR_at ht.symm hv hu (fun z => ne z.symm)]
        rw [t_le] at c
        rw [t_eq] at ne
        exact decide_eq_true (by rw [t_lt]; omega)
      · rw [ltR_at ht hu hv ne]
        rw [t_le] at c
        exact decide_eq_true (by rw [t_lt]; omega)
  exact kg_X10_order_0 hq ho ka ma kb mb _ (loop N 0 _ rfl (by omega) (Nat.zero_le _) rfl)
theorem kt_insert3 (hu : kU q) (ho : kiT q o) {a n : Nat} (ka : kK a = .inr (.int, n)) (ma : a ∈ (kf q).2.1) (hn : 24 ≤ n) (a4 : a < 4000) (l1 l3 : Int32) (hT : TO x q o) {K N : Nat} (eK : l1.toInt = K) (h1 : (K : Int) ≤ (x.1 o 3).toInt) (eN : l3.toInt = N) (h3 : N ≤ 24) (hL : OUk x o L) (hlt : L.length < 3000) (lr : r.length = N) (hr : ∀ c v, r[c]? = some v → x.1 a c = v) (h : ∀ y q1, kU q1 → kle q q1 → q1.et = q.et → fm (sOu o) x y → TO y q1 o → OUk y o (L.take K ++ r :: L.drop K) → Fm y q1) : KM G q (d + 2) zk_X10_insertOutcome 0 [(0, vr o), (1, vi l1), (2, vr a), (3, vi l3)] [] x (rm q Fm) X := by
  have hO := iT_O ho
  have k3 : (3000 : Int32).toInt = 3000 := rfl
  have k0 : (0 : Int32).toInt = 0 := rfl
  have k1 : (1 : Int32).toInt = 1 := rfl
  obtain ⟨⟨b0, b1, b2⟩, b3⟩ := id hT
  have part2 : ∀ (q1 : kP) (z : gd), kU q1 → kle q q1 → q1.et = q.et → fm (fun c k => c = orw o (x.1 o 3).toInt.toNat) x z → (x.1 o 3).toInt < oN q1 o → KM G q1 (d + 2) zk_X10_insertOutcome 36 [(0, vr o), (1, vi l1), (2, vr a), (3, vi l3)] [] z (rm q Fm) X := by
    intro q1 z hu1 hl1 et1 fz hN
    have hN3 := oN_U hu1 o
    have ho1 := kle_T hl1 ho
    have g4 := orw_ge (o := o) (x.1 o 3).toInt.toNat
    refine kg_X10_insertOutcome_36 hu1 ho1 ka (hl1.1 _ ma) l1 l3 ?_
    rw [fz o 3 (by omega), t_cl (x.1 o 3)]
    refine ⟨by rw [vp_in_iff]; omega, fun u eu => ?_⟩
    obtain ⟨hc1, hc2, hc3⟩ := tr_row2 hu1.1 ho1 (i := (x.1 o 3).toInt.toNat) (by omega)
    rw [hc1] at eu
    refine ⟨_, eu, hc2, hc3, by decide, by decide, by rw [t_lt, k0]; omega, by rw [tn0, t_cl]; omega, by rw [tn0, t_cl]; omega, fun x11 e11 => ?_⟩
    have f11 : fm (fun c k => c = orw o (x.1 o 3).toInt.toNat) x x11 := by intro c' k' hn'; rw [e11, scp_get, if_neg (by omega)]; exact fz c' k' hn'
    have r11 : ∀ c v, r[c]? = some v → x11.1 (orw o (x.1 o 3).toInt.toNat) c = v := by
      intro c v hv
      have hc := gt_lt hv
      rw [e11, scp_get, tn0, t_cl, eN, if_pos ⟨rfl, by omega, by omega⟩, show 0 + (c - 0) = c by omega, fz a c (by omega)]
      exact hr c v hv
    rw [f11 o 3 (by omega)]
    have es : (x.1 o 3 - l1).toInt = (x.1 o 3).toInt - l1.toInt := t_sub (by omega) (by omega)
    have e1 : (l1 + 1).toInt = l1.toInt + 1 := by rw [t_add (by rw [k1]; omega) (by rw [k1]; omega), k1]
    have e31 : (x.1 o 3 + 1).toInt = (x.1 o 3).toInt + 1 := by rw [t_add (by rw [k1]; omega) (by rw [k1]; omega), k1]
    refine ⟨by rw [t_lt, k0]; omega, by rw [t_lt, k0, e1]; omega, by rw [t_lt, k0, es]; omega, by rw [t_cl, t_cl, es]; omega, by rw [t_cl, t_cl, es, e1]; omega, fun x17 e17 => ⟨by rw [vp_in_iff]; omega, fun x19 e19 x20 e20 => ?_⟩⟩
    have h17 : x17.1 o 3 = x.1 o 3 := by rw [e17, scp_get, if_neg (by omega), f11 o 3 (by omega)]
    rw [h17] at e19
    have h19 : x19.1 o 3 = x.1 o 3 := by rw [e19, si_get, if_neg (by omega), h17]
    rw [h19] at e20
    have g3 : x20.1 o 3 = x.1 o 3 + 1 := by rw [e20, si_get, if_pos ⟨rfl, rfl⟩]
    have gi : ∀ i : Nat, x20.1 (o + 14) i = if i = K then x.1 o 3 else if K + 1 ≤ i ∧ i < (x.1 o 3).toInt.toNat + 1 then x.1 (o + 14) (i - 1) else x.1 (o + 14) i := by
      intro i
      rw [e20, si_get, if_neg (by omega), e19, si_get, t_cl, eK]
      by_cases q1 : i = K
      · rw [if_pos ⟨rfl, by omega⟩, if_pos q1]
      · rw [if_neg (fun z => q1 (by have := z.2; omega)), if_neg q1, e17, scp_get, t_cl, t_cl, t_cl, es, e1]
        by_cases q2 : K + 1 ≤ i ∧ i < (x.1 o 3).toInt.toNat + 1
        · rw [if_pos ⟨rfl, by omega, by omega⟩, if_pos q2, f11 _ _ (by omega), show l1.toInt.toNat + (i - (l1.toInt + 1).toNat) = i - 1 by omega]
        · rw [if_neg (by omega), if_neg q2, f11 _ _ (by omega)]
    have gr : ∀ c k, 4000 ≤ c → x20.1 c k = x11.1 c k := fun c k hc => by rw [e20, si_get, if_neg (by omega), e19, si_get, if_neg (by omega), e17, scp_get, if_neg (by omega)]
    refine rm_i hu1 hl1 (h x20 q1 hu1 hl1 et1 ?_ ?_ ⟨?_, fun i t ht => ?_⟩)
    · intro c' k' hn'
      unfold sOu at hn'
      rw [e20, si_get, if_neg (by omega), e19, si_get, if_neg (by omega), e17, scp_get, if_neg (by omega)]
      exact f11 c' k' (by omega)
    · unfold TO
      rw [g3, e31]
      refine ⟨by omega, fun i hi => ?_⟩
      rw [gi i]
      by_cases q1 : i = K
      · rw [if_pos q1]; omega
      · rw [if_neg q1]
        by_cases q2 : K + 1 ≤ i ∧ i < (x.1 o 3).toInt.toNat + 1
        · rw [if_pos q2]
          have := b3 (i - 1) (by omega)
          omega
        · rw [if_neg q2]
          have := b3 i (by omega)
          omega
    · have l0 := hL.1
      rw [g3, e31, l0, List.length_append, List.length_cons, List.length_take, List.length_drop]
      omega
    · have l0 := hL.1
      have old : ∀ j c v, L[j]? = some t → t[c]? = some v → x20.1 (orw o (x.1 (o + 14) j).toInt.toNat) c = v := by
        intro j c v hj hv
        have hjl := gt_lt hj
        have := b3 j (by omega)
        rw [gr _ _ (orw_ge _), f11 _ _ (orw_ne (by omega))]
        exact hL.2 j t hj c v hv
      intro c v hv
      rw [gi i]
      by_cases q1 : i = K
      · rw [if_pos q1]
        have et : t = r := by
          rw [q1, List.getElem?_append_right (by rw [List.length_take]; omega), List.length_take, show K - min K L.length = 0 by omega] at ht
          exact (Option.some.inj ht).symm
        rw [gr _ _ (orw_ge _)]
        exact r11 c v (by rw [← et]; exact hv)
      · rw [if_neg q1]
        by_cases q2 : K + 1 ≤ i ∧ i < (x.1 o 3).toInt.toNat + 1
        · rw [if_pos q2]
          refine old (i - 1) c v ?_ hv
          rw [List.getElem?_append_right (by rw [List.length_take]; omega), List.length_take, show i - min K L.length = (i - 1 - K) + 1 by omega, List.getElem?_cons_succ, List.getElem?_drop, show K + (i - 1 - K) = i - 1 by omega] at ht
          exact ht
        · rw [if_neg q2]
          have hil : i < K := by
            have := gt_lt ht
            rw [List.length_append, List.length_cons, List.length_take, List.length_drop] at this
            omega
          refine old i c v ?_ hv
          rw [List.getElem?_append_left (by rw [List.length_take]; omega), List.getElem?_take, if_pos hil] at ht
          exact ht
  have l0 := hL.1
  refine kg_X10_insertOutcome_0 hu ho ka ma l1 l3 ⟨fun c => ?_, fun c => ?_⟩
  rotate_left
  · rw [t_lt, k3] at c; omega
  rw [t_lt, k3] at c
  have v3 : vp_in (x.1 o 3) 3000 := by rw [vp_in_iff]; omega
  rw [t_cl]
  refine ⟨v3, fun u eu => ⟨fun hno => ?_, fun c5 h5 => part2 q x hu (kle_rf q) rfl (fm_rf _ _) ?_⟩⟩
  · have hN : (x.1 o 3).toInt.toNat = oN q o := by
      by_cases hl : (x.1 o 3).toInt.toNat < oN q o
      · have hc1 := (tr_row2 hu.1 ho hl).1
        rw [eu, hc1] at hno; cases hno
      · omega
    refine ⟨hN, v3, fun q6 x7 e6 e7 hu6 hl6 => part2 q6 x7 hu6 hl6 ?_ ?_ ?_⟩
    · rw [e6]; unfold kOr; split <;> rfl
    · intro c' k' hn'
      rw [e7, zn_get, if_neg]
      intro z
      apply hn'
      rw [z, hN]
      unfold oC orw oN
      split <;> rfl
    · have : oN q6 o = oN q o + 1 := by
        rw [e6]
        rcases hO with e | e
        · rw [e]; rfl
        · rw [e]; rfl
      omega
  · by_cases hl : (x.1 o 3).toInt.toNat < oN q o
    · omega
    · rw [eu, tr_none ho hl] at h5; cases h5
theorem kt_addOutcome3 (hu : kU q) (ho : kiT q o) {a n : Nat} (ka : kK a = .inr (.int, n)) (ma : a ∈ (kf q).2.1) (hn : 24 ≤ n) (a4 : a < 4000) (l2 : Int32) (hT : TO x q o) {N : Nat} (eN : l2.toInt = N) (h2 : N ≤ 24) (hL : OUk x o L) (hlt : L.length < 3000) (hso : soR L) (hll : ∀ t ∈ L, t.length = N) (lr : r.length = N) (hr : ∀ c v, r[c]? = some v → x.1 a c = v) (h : ∀ y q1, kU q1 → kle q q1 → q1.et = q.et → fm (sOu o) x y → TO y q1 o → OUk y o (inR r L) → Fm y q1) : KM G q (d + 3) zk_X10_addOutcome 0 [(0, vr o), (1, vr a), (2, vi l2)] [] x (rm q Fm) X := by
  have k3 : (3000 : Int32).toInt = 3000 := rfl
  have k1 : (1 : Int32).toInt = 1 := rfl
  obtain ⟨⟨b0, b1, b2⟩, b3⟩ := id hT
  have l0 := hL.1
  have sor : ∀ i j t u, i < j → L[i]? = some t → L[j]? = some u → ltR t u = true := fun i j t u hij hi hj => by
    obtain ⟨hi1, hi2⟩ := List.getElem?_eq_some_iff.mp hi
    obtain ⟨hj1, hj2⟩ := List.getElem?_eq_some_iff.mp hj
    have := List.pairwise_iff_getElem.mp hso i j hi1 hj1 hij
    rw [hi2, hj2] at this; exact this
  have fin : ∀ (l3 : Int32) (A : Nat), l3.toInt = A → A ≤ L.length → (∀ i t, i < A → L[i]? = some t → ltR t r = true) → (∀ i t, A ≤ i → L[i]? = some t → ltR r t = true) → KM G q (d + 3) zk_X10_addOutcome 81 [(0, vr o), (1, vr a), (2, vi l2), (3, vi l3)] [] x (rm q Fm) X := by
    intro l3 A e3 g2 g3 g4
    exact kg_X10_addOutcome_81 hu ho ka ma l2 l3 (kt_insert3 hu ho ka ma hn a4 l3 l2 hT e3 (by omega) eN h2 hL hlt lr hr (fun y q1 hu1 hl1 e f t ou => rm_i hu1 hl1 (h y q1 hu1 hl1 e f t (by rw [inR_at g2 g3 g4]; exact ou))))
  have loop : ∀ (m k A B : Nat) (l3 l4 l5 : Int32), l5.toInt = k → 3000 - k ≤ m → B - A ≤ 3000 - k → l3.toInt = A → l4.toInt = B → A ≤ B → B ≤ L.length → (∀ i t, i < A → L[i]? = some t → ltR t r = true) → (∀ i t, B ≤ i → L[i]? = some t → ltR r t = true) → KM G q (d + 3) zk_X10_addOutcome 11 [(0, vr o), (1, vr a), (2, vi l2), (3, vi l3), (4, vi l4), (5, vi l5)] [] x (rm q Fm) X := by
    intro m
    have fi : ∀ (A B : Nat) (l3 : Int32), l3.toInt = A → A = B → B ≤ L.length → (∀ i t, i < A → L[i]? = some t → ltR t r = true) → (∀ i t, B ≤ i → L[i]? = some t → ltR r t = true) → KM G q (d + 3) zk_X10_addOutcome 81 [(0, vr o), (1, vr a), (2, vi l2), (3, vi l3)] [] x (rm q Fm) X := fun A B l3 e3 eq hB g1 g2 => fin l3 A e3 (by omega) g1 (by rw [eq]; exact g2)
    induction m with
    | zero =>
      intro k A B l3 l4 l5 e5 hm hAB e3 e4 hle hBL g1 g2
      refine kg_X10_addOutcome_11 hu ho ka ma l2 l3 l4 l5 ⟨fun _ => fi A B l3 e3 (by clear g1 g2; omega) hBL g1 g2, fun c => ?_⟩
      clear g1 g2
      rw [t_le, k3] at c; omega
    | succ m ih =>
      intro k A B l3 l4 l5 e5 hm hAB e3 e4 hle hBL g1 g2
      refine kg_X10_addOutcome_11 hu ho ka ma l2 l3 l4 l5 ⟨fun c => fi A B l3 e3 (by clear g1 g2; rw [t_le, k3] at c; omega) hBL g1 g2, fun c => ⟨fun c => fi A B l3 e3 (by clear g1 g2; rw [t_le] at c; omega) hBL g1 g2, fun c2 => ?_⟩⟩
      rw [t_le, k3] at c
      rw [t_le] at c2
      have lAB : A < B := by clear g1 g2; omega
      have es : (l3 + l4).toInt = l3.toInt + l4.toInt := by clear g1 g2; exact t_add (by omega) (by omega)
      have em : ((l3 + l4) / 2).toInt = (l3.toInt + l4.toInt) / 2 := by rw [t_div2 (by clear g1 g2; omega), es]
      obtain ⟨mid, hmid⟩ : ∃ w : Int32, w = (l3 + l4) / 2 := ⟨_, rfl⟩
      rw [← hmid] at em ⊢
      clear hmid
      obtain ⟨D, eD⟩ : ∃ D : Nat, mid.toInt = D := ⟨mid.toInt.toNat, by clear g1 g2; omega⟩
      have bD : A ≤ D ∧ D < B ∧ D - A ≤ 2999 - k ∧ B - (D + 1) ≤ 2999 - k := by clear g1 g2; omega
      have bm := b3 D (by clear g1 g2; omega)
      have e51 : (l5 + 1).toInt = ((k + 1 : Nat) : Int) := by clear g1 g2; rw [t_add (by rw [k1]; omega) (by rw [k1]; omega), k1, e5]; rfl
      have em1 : (mid + 1).toInt = ((D + 1 : Nat) : Int) := by clear g1 g2; rw [t_add (by rw [k1]; omega) (by rw [k1]; omega), k1, eD]; rfl
      have vm : vp_in mid 3000 := by clear g1 g2; rw [vp_in_iff]; omega
      rw [t_cl mid, eD, show ((D : Nat) : Int).toNat = D from rfl]
      obtain ⟨u, hu9⟩ : ∃ u, L[D]? = some u := ⟨_, List.getElem?_eq_getElem (by clear g1 g2; omega)⟩
      have hrow := hL.2 D u hu9
      have ul := hll u (List.mem_of_getElem? hu9)
      obtain ⟨w, hw⟩ : ∃ w, w = x.1 (o + 14) D := ⟨_, rfl⟩
      rw [← hw] at bm hrow ⊢
      refine ⟨by decide, vm, by clear g1 g2; rw [vp_in_iff]; omega, fun u9 eu => ?_⟩
      obtain ⟨hc1, hc2, hc3⟩ := tr_row2 hu.1 ho (i := w.toInt.toNat) (by clear g1 g2; omega)
      rw [t_cl, hc1] at eu
      refine ⟨_, eu, hc2, hc3, kt_order3 hu.1 ho hc2 hc3 ka ma l2 eN h2 (Nat.le_refl _) hn ul lr hrow hr (fun e => ?_) (fun e => ?_) (fun e => ?_)⟩
      · refine ⟨fun z => absurd rfl z, fun _ => rm_i hu (kle_rf q) (h x q hu (kle_rf q) rfl (fm_rf _ _) hT ?_)⟩
        rw [inR_mem hso (by rw [← e]; exact List.mem_of_getElem? hu9)]; exact hL
      · refine ⟨fun _ => ⟨fun _ => ih (k + 1) A D _ _ _ e51 (by clear g1 g2; omega) (by clear g1 g2; omega) e3 eD bD.1 (by clear g1 g2; omega) g1 (fun i t hi ht => ?_), fun z => absurd (by decide) z⟩, fun z => absurd z (by decide)⟩
        by_cases c9 : i = D
        · rw [c9, hu9] at ht
          rw [← Option.some.inj ht]; exact e
        · exact ltR_tr e (sor D i u t (by clear g1 g2; omega) hu9 ht)
      · refine ⟨fun _ => ⟨fun z => absurd z (by decide), fun _ => ih (k + 1) (D + 1) B _ _ _ e51 (by clear g1 g2; omega) (by clear g1 g2; omega) em1 e4 bD.2.1 hBL (fun i t hi ht => ?_) g2⟩, fun z => absurd z (by decide)⟩
        by_cases c9 : i = D
        · rw [c9, hu9] at ht
          rw [← Option.some.inj ht]; exact e
        · exact ltR_tr (sor i D t u (by clear g1 g2; omega) ht hu9) e
  exact kg_X10_addOutcome_0 hu ho ka ma l2 (loop 3000 0 0 L.length _ _ _ rfl (by omega) (by omega) rfl l0 (Nat.zero_le _) (Nat.le_refl _) (fun i t hi => absurd hi (Nat.not_lt_zero _)) (fun i t hi ht => by have := gt_lt ht; omega))
end KOU
end
