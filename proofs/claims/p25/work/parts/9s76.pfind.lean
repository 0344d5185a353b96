section
/-! what a state shows; the class's looks at it -/
/-- a claim's sum -/
def evC (M : gMa) (Q : List gQ) : Option Int32 := wkQ (fun _ => 0) (fun c => M.1 c.toNatClampNeg) 0 Q
def badC (M : gMa) (Q : List gQ) : Prop := evC M Q = none ∨ evC M Q = some 0
/-- whether two accesses of one cell can be a race -/
def srM (a b : Nat) : Prop := ¬ (a = 0 ∧ b = 0) ∧ ¬ (2 ≤ a ∧ 2 ≤ b)
/-- a thread may access a cell that is not sure, and doesn't fail -/
def axM (C : gCo) (w : Nat) (M : gMa) (t : Nat) : Prop := canM C w M t ∧ soM C (M.2.2 t) ≤ 4 ∧ (lkM C w M t).1 = 0 ∧ suM C (lkM C w M t).2.1.toNatClampNeg = false
def rcM (C : gCo) (w : Nat) (M : gMa) : Prop := ∃ t u, u < t ∧ t < C.2.1.length ∧ axM C w M t ∧ axM C w M u ∧ (lkM C w M t).2.1 = (lkM C w M u).2.1 ∧ srM (soM C (M.2.2 t)) (soM C (M.2.2 u))
def goM (C : gCo) (M : gMa) : Prop := ∃ t, t < C.2.1.length ∧ (M.2.2 t).1 = 1
/-- the findings of a state -/
def fnM (C : gCo) (w : Nat) (M : gMa) (f : Nat) : Prop := (f < 4 ∧ ∃ Q, C.2.2.2.1[f]? = some Q ∧ badC M Q) ∨ (4 ≤ f ∧ f < 8 ∧ chM C w M = [] ∧ ¬ goM C M ∧ ∃ Q, C.2.2.2.2[f - 4]? = some Q ∧ badC M Q) ∨ (f = 8 ∧ chM C w M = [] ∧ goM C M) ∨ (f = 9 ∧ ∃ t, t < C.2.1.length ∧ (M.2.2 t).1 = 3) ∨ (f = 10 ∧ rcM C w M)
/-- what else claims are like -/
def NCq (C : gCo) : Prop := ∀ Q, Q ∈ C.2.2.2.1 ∨ Q ∈ C.2.2.2.2 → ∀ p ∈ Q, ¬ p.1 = 3 ∧ (p.1 = 4 → 0 ≤ p.2.2.toInt ∧ p.2.2.toInt < C.2.2.1.length)
section PFN
variable {G : kG} {q : kP} {d : Nat} {x y z : gd} {o : Nat} {F : Int32 → gd → Prop} {Fv : gd → Prop} {C : gCo} {M : gMa} {T w : Nat}
theorem kst0 (g : kTq x o C T (M.2.2 T)) {n : Nat} (hn : n ≤ 3) : rg x o T 0 = Int32.ofNat n ↔ (M.2.2 T).1 = n := by
  have s : ∀ a, a < 4 → ∀ b, b < 4 → ((Int32.ofNat a = Int32.ofNat b) ↔ a = b) := by decide +kernel
  rw [g.1.1]
  exact s _ (by have := g.1.2; omega) _ (by omega)
theorem kh_anyGoing (hq : kV q) (ho : kiM q o) (h : MM x o) (hK : CK x C) (g : KMm x o C M) (hF : ∀ r : Int32, (¬ r = 0 ↔ goM C M) → F r x) : KT G q (d + 2) zk_X5_anyGoing 0 [(0, vr o)] [] x (ri F) := by
  have t6 := h.1.1.2.2.1
  have nT : (x.1 60 10).toInt = C.2.1.length := hK.2.1.1
  have loop : ∀ (n k : Nat) (i : Int32), i.toInt = k → (x.1 60 10).toInt - k ≤ n → (∀ t, t < k → ¬ (M.2.2 t).1 = 1) → KT G q (d + 2) zk_X5_anyGoing 2 [(0, vr o), (1, vi i)] [] x (ri F) := by
    intro n
    have fin : ∀ (k : Nat) (i : Int32), i.toInt = k → (∀ t, t < k → ¬ (M.2.2 t).1 = 1) → x.1 60 10 ≤ i → ri F (some (vi 0)) x := fun k i ei hno c => ri_i (hF _ ⟨fun z => absurd rfl z, fun ⟨t, t1, t2⟩ => absurd t2 (hno t (by rw [t_le] at c; omega))⟩)
    induction n with
    | zero =>
      intro k i ei hn hno
      refine kg_X5_anyGoing_2 hq ho _ ⟨fun c => fin k i ei hno c, fun c => ?_⟩
      exfalso; rw [t_le] at c; omega
    | succ n ih =>
      intro k i ei hn hno
      refine kg_X5_anyGoing_2 hq ho _ ⟨fun c => fin k i ei hno c, fun c => ?_⟩
      rw [t_le] at c
      have hk : k < C.2.1.length := by omega
      have e1 : (i + 1).toInt = ((k + 1 : Nat) : Int) := by rw [t_add (by show _ ≤ _ + (1 : Int); omega) (by show _ + (1 : Int) ≤ _; omega), ei]; rfl
      refine kp_isGoing hq ho h.1 h.2.1 _ ei (by omega) (fun c1 => ⟨fun z => absurd z (by decide), fun _ => ri_i (hF _ ⟨fun _ => ⟨k, hk, (kst0 (g.2 k hk) (by omega)).mp c1⟩, fun _ => by decide⟩)⟩) (fun c1 => ⟨fun _ => ih (k + 1) _ e1 (by push_cast; omega) (fun t ht => ?_), fun z => absurd rfl z⟩)
      by_cases e : t = k
      · rw [e]; exact fun z => c1 ((kst0 (n := 1) (g.2 k hk) (by omega)).mpr z)
      · exact hno t (by omega)
  exact kg_X5_anyGoing_0 hq ho (loop 6 0 _ rfl (by omega) (fun t ht => absurd ht (Nat.not_lt_zero _)))
theorem kh_anyFailed (hq : kV q) (ho : kiM q o) (h : MM x o) (hK : CK x C) (g : KMm x o C M) (hF : ∀ r : Int32, (¬ r = 0 ↔ ∃ t, t < C.2.1.length ∧ (M.2.2 t).1 = 3) → F r x) : KT G q (d + 1) zk_X5_anyFailed 0 [(0, vr o)] [] x (ri F) := by
  have t6 := h.1.1.2.2.1
  have nT : (x.1 60 10).toInt = C.2.1.length := hK.2.1.1
  have loop : ∀ (n k : Nat) (i : Int32), i.toInt = k → (x.1 60 10).toInt - k ≤ n → (∀ t, t < k → ¬ (M.2.2 t).1 = 3) → KT G q (d + 1) zk_X5_anyFailed 2 [(0, vr o), (1, vi i)] [] x (ri F) := by
    intro n
    have fin : ∀ (k : Nat) (i : Int32), i.toInt = k → (∀ t, t < k → ¬ (M.2.2 t).1 = 3) → x.1 60 10 ≤ i → ri F (some (vi 0)) x := fun k i ei hno c => ri_i (hF _ ⟨fun z => absurd rfl z, fun ⟨t, t1, t2⟩ => absurd t2 (hno t (by rw [t_le] at c; omega))⟩)
    induction n with
    | zero =>
      intro k i ei hn hno
      refine kg_X5_anyFailed_2 hq ho _ ⟨fun c => fin k i ei hno c, fun c => ?_⟩
      exfalso; rw [t_le] at c; omega
    | succ n ih =>
      intro k i ei hn hno
      refine kg_X5_anyFailed_2 hq ho _ ⟨fun c => fin k i ei hno c, fun c => ?_⟩
      rw [t_le] at c
      have hk : k < C.2.1.length := by omega
      have e1 : (i + 1).toInt = ((k + 1 : Nat) : Int) := by rw [t_add (by show _ ≤ _ + (1 : Int); omega) (by show _ + (1 : Int) ≤ _; omega), ei]; rfl
      refine kp_get hq ho h.1 h.2.1 _ _ ei (show (0 : Int32).toInt = ((0 : Nat) : Int) from rfl) (by omega) (by omega) ⟨fun c1 => ih (k + 1) _ e1 (by push_cast; omega) (fun t ht => ?_), fun c1 => ri_i (hF _ ⟨fun _ => ⟨k, hk, (kst0 (n := 3) (g.2 k hk) (by omega)).mp c1⟩, fun _ => by decide⟩)⟩
      by_cases e : t = k
      · rw [e]; exact fun z => c1 ((kst0 (n := 3) (g.2 k hk) (by omega)).mpr z)
      · exact hno t (by omega)
  exact kg_X5_anyFailed_0 hq ho (loop 6 0 _ rfl (by omega) (fun t ht => absurd ht (Nat.not_lt_zero _)))
theorem kh_isFalse (hq : kV q) (he : q.ex = true) (hM : MM x 220) (hK : CK x C) (hN : NC C) (hq2 : NCq C) (g : KMm x 220 C M) (s : Int32) {Q : List gQ} (hS : SUk x s (Q.map cQ)) (hQ : Q ∈ C.2.2.2.1 ∨ Q ∈ C.2.2.2.2) (h : ∀ r y, gbool r → fm sWk x y → (¬ r = 0 ↔ badC M Q) → F r y) : KT G q (d + 2) zk_X2_isFalse 0 [(0, vr 200), (1, vi s)] [] x (ri F) := by
  have nC : (x.1 60 6).toInt = C.2.2.1.length := hK.2.2.1.1
  have c24 := hM.1.1.1
  obtain ⟨n1, n2⟩ := hN.2.2 Q hQ
  refine kg_X2_isFalse_0 hq he _ (kf_work hq kk_225 (kl_225 hq he) (by decide) _ _ _ (Q := Q) (lv := fun _ => 0) (cv := fun c => M.1 c.toNatClampNeg) hM.1.2.1.1.2 hS n1 (fun p hp => ?_) (fun r y fy hwk => ?_))
  · refine ⟨(n2 p hp).1, fun c => absurd c (n2 p hp).2, fun c => ?_⟩
    obtain ⟨c0, c1⟩ := (hq2 Q hQ p hp).2 c
    rw [Int32.zero_add]
    refine ⟨by rw [vp_in_iff]; omega, ?_⟩
    exact g.1.1 _ (by rw [t_cl]; omega)
  · have k1 : ¬ (1 : Int32) = 0 := by decide
    rcases hwk with ⟨v, hv, er, y5⟩ | ⟨hv, y5⟩
    · have hv : evC M Q = some v := hv
      refine ⟨fun r0 => ri_i (h _ y gbool_1 fy ⟨fun _ => Or.inr (by rw [hv, ← er, r0]), fun _ => k1⟩), fun rn => ⟨fun _ => ri_i (h _ y gbool_0 fy ⟨fun z => absurd rfl z, fun z => ?_⟩), fun c => absurd y5 c⟩⟩
      rcases z with z | z
      · rw [hv] at z; cases z
      · rw [hv] at z; exact absurd (er.trans (Option.some.inj z)) rn
    · have hv : evC M Q = none := hv
      have b : badC M Q := Or.inl hv
      refine ⟨fun r0 => ri_i (h _ y gbool_1 fy ⟨fun _ => b, fun _ => k1⟩), fun rn => ⟨fun c => ?_, fun _ => ri_i (h _ y gbool_1 fy ⟨fun _ => b, fun _ => k1⟩)⟩⟩
      rw [y5] at c; exact absurd c k1
theorem kh_sortsRace (hq : kV q) {a b : Nat} (ha : a < 22) (hb : b < 22) (h : ∀ r : Int32, (¬ r = 0 ↔ srM a b) → F r x) : KT G q d zk_X4_sortsRace 0 [(0, vi (Int32.ofNat a)), (1, vi (Int32.ofNat b))] [] x (ri F) := by
  have k2 : (2 : Int32).toInt = 2 := rfl
  have k1 : ¬ (1 : Int32) = 0 := by decide
  have ea : (Int32.ofNat a).toInt = (a : Nat) := Int32.toInt_ofNat_of_lt (by omega)
  have eb : (Int32.ofNat b).toInt = (b : Nat) := Int32.toInt_ofNat_of_lt (by omega)
  have z0 : ∀ n, n < 22 → (Int32.ofNat n = 0 ↔ n = 0) := by decide +kernel
  have p29 : ∀ s u : Int32, (¬ s = 0 ↔ a = 0 ∧ b = 0) → (¬ u = 0 ↔ 2 ≤ a ∧ 2 ≤ b) → KT G q d zk_X4_sortsRace 29 [(2, vi s)] [vi u] x (ri F) := fun s u hs hu => kg_X4_sortsRace_29 hq _ _ ⟨fun c => ri_i (h _ ⟨fun z => absurd rfl z, fun z => absurd (hs.mp c) z.1⟩), fun c => ⟨fun c2 => ri_i (h _ ⟨fun z => absurd rfl z, fun z => absurd (hu.mp c2) z.2⟩), fun c2 => ri_i (h _ ⟨fun _ => ⟨fun z => hs.mpr z c, fun z => hu.mpr z c2⟩, fun _ => k1⟩)⟩⟩
  have p13 : ∀ s : Int32, (¬ s = 0 ↔ a = 0 ∧ b = 0) → KT G q d zk_X4_sortsRace 13 [(0, vi (Int32.ofNat a)), (1, vi (Int32.ofNat b))] [vi s] x (ri F) := fun s hs => kg_X4_sortsRace_13 hq _ _ _ ⟨fun c => p29 _ _ hs ⟨fun z => absurd rfl z, fun z => by rw [t_lt, k2] at c; omega⟩, fun c => ⟨fun c2 => p29 _ _ hs ⟨fun z => absurd rfl z, fun z => by rw [t_lt, k2] at c2; omega⟩, fun c2 => p29 _ _ hs ⟨fun _ => by rw [t_lt, k2] at c c2; omega, fun _ => k1⟩⟩⟩
  exact kg_X4_sortsRace_0 hq _ _ ⟨fun c => p13 _ ⟨fun z => absurd rfl z, fun z => absurd ((z0 a ha).mpr z.1) c⟩, fun c => ⟨fun c2 => p13 _ ⟨fun z => absurd rfl z, fun z => absurd ((z0 b hb).mpr z.2) c2⟩, fun c2 => p13 _ ⟨fun _ => ⟨(z0 a ha).mp c, (z0 b hb).mp c2⟩, fun _ => k1⟩⟩⟩
/-- a row's cells are sure alike -/
theorem su_row (hX : NXc C) (hX3 : NX3 C) {st : gNs} (s1 : C.1[(M.2.2 T).2.2.1]? = some st) (s2 : stN C (M.2.2 T).2.2.1 = st) (o4 : st.1 ≤ 4) (c24 : C.2.2.1.length ≤ 24) (l0 : (lkI C M T).1 = 0) : suM C (lkI C M T).2.toNatClampNeg = suM C st.2.2.2.2.1.toNatClampNeg := by
  obtain ⟨x1, x2, x3, -, x5, x6⟩ := hX _ st s1
  cases hix : st.2.2.2.2.2.2.2.1 with
  | none => rw [lkI_n (by rw [s2]; exact hix), s2]
  | some Q =>
    have hix' : (stN C (M.2.2 T).2.2.1).2.2.2.2.2.2.2.1 = some Q := by rw [s2]; exact hix
    cases hwk : wkQ (M.2.2 T).2.2.2.2.2.2.2 (fun _ => 0) (Int32.ofNat T) Q with
    | none => rw [lkI_1 hix' hwk] at l0; exact absurd l0 (by decide)
    | some v =>
      by_cases cv : v < 0 ∨ (stN C (M.2.2 T).2.2.1).2.2.2.2.2.1 ≤ v
      · rw [lkI_2 hix' hwk cv] at l0; exact absurd l0 (by decide)
      · rw [lkI_0 hix' hwk cv, s2]
        rw [s2] at cv
        have v0 : 0 ≤ v.toInt := by
          have : ¬ v < 0 := fun z => cv (Or.inl z)
          rw [t_lt] at this
          have k0 : (0 : Int32).toInt = 0 := rfl
          omega
        have v1 : v.toInt < st.2.2.2.2.2.1.toInt := by
          have : ¬ st.2.2.2.2.2.1 ≤ v := fun z => cv (Or.inr z)
          rw [t_le] at this
          omega
        obtain ⟨z1, z2, z3⟩ := x6 o4
        have z3 := z3 (by rw [hix]; exact fun z => nomatch z)
        have e5 : (st.2.2.2.2.1 + v).toInt = st.2.2.2.2.1.toInt + v.toInt := t_add (by omega) (by omega)
        have := hX3 _ st s1 o4 (by rw [hix]; exact fun z => nomatch z) v.toInt.toNat (by omega)
        rw [← this]
        show suM C (st.2.2.2.2.1 + v).toNatClampNeg = _
        congr 1
        rw [t_cl, t_cl]
        omega
end PFN
end
section
/-! the class: whether an access fails; what a thread may access -/
section KFL
variable {G : kG} {q : kP} {d : Nat} {x y z : gd} {o : Nat} {F : Int32 → gd → Prop} {Fv : gd → Prop} {C : gCo} {M : gMa} {T w : Nat}
theorem kh_accessFails (hq : kV q) (ho : kiM q o) (hM : MM x o) (hK : CK x C) (hN : NC C) (hX : NXc C) (hX3 : NX3 C) (g : KMm x o C M) (wy : x.1 o 3 = Int32.ofNat w) (w01 : w = 0 ∨ w = 1) (t : Int32) (et : t.toInt = T) (hT : T < C.2.1.length) (h1 : (M.2.2 T).1 = 1) (hw0 : (M.2.2 T).2.2.2.1 = 0) (o4 : (stN C (M.2.2 T).2.2.1).1 ≤ 4) (hF : ∀ r y, fm (sLk o) x y → (¬ r = 0 ↔ ¬ (lkM C w M T).1 = 0) → F r y) : KT G q (d + 3) zk_X5_accessFails 0 [(0, vr o), (1, vi t)] [] x (ri F) := by
  have hO := kiM_O ho
  have nT : (x.1 60 10).toInt = C.2.1.length := hK.2.1.1
  have nC : (x.1 60 6).toInt = C.2.2.1.length := hK.2.2.1.1
  have hT6 := MM_6 hM.1 (t := T) (by omega)
  have hA := (hM.2.2 T (by omega)).1
  have c24 := hM.1.1.1
  have k8 : (8 : Int32).toInt = 8 := rfl
  have k1 : ¬ (1 : Int32) = 0 := by decide
  have gT := g.2 T hT
  obtain ⟨st, s1, s2, s3, s4, s5, kn, ns⟩ := kst_at hM hK hN hT gT
  obtain ⟨vs, eN, -⟩ := MM_st hM.1 hA
  rw [s3] at eN
  have o4' := o4
  rw [s2] at o4
  have hml := gT.2.2.2.2.2.2.2.2 (Or.inl h1)
  rw [s2] at hml
  have es2 : (rg x o T 2).toInt = ((M.2.2 T).2.2.1 : Nat) := gT.2.2.1
  have sW : ∀ {y z : gd}, fm sWk y z → fm (sLk o) y z := fun f => fm_w f (fun c k q => by unfold sWk at q; unfold sLk; omega)
  have ag : ∀ y, fm (sLk o) x y → MM y o ∧ CK y C ∧ KMm y o C M ∧ y.1 o 3 = Int32.ofNat w ∧ y.1 60 13 = x.1 60 13 := fun y fy => ⟨MM_Lk hO fy hM, CK_f hK (fun c k hc => fy c k (by unfold sLk; omega)), KMm_Lk hO hM hK fy g, by rw [fy o 3 (by unfold sLk; omega)]; exact wy, fy _ _ (by unfold sLk; omega)⟩
  have p122 : ∀ (y : gd) (e f : Int32), fm (sLk o) x y → (lkI C M T).1 = 0 → evO (M.2.2 T).2.2.2.2.2.2.2 (Int32.ofNat T) st.2.2.2.2.2.2.2.2.1 = some e → evO (M.2.2 T).2.2.2.2.2.2.2 (Int32.ofNat T) st.2.2.2.2.2.2.2.2.2 = some f → KT G q (d + 3) zk_X5_accessFails 122 [(0, vr o), (1, vi t), (2, vi (rg x o T 2))] [] y (ri F) := by
    intro y e f fy l0 e1 e2
    obtain ⟨hy, hKy, gy, wyy, -⟩ := ag y fy
    have ll := lkM_3 (w := w) hw0 l0 (by rw [s2]; exact e1) (by rw [s2]; exact e2)
    have lk : (lkM C w M T).1 = rsF C w M T st.1 (lkI C M T).2.toNatClampNeg := by rw [ll, s2]
    have su := su_row hX hX3 s1 s2 o4 (by omega) l0
    refine kg_X5_accessFails_122 hq ho _ _ (kh_goesLate hq ho hy hKy hN wyy w01 _ es2 s1 (fun r hr => ⟨fun r0 => ri_i (hF _ y fy ⟨fun z => absurd rfl z, fun z => ?_⟩), fun rn => ?_⟩))
    · rw [lk] at z
      by_cases c1 : st.1 = 1
      · rw [c1, rsF_1, su] at z
        by_cases c2 : w = 1 ∧ suM C st.2.2.2.2.1.toNatClampNeg = false ∧ 8 ≤ (M.2.2 T).2.2.2.2.2.2.1.length
        · exact absurd r0 (hr.mpr ⟨c2.1, c1, c2.2.1⟩)
        · rw [if_neg c2] at z; exact absurd rfl z
      · rw [rsF_a o4 c1] at z; exact absurd rfl z
    · obtain ⟨r1, r2, r3⟩ := hr.mp rn
      have l7 : (rg y o T 7).toInt = ((M.2.2 T).2.2.2.2.2.2.1.length : Nat) := (gy.2 T hT).2.2.2.2.2.2.1.1
      rw [r2, rsF_1, su] at lk
      refine kp_get hq ho hy.1 hy.2.1 _ _ et (show (7 : Int32).toInt = ((7 : Nat) : Int) from rfl) hT6 (by omega) ⟨fun c => ri_i (hF _ y fy ⟨fun z => absurd rfl z, fun z => ?_⟩), fun c => ri_i (hF _ y fy ⟨fun _ => ?_, fun _ => k1⟩)⟩
      · rw [lk, if_neg (fun z => by rw [t_lt, k8] at c; omega)] at z
        exact absurd rfl z
      · rw [lk, if_pos ⟨r1, r3, by rw [t_lt, k8] at c; omega⟩]
        decide
  have p70 : ∀ (y : gd) (e : Int32), fm (sLk o) x y → (lkI C M T).1 = 0 → evO (M.2.2 T).2.2.2.2.2.2.2 (Int32.ofNat T) st.2.2.2.2.2.2.2.2.1 = some e → KT G q (d + 3) zk_X5_accessFails 70 [(0, vr o), (1, vi t), (2, vi (rg x o T 2))] [] y (ri F) := by
    intro y e fy l0 e1
    obtain ⟨hy, hKy, gy, wyy, y13⟩ := ag y fy
    have k89 := kn.2.2.2.2.2.2.2.2
    refine kg_X5_accessFails_70 hq ho _ _ ⟨vs, ?_⟩
    rw [eN, fy 89 _ (by unfold sLk; omega)]
    cases hz : st.2.2.2.2.2.2.2.2.2 with
    | none =>
      rw [hz] at k89
      refine ⟨fun _ => p122 y e 0 fy l0 e1 (by rw [hz]; rfl), fun c => absurd k89 c⟩
    | some Q =>
      rw [hz] at k89
      have k89 : SUk x (x.1 89 (M.2.2 T).2.2.1) (Q.map cQ) := k89
      obtain ⟨q1, q2⟩ := ns.2.2.2.2.2.2.2.2.2.1 Q hz
      refine ⟨fun c => ?_, fun _ => ⟨vs, kh_ev hq ho hy hKy hT (gy.2 T hT) _ _ et (SUk_f k89 (fun c k hc => fy c k (by unfold sLk; omega))) q1 q2 (by rw [y13]; exact hml) (fun r z fz hwk => ?_)⟩⟩
      · have := k89.1
        rw [c, tm1] at this
        omega
      · have fz' := fm_tr fy (sW fz)
        rcases hwk with ⟨v, hv, er, y5⟩ | ⟨hv, y5⟩
        · exact ⟨fun _ => p122 z e v fz' l0 e1 (by rw [hz]; exact hv), fun c => absurd y5 c⟩
        · have ll := lkM_2 (w := w) hw0 l0 (by rw [s2]; exact e1) (by rw [s2, hz]; exact hv)
          refine ⟨fun c => ?_, fun _ => ri_i (hF _ z fz' ⟨fun _ => by rw [ll]; show ¬ 1 = 0; decide, fun _ => k1⟩)⟩
          rw [y5] at c; exact absurd c k1
  refine kg_X5_accessFails_0 hq ho _ (kp_get hq ho hM.1 hM.2.1 _ _ et (show (2 : Int32).toInt = ((2 : Nat) : Int) from rfl) hT6 (by omega) (kh_placeOf hq ho hM hK hN g _ et hT h1 o4' (fun r y fy hr => ?_)))
  obtain ⟨hy, hKy, gy, wyy, y13⟩ := ag y fy
  rcases hr with ⟨l0, lc, lc0, lc1⟩ | ⟨ln, lc, l14⟩
  · refine ⟨fun _ => ⟨vs, ?_⟩, fun c => by rw [c, tm1] at lc0; omega⟩
    have k88 := kn.2.2.2.2.2.2.2.1
    rw [eN, fy 88 _ (by unfold sLk; omega)]
    cases hz : st.2.2.2.2.2.2.2.2.1 with
    | none =>
      rw [hz] at k88
      refine ⟨fun _ => p70 y 0 fy l0 (by rw [hz]; rfl), fun c => absurd k88 c⟩
    | some Q =>
      rw [hz] at k88
      have k88 : SUk x (x.1 88 (M.2.2 T).2.2.1) (Q.map cQ) := k88
      obtain ⟨q1, q2⟩ := ns.2.2.2.2.2.2.2.2.1 Q hz
      refine ⟨fun c => ?_, fun _ => ⟨vs, kh_ev hq ho hy hKy hT (gy.2 T hT) _ _ et (SUk_f k88 (fun c k hc => fy c k (by unfold sLk; omega))) q1 q2 (by rw [y13]; exact hml) (fun r z fz hwk => ?_)⟩⟩
      · have := k88.1
        rw [c, tm1] at this
        omega
      · have fz' := fm_tr fy (sW fz)
        rcases hwk with ⟨v, hv, er, y5⟩ | ⟨hv, y5⟩
        · exact ⟨fun _ => p70 z v fz' l0 (by rw [hz]; exact hv), fun c => absurd y5 c⟩
        · have ll := lkM_1 (w := w) hw0 l0 (by rw [s2, hz]; exact hv)
          refine ⟨fun c => ?_, fun _ => ri_i (hF _ z fz' ⟨fun _ => by rw [ll]; show ¬ 1 = 0; decide, fun _ => k1⟩)⟩
          rw [y5] at c; exact absurd c k1
  · refine ⟨fun c => absurd lc c, fun _ => ri_i (hF _ y fy ⟨fun _ => ?_, fun _ => k1⟩)⟩
    rw [lkM_i (w := w) hw0 ln]; exact ln
/-- the cell of a going thread's next act, if it is an access -/
theorem kh_objectOf (hq : kV q) (ho : kiM q o) (hM : MM x o) (hK : CK x C) (hN : NC C) (g : KMm x o C M) (t : Int32) (et : t.toInt = T) (hT : T < C.2.1.length) (h1 : (M.2.2 T).1 = 1) (hF : ∀ r y, fm (sLk o) x y → (soM C (M.2.2 T) ≤ 4 → ((lkI C M T).1 = 0 ∧ r = (lkI C M T).2 ∧ 0 ≤ r.toInt ∧ r.toInt < (x.1 60 6).toInt) ∨ (¬ (lkI C M T).1 = 0 ∧ r = -1)) → (¬ soM C (M.2.2 T) ≤ 4 → r = (stN C (M.2.2 T).2.2.1).2.2.2.2.1 ∨ (stN C (M.2.2 T).2.2.1).1 = 16) → F r y) : KT G q (d + 3) zk_X5_objectOf 0 [(0, vr o), (1, vi t)] [] x (ri F) := by
  have nT : (x.1 60 10).toInt = C.2.1.length := hK.2.1.1
  have hT6 := MM_6 hM.1 (t := T) (by omega)
  have hA := (hM.2.2 T (by omega)).1
  have k4 : (4 : Int32).toInt = 4 := rfl
  have gT := g.2 T hT
  obtain ⟨st, s1, s2, s3, s4, s5, kn, ns⟩ := kst_at hM hK hN hT gT
  obtain ⟨vs, eN, -⟩ := MM_st hM.1 hA
  rw [s3] at eN
  have e81 : (x.1 81 (rg x o T 2).toInt.toNat).toInt = (st.1 : Nat) := by rw [s3]; exact s5
  have w3 : rg x o T 3 = 0 ↔ (M.2.2 T).2.2.2.1 = 0 := kst_w3 hM hK hN hT gT
  have pg : ¬ soM C (M.2.2 T) ≤ 4 → KT G q (d + 2) zk_X5_get 0 [(0, vr o), (1, vi t), (2, vi 2)] [] x (ri (fun r5 x4 => vp_in r5 400 ∧ ri F (some (vi (x4.1 85 (r5 : Int32).toNatClampNeg))) x4)) := fun hn => kp_get hq ho hM.1 hM.2.1 _ _ et (show (2 : Int32).toInt = ((2 : Nat) : Int) from rfl) hT6 (by omega) ⟨vs, ri_i (hF _ x (fm_rf _ _) (fun c => absurd c hn) (fun _ => by
    rw [eN, s2]
    by_cases c16 : st.1 = 16
    · exact Or.inr c16
    · exact Or.inl (kn.2.2.2.2.1 c16)))⟩
  refine kg_X5_objectOf_0 hq ho _ (kp_sortOf hq ho hM.1 hM.2.1 _ et hT6 hA (fun c3 => ⟨fun c4 => pg ?_, fun c4 => ?_⟩) (fun c3 => ⟨fun _ => pg ?_, fun c => absurd (by decide) c⟩))
  · rw [t_lt, k4] at c4
    unfold soM; rw [if_pos (w3.mp c3), s2]; omega
  · rw [t_lt, k4] at c4
    have so : soM C (M.2.2 T) = st.1 := by unfold soM; rw [if_pos (w3.mp c3), s2]
    refine kh_placeOf hq ho hM hK hN g _ et hT h1 (by rw [s2]; omega) (fun r y fy hr => ri_i (hF r y fy (fun _ => hr.imp id (fun z => ⟨z.1, z.2.1⟩)) (fun c => ?_)))
    rw [so] at c; omega
  · unfold soM; rw [if_neg (fun z => c3 (w3.mpr z))]; omega
end KFL
end
section
/-! what a trying tells of all its states: ends, idle ones, choices, locks held, outcomes -/
/-- the locks that a thread holds, of the first n -/
def hdN (M : gMa) (t : Nat) : Nat → Int32
  | 0 => 0
  | n + 1 => if (M.2.1 n).1 = t + 1 then hdN M t n ||| ((1 : Int32) <<< (Int32.ofNat n &&& 31)) else hdN M t n
/-- a thread's access narrows what is held at a cell -/
def caT (C : gCo) (w nl : Nat) (M : gMa) (t c : Nat) (v : Int32) : Int32 := if canM C w M t ∧ soM C (M.2.2 t) ≤ 4 ∧ (lkI C M t).1 = 0 ∧ (lkI C M t).2.toNatClampNeg = c then v &&& hdN M t nl else v
/-- a thread's take comes behind the locks that it holds -/
def tkT (C : gCo) (w nl : Nat) (M : gMa) (t a : Nat) (v : Int32) : Int32 := if canM C w M t ∧ soM C (M.2.2 t) = 5 ∧ ¬ a = obM C (M.2.2 t).2.2.1 ∧ (hdN M t nl >>> (Int32.ofNat a &&& 31)) &&& 1 = 1 then v ||| ((1 : Int32) <<< (Int32.ofNat (obM C (M.2.2 t).2.2.1) &&& 31)) else v
def cmT (C : gCo) (w nl : Nat) (M : gMa) (c : Nat) : Nat → Int32 → Int32
  | 0, v => v
  | t + 1, v => caT C w nl M t c (cmT C w nl M c t v)
def cbT (C : gCo) (w nl : Nat) (M : gMa) (a : Nat) : Nat → Int32 → Int32
  | 0, v => v
  | t + 1, v => tkT C w nl M t a (cbT C w nl M a t v)
/-- some thread goes and can do nothing -/
def idM (C : gCo) (w : Nat) (M : gMa) : Prop := ∃ t, t < C.2.1.length ∧ (M.2.2 t).1 = 1 ∧ ¬ canM C w M t
/-- rows of values: the first that differs decides -/
def ltR : List Int32 → List Int32 → Bool
  | a :: r, b :: s => if a = b then ltR r s else decide (a < b)
  | _, _ => false
def inR (r : List Int32) : List (List Int32) → List (List Int32)
  | [] => [r]
  | s :: L => if s = r then s :: L else if ltR r s = true then r :: s :: L else s :: inR r L
def roM (C : gCo) (M : gMa) : List Int32 := (List.range C.2.2.1.length).map M.1
abbrev gLo := Nat × Nat × Nat × (Nat → Int32) × (Nat → Int32) × List (List Int32)
noncomputable def loM (C : gCo) (w nl : Nat) (M : gMa) (l : gLo) : gLo := (l.1 + (if chM C w M = [] then 1 else 0), l.2.1 + (@ite Nat (idM C w M) (Classical.propDecidable _) 1 0), l.2.2.1 + (chM C w M).length, fun c => cmT C w nl M c C.2.1.length (l.2.2.2.1 c), fun a => cbT C w nl M a C.2.1.length (l.2.2.2.2.1 a), if chM C w M = [] then inR (roM C M) l.2.2.2.2.2 else l.2.2.2.2.2)
def lo0 (nl : Nat) : gLo := (0, 0, 0, fun _ => ((1 : Int32) <<< (Int32.ofNat nl &&& 31)) - 1, fun _ => 0, [])
noncomputable def loS (C : gCo) (w nl : Nat) (T : gTy) : Nat → gLo
  | 0 => lo0 nl
  | k + 1 => match T.1[k]? with
    | some p => loM C w nl p.1 (loS C w nl T k)
    | none => loS C w nl T k
section PLO
variable {C : gCo} {M : gMa} {w nl k : Nat} {T T' : gTy} {r s u : List Int32} {L : List (List Int32)}
theorem loS_go {p : gMa × Nat × Nat} (h : T.1[k]? = some p) : loS C w nl T (k + 1) = loM C w nl p.1 (loS C w nl T k) := by
  rw [loS, h]
theorem loS_T : ∀ {k : Nat}, (∀ s, s < k → T'.1[s]? = T.1[s]?) → loS C w nl T' k = loS C w nl T k := by
  intro k
  induction k with
  | zero => intro _; rfl
  | succ k ih =>
    intro h
    rw [loS, loS, h k (by omega), ih (fun s hs => h s (by omega))]
theorem ltR_irr : ∀ r : List Int32, ltR r r = false := by
  intro r
  induction r with
  | nil => rfl
  | cons a r ih => rw [ltR, if_pos rfl]; exact ih
theorem ltR_tr : ∀ {r s u : List Int32}, ltR r s = true → ltR s u = true → ltR r u = true := by
  intro r
  induction r with
  | nil => intro s u h; cases s <;> exact absurd h (by simp [ltR])
  | cons a r ih =>
    intro s u h1 h2
    cases s with
    | nil => exact absurd h1 (by simp [ltR])
    | cons b s =>
      cases u with
      | nil => exact absurd h2 (by simp [ltR])
      | cons c u =>
        rw [ltR] at h1 h2 ⊢
        by_cases e1 : a = b
        · by_cases e2 : b = c
          · rw [if_pos e1] at h1
            rw [if_pos e2] at h2
            rw [if_pos (e1.trans e2)]
            exact ih h1 h2
          · rw [if_neg e2] at h2
            rw [e1, if_neg e2]; exact h2
        · rw [if_neg e1] at h1
          have h1 := of_decide_eq_true h1
          by_cases e2 : b = c
          · rw [← e2, if_neg e1]; exact decide_eq_true h1
          · rw [if_neg e2] at h2
            have h2 := of_decide_eq_true h2
            rw [t_lt] at h1 h2
            rw [if_neg (fun z => by rw [z] at h1; omega)]
            exact decide_eq_true (by rw [t_lt]; omega)
/-- one goes before the other, where they are as long and differ -/
theorem ltR_tot : ∀ {r s : List Int32}, r.length = s.length → ¬ r = s → ltR r s = true ∨ ltR s r = true := by
  intro r
  induction r with
  | nil => intro s h n; cases s with
    | nil => exact absurd rfl n
    | cons b s => cases h
  | cons a r ih =>
    intro s h n
    cases s with
    | nil => cases h
    | cons b s =>
      rw [ltR, ltR]
      by_cases e : a = b
      · rw [if_pos e, if_pos e.symm]
        exact ih (Nat.succ.inj h) (fun z => n (by rw [e, z]))
      · rw [if_neg e, if_neg (fun z => e z.symm)]
        have e' : ¬ a.toInt = b.toInt := fun z => e (t_eq.mpr z)
        rcases Int.lt_or_gt_of_ne e' with z | z
        · exact Or.inl (decide_eq_true (t_lt.mpr z))
        · exact Or.inr (decide_eq_true (t_lt.mpr z))
/-- rows in order, none twice -/
def soR (L : List (List Int32)) : Prop := L.Pairwise (fun r s => ltR r s = true)
theorem inR_mem (h : soR L) (m : r ∈ L) : inR r L = L := by
  induction L with
  | nil => cases m
  | cons s L ih =>
    rw [inR]
    by_cases e : s = r
    · rw [if_pos e]
    · rw [if_neg e]
      have m : r ∈ L := (List.mem_cons.mp m).resolve_left (fun z => e z.symm)
      have := (List.pairwise_cons.mp h).1 r m
      rw [if_neg (fun z => by have := ltR_tr this z; rw [ltR_irr] at this; cases this), ih (List.pairwise_cons.mp h).2 m]
theorem inR_at : ∀ {L : List (List Int32)} {k : Nat}, k ≤ L.length → (∀ i s, i < k → L[i]? = some s → ltR s r = true) → (∀ i s, k ≤ i → L[i]? = some s → ltR r s = true) → inR r L = L.take k ++ r :: L.drop k := by
  intro L
  induction L with
  | nil => intro k hk _ _; rw [show k = 0 by simpa using hk]; rfl
  | cons s L ih =>
    intro k hk h1 h2
    have ns : ∀ z : List Int32, ltR z r = true → ¬ z = r := fun z hz e => by rw [e, ltR_irr] at hz; cases hz
    have ns' : ∀ z : List Int32, ltR r z = true → ¬ z = r := fun z hz e => by rw [e, ltR_irr] at hz; cases hz
    rw [inR]
    cases k with
    | zero =>
      have := h2 0 s (Nat.le_refl _) rfl
      rw [if_neg (ns' s this), if_pos this]; rfl
    | succ k =>
      have := h1 0 s (Nat.succ_pos _) rfl
      rw [if_neg (ns s this), if_neg (fun z => by have := ltR_tr this z; rw [ltR_irr] at this; cases this), ih (k := k) (Nat.le_of_succ_le_succ hk) (fun i s hi hs => h1 (i + 1) s (by omega) hs) (fun i s hi hs => h2 (i + 1) s (by omega) hs)]
      rfl
theorem inR_in {t : List Int32} : t ∈ inR r L ↔ t = r ∨ t ∈ L := by
  induction L with
  | nil => rw [inR]; exact List.mem_cons
  | cons s L ih =>
    rw [inR]
    by_cases e : s = r
    · rw [if_pos e]
      refine ⟨Or.inr, fun z => z.elim (fun z => ?_) id⟩
      rw [z, e]; exact List.mem_cons_self ..
    · rw [if_neg e]
      by_cases c : ltR r s = true
      · rw [if_pos c]; exact List.mem_cons
      · rw [if_neg c, List.mem_cons, ih, List.mem_cons]
        constructor
        · rintro (z | z | z)
          · exact Or.inr (Or.inl z)
          · exact Or.inl z
          · exact Or.inr (Or.inr z)
        · rintro (z | z | z)
          · exact Or.inr (Or.inl z)
          · exact Or.inl z
          · exact Or.inr (Or.inr z)
theorem inR_so (hl : ∀ s ∈ L, s.length = r.length) (h : soR L) : soR (inR r L) := by
  induction L with
  | nil => rw [inR]; exact List.pairwise_singleton ..
  | cons s L ih =>
    have h1 := List.pairwise_cons.mp h
    rw [inR]
    by_cases e : s = r
    · rw [if_pos e]; exact h
    · rw [if_neg e]
      by_cases c : ltR r s = true
      · rw [if_pos c]
        refine List.pairwise_cons.mpr ⟨fun t ht => ?_, h⟩
        rcases List.mem_cons.mp ht with z | z
        · rw [z]; exact c
        · exact ltR_tr c (h1.1 t z)
      · rw [if_neg c]
        refine List.pairwise_cons.mpr ⟨fun t ht => ?_, ih (fun s hs => hl s (List.mem_cons_of_mem _ hs)) h1.2⟩
        rcases inR_in.mp ht with z | z
        · rw [z]
          exact (ltR_tot (hl s (List.mem_cons_self ..)) e).resolve_right c
        · exact h1.1 t z
theorem inR_len (h : ∀ s ∈ L, s.length = k) (hr : r.length = k) : ∀ s ∈ inR r L, s.length = k := fun s hs => by
  rcases inR_in.mp hs with z | z
  · rw [z]; exact hr
  · exact h s z
/-- rows in order are fixed by which there are -/
theorem soR_eq : ∀ {L K : List (List Int32)}, soR L → soR K → (∀ r, r ∈ L ↔ r ∈ K) → L = K := by
  intro L
  induction L with
  | nil =>
    intro K _ _ h
    cases K with
    | nil => rfl
    | cons s K => exact absurd ((h s).mpr (List.mem_cons_self ..)) (List.not_mem_nil)
  | cons s L ih =>
    intro K hL hK h
    cases K with
    | nil => exact absurd ((h s).mp (List.mem_cons_self ..)) (List.not_mem_nil)
    | cons t K =>
      have l1 := List.pairwise_cons.mp hL
      have k1 := List.pairwise_cons.mp hK
      have as : ∀ a b : List Int32, ltR a b = true → ltR b a = true → False := fun a b h1 h2 => by
        have := ltR_tr h1 h2
        rw [ltR_irr] at this; cases this
      have est : s = t := by
        apply Classical.byContradiction
        intro n
        have a1 : s ∈ K := (List.mem_cons.mp ((h s).mp (List.mem_cons_self ..))).resolve_left n
        have a2 : t ∈ L := (List.mem_cons.mp ((h t).mpr (List.mem_cons_self ..))).resolve_left (fun z => n z.symm)
        exact as _ _ (k1.1 s a1) (l1.1 t a2)
      rw [est]
      congr 1
      refine ih l1.2 k1.2 (fun r => ⟨fun hr => ?_, fun hr => ?_⟩)
      · refine (List.mem_cons.mp ((h r).mp (List.mem_cons_of_mem _ hr))).resolve_left (fun z => ?_)
        have := l1.1 r hr
        rw [z, est, ltR_irr] at this; cases this
      · refine (List.mem_cons.mp ((h r).mpr (List.mem_cons_of_mem _ hr))).resolve_left (fun z => ?_)
        have := k1.1 r hr
        rw [z, ← est, ltR_irr] at this; cases this
/-- outcomes of any of the first states: in order, as long as there are cells -/
theorem loS_so : ∀ k, soR (loS C w nl T k).2.2.2.2.2 ∧ ∀ r ∈ (loS C w nl T k).2.2.2.2.2, r.length = C.2.2.1.length := by
  intro k
  induction k with
  | zero => exact ⟨List.Pairwise.nil, fun r hr => by cases hr⟩
  | succ k ih =>
    rw [loS]
    cases T.1[k]? with
    | none => exact ih
    | some p =>
      show soR (if _ then _ else _) ∧ _
      have el : (roM C p.1).length = C.2.2.1.length := by unfold roM; rw [List.length_map, List.length_range]
      by_cases c : chM C w p.1 = []
      · show soR (if chM C w p.1 = [] then inR (roM C p.1) _ else _) ∧ ∀ r ∈ (if chM C w p.1 = [] then inR (roM C p.1) _ else _), _
        rw [if_pos c]
        exact ⟨inR_so (fun s hs => by rw [ih.2 s hs, el]) ih.1, inR_len ih.2 el⟩
      · show soR (if chM C w p.1 = [] then inR (roM C p.1) _ else _) ∧ ∀ r ∈ (if chM C w p.1 = [] then inR (roM C p.1) _ else _), _
        rw [if_neg c]
        exact ih
theorem inR_n (L : List (List Int32)) : (inR r L).length ≤ L.length + 1 := by
  induction L with
  | nil => exact Nat.le_refl _
  | cons s L ih =>
    rw [inR]
    split
    · exact Nat.le_succ _
    · split
      · exact Nat.le_refl _
      · show (inR r L).length + 1 ≤ _
        exact Nat.succ_le_succ ih
end PLO
end
section
/-! the class: locks held, takes noted, outcomes kept in order -/
def orw (o i : Nat) : Nat := if o = 260 then 4000 + i else 7000 + i
/-- the outcomes that are kept, in order -/
def OUo (x : gd) (o : Nat) (L : List (List Int32)) : Prop := (x.1 o 3).toInt = (L.length : Nat) ∧ ∀ i r, L[i]? = some r → ∀ c v, r[c]? = some v → x.1 (orw o (x.1 (o + 14) i).toInt.toNat) c = v
/-- with places that there are -/
def OUi (x : gd) (o : Nat) (L : List (List Int32)) : Prop := ∀ i, i < L.length → (x.1 (o + 14) i).toInt.toNat < 3000
def OUk (x : gd) (o : Nat) (L : List (List Int32)) : Prop := OUo x o L ∧ OUi x o L
section KOU
variable {G : kG} {q q1 : kP} {d : Nat} {x x0 y z : gd} {o : Nat} {F : Int32 → gd → Prop} {Fv : gd → Prop} {Fm : gd → kP → Prop} {X : String → gd → kP → Prop} {C : gCo} {M : gMa} {T w nl : Nat} {L : List (List Int32)} {r s : List Int32}
theorem orw_ge (i : Nat) : 4000 ≤ orw o i := by unfold orw; split <;> omega
theorem orw_own (hO : o = 260 ∨ o = 280) {i : Nat} (h : i < 3000) : ((o = 260 ∧ 4000 ≤ orw o i ∧ orw o i < 7000) ∨ (o = 280 ∧ 7000 ≤ orw o i)) := by
  unfold orw
  rcases hO with e | e
  · rw [if_pos e]; omega
  · rw [if_neg (by omega)]; omega
/-- rows stay where their own are left -/
theorem OUk_g (e3 : y.1 o 3 = x.1 o 3) (e14 : ∀ k, y.1 (o + 14) k = x.1 (o + 14) k) (er : ∀ i k, i < 3000 → y.1 (orw o i) k = x.1 (orw o i) k) (h : OUk x o L) : OUk y o L := by
  obtain ⟨⟨h1, h2⟩, h3⟩ := h
  refine ⟨⟨by rw [e3]; exact h1, fun i r hr c v hv => ?_⟩, fun i hi => by rw [e14]; exact h3 i hi⟩
  rw [e14, er _ _ (h3 i (gt_lt hr))]
  exact h2 i r hr c v hv
theorem orw_ne {i j : Nat} (h : ¬ i = j) : ¬ orw o i = orw o j := by unfold orw; split <;> omega
theorem tr_row2 {i : Nat} (hq : kV q) (ho : kiT q o) (hi : i < oN q o) : (kf q).1 (o + 13) i = some (orw o i) ∧ kK (orw o i) = .inr (.int, 24) ∧ orw o i ∈ (kf q).2.1 := by
  rcases ho with ⟨rfl, h⟩ | ⟨rfl, h⟩
  · have hi : i < q.o0 := hi
    refine ⟨?_, ?_, hq.2.2.2.2.2.2.1 i hi⟩
    · show kR q 273 i = _
      unfold kR
      rw [if_neg (by omega), if_neg (by omega), if_neg (by omega), if_neg (by omega), if_neg (by omega), if_pos rfl, if_pos hi]
      rfl
    · show kK (4000 + i) = _
      unfold kK; rw [if_neg (by omega), if_neg (by omega), if_neg (by omega)]
  · have hi : i < q.o1 := hi
    refine ⟨?_, ?_, hq.2.2.2.2.2.2.2 i hi⟩
    · show kR q 293 i = _
      unfold kR
      rw [if_neg (by omega), if_neg (by omega), if_neg (by omega), if_neg (by omega), if_neg (by omega), if_neg (by omega), if_pos rfl, if_pos hi]
      rfl
    · show kK (7000 + i) = _
      unfold kK; rw [if_neg (by omega), if_neg (by omega), if_neg (by omega)]
theorem kh_heldBy (hq : kV q) (ho : kiM q o) (hM : MM x o) (g : KMm x o C M) (en : (x.1 60 9).toInt = (nl : Nat)) (t : Int32) (et : t.toInt = T) (hT : T < 6) (h : F (hdN M T nl) x) : KT G q (d + 1) zk_X5_heldBy 0 [(0, vr o), (1, vi t)] [] x (ri F) := by
  have hb := hM.1.1.2.1
  have tT : t = Int32.ofNat T := i32_of et
  have loop : ∀ (n k : Nat) (a i : Int32), i.toInt = k → nl - k ≤ n → k ≤ nl → a = hdN M T k → KT G q (d + 1) zk_X5_heldBy 4 [(0, vr o), (1, vi t), (2, vi a), (3, vi i)] [] x (ri F) := by
    intro n
    have fin : ∀ (k : Nat) (a i : Int32), i.toInt = k → k ≤ nl → a = hdN M T k → x.1 60 9 ≤ i → ri F (some (vi a)) x := by
      intro k a i ei hk ea c
      rw [t_le] at c
      have ek : k = nl := by omega
      rw [ea, ek]; exact ri_i h
    induction n with
    | zero =>
      intro k a i ei hn hk ea
      refine kg_X5_heldBy_4 hq ho _ _ _ ⟨fun c => fin k a i ei hk ea c, fun c => ?_⟩
      exfalso; rw [t_le] at c; omega
    | succ n ih =>
      intro k a i ei hn hk ea
      refine kg_X5_heldBy_4 hq ho _ _ _ ⟨fun c => fin k a i ei hk ea c, fun c => ?_⟩
      rw [t_le] at c
      have e1 : (i + 1).toInt = ((k + 1 : Nat) : Int) := by rw [t_add (by show _ ≤ _ + (1 : Int); omega) (by show _ + (1 : Int) ≤ _; omega), ei]; rfl
      have hl : (k : Int) < (x.1 60 9).toInt := by omega
      have l6 := (g.1.2 k hl).2.1
      have hh := hol_t (M.2.1 k).1 (by omega) T hT
      refine kh_holder hq ho hM g _ ei hl ⟨fun c => ih (k + 1) _ _ e1 (by omega) (by omega) ?_, fun c => ih (k + 1) _ _ e1 (by omega) (by omega) ?_⟩
      · rw [tT, hh] at c
        rw [hdN, if_neg c]; exact ea
      · rw [tT, hh] at c
        rw [hdN, if_pos c, ← ea, i32_of ei]
  exact kg_X5_heldBy_0 hq ho _ (loop nl 0 _ _ rfl (by omega) (Nat.zero_le _) rfl)
theorem kt_addTake3 (hq : kV q) (ho : kiT q o) (a : Int32) {B : Nat} (hB : B < 6) (h : ∀ y, fm (fun c k => c = o + 9) x y → (∀ k, k < 6 → y.1 (o + 9) k = if ¬ k = B ∧ (a >>> (Int32.ofNat k &&& 31)) &&& 1 = 1 then x.1 (o + 9) k ||| ((1 : Int32) <<< (Int32.ofNat B &&& 31)) else x.1 (o + 9) k) → Fv y) : KT G q d zk_X10_addTake 0 [(0, vr o), (1, vi a), (2, vi (Int32.ofNat B))] [] x (rv Fv) := by
  have k6 : (6 : Int32).toInt = 6 := rfl
  have eqn : ∀ k, k < 7 → ∀ b, b < 6 → (Int32.ofNat k = Int32.ofNat b ↔ k = b) := by decide +kernel
  have loop : ∀ (n k : Nat) (i : Int32) (y : gd), i.toInt = k → 6 - k ≤ n → k ≤ 6 → fm (fun c k => c = o + 9) x y → (∀ k', k' < k → y.1 (o + 9) k' = if ¬ k' = B ∧ (a >>> (Int32.ofNat k' &&& 31)) &&& 1 = 1 then x.1 (o + 9) k' ||| ((1 : Int32) <<< (Int32.ofNat B &&& 31)) else x.1 (o + 9) k') → (∀ k', k ≤ k' → y.1 (o + 9) k' = x.1 (o + 9) k') → KT G q d zk_X10_addTake 2 [(0, vr o), (1, vi a), (2, vi (Int32.ofNat B)), (3, vi i)] [] y (rv Fv) := by
    intro n
    have fin : ∀ (k : Nat) (i : Int32) (y : gd), i.toInt = k → k ≤ 6 → fm (fun c k => c = o + 9) x y → (∀ k', k' < k → y.1 (o + 9) k' = if ¬ k' = B ∧ (a >>> (Int32.ofNat k' &&& 31)) &&& 1 = 1 then x.1 (o + 9) k' ||| ((1 : Int32) <<< (Int32.ofNat B &&& 31)) else x.1 (o + 9) k') → (6 : Int32) ≤ i → rv Fv none y := by
      intro k i y ei hk fy h1 c
      rw [t_le, k6] at c
      exact rv_i (h y fy (fun k' hk' => h1 k' (by clear h1; omega)))
    induction n with
    | zero =>
      intro k i y ei hn hk fy h1 h2
      refine kg_X10_addTake_2 hq ho _ _ _ ⟨fun c => fin k i y ei hk fy h1 c, fun c => ?_⟩
      clear h1 h2
      rw [t_le, k6] at c; omega
    | succ n ih =>
      intro k i y ei hn hk fy h1 h2
      refine kg_X10_addTake_2 hq ho _ _ _ ⟨fun c => fin k i y ei hk fy h1 c, fun c => ?_⟩
      rw [t_le, k6] at c
      have hk6 : k < 6 := by clear h1 h2; omega
      have e1 : (i + 1).toInt = ((k + 1 : Nat) : Int) := by clear h1 h2; rw [t_add (by show _ ≤ _ + (1 : Int); omega) (by show _ + (1 : Int) ≤ _; omega), ei]; rfl
      have v6 : vp_in i 6 := by clear h1 h2; rw [vp_in_iff]; omega
      have iK : i.toNatClampNeg = k := by rw [t_cl, ei]; rfl
      have eI : i = Int32.ofNat k := i32_of ei
      have q2 := eqn k (by omega) B hB
      have go : ∀ z, fm (fun c k => c = o + 9) x z → (∀ k', ¬ k' = k → z.1 (o + 9) k' = y.1 (o + 9) k') → (z.1 (o + 9) k = if ¬ k = B ∧ (a >>> (Int32.ofNat k &&& 31)) &&& 1 = 1 then x.1 (o + 9) k ||| ((1 : Int32) <<< (Int32.ofNat B &&& 31)) else x.1 (o + 9) k) → KT G q d zk_X10_addTake 2 [(0, vr o), (1, vi a), (2, vi (Int32.ofNat B)), (3, vi (i + 1))] [] z (rv Fv) := fun z fz z1 z2 => ih (k + 1) _ z e1 (by clear h1 h2 z1; omega) hk6 fz (fun k' hk' => by
        by_cases e : k' = k
        · rw [e]; exact z2
        · rw [z1 k' e]; exact h1 k' (by omega)) (fun k' hk' => by rw [z1 k' (by omega)]; exact h2 k' (by omega))
      have yk := h2 k (Nat.le_refl _)
      refine ⟨fun e => go y fy (fun _ _ => rfl) ?_, fun e => ⟨fun e2 => go y fy (fun _ _ => rfl) ?_, fun e2 => ⟨v6, v6, fun z ez => ?_⟩⟩⟩
      · rw [eI, q2] at e
        rw [if_neg (fun z => z.1 e)]; exact yk
      · rw [eI] at e2
        rw [if_neg (fun z => e2 z.2)]; exact yk
      · rw [eI] at e2
        rw [eI, q2] at e
        rw [iK] at ez
        refine go z (by rw [ez]; exact fm_si fy rfl) (fun k' hk' => by rw [ez, si_get, if_neg (fun q => hk' q.2)]) ?_
        rw [if_pos ⟨e, e2⟩, ez, si_get, if_pos ⟨rfl, rfl⟩, yk]
  exact kg_X10_addTake_0 hq ho _ _ (loop 6 0 _ x rfl (by omega) (by omega) (fm_rf _ _) (fun k' hk' => absurd hk' (Nat.not_lt_zero _)) (fun _ _ => rfl))
theorem ltR_at : ∀ {k : Nat} {r s : List Int32} {a b : Int32}, r.take k = s.take k → r[k]? = some a → s[k]? = some b → ¬ a = b → ltR r s = decide (a < b) := by
  intro k
  induction k with
  | zero =>
    intro r s a b _ h1 h2 ne
    cases r with
    | nil => cases h1
    | cons a' r =>
      cases s with
      | nil => cases h2
      | cons b' s =>
        have e1 : a' = a := Option.some.inj h1
        have e2 : b' = b := Option.some.inj h2
        rw [ltR, e1, e2, if_neg ne]
  | succ k ih =>
    intro r s a b ht h1 h2 ne
    cases r with
    | nil => cases h1
    | cons a' r =>
      cases s with
      | nil => cases h2
      | cons b' s =>
        rw [List.take_succ_cons, List.take_succ_cons] at ht
        obtain ⟨e1, e2⟩ := List.cons.inj ht
        rw [ltR, if_pos e1]
        exact ih e2 h1 h2 ne
theorem kt_order3 (hq : kV q) (ho : kiT q o) {a b na nb : Nat} (ka : kK a = .inr (.int, na)) (ma : a ∈ (kf q).2.1) (kb : kK b = .inr (.int, nb)) (mb : b ∈ (kf q).2.1) (n : Int32) {N : Nat} (en : n.toInt = N) (hN : N ≤ 24) (hna : 24 ≤ na) (hnb : 24 ≤ nb) (lr : r.length = N) (ls : s.length = N) (hr : ∀ c v, r[c]? = some v → x.1 a c = v) (hs : ∀ c v, s[c]? = some v → x.1 b c = v) (h0 : r = s → F 0 x) (h1 : ltR s r = true → F 1 x) (hm : ltR r s = true → F (-1) x) : KT G q d zk_X10_order 0 [(0, vr a), (1, vr b), (2, vi n)] [] x (ri F) := by
  have loop : ∀ (m k : Nat) (i : Int32), i.toInt = k → N - k ≤ m → k ≤ N → r.take k = s.take k → KT G q d zk_X10_order 2 [(0, vr a), (1, vr b), (2, vi n), (3, vi i)] [] x (ri F) := by
    intro m
    have fin : ∀ (k : Nat) (i : Int32), i.toInt = k → k ≤ N → r.take k = s.take k → n ≤ i → ri F (some (vi 0)) x := by
      intro k i ei hk ht c
      rw [t_le] at c
      refine ri_i (h0 ?_)
      rw [List.take_of_length_le (by omega), List.take_of_length_le (by omega)] at ht
      exact ht
    induction m with
    | zero =>
      intro k i ei hn hk ht
      refine kg_X10_order_2 hq ho ka ma kb mb _ _ ⟨fun c => fin k i ei hk ht c, fun c => ?_⟩
      rw [t_le] at c; omega
    | succ m ih =>
      intro k i ei hn hk ht
      refine kg_X10_order_2 hq ho ka ma kb mb _ _ ⟨fun c => fin k i ei hk ht c, fun c => ?_⟩
      rw [t_le] at c
      have ei1 : (i + 1).toInt = ((k + 1 : Nat) : Int) := by rw [t_add (by show _ ≤ _ + (1 : Int); omega) (by show _ + (1 : Int) ≤ _; omega), ei]; rfl
      have va : vp_in i na := by rw [vp_in_iff]; omega
      have vb : vp_in i nb := by rw [vp_in_iff]; omega
      have iK : i.toNatClampNeg = k := by rw [t_cl, ei]; rfl
      obtain ⟨u, hu⟩ : ∃ u, r[k]? = some u := ⟨_, List.getElem?_eq_getElem (by omega)⟩
      obtain ⟨v, hv⟩ : ∃ v, s[k]? = some v := ⟨_, List.getElem?_eq_getElem (by omega)⟩
      rw [iK, hr k u hu, hs k v hv]
      refine ⟨va, vb, fun e => ih (k + 1) _ ei1 (by omega) (by omega) ?_, fun ne => ⟨va, vb, fun c => ri_i (h1 ?_), fun c => ri_i (hm ?_)⟩⟩
      · rw [List.take_succ, List.take_succ, ht, hu, hv, e]
      · rw [ltR_at ht.symm hv hu (fun z => ne z.symm)]
        rw [t_le] at c
        rw [t_eq] at ne
        exact decide_eq_true (by rw [t_lt]; omega)
      · rw [ltR_at ht hu hv ne]
        rw [t_le] at c
        exact decide_eq_true (by rw [t_lt]; omega)
  exact kg_X10_order_0 hq ho ka ma kb mb _ (loop N 0 _ rfl (by omega) (Nat.zero_le _) rfl)
theorem kt_insert3 (hu : kU q) (ho : kiT q o) {a n : Nat} (ka : kK a = .inr (.int, n)) (ma : a ∈ (kf q).2.1) (hn : 24 ≤ n) (a4 : a < 4000) (l1 l3 : Int32) (hT : TO x q o) {K N : Nat} (eK : l1.toInt = K) (h1 : (K : Int) ≤ (x.1 o 3).toInt) (eN : l3.toInt = N) (h3 : N ≤ 24) (hL : OUk x o L) (hlt : L.length < 3000) (lr : r.length = N) (hr : ∀ c v, r[c]? = some v → x.1 a c = v) (h : ∀ y q1, kU q1 → kle q q1 → q1.et = q.et → fm (sOu o) x y → TO y q1 o → OUk y o (L.take K ++ r :: L.drop K) → Fm y q1) : KM G q (d + 2) zk_X10_insertOutcome 0 [(0, vr o), (1, vi l1), (2, vr a), (3, vi l3)] [] x (rm q Fm) X := by
  have hO := iT_O ho
  have k3 : (3000 : Int32).toInt = 3000 := rfl
  have k0 : (0 : Int32).toInt = 0 := rfl
  have k1 : (1 : Int32).toInt = 1 := rfl
  obtain ⟨⟨b0, b1, b2⟩, b3⟩ := id hT
  have part2 : ∀ (q1 : kP) (z : gd), kU q1 → kle q q1 → q1.et = q.et → fm (fun c k => c = orw o (x.1 o 3).toInt.toNat) x z → (x.1 o 3).toInt < oN q1 o → KM G q1 (d + 2) zk_X10_insertOutcome 36 [(0, vr o), (1, vi l1), (2, vr a), (3, vi l3)] [] z (rm q Fm) X := by
    intro q1 z hu1 hl1 et1 fz hN
    have hN3 := oN_U hu1 o
    have ho1 := kle_T hl1 ho
    have g4 := orw_ge (o := o) (x.1 o 3).toInt.toNat
    refine kg_X10_insertOutcome_36 hu1 ho1 ka (hl1.1 _ ma) l1 l3 ?_
    rw [fz o 3 (by omega), t_cl (x.1 o 3)]
    refine ⟨by rw [vp_in_iff]; omega, fun u eu => ?_⟩
    obtain ⟨hc1, hc2, hc3⟩ := tr_row2 hu1.1 ho1 (i := (x.1 o 3).toInt.toNat) (by omega)
    rw [hc1] at eu
    refine ⟨_, eu, hc2, hc3, by decide, by decide, by rw [t_lt, k0]; omega, by rw [tn0, t_cl]; omega, by rw [tn0, t_cl]; omega, fun x11 e11 => ?_⟩
    have f11 : fm (fun c k => c = orw o (x.1 o 3).toInt.toNat) x x11 := by intro c' k' hn'; rw [e11, scp_get, if_neg (by omega)]; exact fz c' k' hn'
    have r11 : ∀ c v, r[c]? = some v → x11.1 (orw o (x.1 o 3).toInt.toNat) c = v := by
      intro c v hv
      have hc := gt_lt hv
      rw [e11, scp_get, tn0, t_cl, eN, if_pos ⟨rfl, by omega, by omega⟩, show 0 + (c - 0) = c by omega, fz a c (by omega)]
      exact hr c v hv
    rw [f11 o 3 (by omega)]
    have es : (x.1 o 3 - l1).toInt = (x.1 o 3).toInt - l1.toInt := t_sub (by omega) (by omega)
    have e1 : (l1 + 1).toInt = l1.toInt + 1 := by rw [t_add (by rw [k1]; omega) (by rw [k1]; omega), k1]
    have e31 : (x.1 o 3 + 1).toInt = (x.1 o 3).toInt + 1 := by rw [t_add (by rw [k1]; omega) (by rw [k1]; omega), k1]
    refine ⟨by rw [t_lt, k0]; omega, by rw [t_lt, k0, e1]; omega, by rw [t_lt, k0, es]; omega, by rw [t_cl, t_cl, es]; omega, by rw [t_cl, t_cl, es, e1]; omega, fun x17 e17 => ⟨by rw [vp_in_iff]; omega, fun x19 e19 x20 e20 => ?_⟩⟩
    have h17 : x17.1 o 3 = x.1 o 3 := by rw [e17, scp_get, if_neg (by omega), f11 o 3 (by omega)]
    rw [h17] at e19
    have h19 : x19.1 o 3 = x.1 o 3 := by rw [e19, si_get, if_neg (by omega), h17]
    rw [h19] at e20
    have g3 : x20.1 o 3 = x.1 o 3 + 1 := by rw [e20, si_get, if_pos ⟨rfl, rfl⟩]
    have gi : ∀ i : Nat, x20.1 (o + 14) i = if i = K then x.1 o 3 else if K + 1 ≤ i ∧ i < (x.1 o 3).toInt.toNat + 1 then x.1 (o + 14) (i - 1) else x.1 (o + 14) i := by
      intro i
      rw [e20, si_get, if_neg (by omega), e19, si_get, t_cl, eK]
      by_cases q1 : i = K
      · rw [if_pos ⟨rfl, by omega⟩, if_pos q1]
      · rw [if_neg (fun z => q1 (by have := z.2; omega)), if_neg q1, e17, scp_get, t_cl, t_cl, t_cl, es, e1]
        by_cases q2 : K + 1 ≤ i ∧ i < (x.1 o 3).toInt.toNat + 1
        · rw [if_pos ⟨rfl, by omega, by omega⟩, if_pos q2, f11 _ _ (by omega), show l1.toInt.toNat + (i - (l1.toInt + 1).toNat) = i - 1 by omega]
        · rw [if_neg (by omega), if_neg q2, f11 _ _ (by omega)]
    have gr : ∀ c k, 4000 ≤ c → x20.1 c k = x11.1 c k := fun c k hc => by rw [e20, si_get, if_neg (by omega), e19, si_get, if_neg (by omega), e17, scp_get, if_neg (by omega)]
    refine rm_i hu1 hl1 (h x20 q1 hu1 hl1 et1 ?_ ?_ ⟨⟨?_, fun i t ht => ?_⟩, fun i hi => ?_⟩)
    · intro c' k' hn'
      unfold sOu at hn'
      rw [e20, si_get, if_neg (by omega), e19, si_get, if_neg (by omega), e17, scp_get, if_neg (by omega)]
      exact f11 c' k' (fun z9 => by have := orw_own hO (i := (x.1 o 3).toInt.toNat) (by omega); rw [← z9] at this; omega)
    · unfold TO
      rw [g3, e31]
      refine ⟨by omega, fun i hi => ?_⟩
      rw [gi i]
      by_cases q1 : i = K
      · rw [if_pos q1]; omega
      · rw [if_neg q1]
        by_cases q2 : K + 1 ≤ i ∧ i < (x.1 o 3).toInt.toNat + 1
        · rw [if_pos q2]
          have := b3 (i - 1) (by omega)
          omega
        · rw [if_neg q2]
          have := b3 i (by omega)
          omega
    · have l0 := hL.1.1
      rw [g3, e31, l0, List.length_append, List.length_cons, List.length_take, List.length_drop]
      omega
    · have l0 := hL.1.1
      have old : ∀ j c v, L[j]? = some t → t[c]? = some v → x20.1 (orw o (x.1 (o + 14) j).toInt.toNat) c = v := by
        intro j c v hj hv
        have hjl := gt_lt hj
        have := b3 j (by omega)
        rw [gr _ _ (orw_ge _), f11 _ _ (orw_ne (by omega))]
        exact hL.1.2 j t hj c v hv
      intro c v hv
      rw [gi i]
      by_cases q1 : i = K
      · rw [if_pos q1]
        have et : t = r := by
          rw [q1, List.getElem?_append_right (by rw [List.length_take]; omega), List.length_take, show K - min K L.length = 0 by omega] at ht
          exact (Option.some.inj ht).symm
        rw [gr _ _ (orw_ge _)]
        exact r11 c v (by rw [← et]; exact hv)
      · rw [if_neg q1]
        by_cases q2 : K + 1 ≤ i ∧ i < (x.1 o 3).toInt.toNat + 1
        · rw [if_pos q2]
          refine old (i - 1) c v ?_ hv
          rw [List.getElem?_append_right (by rw [List.length_take]; omega), List.length_take, show i - min K L.length = (i - 1 - K) + 1 by omega, List.getElem?_cons_succ, List.getElem?_drop, show K + (i - 1 - K) = i - 1 by omega] at ht
          exact ht
        · rw [if_neg q2]
          have hil : i < K := by
            have := gt_lt ht
            rw [List.length_append, List.length_cons, List.length_take, List.length_drop] at this
            omega
          refine old i c v ?_ hv
          rw [List.getElem?_append_left (by rw [List.length_take]; omega), List.getElem?_take, if_pos hil] at ht
          exact ht
    · have l0 := hL.1.1
      rw [List.length_append, List.length_cons, List.length_take, List.length_drop] at hi
      rw [gi i]
      by_cases q1 : i = K
      · rw [if_pos q1]; omega
      · rw [if_neg q1]
        by_cases q2 : K + 1 ≤ i ∧ i < (x.1 o 3).toInt.toNat + 1
        · rw [if_pos q2]
          have := b3 (i - 1) (by omega)
          omega
        · rw [if_neg q2]
          have := b3 i (by omega)
          omega
  have l0 := hL.1.1
  refine kg_X10_insertOutcome_0 hu ho ka ma l1 l3 ⟨fun c => ?_, fun c => ?_⟩
  rotate_left
  · rw [t_lt, k3] at c; omega
  rw [t_lt, k3] at c
  have v3 : vp_in (x.1 o 3) 3000 := by rw [vp_in_iff]; omega
  rw [t_cl]
  refine ⟨v3, fun u eu => ⟨fun hno => ?_, fun c5 h5 => part2 q x hu (kle_rf q) rfl (fm_rf _ _) ?_⟩⟩
  · have hN : (x.1 o 3).toInt.toNat = oN q o := by
      by_cases hl : (x.1 o 3).toInt.toNat < oN q o
      · have hc1 := (tr_row2 hu.1 ho hl).1
        rw [eu, hc1] at hno; cases hno
      · omega
    refine ⟨hN, v3, fun q6 x7 e6 e7 hu6 hl6 => part2 q6 x7 hu6 hl6 ?_ ?_ ?_⟩
    · rw [e6]; unfold kOr; split <;> rfl
    · intro c' k' hn'
      rw [e7, zn_get, if_neg]
      intro z
      apply hn'
      rw [z, hN]
      unfold oC orw oN
      split <;> rfl
    · have : oN q6 o = oN q o + 1 := by
        rw [e6]
        rcases hO with e | e
        · rw [e]; rfl
        · rw [e]; rfl
      omega
  · by_cases hl : (x.1 o 3).toInt.toNat < oN q o
    · omega
    · rw [eu, tr_none ho hl] at h5; cases h5
theorem kt_addOutcome3 (hu : kU q) (ho : kiT q o) {a n : Nat} (ka : kK a = .inr (.int, n)) (ma : a ∈ (kf q).2.1) (hn : 24 ≤ n) (a4 : a < 4000) (l2 : Int32) (hT : TO x q o) {N : Nat} (eN : l2.toInt = N) (h2 : N ≤ 24) (hL : OUk x o L) (hlt : L.length < 3000) (hso : soR L) (hll : ∀ t ∈ L, t.length = N) (lr : r.length = N) (hr : ∀ c v, r[c]? = some v → x.1 a c = v) (h : ∀ y q1, kU q1 → kle q q1 → q1.et = q.et → fm (sOu o) x y → TO y q1 o → OUk y o (inR r L) → Fm y q1) : KM G q (d + 3) zk_X10_addOutcome 0 [(0, vr o), (1, vr a), (2, vi l2)] [] x (rm q Fm) X := by
  have k3 : (3000 : Int32).toInt = 3000 := rfl
  have k1 : (1 : Int32).toInt = 1 := rfl
  obtain ⟨⟨b0, b1, b2⟩, b3⟩ := id hT
  have l0 := hL.1.1
  have sor : ∀ i j t u, i < j → L[i]? = some t → L[j]? = some u → ltR t u = true := fun i j t u hij hi hj => by
    obtain ⟨hi1, hi2⟩ := List.getElem?_eq_some_iff.mp hi
    obtain ⟨hj1, hj2⟩ := List.getElem?_eq_some_iff.mp hj
    have := List.pairwise_iff_getElem.mp hso i j hi1 hj1 hij
    rw [hi2, hj2] at this; exact this
  have fin : ∀ (l3 : Int32) (A : Nat), l3.toInt = A → A ≤ L.length → (∀ i t, i < A → L[i]? = some t → ltR t r = true) → (∀ i t, A ≤ i → L[i]? = some t → ltR r t = true) → KM G q (d + 3) zk_X10_addOutcome 81 [(0, vr o), (1, vr a), (2, vi l2), (3, vi l3)] [] x (rm q Fm) X := by
    intro l3 A e3 g2 g3 g4
    exact kg_X10_addOutcome_81 hu ho ka ma l2 l3 (kt_insert3 hu ho ka ma hn a4 l3 l2 hT e3 (by omega) eN h2 hL hlt lr hr (fun y q1 hu1 hl1 e f t ou => rm_i hu1 hl1 (h y q1 hu1 hl1 e f t (by rw [inR_at g2 g3 g4]; exact ou))))
  have loop : ∀ (m k A B : Nat) (l3 l4 l5 : Int32), l5.toInt = k → 3000 - k ≤ m → B - A ≤ 3000 - k → l3.toInt = A → l4.toInt = B → A ≤ B → B ≤ L.length → (∀ i t, i < A → L[i]? = some t → ltR t r = true) → (∀ i t, B ≤ i → L[i]? = some t → ltR r t = true) → KM G q (d + 3) zk_X10_addOutcome 11 [(0, vr o), (1, vr a), (2, vi l2), (3, vi l3), (4, vi l4), (5, vi l5)] [] x (rm q Fm) X := by
    intro m
    have fi : ∀ (A B : Nat) (l3 : Int32), l3.toInt = A → A = B → B ≤ L.length → (∀ i t, i < A → L[i]? = some t → ltR t r = true) → (∀ i t, B ≤ i → L[i]? = some t → ltR r t = true) → KM G q (d + 3) zk_X10_addOutcome 81 [(0, vr o), (1, vr a), (2, vi l2), (3, vi l3)] [] x (rm q Fm) X := fun A B l3 e3 eq hB g1 g2 => fin l3 A e3 (by omega) g1 (by rw [eq]; exact g2)
    induction m with
    | zero =>
      intro k A B l3 l4 l5 e5 hm hAB e3 e4 hle hBL g1 g2
      refine kg_X10_addOutcome_11 hu ho ka ma l2 l3 l4 l5 ⟨fun _ => fi A B l3 e3 (by clear g1 g2; omega) hBL g1 g2, fun c => ?_⟩
      clear g1 g2
      rw [t_le, k3] at c; omega
    | succ m ih =>
      intro k A B l3 l4 l5 e5 hm hAB e3 e4 hle hBL g1 g2
      refine kg_X10_addOutcome_11 hu ho ka ma l2 l3 l4 l5 ⟨fun c => fi A B l3 e3 (by clear g1 g2; rw [t_le, k3] at c; omega) hBL g1 g2, fun c => ⟨fun c => fi A B l3 e3 (by clear g1 g2; rw [t_le] at c; omega) hBL g1 g2, fun c2 => ?_⟩⟩
      rw [t_le, k3] at c
      rw [t_le] at c2
      have lAB : A < B := by clear g1 g2; omega
      have es : (l3 + l4).toInt = l3.toInt + l4.toInt := by clear g1 g2; exact t_add (by omega) (by omega)
      have em : ((l3 + l4) / 2).toInt = (l3.toInt + l4.toInt) / 2 := by rw [t_div2 (by clear g1 g2; omega), es]
      obtain ⟨mid, hmid⟩ : ∃ w : Int32, w = (l3 + l4) / 2 := ⟨_, rfl⟩
      rw [← hmid] at em ⊢
      clear hmid
      obtain ⟨D, eD⟩ : ∃ D : Nat, mid.toInt = D := ⟨mid.toInt.toNat, by clear g1 g2; omega⟩
      have bD : A ≤ D ∧ D < B ∧ D - A ≤ 2999 - k ∧ B - (D + 1) ≤ 2999 - k := by clear g1 g2; omega
      have bm := b3 D (by clear g1 g2; omega)
      have e51 : (l5 + 1).toInt = ((k + 1 : Nat) : Int) := by clear g1 g2; rw [t_add (by rw [k1]; omega) (by rw [k1]; omega), k1, e5]; rfl
      have em1 : (mid + 1).toInt = ((D + 1 : Nat) : Int) := by clear g1 g2; rw [t_add (by rw [k1]; omega) (by rw [k1]; omega), k1, eD]; rfl
      have vm : vp_in mid 3000 := by clear g1 g2; rw [vp_in_iff]; omega
      rw [t_cl mid, eD, show ((D : Nat) : Int).toNat = D from rfl]
      obtain ⟨u, hu9⟩ : ∃ u, L[D]? = some u := ⟨_, List.getElem?_eq_getElem (by clear g1 g2; omega)⟩
      have hrow := hL.1.2 D u hu9
      have ul := hll u (List.mem_of_getElem? hu9)
      obtain ⟨w, hw⟩ : ∃ w, w = x.1 (o + 14) D := ⟨_, rfl⟩
      rw [← hw] at bm hrow ⊢
      refine ⟨by decide, vm, by clear g1 g2; rw [vp_in_iff]; omega, fun u9 eu => ?_⟩
      obtain ⟨hc1, hc2, hc3⟩ := tr_row2 hu.1 ho (i := w.toInt.toNat) (by clear g1 g2; omega)
      rw [t_cl, hc1] at eu
      refine ⟨_, eu, hc2, hc3, kt_order3 hu.1 ho hc2 hc3 ka ma l2 eN h2 (Nat.le_refl _) hn ul lr hrow hr (fun e => ?_) (fun e => ?_) (fun e => ?_)⟩
      · refine ⟨fun z => absurd rfl z, fun _ => rm_i hu (kle_rf q) (h x q hu (kle_rf q) rfl (fm_rf _ _) hT ?_)⟩
        rw [inR_mem hso (by rw [← e]; exact List.mem_of_getElem? hu9)]; exact hL
      · refine ⟨fun _ => ⟨fun _ => ih (k + 1) A D _ _ _ e51 (by clear g1 g2; omega) (by clear g1 g2; omega) e3 eD bD.1 (by clear g1 g2; omega) g1 (fun i t hi ht => ?_), fun z => absurd (by decide) z⟩, fun z => absurd z (by decide)⟩
        by_cases c9 : i = D
        · rw [c9, hu9] at ht
          rw [← Option.some.inj ht]; exact e
        · exact ltR_tr e (sor D i u t (by clear g1 g2; omega) hu9 ht)
      · refine ⟨fun _ => ⟨fun z => absurd z (by decide), fun _ => ih (k + 1) (D + 1) B _ _ _ e51 (by clear g1 g2; omega) (by clear g1 g2; omega) em1 e4 bD.2.1 hBL (fun i t hi ht => ?_) g2⟩, fun z => absurd z (by decide)⟩
        by_cases c9 : i = D
        · rw [c9, hu9] at ht
          rw [← Option.some.inj ht]; exact e
        · exact ltR_tr (sor i D t u (by clear g1 g2; omega) ht hu9) e
  exact kg_X10_addOutcome_0 hu ho ka ma l2 (loop 3000 0 0 L.length _ _ _ rfl (by omega) (by omega) rfl l0 (Nat.zero_le _) (Nat.le_refl _) (fun i t hi => absurd hi (Nat.not_lt_zero _)) (fun i t hi ht => by have := gt_lt ht; omega))
end KOU
end
section
/-! the class: which accesses a state has before it, and whether they race -/
def ACx (x : gd) (C : gCo) (w : Nat) (M : gMa) (t : Nat) : Prop := (axM C w M t ∧ x.1 209 t = (lkM C w M t).2.1 ∧ 0 ≤ (x.1 209 t).toInt ∧ x.1 210 t = Int32.ofNat (soM C (M.2.2 t))) ∨ (¬ axM C w M t ∧ x.1 209 t = -1)
/-- all but what is said of a thread's access -/
def sI0 (o c k : Nat) : Prop := sIn o c k ∧ ¬ c = 209 ∧ ¬ c = 210
def sI1 (o T c k : Nat) : Prop := sIn o c k ∧ (c = 209 ∨ c = 210 → k = T)
/-- what a thread's act tells of locks held -/
def LTx (x y : gd) (o : Nat) (C : gCo) (w nl : Nat) (M : gMa) (t : Nat) : Prop := (∀ c, c < 24 → y.1 (o + 8) c = caT C w nl M t c (x.1 (o + 8) c)) ∧ (∀ a, a < 6 → y.1 (o + 9) a = tkT C w nl M t a (x.1 (o + 9) a)) ∧ y.1 o 4 = x.1 o 4
section KIN
variable {G : kG} {q : kP} {d : Nat} {x y z : gd} {o : Nat} {F : Int32 → gd → Prop} {Fv : gd → Prop} {C : gCo} {M : gMa} {T w nl : Nat}
theorem lkM_c (h : (M.2.2 T).2.2.2.1 = 0) : (lkM C w M T).2.1 = (lkI C M T).2 := by
  unfold lkM
  rw [if_neg (fun z => z h)]
  split
  · rfl
  · split
    · rfl
    · split
      · rfl
      · rfl
theorem can_ch {t : Nat} (ht : t < C.2.1.length) : canM C w M t ↔ ∃ ch ∈ chM C w M, ch.2.1 = none ∧ ch.1 = t := by
  constructor
  · intro h
    have : ∃ ch ∈ ch1 C w M t, ch.2.1 = none ∧ ch.1 = t := by
      unfold ch1
      rw [if_pos h]
      split
      · next c =>
        obtain ⟨a, l, e⟩ : ∃ a l, waM C M (obM C (M.2.2 t).2.2.1) = a :: l := by
          cases hw : waM C M (obM C (M.2.2 t).2.2.1) with
          | nil => exact absurd hw c.2.2.2
          | cons a l => exact ⟨a, l, rfl⟩
        refine ⟨(t, none, some a), ?_, rfl, rfl⟩
        rw [e]
        exact List.mem_append_left _ (List.mem_map.mpr ⟨a, List.mem_cons_self .., rfl⟩)
      · exact ⟨(t, none, none), List.mem_append_left _ (List.mem_singleton.mpr rfl), rfl, rfl⟩
    obtain ⟨ch, h1, h2⟩ := this
    exact ⟨ch, List.mem_flatMap.mpr ⟨t, List.mem_range.mpr ht, h1⟩, h2⟩
  · rintro ⟨ch, h1, h2, h3⟩
    obtain ⟨u, hu, h1⟩ := List.mem_flatMap.mp h1
    unfold ch1 at h1
    rcases List.mem_append.mp h1 with h1 | h1
    · by_cases c : canM C w M u
      · rw [if_pos c] at h1
        have : ch.1 = u := by
          split at h1
          · obtain ⟨a, -, e⟩ := List.mem_map.mp h1
            rw [← e]
          · rw [List.mem_singleton.mp h1]
        rw [← h3, this]; exact c
      · rw [if_neg c] at h1; cases h1
    · obtain ⟨a, -, e⟩ := List.mem_map.mp h1
      rw [← e] at h2
      cases h2
theorem sI0_In {c k : Nat} (h : sI0 o c k) : sIn o c k := h.1
theorem sI1_In {c k : Nat} (h : sI1 o T c k) : sIn o c k := h.1
theorem sI0_1 {c k : Nat} (h : sI0 o c k) : sI1 o T c k := ⟨h.1, fun c => absurd c (fun c => c.elim h.2.1 h.2.2)⟩
/-- what the machine holds stays -/
theorem KM_In (ho : kiT q o) (hM : MM x 220) (hK : CK x C) (f : fm (sIn o) x y) (g : KMm x 220 C M) : CK y C ∧ KMm y 220 C M := by
  have hO := iT_O ho
  exact ⟨CK_f hK (fun c k hc => f c k (by unfold sIn; omega)), KMm_in hM hK (gm_ag (fun c k hc => f c k (by unfold sIn; omega)) (fun k h1 h2 => f _ _ (by unfold sIn; omega))) (fun k _ => f _ _ (by unfold sIn; omega)) g⟩
theorem LTx_f (e : ∀ c k, c = o + 8 ∨ c = o + 9 ∨ (c = o ∧ k = 4) → z.1 c k = y.1 c k) (h : LTx x y o C w nl M T) : LTx x z o C w nl M T := ⟨fun c hc => by rw [e _ _ (Or.inl rfl)]; exact h.1 c hc, fun a ha => by rw [e _ _ (Or.inr (Or.inl rfl))]; exact h.2.1 a ha, by rw [e _ _ (Or.inr (Or.inr ⟨rfl, rfl⟩))]; exact h.2.2⟩
theorem kh_inspectAct (hq : kV q) (he : q.ex = true) (ho : kiT q o) (ht : q.et = some o) (hM : MM x 220) (hK : CK x C) (hN : NC C) (hX : NXc C) (hX3 : NX3 C) (g : KMm x 220 C M) (wy : x.1 220 3 = Int32.ofNat w) (w01 : w = 0 ∨ w = 1) (t : Int32) (et : t.toInt = T) (hT : T < C.2.1.length) (hcan : canM C w M T) (h9 : x.1 209 T = -1) (en : (x.1 60 9).toInt = (nl : Nat)) (h : ∀ y, fm (sI1 o T) x y → ACx y C w M T → LTx x y o C w nl M T → Fv y) : KT G q (d + 4) zk_X2_inspectAct 0 [(0, vr 200), (1, vi t)] [] x (rv Fv) := by
  have hO := iT_O ho
  have hm : kiM q 220 := Or.inr ⟨rfl, he⟩
  have t6 := hM.1.1.2.2.1
  have c24 := hM.1.1.1
  have nT : (x.1 60 10).toInt = C.2.1.length := hK.2.1.1
  have nC : (x.1 60 6).toInt = C.2.2.1.length := hK.2.2.1.1
  have v6 : vp_in t 6 := by rw [vp_in_iff]; omega
  have tT : t.toNatClampNeg = T := by rw [t_cl, et]; rfl
  have k4 : (4 : Int32).toInt = 4 := rfl
  have h1 : (M.2.2 T).1 = 1 := hcan.1
  have hA := (hM.2.2 T (by omega)).1
  obtain ⟨st, s1, s2, s3, s4, s5, kn, ns⟩ := kst_at hM hK hN hT (g.2 T hT)
  have n22 := ns.1.1
  have so22 : soM C (M.2.2 T) < 22 := by
    unfold soM
    split
    · rw [s2]; exact n22
    · omega
  have eso : (Int32.ofNat (soM C (M.2.2 T))).toInt = (soM C (M.2.2 T) : Nat) := Int32.toInt_ofNat_of_lt (by omega)
  have no : ∀ y, fm (sI0 o) x y → ¬ axM C w M T → LTx x y o C w nl M T → rv Fv none y := fun y fy hn hlt => rv_i (h y (fm_w fy (fun c k => sI0_1)) (Or.inr ⟨hn, by rw [fy 209 T (fun z => z.2.1 rfl)]; exact h9⟩) hlt)
  have c9 := hM.1.1.2.1
  have hcs := (hM.1.2.2.2.1 _ s4).1
  have p39 : ∀ (ob : Int32) (y : gd), fm (sI0 o) x y → (∀ c, c < 24 → y.1 (o + 8) c = x.1 (o + 8) c) → (∀ a, a < 6 → y.1 (o + 9) a = tkT C w nl M T a (x.1 (o + 9) a)) → y.1 o 4 = x.1 o 4 → (soM C (M.2.2 T) ≤ 4 → ((lkI C M T).1 = 0 ∧ ob = (lkI C M T).2 ∧ 0 ≤ ob.toInt ∧ ob.toInt < (x.1 60 6).toInt) ∨ (¬ (lkI C M T).1 = 0 ∧ ob = -1)) → KT G q (d + 4) zk_X2_inspectAct 39 [(0, vr 200), (1, vi t), (2, vi (Int32.ofNat (soM C (M.2.2 T)))), (3, vi ob)] [] y (rv Fv) := by
    intro ob y fy h8 h9t h4t hs
    have nca : ¬ (soM C (M.2.2 T) ≤ 4 ∧ (lkI C M T).1 = 0) → LTx x y o C w nl M T := fun z => ⟨fun c hc => by
      rw [h8 c hc]
      unfold caT
      rw [if_neg (fun z2 => z ⟨z2.2.1, z2.2.2.1⟩)], h9t, h4t⟩
    have hMy := sIn_MM ho (fm_w fy (fun c k => sI0_In)) hM
    have wOf : soM C (M.2.2 T) ≤ 4 → (M.2.2 T).2.2.2.1 = 0 := fun c => by
      by_cases w0 : (M.2.2 T).2.2.2.1 = 0
      · exact w0
      · unfold soM at c; rw [if_neg w0] at c; omega
    refine kg_X2_inspectAct_39 hq he _ _ _ ⟨fun c => no y fy (fun z => ?_) (nca (fun z => ?_)), fun c => ?_⟩
    · rw [t_lt, k4, eso] at c
      have := z.2.1
      omega
    · rw [t_lt, k4, eso] at c
      have := z.1
      omega
    rw [t_lt, k4, eso] at c
    have so4 : soM C (M.2.2 T) ≤ 4 := by omega
    have w0 := wOf so4
    have sst : soM C (M.2.2 T) = st.1 := by unfold soM; rw [if_pos w0, s2]
    have hs := hs so4
    have ln : ob = -1 → ¬ (lkI C M T).1 = 0 := fun c2 => by
      rcases hs with ⟨-, -, e0, -⟩ | ⟨e, -⟩
      · rw [c2, tm1] at e0; omega
      · exact e
    refine ⟨fun c2 u eu => ?_, fun c2 => no y fy (fun z => ?_) (nca (fun z => ln c2 z.2))⟩
    rotate_left
    · rcases hs with ⟨-, -, e0, -⟩ | ⟨e, -⟩
      · rw [c2, tm1] at e0; omega
      · have := z.2.2.1
        rw [lkM_i w0 e] at this
        exact e this
    rw [et_r ht] at eu
    obtain ⟨l0, eob, ob0, ob1⟩ : (lkI C M T).1 = 0 ∧ ob = (lkI C M T).2 ∧ 0 ≤ ob.toInt ∧ ob.toInt < (x.1 60 6).toInt := by
      rcases hs with e | e
      · exact e
      · exact absurd e.2 c2
    have vo : vp_in ob 24 := by rw [vp_in_iff]; omega
    refine ⟨o, eu, ho, vo, kh_heldBy hq hm hMy (KM_In ho hM hK (fm_w fy (fun c k => sI0_In)) g).2 (by rw [fy 60 9 (fun z => by have := z.1; unfold sIn at this; omega)]; exact en) _ et (by omega) ⟨vo, fun x10 e10 => ⟨vo, ?_⟩⟩⟩
    have f10 : fm (sI0 o) x x10 := by rw [e10]; exact fm_si fy ⟨by unfold sIn; omega, by omega, by omega⟩
    have g10 := fm_w f10 (fun c k => sI0_In)
    have lt10 : LTx x x10 o C w nl M T := by
      refine ⟨fun c hc => ?_, fun a ha => by rw [e10, si_cell (by omega)]; exact h9t a ha, by rw [e10, si_cell (by omega)]; exact h4t⟩
      by_cases e : c = ob.toNatClampNeg
      · rw [e10, si_get, if_pos ⟨rfl, e⟩, ← e, h8 c hc]
        unfold caT
        rw [if_pos ⟨hcan, so4, l0, by rw [← eob]; exact e.symm⟩]
      · rw [e10, si_get, if_neg (fun z => e z.2), h8 c hc]
        unfold caT
        rw [if_neg (fun z => e (by rw [eob]; exact z.2.2.2.symm))]
    have hM10 := sIn_MM ho g10 hM
    obtain ⟨hK10, gm10⟩ := KM_In ho hM hK g10 g
    have e69 : x10.1 69 ob.toNatClampNeg = if suM C ob.toNatClampNeg = true then 1 else 0 := by
      have hl : ob.toNatClampNeg < C.2.2.1.length := by rw [t_cl]; omega
      have hg := List.getElem?_eq_getElem hl
      rw [(hK10.2.2.1.2 _ _ hg).2]
      unfold suM
      rw [hg]
    have lc : (lkM C w M T).2.1 = ob := by rw [lkM_c w0, eob]
    refine ⟨fun cs => no x10 f10 (fun z => ?_) lt10, fun cs => ?_⟩
    · have := z.2.2.2
      rw [lc] at this
      rw [e69, this] at cs
      exact cs rfl
    have su : suM C ob.toNatClampNeg = false := by
      cases hsu : suM C ob.toNatClampNeg with
      | false => rfl
      | true => rw [e69, hsu] at cs; exact absurd cs (by decide)
    refine kh_accessFails hq hm hM10 hK10 hN hX hX3 gm10 (by rw [g10 220 3 (by unfold sIn; omega)]; exact wy) w01 _ et hT h1 w0 (by rw [s2]; omega) (fun r14 w9 fw hr => ?_)
    have fw2 : fm (sI0 o) x w9 := fm_tr f10 (fm_w fw (fun c k q => by unfold sLk at q; unfold sI0 sIn; omega))
    have lt9 : LTx x w9 o C w nl M T := LTx_f (fun c k hc => fw c k (by unfold sLk; omega)) lt10
    refine ⟨fun rn => no w9 fw2 (fun z => (hr.mp rn) z.2.2.1) lt9, fun r0 => ⟨v6, fun x17 e17 => ⟨v6, fun x19 e19 => rv_i (h _ ?_ (Or.inl ?_) (LTx_f (fun c k hc => by rw [e19, si_cell (by omega), e17, si_cell (by omega)]) lt9))⟩⟩⟩
    · rw [e19, e17, tT]
      exact fm_si (fm_si (fm_w fw2 (fun c k => sI0_1)) ⟨by unfold sIn; omega, fun _ => rfl⟩) ⟨by unfold sIn; omega, fun _ => rfl⟩
    · have lk0 : (lkM C w M T).1 = 0 := by
        apply Classical.byContradiction
        intro z
        exact hr.mpr z r0
      have n9 : x19.1 209 T = ob := by rw [e19, si_cell (by omega), e17, si_get, if_pos ⟨rfl, tT.symm⟩]
      refine ⟨⟨hcan, so4, lk0, by rw [lc]; exact su⟩, by rw [n9, lc], by rw [n9]; exact ob0, by rw [e19, si_get, if_pos ⟨rfl, tT.symm⟩]⟩
  have after : ∀ s : Int32, s = Int32.ofNat (soM C (M.2.2 T)) → KT G q (d + 3) zk_X5_objectOf 0 [(0, vr 220), (1, vi t)] [] x (ri (fun r4 x3 => ((¬ (s = (5 : Int32)) → KT G q (d + 4) zk_X2_inspectAct 39 [(0, vr 200), (1, vi t), (2, vi s), (3, vi r4)] [] x3 (rv Fv)) ∧ (s = (5 : Int32) → (∀ u6, u6 = (kf q).1 200 7 → gokv (kf q).2.1 (vo u6) = true ∧ KT G q (d + 3) zk_X5_heldBy 0 [(0, vr 220), (1, vi t)] [] x3 (ri (fun r9 x8 => ∃ c10, u6 = some c10 ∧ kiT q c10 ∧ KT G q (d + 3) zk_X10_addTake 0 [(0, vr c10), (1, vi r9), (2, vi r4)] [] x8 (rv (fun x12 => KT G q (d + 4) zk_X2_inspectAct 39 [(0, vr 200), (1, vi t), (2, vi s), (3, vi r4)] [] x12 (rv Fv)))))))))) := by
    intro s hs
    subst hs
    refine kh_objectOf hq hm hM hK hN g _ et hT h1 (fun ob w9 fw hob hob2 => ?_)
    have fw2 : fm (sI0 o) x w9 := fm_w fw (fun c k q => by unfold sLk at q; unfold sI0 sIn; omega)
    have w8 : ∀ c k, c = o + 8 ∨ c = o + 9 ∨ (c = o ∧ k = 4) → w9.1 c k = x.1 c k := fun c k hc => fw c k (by unfold sLk; omega)
    have w4 := w8 o 4 (Or.inr (Or.inr ⟨rfl, rfl⟩))
    have k5 : (5 : Int32).toInt = 5 := rfl
    refine ⟨fun c5 => p39 _ _ fw2 (fun c _ => w8 _ _ (Or.inl rfl)) (fun a _ => ?_) w4 hob, fun c5 u eu => ?_⟩
    · rw [w8 _ _ (Or.inr (Or.inl rfl))]
      unfold tkT
      rw [if_neg (fun z => c5 (by rw [z.2.1]; rfl))]
    rw [et_r ht] at eu
    have so5 : soM C (M.2.2 T) = 5 := by rw [t_eq, eso, k5] at c5; omega
    have w0 : (M.2.2 T).2.2.2.1 = 0 := by
      by_cases w0 : (M.2.2 T).2.2.2.1 = 0
      · exact w0
      · unfold soM at so5; rw [if_neg w0] at so5; omega
    have st5 : st.1 = 5 := by unfold soM at so5; rw [if_pos w0, s2] at so5; exact so5
    have obE : obM C (M.2.2 T).2.2.1 = st.2.2.2.2.1.toNatClampNeg := by unfold obM; rw [s2]
    have lk : st.2.2.2.2.1.toInt = (obM C (M.2.2 T).2.2.1 : Nat) ∧ ((obM C (M.2.2 T).2.2.1 : Nat) : Int) < (x.1 60 9).toInt := by
      have a := hcs.2.1 (by omega) (by omega)
      rw [kn.2.2.2.2.1 (by omega)] at a
      rw [obE, t_cl]
      omega
    have eob : ob = Int32.ofNat (obM C (M.2.2 T).2.2.1) := by
      rcases hob2 (by omega) with e | e
      · rw [e, s2]; exact i32_of lk.1
      · rw [s2] at e; omega
    subst eob
    have hMw := sIn_MM ho (fm_w fw2 (fun c k => sI0_In)) hM
    refine ⟨?_, kh_heldBy hq hm hMw (KM_In ho hM hK (fm_w fw2 (fun c k => sI0_In)) g).2 (by rw [fw 60 9 (by unfold sLk; omega)]; exact en) _ et (by omega) ⟨o, eu, ho, kt_addTake3 hq ho _ (by omega) (fun v fv hv => p39 _ v (fm_tr fw2 (fm_w fv (fun c k q => by unfold sI0 sIn; omega))) (fun c _ => by rw [fv _ _ (by omega), w8 _ _ (Or.inl rfl)]) (fun a ha => ?_) (by rw [fv _ _ (by omega)]; exact w4) hob)⟩⟩
    · rw [eu]; exact gkr (kl_T0 hq ho)
    · rw [hv a ha, w8 _ _ (Or.inr (Or.inl rfl))]
      unfold tkT
      by_cases c : ¬ a = obM C (M.2.2 T).2.2.1 ∧ (hdN M T nl >>> (Int32.ofNat a &&& 31)) &&& 1 = 1
      · rw [if_pos c, if_pos ⟨hcan, so5, c⟩]
      · rw [if_neg c, if_neg (fun z => c z.2.2)]
  have w3 : rg x 220 T 3 = 0 ↔ (M.2.2 T).2.2.2.1 = 0 := kst_w3 hM hK hN hT (g.2 T hT)
  refine kg_X2_inspectAct_0 hq he _ (kp_sortOf hq hm hM.1 hM.2.1 _ et (by omega) hA (fun h0 => after _ ?_) (fun h0 => after _ ?_))
  · rw [s3, kn.1]
    unfold soM
    rw [if_pos (w3.mp h0), s2]
  · unfold soM
    rw [if_neg (fun z => h0 (w3.mpr z))]
    rfl
end KIN
end
section
/-! the class: all threads' accesses; races -/
/-- what all threads' acts tell of locks held, and whether one is idle -/
def LAx (x y : gd) (o : Nat) (C : gCo) (w nl : Nat) (M : gMa) : Prop := (∀ c, c < 24 → y.1 (o + 8) c = cmT C w nl M c C.2.1.length (x.1 (o + 8) c)) ∧ (∀ a, a < 6 → y.1 (o + 9) a = cbT C w nl M a C.2.1.length (x.1 (o + 9) a)) ∧ ((idM C w M ∧ y.1 o 4 = x.1 o 4 + 1) ∨ (¬ idM C w M ∧ y.1 o 4 = x.1 o 4))
/-- the same of the first k -/
def LBx (x y : gd) (o : Nat) (C : gCo) (w nl : Nat) (M : gMa) (k : Nat) (l : Int32) : Prop := (∀ c, c < 24 → y.1 (o + 8) c = cmT C w nl M c k (x.1 (o + 8) c)) ∧ (∀ a, a < 6 → y.1 (o + 9) a = cbT C w nl M a k (x.1 (o + 9) a)) ∧ y.1 o 4 = x.1 o 4 ∧ (¬ l = 0 ↔ ∃ t, t < k ∧ (M.2.2 t).1 = 1 ∧ ¬ canM C w M t)
section KIB
variable {G : kG} {q : kP} {d : Nat} {x y z : gd} {o : Nat} {F : Int32 → gd → Prop} {Fv : gd → Prop} {C : gCo} {M : gMa} {T w nl k : Nat} {l l' : Int32}
theorem AC_f (e9 : y.1 209 T = x.1 209 T) (e10 : y.1 210 T = x.1 210 T) (h : ACx x C w M T) : ACx y C w M T := by
  unfold ACx
  rw [e9, e10]
  exact h
theorem t_and1 (a : Int32) : a &&& 1 = 0 ∨ a &&& 1 = 1 := by
  have e : (a &&& 1).toBitVec.toNat = a.toBitVec.toNat % 2 := by
    rw [Int32.toBitVec_and, BitVec.toNat_and]
    exact Nat.and_two_pow_sub_one_eq_mod _ 1
  rcases Nat.mod_two_eq_zero_or_one a.toBitVec.toNat with h | h
  · exact Or.inl (Int32.toBitVec_inj.mp (BitVec.eq_of_toNat_eq (by rw [e, h]; rfl)))
  · exact Or.inr (Int32.toBitVec_inj.mp (BitVec.eq_of_toNat_eq (by rw [e, h]; rfl)))
theorem bit_or (a : Int32) {u t : Nat} (hu : u < 8) (ht : t < 8) : ((a ||| ((1 : Int32) <<< (Int32.ofNat u &&& 31))) >>> (Int32.ofNat t &&& 31)) &&& 1 = 1 ↔ ((a >>> (Int32.ofNat t &&& 31)) &&& 1 = 1 ∨ t = u) := by
  rw [or_sr, km_1 u hu t ht]
  have b : (a >>> (Int32.ofNat t &&& 31)) &&& 1 = 0 ∨ (a >>> (Int32.ofNat t &&& 31)) &&& 1 = 1 := t_and1 _
  by_cases c : t = u
  · rw [if_pos c]
    refine ⟨fun _ => Or.inr c, fun _ => ?_⟩
    rcases b with b | b <;> rw [b] <;> decide
  · rw [if_neg c]
    rcases b with b | b <;> rw [b]
    · exact ⟨fun z => absurd z (by decide), fun z => z.elim (fun z => absurd z (by decide)) (fun z => absurd z c)⟩
    · exact ⟨fun _ => Or.inl rfl, fun _ => by decide⟩
theorem LBx_f (e : ∀ c k, c = o + 8 ∨ c = o + 9 ∨ (c = o ∧ k = 4) → z.1 c k = y.1 c k) (h : LBx x y o C w nl M k l) : LBx x z o C w nl M k l := ⟨fun c hc => by rw [e _ _ (Or.inl rfl)]; exact h.1 c hc, fun a ha => by rw [e _ _ (Or.inr (Or.inl rfl))]; exact h.2.1 a ha, by rw [e _ _ (Or.inr (Or.inr ⟨rfl, rfl⟩))]; exact h.2.2.1, h.2.2.2⟩
/-- a thread that can do nothing -/
theorem LBx_n (h : LBx x y o C w nl M k l) (hn : ¬ canM C w M k) (hl : ¬ l' = 0 ↔ (¬ l = 0 ∨ (M.2.2 k).1 = 1)) : LBx x y o C w nl M (k + 1) l' := by
  refine ⟨fun c hc => ?_, fun a ha => ?_, h.2.2.1, ?_⟩
  · rw [cmT]
    unfold caT
    rw [if_neg (fun z => hn z.1)]; exact h.1 c hc
  · rw [cbT]
    unfold tkT
    rw [if_neg (fun z => hn z.1)]; exact h.2.1 a ha
  · rw [hl, h.2.2.2]
    constructor
    · rintro (⟨t, t1, t2⟩ | z)
      · exact ⟨t, by omega, t2⟩
      · exact ⟨k, by omega, z, hn⟩
    · rintro ⟨t, t1, t2⟩
      by_cases e : t = k
      · rw [e] at t2; exact Or.inr t2.1
      · exact Or.inl ⟨t, by omega, t2⟩
/-- a thread's act -/
theorem LBx_a (h : LBx x y o C w nl M k l) (hc : canM C w M k) (hl : LTx y z o C w nl M k) : LBx x z o C w nl M (k + 1) l := by
  refine ⟨fun c hc => ?_, fun a ha => ?_, by rw [hl.2.2]; exact h.2.2.1, ?_⟩
  · rw [hl.1 c hc, h.1 c hc, cmT]
  · rw [hl.2.1 a ha, h.2.1 a ha, cbT]
  · rw [h.2.2.2]
    constructor
    · rintro ⟨t, t1, t2⟩
      exact ⟨t, by omega, t2⟩
    · rintro ⟨t, t1, t2⟩
      by_cases e : t = k
      · rw [e] at t2; exact absurd hc t2.2
      · exact ⟨t, by omega, t2⟩
theorem kh_inspectActs (hq : kV q) (he : q.ex = true) (ho : kiT q o) (ht : q.et = some o) (hM : MM x 220) (hK : CK x C) (hN : NC C) (hX : NXc C) (hX3 : NX3 C) (g : KMm x 220 C M) (wy : x.1 220 3 = Int32.ofNat w) (w01 : w = 0 ∨ w = 1) (hL : LSk x 220) (hc : kchL x 220 (chM C w M)) (en : (x.1 60 9).toInt = (nl : Nat)) (h : ∀ y, fm (sIn o) x y → (∀ t, t < C.2.1.length → ACx y C w M t) → LAx x y o C w nl M → Fv y) : KT G q (d + 5) zk_X2_inspectActs 0 [(0, vr 200)] [] x (rv Fv) := by
  have hO := iT_O ho
  have hm : kiM q 220 := Or.inr ⟨rfl, he⟩
  have t6 := hM.1.1.2.2.1
  have nT : (x.1 60 10).toInt = C.2.1.length := hK.2.1.1
  have l84 := hL.1
  obtain ⟨c13, cch⟩ := hc
  have loop2 : ∀ (n k : Nat) (i l1 l2 : Int32) (y : gd), (∀ t, t < C.2.1.length → ((l1 >>> (Int32.ofNat t &&& 31)) &&& 1 = 1 ↔ canM C w M t)) → i.toInt = k → (x.1 60 10).toInt - k ≤ n → k ≤ C.2.1.length → fm (sIn o) x y → (∀ t, t < k → ACx y C w M t) → LBx x y o C w nl M k l2 → KT G q (d + 5) zk_X2_inspectActs 52 [(0, vr 200), (1, vi l1), (2, vi l2), (3, vi i)] [] y (rv Fv) := by
    intro n
    have out : ∀ (k : Nat) (i l2 : Int32) (y : gd), i.toInt = k → x.1 60 10 ≤ i → fm (sIn o) x y → k ≤ C.2.1.length → (∀ t, t < k → ACx y C w M t) → LBx x y o C w nl M k l2 → ((l2 = (0 : Int32) → rv Fv none y) ∧ (¬ (l2 = (0 : Int32)) → (∀ u3, u3 = (kf q).1 200 7 → ∃ c4, u3 = some c4 ∧ kiT q c4 ∧ (∀ x6, x6 = si y c4 4 ((y.1 c4 4) + 1) → rv Fv none x6)))) := by
      intro k i l2 y ei c fy hkl hac hlb
      rw [t_le] at c
      have ek : k = C.2.1.length := by clear hlb; omega
      rw [ek] at hlb
      obtain ⟨b1, b2, b3, b4⟩ := hlb
      have hac : ∀ t, t < C.2.1.length → ACx y C w M t := fun t ht => hac t (by rw [ek]; exact ht)
      refine ⟨fun c0 => rv_i (h y fy hac ⟨b1, b2, Or.inr ⟨fun z => b4.mpr z c0, b3⟩⟩), fun c0 u eu => ?_⟩
      rw [et_r ht] at eu
      exact ⟨o, eu, ho, fun z ez => rv_i (h z (by rw [ez]; exact fm_si fy (by unfold sIn; omega)) (fun t ht => AC_f (by rw [ez, si_cell (by omega)]) (by rw [ez, si_cell (by omega)]) (hac t ht)) ⟨fun c hc => by rw [ez, si_cell (by omega)]; exact b1 c hc, fun a ha => by rw [ez, si_cell (by omega)]; exact b2 a ha, Or.inl ⟨b4.mp c0, by rw [ez, si_get, if_pos ⟨rfl, rfl⟩, b3]⟩⟩)⟩
    induction n with
    | zero =>
      intro k i l1 l2 y hb ei hn hkl fy hac hlb
      refine kg_X2_inspectActs_52 hq he _ _ _ ⟨fun c => out k i l2 y ei (by rw [fy 60 10 (by unfold sIn; omega)] at c; exact c) fy hkl hac hlb, fun c => ?_⟩
      rw [t_le, fy 60 10 (by unfold sIn; omega)] at c; omega
    | succ n ih =>
      intro k i l1 l2 y hb ei hn hkl fy hac hlb
      refine kg_X2_inspectActs_52 hq he _ _ _ ⟨fun c => out k i l2 y ei (by rw [fy 60 10 (by unfold sIn; omega)] at c; exact c) fy hkl hac hlb, fun c => ?_⟩
      rw [t_le, fy 60 10 (by unfold sIn; omega)] at c
      have hk : k < C.2.1.length := by omega
      have e1 : (i + 1).toInt = ((k + 1 : Nat) : Int) := by rw [t_add (by show _ ≤ _ + (1 : Int); omega) (by show _ + (1 : Int) ≤ _; omega), ei]; rfl
      have iK : i.toNatClampNeg = k := by rw [t_cl, ei]; rfl
      have iO : i = Int32.ofNat k := i32_of ei
      refine ⟨by rw [vp_in_iff]; omega, fun z ez => ?_⟩
      rw [iK] at ez
      have fz : fm (sIn o) x z := by rw [ez]; exact fm_si fy (by unfold sIn; omega)
      have hMz := sIn_MM ho fz hM
      obtain ⟨hKz, gz⟩ := KM_In ho hM hK fz g
      have z9 : z.1 209 k = -1 := by rw [ez, si_get, if_pos ⟨rfl, rfl⟩]
      have hbk := hb k hk
      rw [← iO] at hbk
      have zac : ∀ t, t < k → ACx z C w M t := fun t ht => AC_f (by rw [ez, si_get, if_neg (by omega)]) (by rw [ez, si_get, if_neg (by omega)]) (hac t ht)
      have zlb : LBx x z o C w nl M k l2 := LBx_f (fun c k' hc => by rw [ez, si_cell (by omega)]) hlb
      have go : ∀ l2 w9, fm (sIn o) x w9 → (∀ t, t < k → ACx w9 C w M t) → ACx w9 C w M k → LBx x w9 o C w nl M (k + 1) l2 → KT G q (d + 5) zk_X2_inspectActs 52 [(0, vr 200), (1, vi l1), (2, vi l2), (3, vi (i + 1))] [] w9 (rv Fv) := fun l2 w9 fw a1 a2 a3 => ih (k + 1) _ _ _ w9 hb e1 (by push_cast; omega) hk fw (fun t ht => by
        by_cases e : t = k
        · rw [e]; exact a2
        · exact a1 t (by omega)) a3
      refine ⟨fun nb => ?_, fun b => kh_inspectAct hq he ho ht hMz hKz hN hX hX3 gz (by rw [fz 220 3 (by unfold sIn; omega)]; exact wy) w01 _ ei hk (hbk.mp b) z9 (by rw [fz 60 9 (by unfold sIn; omega)]; exact en) (fun w9 fw a2 a4 => go _ _ (fm_tr fz (fm_w fw (fun c k => sI1_In))) (fun t ht => AC_f (fw _ _ (fun q => by have := q.2 (Or.inl rfl); omega)) (fw _ _ (fun q => by have := q.2 (Or.inr rfl); omega)) (zac t ht)) a2 (LBx_a zlb (hbk.mp b) a4))⟩
      have na : ACx z C w M k := Or.inr ⟨fun q => nb (hbk.mpr q.1), z9⟩
      have nb' : ¬ canM C w M k := fun q => nb (hbk.mpr q)
      have k0 := kst0 (n := 1) (gz.2 k hk) (by omega)
      exact kp_isGoing hq hm hMz.1 hMz.2.1 _ ei (by omega) (fun c1 => ⟨fun z => absurd z (by decide), fun _ => go _ _ fz zac na (LBx_n zlb nb' ⟨fun _ => Or.inr (k0.mp c1), fun _ => by decide⟩)⟩) (fun c1 => ⟨fun _ => go _ _ fz zac na (LBx_n zlb nb' ⟨Or.inl, fun z => z.resolve_right (fun z => c1 (k0.mpr z))⟩), fun z => absurd rfl z⟩)
  have bits : ∀ (l1 : Int32), (∀ t, t < C.2.1.length → ((l1 >>> (Int32.ofNat t &&& 31)) &&& 1 = 1 ↔ ∃ i ch, i < (chM C w M).length ∧ (chM C w M)[i]? = some ch ∧ ch.2.1 = none ∧ ch.1 = t)) → ∀ t, t < C.2.1.length → ((l1 >>> (Int32.ofNat t &&& 31)) &&& 1 = 1 ↔ canM C w M t) := by
    intro l1 hb t ht
    rw [hb t ht, can_ch ht]
    constructor
    · rintro ⟨i, ch, -, h1, h2⟩
      exact ⟨ch, List.mem_of_getElem? h1, h2⟩
    · rintro ⟨ch, h1, h2⟩
      obtain ⟨i, hi⟩ := List.mem_iff_getElem?.mp h1
      exact ⟨i, ch, gt_lt hi, hi, h2⟩
  have loop : ∀ (n k : Nat) (i l1 : Int32), i.toInt = k → (x.1 220 13).toInt - k ≤ n → k ≤ (chM C w M).length → (∀ t, t < C.2.1.length → ((l1 >>> (Int32.ofNat t &&& 31)) &&& 1 = 1 ↔ ∃ i ch, i < k ∧ (chM C w M)[i]? = some ch ∧ ch.2.1 = none ∧ ch.1 = t)) → KT G q (d + 5) zk_X2_inspectActs 4 [(0, vr 200), (1, vi l1), (2, vi i)] [] x (rv Fv) := by
    intro n
    have fin : ∀ (k : Nat) (i l1 : Int32), i.toInt = k → k ≤ (chM C w M).length → (∀ t, t < C.2.1.length → ((l1 >>> (Int32.ofNat t &&& 31)) &&& 1 = 1 ↔ ∃ i ch, i < k ∧ (chM C w M)[i]? = some ch ∧ ch.2.1 = none ∧ ch.1 = t)) → x.1 220 13 ≤ i → KT G q (d + 5) zk_X2_inspectActs 52 [(0, vr 200), (1, vi l1), (2, vi 0), (3, vi 0)] [] x (rv Fv) := by
      intro k i l1 ei hkl hb c
      rw [t_le] at c
      have ek : k = (chM C w M).length := by clear hb; omega
      rw [ek] at hb
      exact loop2 6 0 _ _ _ x (bits l1 hb) rfl (by clear hb; omega) (Nat.zero_le _) (fm_rf _ _) (fun t ht => absurd ht (Nat.not_lt_zero _)) ⟨fun _ _ => rfl, fun _ _ => rfl, rfl, ⟨fun z => absurd rfl z, fun ⟨t, z, _⟩ => absurd z (Nat.not_lt_zero _)⟩⟩
    induction n with
    | zero =>
      intro k i l1 ei hn hkl hb
      refine kg_X2_inspectActs_4 hq he _ _ ⟨fun c => fin k i l1 ei hkl hb c, fun c => ?_⟩
      clear hb
      rw [t_le] at c; omega
    | succ n ih =>
      intro k i l1 ei hn hkl hb
      refine kg_X2_inspectActs_4 hq he _ _ ⟨fun c => fin k i l1 ei hkl hb c, fun c => ?_⟩
      rw [t_le] at c
      have hk : k < (chM C w M).length := by clear hb; omega
      have e1 : (i + 1).toInt = ((k + 1 : Nat) : Int) := by clear hb; rw [t_add (by show _ ≤ _ + (1 : Int); omega) (by show _ + (1 : Int) ≤ _; omega), ei]; rfl
      have v84 : vp_in i 84 := by clear hb; rw [vp_in_iff]; omega
      have iK : i.toNatClampNeg = k := by rw [t_cl, ei]; rfl
      obtain ⟨ch, hch⟩ : ∃ ch, (chM C w M)[k]? = some ch := ⟨_, List.getElem?_eq_getElem hk⟩
      obtain ⟨q1, q2, q3, -, -⟩ := cch k ch hch
      have cin := ch_in (List.mem_of_getElem? hch)
      have h6 : ch.1 < 6 := by have := cin.1; clear hb; omega
      have nxt : ∀ t, (∃ i ch', i < k + 1 ∧ (chM C w M)[i]? = some ch' ∧ ch'.2.1 = none ∧ ch'.1 = t) ↔ ((∃ i ch', i < k ∧ (chM C w M)[i]? = some ch' ∧ ch'.2.1 = none ∧ ch'.1 = t) ∨ (ch.2.1 = none ∧ ch.1 = t)) := by
        intro t
        constructor
        · rintro ⟨i, ch', i1, i2, i3⟩
          by_cases e : i = k
          · rw [e, hch] at i2
            rw [Option.some.inj i2]
            exact Or.inr i3
          · exact Or.inl ⟨i, ch', by omega, i2, i3⟩
        · rintro (⟨i, ch', i1, i2, i3⟩ | i3)
          · exact ⟨i, ch', by omega, i2, i3⟩
          · exact ⟨k, ch, by omega, hch, i3⟩
      rw [iK]
      refine ⟨v84, fun cn => ih (k + 1) _ _ e1 (by clear hb nxt; push_cast; omega) hk (fun t ht => ?_), fun cn => ⟨v84, ih (k + 1) _ _ e1 (by clear hb nxt; push_cast; omega) hk (fun t ht => ?_)⟩⟩
      · rw [hb t ht, nxt t]
        exact ⟨Or.inl, fun z => z.elim id (fun z => absurd (q2 z.1) cn)⟩
      · have cn : x.1 (220 + 12) k = -1 := cn
        have q1 : x.1 231 k = Int32.ofNat ch.1 := q1
        have c0 : ch.2.1 = none := by
          cases hz : ch.2.1 with
          | none => rfl
          | some j =>
            have jl := cin.2.2 j hz
            have l7 := (g.2 _ cin.1).2.2.2.2.2.2.1.1
            have l8 := (hM.2.2 ch.1 (by have := cin.1; clear hb nxt; omega)).1.2.1
            have e := q3 j hz
            rw [cn] at e
            have e2 : (Int32.ofNat j).toInt = (j : Nat) := Int32.toInt_ofNat_of_lt (by clear hb nxt; omega)
            rw [← e, tm1] at e2
            clear hb nxt
            omega
        have ht6 : t < 6 := by clear hb nxt; omega
        rw [q1, bit_or _ (by omega) (by omega), hb t ht, nxt t]
        exact or_congr Iff.rfl ⟨fun e => ⟨c0, e.symm⟩, fun e => e.2.symm⟩
  refine kg_X2_inspectActs_0 hq he (loop 84 0 _ _ rfl (by omega) (Nat.zero_le _) (fun t ht => ?_))
  rw [km_0 t (by omega)]
  exact ⟨fun z => absurd z (by decide), fun ⟨i, ch, z, _⟩ => absurd z (Nat.not_lt_zero _)⟩
theorem kh_isRacing (hq : kV q) (he : q.ex = true) (hM : MM x 220) (hK : CK x C) (hN : NC C) (g : KMm x 220 C M) (hac : ∀ t, t < C.2.1.length → ACx x C w M t) (h : ∀ r : Int32, (¬ r = 0 ↔ rcM C w M) → F r x) : KT G q (d + 1) zk_X2_isRacing 0 [(0, vr 200)] [] x (ri F) := by
  have t6 := hM.1.1.2.2.1
  have nT : (x.1 60 10).toInt = C.2.1.length := hK.2.1.1
  have so22 : ∀ t, t < C.2.1.length → soM C (M.2.2 t) < 22 := fun t ht => by
    obtain ⟨st, s1, s2, s3, s4, s5, kn, ns⟩ := kst_at hM hK hN ht (g.2 t ht)
    have n22 := ns.1.1
    unfold soM
    split
    · rw [s2]; exact n22
    · omega
  obtain ⟨P, hP⟩ : ∃ P : Nat → Nat → Prop, ∀ t u, P t u ↔ (axM C w M t ∧ axM C w M u ∧ (lkM C w M t).2.1 = (lkM C w M u).2.1 ∧ srM (soM C (M.2.2 t)) (soM C (M.2.2 u))) := ⟨_, fun t u => Iff.rfl⟩
  have yes : ∀ t u, u < t → t < C.2.1.length → P t u → ri F (some (vi 1)) x := fun t u h1 h2 h3 => ri_i (h _ ⟨fun _ => ⟨t, u, h1, h2, (hP t u).mp h3⟩, fun _ => by decide⟩)
  have outer : ∀ (m j : Nat) (t : Int32), t.toInt = j → (x.1 60 10).toInt - j ≤ m → (∀ t, t < j → ∀ u, u < t → ¬ P t u) → KT G q (d + 1) zk_X2_isRacing 2 [(0, vr 200), (1, vi t)] [] x (ri F) := by
    intro m
    have fin : ∀ (j : Nat) (t : Int32), t.toInt = j → (∀ t, t < j → ∀ u, u < t → ¬ P t u) → x.1 60 10 ≤ t → ri F (some (vi 0)) x := fun j t ej hno c => ri_i (h _ ⟨fun z => absurd rfl z, fun ⟨t9, u, a1, a2, a3⟩ => absurd ((hP t9 u).mpr a3) (hno t9 (by rw [t_le] at c; omega) u a1)⟩)
    induction m with
    | zero =>
      intro j t ej hm hno
      refine kg_X2_isRacing_2 hq he _ ⟨fun c => fin j t ej hno c, fun c => ?_⟩
      rw [t_le] at c; omega
    | succ m ih =>
      intro j t ej hm hno
      refine kg_X2_isRacing_2 hq he _ ⟨fun c => fin j t ej hno c, fun c => ?_⟩
      rw [t_le] at c
      have hj : j < C.2.1.length := by omega
      have e1 : (t + 1).toInt = ((j + 1 : Nat) : Int) := by rw [t_add (by show _ ≤ _ + (1 : Int); omega) (by show _ + (1 : Int) ≤ _; omega), ej]; rfl
      have vt : vp_in t 6 := by rw [vp_in_iff]; omega
      have tJ : t.toNatClampNeg = j := by rw [t_cl, ej]; rfl
      have loop : ∀ (n k : Nat) (u : Int32), u.toInt = k → (j : Int) - k ≤ n → (∀ u, u < k → ¬ P j u) → KT G q (d + 1) zk_X2_isRacing 15 [(0, vr 200), (1, vi t), (2, vi u)] [] x (ri F) := by
        intro n
        have nx : ∀ (k : Nat) (u : Int32), u.toInt = k → (∀ u, u < k → ¬ P j u) → t ≤ u → KT G q (d + 1) zk_X2_isRacing 2 [(0, vr 200), (1, vi (t + 1))] [] x (ri F) := fun k u eu hnu c => ih (j + 1) _ e1 (by push_cast; omega) (fun t9 h9 u9 hu9 => by
          rw [t_le] at c
          by_cases e : t9 = j
          · rw [e]; exact hnu u9 (by omega)
          · exact hno t9 (by omega) u9 hu9)
        induction n with
        | zero =>
          intro k u eu hn hnu
          refine kg_X2_isRacing_15 hq he _ _ ⟨fun c => nx k u eu hnu c, fun c => ?_⟩
          rw [t_le] at c; omega
        | succ n ihn =>
          intro k u eu hn hnu
          refine kg_X2_isRacing_15 hq he _ _ ⟨fun c => nx k u eu hnu c, fun c => ?_⟩
          rw [t_le] at c
          have hk : k < j := by omega
          have eu1 : (u + 1).toInt = ((k + 1 : Nat) : Int) := by rw [t_add (by show _ ≤ _ + (1 : Int); omega) (by show _ + (1 : Int) ≤ _; omega), eu]; rfl
          have vu : vp_in u 6 := by rw [vp_in_iff]; omega
          have uK : u.toNatClampNeg = k := by rw [t_cl, eu]; rfl
          have go : ¬ P j k → KT G q (d + 1) zk_X2_isRacing 15 [(0, vr 200), (1, vi t), (2, vi (u + 1))] [] x (ri F) := fun np => ihn (k + 1) _ eu1 (by push_cast; omega) (fun u9 hu9 => by
            by_cases e : u9 = k
            · rw [e]; exact np
            · exact hnu u9 (by omega))
          rw [tJ, uK]
          have aj := hac j hj
          have ak := hac k (by omega)
          refine ⟨vt, fun cj => go (fun p => ?_), fun cj => ⟨vt, vu, fun ce => go (fun p => ?_), fun ce => ⟨vt, vu, ?_⟩⟩⟩
          · have p := (hP _ _).mp p
            rcases aj with ⟨-, -, a0, -⟩ | ⟨a, -⟩
            · rw [cj, tm1] at a0; omega
            · exact a p.1
          · have p := (hP _ _).mp p
            rcases aj with ⟨-, a1, -⟩ | ⟨a, -⟩
            · rcases ak with ⟨-, b1, -⟩ | ⟨b, -⟩
              · exact ce (by rw [a1, b1]; exact p.2.2.1)
              · exact b p.2.1
            · exact a p.1
          · rcases aj with ⟨a0, a1, a2, a3⟩ | ⟨a, a9⟩
            rotate_left
            · exact absurd a9 cj
            rcases ak with ⟨b0, b1, b2, b3⟩ | ⟨b, b9⟩
            rotate_left
            · rw [b9] at ce; exact absurd ce cj
            rw [a3, b3]
            refine kh_sortsRace hq (so22 j hj) (so22 k (by omega)) (fun r hr => ⟨fun r0 => go (fun p => ?_), fun rn => yes j k hk hj ((hP _ _).mpr ⟨a0, b0, ?_, hr.mp rn⟩)⟩)
            · exact hr.mpr ((hP _ _).mp p).2.2.2 r0
            · rw [← a1, ← b1]; exact ce
      exact loop 6 0 _ rfl (by omega) (fun u hu => absurd hu (Nat.not_lt_zero _))
  exact kg_X2_isRacing_0 hq he (outer 6 0 _ rfl (by omega) (fun t ht => absurd ht (Nat.not_lt_zero _)))
end KIB
end
section
/-! the class: a state is looked at, what it shows is noted -/
/-- findings of D are noted with state s, where none was -/
def FAs (x0 x : gd) (o : Nat) (s : Int32) (D : Nat → Prop) : Prop := ∀ f, f < 11 → (D f ∧ x0.1 (o + 7) f = -1 ∧ x.1 (o + 7) f = s) ∨ (¬ (D f ∧ x0.1 (o + 7) f = -1) ∧ x.1 (o + 7) f = x0.1 (o + 7) f)
def fD (C : gCo) (w : Nat) (M : gMa) (n f : Nat) : Prop := f < n ∧ fnM C w M f
/-- an end is noted -/
def KEx (x y : gd) (o : Nat) (C : gCo) (M : gMa) (L : List (List Int32)) : Prop := y.1 o 2 = x.1 o 2 + 1 ∧ y.1 o 5 = x.1 o 5 ∧ OUk y o (inR (roM C M) L)
/-- choices are added, an end is noted where none is -/
def KIx (x y : gd) (o : Nat) (C : gCo) (w : Nat) (M : gMa) (L : List (List Int32)) : Prop := y.1 o 5 = x.1 o 5 + x.1 220 13 ∧ ((chM C w M = [] ∧ y.1 o 2 = x.1 o 2 + 1 ∧ OUk y o (inR (roM C M) L)) ∨ (¬ chM C w M = [] ∧ y.1 o 2 = x.1 o 2 ∧ OUk y o L))
section KLO
variable {G : kG} {q q1 : kP} {d : Nat} {x x0 y z : gd} {o : Nat} {F : Int32 → gd → Prop} {Fv : gd → Prop} {Fm : gd → kP → Prop} {X : String → gd → kP → Prop} {C : gCo} {M : gMa} {T w n m : Nat} {s : Int32} {D D' : Nat → Prop} {L : List (List Int32)}
theorem OUk_f (e3 : y.1 o 3 = x.1 o 3) (e14 : ∀ k, y.1 (o + 14) k = x.1 (o + 14) k) (er : ∀ c k, 4000 ≤ c → y.1 c k = x.1 c k) (h : OUk x o L) : OUk y o L := OUk_g e3 e14 (fun i k _ => er _ _ (orw_ge _)) h
theorem KEx_f (e : ∀ c k, (c = o ∧ (k = 2 ∨ k = 3 ∨ k = 5)) ∨ c = o + 14 ∨ 4000 ≤ c → z.1 c k = y.1 c k) (h : KEx x y o C M L) : KEx x z o C M L := ⟨by rw [e _ _ (by omega)]; exact h.1, by rw [e _ _ (by omega)]; exact h.2.1, OUk_f (e _ _ (by omega)) (fun k => e _ _ (by omega)) (fun c k hc => e _ _ (by omega)) h.2.2⟩
theorem KIx_f (e : ∀ c k, (c = o ∧ (k = 2 ∨ k = 3 ∨ k = 5)) ∨ c = o + 14 ∨ 4000 ≤ c → z.1 c k = y.1 c k) (h : KIx x y o C w M L) : KIx x z o C w M L := by
  refine ⟨by rw [e _ _ (by omega)]; exact h.1, ?_⟩
  rcases h.2 with ⟨h1, h2, h3⟩ | ⟨h1, h2, h3⟩
  · exact Or.inl ⟨h1, by rw [e _ _ (by omega)]; exact h2, OUk_f (e _ _ (by omega)) (fun k => e _ _ (by omega)) (fun c k hc => e _ _ (by omega)) h3⟩
  · exact Or.inr ⟨h1, by rw [e _ _ (by omega)]; exact h2, OUk_f (e _ _ (by omega)) (fun k => e _ _ (by omega)) (fun c k hc => e _ _ (by omega)) h3⟩
/-- a row's values are the cells' -/
theorem ro_at {c : Nat} {v : Int32} (h : (roM C M)[c]? = some v) : c < C.2.2.1.length ∧ v = M.1 c := by
  unfold roM at h
  rw [List.getElem?_map] at h
  by_cases hc : c < C.2.2.1.length
  · rw [List.getElem?_range hc] at h
    exact ⟨hc, (Option.some.inj h).symm⟩
  · rw [List.getElem?_eq_none (by rw [List.length_range]; omega)] at h; cases h
theorem FAs_f (e : ∀ f, y.1 (o + 7) f = x.1 (o + 7) f) (h : FAs x0 x o s D) : FAs x0 y o s D := fun f hf => by
  rw [e f]; exact h f hf
theorem FAs_c (e : ∀ f, f < 11 → (D f ↔ D' f)) (h : FAs x0 x o s D) : FAs x0 x o s D' := fun f hf => by
  rw [← e f hf]; exact h f hf
theorem FAs_more (hm : n ≤ m) (hn : ∀ f, n ≤ f → f < m → ¬ fnM C w M f) (h : FAs x0 x o s (fD C w M n)) : FAs x0 x o s (fD C w M m) := FAs_c (fun f _ => ⟨fun z => ⟨by have := z.1; omega, z.2⟩, fun z => ⟨by
  apply Classical.byContradiction
  intro c
  exact hn f (by omega) z.1 z.2, z.2⟩⟩) h
theorem FAs_find (hs : 0 ≤ s.toInt) (hf : fnM C w M n) (e : ∀ k, ¬ k = n → y.1 (o + 7) k = x.1 (o + 7) k) (e1 : x.1 (o + 7) n = -1 → y.1 (o + 7) n = s) (e2 : ¬ x.1 (o + 7) n = -1 → y.1 (o + 7) n = x.1 (o + 7) n) (h : FAs x0 x o s (fD C w M n)) : FAs x0 y o s (fD C w M (n + 1)) := by
  intro f hf9
  by_cases c : f = n
  · rw [c]
    have hD : fD C w M (n + 1) n := ⟨by omega, hf⟩
    have nD : ¬ fD C w M n n := fun z => by have := z.1; omega
    rcases h n (by omega) with ⟨a, -⟩ | ⟨-, a⟩
    · exact absurd a nD
    · by_cases c9 : x0.1 (o + 7) n = -1
      · exact Or.inl ⟨hD, c9, e1 (by rw [a]; exact c9)⟩
      · exact Or.inr ⟨fun z => c9 z.2, by rw [e2 (by rw [a]; exact c9)]; exact a⟩
  · have hD : fD C w M (n + 1) f ↔ fD C w M n f := ⟨fun z => ⟨by have := z.1; omega, z.2⟩, fun z => ⟨by have := z.1; omega, z.2⟩⟩
    rw [hD, e f c]; exact h f hf9
theorem kt_find3 (hq : kV q) (ho : kiT q o) (f s : Int32) {Fn : Nat} (ef : f.toInt = Fn) (hF : Fn < 11) (hz : TZ x o) (hs : 0 ≤ s.toInt ∧ s.toInt < (x.1 o 0).toInt) (h : ∀ y, fm (fun c k => c = o + 7) x y → TZ y o → (∀ k, ¬ k = Fn → y.1 (o + 7) k = x.1 (o + 7) k) → (x.1 (o + 7) Fn = -1 → y.1 (o + 7) Fn = s) → (¬ x.1 (o + 7) Fn = -1 → y.1 (o + 7) Fn = x.1 (o + 7) Fn) → Fv y) : KT G q d zk_X10_find 0 [(0, vr o), (1, vi f), (2, vi s)] [] x (rv Fv) := by
  have vf : vp_in f 11 := by rw [vp_in_iff]; omega
  have eF : f.toNatClampNeg = Fn := by rw [t_cl, ef]; rfl
  refine kg_X10_find_0 hq ho _ _ ⟨vf, fun c => rv_i (h x (fm_rf _ _) hz (fun _ _ => rfl) (fun c2 => absurd (by rw [eF]; exact c2) c) (fun _ => rfl)), fun c => ⟨vf, fun z ez => rv_i (h z ?_ ?_ (fun k hk => ?_) (fun _ => ?_) (fun c2 => absurd (by rw [eF] at c; exact c) c2))⟩⟩
  · rw [ez]; exact fm_si (fm_rf _ _) rfl
  · rw [eF] at ez
    obtain ⟨b, hf, hs2⟩ := hz
    have g : ∀ c k, ¬ c = o + 7 → z.1 c k = x.1 c k := fun c k hc => by rw [ez, si_cell hc]
    unfold TZ
    rw [g o 0 (by omega)]
    refine ⟨b, fun k hk => ?_, fun k hk => ?_⟩
    · by_cases h9 : k = Fn
      · have : z.1 (o + 7) k = s := by rw [ez, h9, si_get, if_pos ⟨rfl, rfl⟩]
        rw [this]; exact Or.inr hs
      · have : z.1 (o + 7) k = x.1 (o + 7) k := by rw [ez, si_get, if_neg (fun q => h9 q.2)]
        rw [this]; exact hf k hk
    · rw [g (o + 12) k (by omega), g (o + 10) k (by omega), g (o + 12) _ (by omega)]; exact hs2 k hk
  · rw [ez, si_get, if_neg (fun q => hk (by rw [← eF]; exact q.2))]
  · rw [ez, si_get, if_pos ⟨rfl, eF.symm⟩]
theorem fn_lt4 (h : n < 4) : fnM C w M n ↔ ∃ Q, C.2.2.2.1[n]? = some Q ∧ badC M Q := by
  unfold fnM
  constructor
  · rintro (z | z | z | z | z)
    · exact z.2
    all_goals (exfalso; have := z.1; omega)
  · intro z; exact Or.inl ⟨h, z⟩
theorem fn_4 (h : n < 4) : fnM C w M (4 + n) ↔ (chM C w M = [] ∧ ¬ goM C M ∧ ∃ Q, C.2.2.2.2[n]? = some Q ∧ badC M Q) := by
  unfold fnM
  rw [show 4 + n - 4 = n by omega]
  constructor
  · rintro (z | z | z | z | z)
    · exfalso; have := z.1; omega
    · exact z.2.2
    all_goals (exfalso; have := z.1; omega)
  · intro z; exact Or.inr (Or.inl ⟨by omega, by omega, z⟩)
theorem fn_8 : fnM C w M 8 ↔ (chM C w M = [] ∧ goM C M) := by
  unfold fnM
  constructor
  · rintro (z | z | z | z | z)
    · exfalso; have := z.1; omega
    · exfalso; have := z.2.1; omega
    · exact z.2
    all_goals (exfalso; have := z.1; omega)
  · intro z; exact Or.inr (Or.inr (Or.inl ⟨rfl, z⟩))
theorem fn_9 : fnM C w M 9 ↔ ∃ t, t < C.2.1.length ∧ (M.2.2 t).1 = 3 := by
  unfold fnM
  constructor
  · rintro (z | z | z | z | z)
    · exfalso; have := z.1; omega
    · exfalso; have := z.2.1; omega
    · exfalso; have := z.1; omega
    · exact z.2
    · exfalso; have := z.1; omega
  · intro z; exact Or.inr (Or.inr (Or.inr (Or.inl ⟨rfl, z⟩)))
theorem fn_10 : fnM C w M 10 ↔ rcM C w M := by
  unfold fnM
  constructor
  · rintro (z | z | z | z | z)
    · exfalso; have := z.1; omega
    · exfalso; have := z.2.1; omega
    · exfalso; have := z.1; omega
    · exfalso; have := z.1; omega
    · exact z.2
  · intro z; exact Or.inr (Or.inr (Or.inr (Or.inr ⟨rfl, z⟩)))
/-- looking at a state keeps the machine -/
theorem KM_Vi (hO : o = 260 ∨ o = 280) (hM : MM x0 220) (hK : CK x0 C) (f : fm (sVi o) x0 x) (g : KMm x0 220 C M) : CK x C ∧ KMm x 220 C M :=
  ⟨CK_f hK (fun c k hc => f c k (by unfold sVi; omega)), KMm_in hM hK (gm_ag (fun c k hc => f c k (by unfold sVi; omega)) (fun k h1 h2 => f _ _ (by unfold sVi; omega))) (fun k _ => f _ _ (by unfold sVi; omega)) g⟩
theorem kh_inspectEnd (hu : kU q) (he : q.ex = true) (ho : kiT q o) (ht : q.et = some o) (hM0 : MM x0 220) (hK0 : CK x0 C) (hN : NC C) (hq2 : NCq C) (g0 : KMm x0 220 C M) (hV : VI x0 x q o) (s : Int32) (hs : 0 ≤ s.toInt ∧ s.toInt < (x.1 o 0).toInt) (he0 : chM C w M = []) (hFA : FAs x0 x o s (fD C w M 4)) (hL : OUk x o L) (hlt : L.length < 3000) (hso : soR L) (hll : ∀ t ∈ L, t.length = C.2.2.1.length) (h : ∀ y q1, kU q1 → kle q q1 → q1.et = q.et → VI x0 y q1 o → FAs x0 y o s (fD C w M 9) → KEx x y o C M L → Fm y q1) : KM G q (d + 4) zk_X2_inspectEnd 0 [(0, vr 200), (1, vi s)] [] x (rm q Fm) X := by
  have hO := iT_O ho
  have k1 : (1 : Int32).toInt = 1 := rfl
  have cl : 0 ≤ (x.1 60 6).toInt ∧ (x.1 60 6).toInt ≤ 24 := hV.2.1.1.1.1
  have cf : 0 ≤ (x.1 60 16).toInt ∧ (x.1 60 16).toInt ≤ 4 := hV.2.1.1.1.2.2.2.2.2
  obtain ⟨hKx, gx⟩ := KM_Vi hO hM0 hK0 hV.1 g0
  have nF : (x.1 60 16).toInt = C.2.2.2.2.length := hKx.2.2.2.2.1
  refine kg_X2_inspectEnd_0 hu he s (fun u1 e1 => ⟨o, by rw [e1, et_r ht], ho, fun x4 e4 u5 e5 => ⟨o, by rw [e5, et_r ht], ho, ?_⟩⟩)
  have f4 : fm (fun c k => (c = o ∧ (k = 2 ∨ k = 5)) ∨ (c = 60 ∧ k = 5) ∨ c = 65) x x4 := by rw [e4]; exact fm_si (fm_rf _ _) (by omega)
  have hV4 := VI_st hO hV f4
  rw [f4 60 6 (by omega)]
  have nC : (x.1 60 6).toInt = (C.2.2.1.length : Nat) := hKx.2.2.1.1
  refine kt_addOutcome3 (r := roM C M) (L := L) hu ho kk_225 (kl_225 hu.1 he) (by omega) (by omega) _ hV4.2.2.2 nC (by omega) (OUk_f (f4 _ _ (by omega)) (fun k => f4 _ _ (by omega)) (fun c k hc => f4 _ _ (by omega)) hL) hlt hso hll (by unfold roM; rw [List.length_map, List.length_range]) (fun c v hv => ?_) (fun x8 q9 hu9 hl9 et9 f8 ht8 ou8 => ?_)
  · obtain ⟨h1, h2⟩ := ro_at hv
    rw [h2, f4 225 c (by omega)]
    exact gx.1.1 c (by omega)
  have ke8 : KEx x x8 o C M L := ⟨by rw [f8 o 2 (by unfold sOu; omega), e4, si_get, if_pos ⟨rfl, rfl⟩], by rw [f8 o 5 (by unfold sOu; omega), e4, si_get, if_neg (by omega)], ou8⟩
  have hV8 := VI_ou hO hV4 f8 ht8
  have ho9 := kle_T hl9 ho
  have he9 := hl9.2.1.2.1 he
  have ht9 : q9.et = some o := by rw [et9]; exact ht
  have e80 : x8.1 o 0 = x.1 o 0 := by rw [f8 o 0 (by unfold sOu; omega), f4 o 0 (by omega)]
  have e86 : x8.1 60 16 = x.1 60 16 := by rw [f8 60 16 (by unfold sOu; omega), f4 60 16 (by omega)]
  have FA8 : FAs x0 x8 o s (fD C w M 4) := FAs_f (fun f => by rw [f8 _ _ (by unfold sOu; omega), f4 _ _ (by omega)]) hFA
  have loop : ¬ goM C M → ∀ (m k : Nat) (i : Int32) (w9 : gd), i.toInt = k → (x.1 60 16).toInt - k ≤ m → (k : Int) ≤ (x.1 60 16).toInt → VI x0 w9 q9 o → w9.1 o 0 = x.1 o 0 → w9.1 60 16 = x.1 60 16 → FAs x0 w9 o s (fD C w M (4 + k)) → KEx x w9 o C M L → KM G q9 (d + 4) zk_X2_inspectEnd 57 [(0, vr 200), (1, vi s), (2, vi i)] [] w9 (rm q Fm) X := by
    intro ngo m
    have fin : ∀ (k : Nat) (i : Int32) (w9 : gd), i.toInt = k → (k : Int) ≤ (x.1 60 16).toInt → VI x0 w9 q9 o → w9.1 60 16 = x.1 60 16 → FAs x0 w9 o s (fD C w M (4 + k)) → KEx x w9 o C M L → w9.1 60 16 ≤ i → rm q Fm none w9 q9 := by
      intro k i w9 ei hk hw ew2 hfa hke c
      rw [t_le, ew2] at c
      have kk : k = C.2.2.2.2.length := by omega
      refine rm_i hu9 hl9 (h w9 q9 hu9 hl9 et9 hw (FAs_more (n := 4 + k) (by omega) (fun f h1 h2 z => ?_) hfa) hke)
      by_cases c8 : f = 8
      · rw [c8, fn_8] at z; exact ngo z.2
      · obtain ⟨f', ef⟩ : ∃ f', f = 4 + f' := ⟨f - 4, by omega⟩
        rw [ef, fn_4 (by omega)] at z
        obtain ⟨-, -, Q, hQ, -⟩ := z
        have := gt_lt hQ
        omega
    induction m with
    | zero =>
      intro k i w9 ei hm hk hw ew ew2 hfa hke
      refine kg_X2_inspectEnd_57 hu9 he9 s i ⟨fun c => fin k i w9 ei hk hw ew2 hfa hke c, fun c => ?_⟩
      rw [t_le, ew2] at c; omega
    | succ m ih =>
      intro k i w9 ei hm hk hw ew ew2 hfa hke
      refine kg_X2_inspectEnd_57 hu9 he9 s i ⟨fun c => fin k i w9 ei hk hw ew2 hfa hke c, fun c => ⟨?_, ?_⟩⟩
      · rw [t_le, ew2] at c; rw [vp_in_iff]; omega
      rw [t_le, ew2] at c
      have e1 : (i + 1).toInt = ((k + 1 : Nat) : Int) := by rw [t_add (by rw [k1]; omega) (by rw [k1]; omega), k1, ei]; rfl
      have e4 : (4 + i).toInt = ((4 + k : Nat) : Int) := by
        have k4 : (4 : Int32).toInt = 4 := rfl
        rw [t_add (by rw [k4]; omega) (by rw [k4]; omega), k4, ei]; push_cast; rfl
      have hkl : k < C.2.2.2.2.length := by omega
      obtain ⟨Q, hQ⟩ : ∃ Q, C.2.2.2.2[k]? = some Q := ⟨_, List.getElem?_eq_getElem hkl⟩
      obtain ⟨hKw, gw⟩ := KM_Vi hO hM0 hK0 hw.1 g0
      have iK : i.toNatClampNeg = k := by rw [t_cl, ei]; rfl
      rw [iK]
      refine kh_isFalse hu9.1 he9 hw.2.1 hKw hN hq2 gw _ (hKw.2.2.2.2.2 k Q hQ) (Or.inr (List.mem_of_getElem? hQ)) (fun r v gr fv hr => ?_)
      have fv2 : fm (fun c k => (c = o ∧ (k = 2 ∨ k = 5)) ∨ (c = 60 ∧ k = 5) ∨ c = 65) w9 v := fm_w fv (fun c k q => by unfold sWk at q; omega)
      have hv := VI_st hO hw fv2
      have ev : v.1 o 0 = x.1 o 0 := by rw [fv2 o 0 (by omega), ew]
      have ev2 : v.1 60 16 = x.1 60 16 := by rw [fv2 60 16 (by omega), ew2]
      have hfv : FAs x0 v o s (fD C w M (4 + k)) := FAs_f (fun f => fv2 _ _ (by omega)) hfa
      have hkv : KEx x v o C M L := KEx_f (fun c k hc => fv _ _ (by unfold sWk; omega)) hke
      have fn : fnM C w M (4 + k) ↔ badC M Q := by
        rw [fn_4 (by omega)]
        refine ⟨fun ⟨_, _, Q9, h9, b⟩ => ?_, fun b => ⟨he0, ngo, Q, hQ, b⟩⟩
        rw [hQ] at h9
        rw [Option.some.inj h9]; exact b
      refine ⟨fun r0 => ih (k + 1) _ v e1 (by push_cast; omega) (by push_cast; omega) hv ev ev2 (FAs_more (n := 4 + k) (by omega) (fun f h1 h2 z => ?_) hfv) hkv, fun rn u6 e6 => ⟨o, by rw [e6, et_r ht9], ho9, kt_find3 hu9.1 ho9 _ _ e4 (by omega) hv.2.2.1 (by rw [ev]; exact hs) (fun t ft hzt t1 t2 t3 => ?_)⟩⟩
      · have : f = 4 + k := by omega
        rw [this] at z
        exact hr.mpr (fn.mp z) r0
      · exact ih (k + 1) _ t e1 (by push_cast; omega) (by push_cast; omega) (VI_fi hO hv ft hzt) (by rw [ft o 0 (by omega), ev]) (by rw [ft 60 16 (by omega), ev2]) (FAs_find hs.1 (fn.mpr (hr.mp rn)) t1 t2 t3 hfv) (KEx_f (fun c k hc => ft _ _ (by omega)) hkv)
  obtain ⟨hK8, g8⟩ := KM_Vi hO hM0 hK0 hV8.1 g0
  refine kh_anyGoing hu9.1 (Or.inr ⟨rfl, he9⟩) hV8.2.1 hK8 g8 (fun r hr => ⟨fun r0 => loop (fun z => hr.mpr z r0) 4 0 _ x8 rfl (by omega) (by omega) hV8 e80 e86 FA8 ke8, fun rn u13 e13 => ⟨o, by rw [e13, et_r ht9], ho9, kt_find3 hu9.1 ho9 _ _ (Fn := 8) rfl (by omega) hV8.2.2.1 (by rw [e80]; exact hs) (fun t ft hzt t1 t2 t3 => rm_i hu9 hl9 (h t q9 hu9 hl9 et9 (VI_fi hO hV8 ft hzt) (FAs_find hs.1 (fn_8.mpr ⟨he0, hr.mp rn⟩) t1 t2 t3 (FAs_more (n := 4) (by omega) (fun f h1 h2 z => ?_) FA8)) (KEx_f (fun c k hc => ft _ _ (by omega)) ke8)))⟩⟩)
  obtain ⟨f', ef⟩ : ∃ f', f = 4 + f' := ⟨f - 4, by omega⟩
  rw [ef, fn_4 (by omega)] at z
  exact z.2.1 (hr.mp rn)
theorem kh_inspect (hu : kU q) (he : q.ex = true) (ho : kiT q o) (ht : q.et = some o) (hM : MM x 220) (hK : CK x C) (hN : NC C) (hq2 : NCq C) (g : KMm x 220 C M) (hc : (x.1 220 13).toInt = ((chM C w M).length : Nat)) (hac : ∀ t, t < C.2.1.length → ACx x C w M t) (hz : TZ x o) (hT : TO x q o) (s : Int32) (hs : 0 ≤ s.toInt ∧ s.toInt < (x.1 o 0).toInt) (hL : OUk x o L) (hlt : L.length < 3000) (hso : soR L) (hll : ∀ t ∈ L, t.length = C.2.2.1.length) (h : ∀ y q1, kU q1 → kle q q1 → q1.et = q.et → VI x y q1 o → FAs x y o s (fD C w M 11) → KIx x y o C w M L → Fm y q1) : KM G q (d + 5) zk_X2_inspect 0 [(0, vr 200), (1, vi s)] [] x (rm q Fm) X := by
  have hO := iT_O ho
  have k1 : (1 : Int32).toInt = 1 := rfl
  have k0 : (0 : Int32).toInt = 0 := rfl
  have hV : VI x x q o := ⟨fm_rf _ _, hM, hz, hT⟩
  have ca : 0 ≤ (x.1 60 14).toInt ∧ (x.1 60 14).toInt ≤ 4 := hM.1.1.2.2.2.2.1
  have nA : (x.1 60 14).toInt = C.2.2.2.1.length := hK.2.2.2.1.1
  have p98 : ∀ (q9 : kP) (w9 : gd), kU q9 → kle q q9 → q9.et = q.et → VI x w9 q9 o → FAs x w9 o s (fD C w M 10) → KIx x w9 o C w M L → KM G q9 (d + 5) zk_X2_inspect 98 [(0, vr 200), (1, vi s)] [] w9 (rm q Fm) X := by
    intro q9 w9 hu9 hl9 et9 hw hfa hki
    have ho9 := kle_T hl9 ho
    have he9 := hl9.2.1.2.1 he
    have ht9 : q9.et = some o := by rw [et9]; exact ht
    obtain ⟨hKw, gw⟩ := KM_Vi hO hM hK hw.1 g
    refine kg_X2_inspect_98 hu9 he9 s (kh_isRacing (w := w) hu9.1 he9 hw.2.1 hKw hN gw (fun t ht => AC_f (hw.1 _ _ (by unfold sVi; omega)) (hw.1 _ _ (by unfold sVi; omega)) (hac t ht)) (fun r hr => ⟨fun r0 => rm_i hu9 hl9 (h w9 q9 hu9 hl9 et9 hw (FAs_more (n := 10) (by omega) (fun f h1 h2 z => ?_) hfa) hki), fun rn u4 e4 => ⟨o, by rw [e4, et_r ht9], ho9, kt_find3 hu9.1 ho9 _ _ (Fn := 10) rfl (by omega) hw.2.2.1 (by rw [(VI_0 hO hw).1]; exact hs) (fun t ft hzt t1 t2 t3 => rm_i hu9 hl9 (h t q9 hu9 hl9 et9 (VI_fi hO hw ft hzt) (FAs_find hs.1 (fn_10.mpr (hr.mp rn)) t1 t2 t3 hfa) (KIx_f (fun c k hc => ft _ _ (by omega)) hki)))⟩⟩))
    have : f = 10 := by omega
    rw [this, fn_10] at z
    exact hr.mpr z r0
  have p78 : ∀ (q9 : kP) (w9 : gd), kU q9 → kle q q9 → q9.et = q.et → VI x w9 q9 o → FAs x w9 o s (fD C w M 9) → KIx x w9 o C w M L → KM G q9 (d + 5) zk_X2_inspect 78 [(0, vr 200), (1, vi s)] [] w9 (rm q Fm) X := by
    intro q9 w9 hu9 hl9 et9 hw hfa hki
    have ho9 := kle_T hl9 ho
    have he9 := hl9.2.1.2.1 he
    have ht9 : q9.et = some o := by rw [et9]; exact ht
    obtain ⟨hKw, gw⟩ := KM_Vi hO hM hK hw.1 g
    refine kg_X2_inspect_78 hu9 he9 s (kh_anyFailed hu9.1 (Or.inr ⟨rfl, he9⟩) hw.2.1 hKw gw (fun r hr => ⟨fun r0 => p98 q9 w9 hu9 hl9 et9 hw (FAs_more (n := 9) (by omega) (fun f h1 h2 z => ?_) hfa) hki, fun rn u4 e4 => ⟨o, by rw [e4, et_r ht9], ho9, kt_find3 hu9.1 ho9 _ _ (Fn := 9) rfl (by omega) hw.2.2.1 (by rw [(VI_0 hO hw).1]; exact hs) (fun t ft hzt t1 t2 t3 => p98 q9 t hu9 hl9 et9 (VI_fi hO hw ft hzt) (FAs_find hs.1 (fn_9.mpr (hr.mp rn)) t1 t2 t3 hfa) (KIx_f (fun c k hc => ft _ _ (by omega)) hki))⟩⟩))
    have : f = 9 := by omega
    rw [this, fn_9] at z
    exact hr.mpr z r0
  have loop : ∀ (m k : Nat) (i : Int32) (w9 : gd), i.toInt = k → (x.1 60 14).toInt - k ≤ m → (k : Int) ≤ (x.1 60 14).toInt → VI x w9 q o → FAs x w9 o s (fD C w M k) → (w9.1 o 5 = x.1 o 5 + x.1 220 13 ∧ w9.1 o 2 = x.1 o 2 ∧ OUk w9 o L) → KM G q (d + 5) zk_X2_inspect 21 [(0, vr 200), (1, vi s), (2, vi i)] [] w9 (rm q Fm) X := by
    intro m
    have out : ∀ (k : Nat) (i : Int32) (w9 : gd), i.toInt = k → (k : Int) ≤ (x.1 60 14).toInt → VI x w9 q o → FAs x w9 o s (fD C w M k) → (w9.1 o 5 = x.1 o 5 + x.1 220 13 ∧ w9.1 o 2 = x.1 o 2 ∧ OUk w9 o L) → w9.1 60 14 ≤ i → ((¬ ((w9.1 220 13) = (0 : Int32)) → KM G q (d + 5) zk_X2_inspect 78 [(0, vr 200), (1, vi s)] [] w9 (rm q Fm) X) ∧ ((w9.1 220 13) = (0 : Int32) → KM G q (d + 4) zk_X2_inspectEnd 0 [(0, vr 200), (1, vi s)] [] w9 (rm q (fun x3 q4 => KM G q4 (d + 5) zk_X2_inspect 78 [(0, vr 200), (1, vi s)] [] x3 (rm q Fm) X)) X)) := by
      intro k i w9 ei hk hw hfa hk0 c
      rw [t_le, (VI_0 hO hw).2 60 14 (by omega) (by omega) (by omega) (by omega)] at c
      have hfa : FAs x w9 o s (fD C w M 4) := FAs_more (n := k) (by omega) (fun f h1 h2 z => by
        rw [fn_lt4 (by omega)] at z
        obtain ⟨Q, hQ, -⟩ := z
        have := gt_lt hQ
        omega) hfa
      have e13 : w9.1 220 13 = x.1 220 13 := hw.1 _ _ (by unfold sVi; omega)
      rw [e13]
      have nil : x.1 220 13 = 0 → chM C w M = [] := fun c0 => by
        rw [c0, k0] at hc
        exact List.eq_nil_of_length_eq_zero (by omega)
      refine ⟨fun c0 => p78 q w9 hu (kle_rf q) rfl hw (FAs_more (n := 4) (by omega) (fun f h1 h2 z => c0 ?_) hfa) ⟨hk0.1, Or.inr ⟨fun z => c0 (by rw [z] at hc; rw [t_eq, k0]; exact hc), hk0.2⟩⟩, fun c0 => kh_inspectEnd hu he ho ht hM hK hN hq2 g hw s (by rw [(VI_0 hO hw).1]; exact hs) (nil c0) hfa hk0.2.2 hlt hso hll (fun y q1 hu1 hl1 et1 hy hfy hke => p78 q1 y hu1 hl1 et1 hy hfy ⟨by rw [hke.2.1]; exact hk0.1, Or.inl ⟨nil c0, by rw [hke.1, hk0.2.1], hke.2.2⟩⟩)⟩
      · have : chM C w M = [] := by
          by_cases c8 : f = 8
          · rw [c8, fn_8] at z; exact z.1
          · obtain ⟨f', ef⟩ : ∃ f', f = 4 + f' := ⟨f - 4, by omega⟩
            rw [ef, fn_4 (by omega)] at z
            exact z.1
        rw [this] at hc
        rw [t_eq, k0]; exact hc
    induction m with
    | zero =>
      intro k i w9 ei hm hk hw hfa hk0
      refine kg_X2_inspect_21 hu he s i ⟨fun c => out k i w9 ei hk hw hfa hk0 c, fun c => ?_⟩
      rw [t_le, (VI_0 hO hw).2 60 14 (by omega) (by omega) (by omega) (by omega)] at c; omega
    | succ m ih =>
      intro k i w9 ei hm hk hw hfa hk0
      refine kg_X2_inspect_21 hu he s i ⟨fun c => out k i w9 ei hk hw hfa hk0 c, fun c => ?_⟩
      rw [t_le, (VI_0 hO hw).2 60 14 (by omega) (by omega) (by omega) (by omega)] at c
      have e1 : (i + 1).toInt = ((k + 1 : Nat) : Int) := by rw [t_add (by rw [k1]; omega) (by rw [k1]; omega), k1, ei]; rfl
      have hkl : k < C.2.2.2.1.length := by omega
      obtain ⟨Q, hQ⟩ : ∃ Q, C.2.2.2.1[k]? = some Q := ⟨_, List.getElem?_eq_getElem hkl⟩
      obtain ⟨hKw, gw⟩ := KM_Vi hO hM hK hw.1 g
      have iK : i.toNatClampNeg = k := by rw [t_cl, ei]; rfl
      rw [iK]
      refine ⟨by rw [vp_in_iff]; omega, kh_isFalse hu.1 he hw.2.1 hKw hN hq2 gw _ (hKw.2.2.2.1.2 k Q hQ) (Or.inl (List.mem_of_getElem? hQ)) (fun r v gr fv hr => ?_)⟩
      have hv := VI_st hO hw (fm_w fv (fun c k q => by unfold sWk at q; omega))
      have hfv : FAs x v o s (fD C w M k) := FAs_f (fun f => fv _ _ (by unfold sWk; omega)) hfa
      have hkv : v.1 o 5 = x.1 o 5 + x.1 220 13 ∧ v.1 o 2 = x.1 o 2 ∧ OUk v o L := ⟨by rw [fv _ _ (by unfold sWk; omega)]; exact hk0.1, by rw [fv _ _ (by unfold sWk; omega)]; exact hk0.2.1, OUk_f (fv _ _ (by unfold sWk; omega)) (fun k => fv _ _ (by unfold sWk; omega)) (fun c k hc => fv _ _ (by unfold sWk; omega)) hk0.2.2⟩
      have fn : fnM C w M k ↔ badC M Q := by
        rw [fn_lt4 (by omega)]
        refine ⟨fun ⟨Q9, h9, b⟩ => ?_, fun b => ⟨Q, hQ, b⟩⟩
        rw [hQ] at h9
        rw [Option.some.inj h9]; exact b
      refine ⟨fun r0 => ih (k + 1) _ v e1 (by push_cast; omega) (by push_cast; omega) hv (FAs_more (n := k) (by omega) (fun f h1 h2 z => ?_) hfv) hkv, fun rn u9 e9 => ⟨o, by rw [e9, et_r ht], ho, kt_find3 hu.1 ho _ _ ei (by omega) hv.2.2.1 (by rw [(VI_0 hO hv).1]; exact hs) (fun t ft hzt t1 t2 t3 => ih (k + 1) _ t e1 (by push_cast; omega) (by push_cast; omega) (VI_fi hO hv ft hzt) (FAs_find hs.1 (fn.mpr (hr.mp rn)) t1 t2 t3 hfv) ⟨by rw [ft _ _ (by omega)]; exact hkv.1, by rw [ft _ _ (by omega)]; exact hkv.2.1, OUk_f (ft _ _ (by omega)) (fun k => ft _ _ (by omega)) (fun c k hc => ft _ _ (by omega)) hkv.2.2⟩)⟩⟩
      have : f = k := by omega
      rw [this] at z
      exact hr.mpr (fn.mp z) r0
  refine kg_X2_inspect_0 hu he s (fun u1 e1 => ⟨o, by rw [e1, et_r ht], ho, fun x4 e4 => loop 4 0 _ x4 rfl (by omega) (by omega) (VI_st hO hV ?_) (fun f _ => Or.inr ⟨fun z => absurd z.1.1 (Nat.not_lt_zero _), ?_⟩) ⟨?_, ?_, ?_⟩⟩)
  · rw [e4]; exact fm_si (fm_rf _ _) (by omega)
  · rw [e4, si_cell (by omega)]
  · rw [e4, si_get, if_pos ⟨rfl, rfl⟩]
  · rw [e4, si_get, if_neg (by omega)]
  · exact OUk_f (by rw [e4, si_get, if_neg (by omega)]) (fun k => by rw [e4, si_cell (by omega)]) (fun c k hc => by rw [e4, si_cell (by omega)]) hL
end KLO
end
