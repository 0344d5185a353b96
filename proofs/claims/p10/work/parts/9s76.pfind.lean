/-! what a state shows; the class's looks at it -/
/-- a claim's sum -/
def evC (M : gMa) (Q : List gQ) : Option Int32 := wkQ (fun _ => 0) (fun c => M.1 c.toNatClampNeg) 0 Q
def badC (M : gMa) (Q : List gQ) : Prop := evC M Q = none ∨ evC M Q = some 0
/-- whether two accesses of one cell can be a race -/
def srM (a b : Nat) : Prop := ¬ (a = 0 ∧ b = 0) ∧ ¬ (2 ≤ a ∧ 2 ≤ b)
/-- a thread may access a cell that is not sure, and doesn't fail -/
def axM (C : gCo) (w : Nat) (M : gMa) (t : Nat) : Prop := canM C w M t ∧ soM C (M.2.2 t) ≤ 4 ∧ (lkM C w M t).1 = 0 ∧ suM C (lkM C w M t).2.1.toNatClampNeg = false
def rcM (C : gCo) (w : Nat) (M : gMa) : Prop := ∃ t u, u < t ∧ t < C.2.1.length ∧ axM C w M t ∧ axM C w M u ∧ (lkM C w M t).2.1 = (lkM C w M u).2.1 ∧ srM (soM C (M.2.2 t)) (soM C (M.2.2 u))
def goM (C : gCo) (M : gMa) : Prop := ∃ t, t < C.2.1.length ∧ (M.2.2 t).1 = 1
/-- the findings of a state -/
def fnM (C : gCo) (w : Nat) (M : gMa) (f : Nat) : Prop := (f < 4 ∧ ∃ Q, C.2.2.2.1[f]? = some Q ∧ badC M Q) ∨ (4 ≤ f ∧ f < 8 ∧ chM C w M = [] ∧ ¬ goM C M ∧ ∃ Q, C.2.2.2.2[f - 4]? = some Q ∧ badC M Q) ∨ (f = 8 ∧ chM C w M = [] ∧ goM C M) ∨ (f = 9 ∧ ∃ t, t < C.2.1.length ∧ (M.2.2 t).1 = 3) ∨ (f = 10 ∧ rcM C w M)
/-- what else claims are like -/
def NCq (C : gCo) : Prop := ∀ Q, Q ∈ C.2.2.2.1 ∨ Q ∈ C.2.2.2.2 → ∀ p ∈ Q, ¬ p.1 = 3 ∧ (p.1 = 4 → 0 ≤ p.2.2.toInt ∧ p.2.2.toInt < C.2.2.1.length)
section PFN
variable {G : kG} {q : kP} {d : Nat} {x y z : gd} {o : Nat} {F : Int32 → gd → Prop} {Fv : gd → Prop} {C : gCo} {M : gMa} {T w : Nat}
theorem kst0 (g : kTq x o C T (M.2.2 T)) {n : Nat} (hn : n ≤ 3) : rg x o T 0 = Int32.ofNat n ↔ (M.2.2 T).1 = n := by
  have s : ∀ a, a < 4 → ∀ b, b < 4 → ((Int32.ofNat a = Int32.ofNat b) ↔ a = b) := by decide +kernel
  rw [g.1.1]
  exact s _ (by have := g.1.2; omega) _ (by omega)
theorem kh_anyGoing (hq : kV q) (ho : kiM q o) (h : MM x o) (hK : CK x C) (g : KMm x o C M) (hF : ∀ r : Int32, (¬ r = 0 ↔ goM C M) → F r x) : KT G q (d + 2) zk_X5_anyGoing 0 [(0, vr o)] [] x (ri F) := by
  have t6 := h.1.1.2.2.1
  have nT : (x.1 60 10).toInt = C.2.1.length := hK.2.1.1
  have loop : ∀ (n k : Nat) (i : Int32), i.toInt = k → (x.1 60 10).toInt - k ≤ n → (∀ t, t < k → ¬ (M.2.2 t).1 = 1) → KT G q (d + 2) zk_X5_anyGoing 2 [(0, vr o), (1, vi i)] [] x (ri F) := by
    intro n
    have fin : ∀ (k : Nat) (i : Int32), i.toInt = k → (∀ t, t < k → ¬ (M.2.2 t).1 = 1) → x.1 60 10 ≤ i → ri F (some (vi 0)) x := fun k i ei hno c => ri_i (hF _ ⟨fun z => absurd rfl z, fun ⟨t, t1, t2⟩ => absurd t2 (hno t (by rw [t_le] at c; omega))⟩)
    induction n with
    | zero =>
      intro k i ei hn hno
      refine kg_X5_anyGoing_2 hq ho _ ⟨fun c => fin k i ei hno c, fun c => ?_⟩
      exfalso; rw [t_le] at c; omega
    | succ n ih =>
      intro k i ei hn hno
      refine kg_X5_anyGoing_2 hq ho _ ⟨fun c => fin k i ei hno c, fun c => ?_⟩
      rw [t_le] at c
      have hk : k < C.2.1.length := by omega
      have e1 : (i + 1).toInt = ((k + 1 : Nat) : Int) := by rw [t_add (by show _ ≤ _ + (1 : Int); omega) (by show _ + (1 : Int) ≤ _; omega), ei]; rfl
      refine kp_isGoing hq ho h.1 h.2.1 _ ei (by omega) (fun c1 => ⟨fun z => absurd z (by decide), fun _ => ri_i (hF _ ⟨fun _ => ⟨k, hk, (kst0 (g.2 k hk) (by omega)).mp c1⟩, fun _ => by decide⟩)⟩) (fun c1 => ⟨fun _ => ih (k + 1) _ e1 (by push_cast; omega) (fun t ht => ?_), fun z => absurd rfl z⟩)
      by_cases e : t = k
      · rw [e]; exact fun z => c1 ((kst0 (n := 1) (g.2 k hk) (by omega)).mpr z)
      · exact hno t (by omega)
  exact kg_X5_anyGoing_0 hq ho (loop 6 0 _ rfl (by omega) (fun t ht => absurd ht (Nat.not_lt_zero _)))
theorem kh_anyFailed (hq : kV q) (ho : kiM q o) (h : MM x o) (hK : CK x C) (g : KMm x o C M) (hF : ∀ r : Int32, (¬ r = 0 ↔ ∃ t, t < C.2.1.length ∧ (M.2.2 t).1 = 3) → F r x) : KT G q (d + 1) zk_X5_anyFailed 0 [(0, vr o)] [] x (ri F) := by
  have t6 := h.1.1.2.2.1
  have nT : (x.1 60 10).toInt = C.2.1.length := hK.2.1.1
  have loop : ∀ (n k : Nat) (i : Int32), i.toInt = k → (x.1 60 10).toInt - k ≤ n → (∀ t, t < k → ¬ (M.2.2 t).1 = 3) → KT G q (d + 1) zk_X5_anyFailed 2 [(0, vr o), (1, vi i)] [] x (ri F) := by
    intro n
    have fin : ∀ (k : Nat) (i : Int32), i.toInt = k → (∀ t, t < k → ¬ (M.2.2 t).1 = 3) → x.1 60 10 ≤ i → ri F (some (vi 0)) x := fun k i ei hno c => ri_i (hF _ ⟨fun z => absurd rfl z, fun ⟨t, t1, t2⟩ => absurd t2 (hno t (by rw [t_le] at c; omega))⟩)
    induction n with
    | zero =>
      intro k i ei hn hno
      refine kg_X5_anyFailed_2 hq ho _ ⟨fun c => fin k i ei hno c, fun c => ?_⟩
      exfalso; rw [t_le] at c; omega
    | succ n ih =>
      intro k i ei hn hno
      refine kg_X5_anyFailed_2 hq ho _ ⟨fun c => fin k i ei hno c, fun c => ?_⟩
      rw [t_le] at c
      have hk : k < C.2.1.length := by omega
      have e1 : (i + 1).toInt = ((k + 1 : Nat) : Int) := by rw [t_add (by show _ ≤ _ + (1 : Int); omega) (by show _ + (1 : Int) ≤ _; omega), ei]; rfl
      refine kp_get hq ho h.1 h.2.1 _ _ ei (show (0 : Int32).toInt = ((0 : Nat) : Int) from rfl) (by omega) (by omega) ⟨fun c1 => ih (k + 1) _ e1 (by push_cast; omega) (fun t ht => ?_), fun c1 => ri_i (hF _ ⟨fun _ => ⟨k, hk, (kst0 (n := 3) (g.2 k hk) (by omega)).mp c1⟩, fun _ => by decide⟩)⟩
      by_cases e : t = k
      · rw [e]; exact fun z => c1 ((kst0 (n := 3) (g.2 k hk) (by omega)).mpr z)
      · exact hno t (by omega)
  exact kg_X5_anyFailed_0 hq ho (loop 6 0 _ rfl (by omega) (fun t ht => absurd ht (Nat.not_lt_zero _)))
theorem kh_isFalse (hq : kV q) (he : q.ex = true) (hM : MM x 220) (hK : CK x C) (hN : NC C) (hq2 : NCq C) (g : KMm x 220 C M) (s : Int32) {Q : List gQ} (hS : SUk x s (Q.map cQ)) (hQ : Q ∈ C.2.2.2.1 ∨ Q ∈ C.2.2.2.2) (h : ∀ r y, gbool r → fm sWk x y → (¬ r = 0 ↔ badC M Q) → F r y) : KT G q (d + 2) zk_X2_isFalse 0 [(0, vr 200), (1, vi s)] [] x (ri F) := by
  have nC : (x.1 60 6).toInt = C.2.2.1.length := hK.2.2.1.1
  have c24 := hM.1.1.1
  obtain ⟨n1, n2⟩ := hN.2.2 Q hQ
  refine kg_X2_isFalse_0 hq he _ (kf_work hq kk_225 (kl_225 hq he) (by decide) _ _ _ (Q := Q) (lv := fun _ => 0) (cv := fun c => M.1 c.toNatClampNeg) hM.1.2.1.1.2 hS n1 (fun p hp => ?_) (fun r y fy hwk => ?_))
  · refine ⟨(n2 p hp).1, fun c => absurd c (n2 p hp).2, fun c => ?_⟩
    obtain ⟨c0, c1⟩ := (hq2 Q hQ p hp).2 c
    rw [Int32.zero_add]
    refine ⟨by rw [vp_in_iff]; omega, ?_⟩
    exact g.1.1 _ (by rw [t_cl]; omega)
  · have k1 : ¬ (1 : Int32) = 0 := by decide
    rcases hwk with ⟨v, hv, er, y5⟩ | ⟨hv, y5⟩
    · have hv : evC M Q = some v := hv
      refine ⟨fun r0 => ri_i (h _ y gbool_1 fy ⟨fun _ => Or.inr (by rw [hv, ← er, r0]), fun _ => k1⟩), fun rn => ⟨fun _ => ri_i (h _ y gbool_0 fy ⟨fun z => absurd rfl z, fun z => ?_⟩), fun c => absurd y5 c⟩⟩
      rcases z with z | z
      · rw [hv] at z; cases z
      · rw [hv] at z; exact absurd (er.trans (Option.some.inj z)) rn
    · have hv : evC M Q = none := hv
      have b : badC M Q := Or.inl hv
      refine ⟨fun r0 => ri_i (h _ y gbool_1 fy ⟨fun _ => b, fun _ => k1⟩), fun rn => ⟨fun c => ?_, fun _ => ri_i (h _ y gbool_1 fy ⟨fun _ => b, fun _ => k1⟩)⟩⟩
      rw [y5] at c; exact absurd c k1
theorem kh_sortsRace (hq : kV q) {a b : Nat} (ha : a < 22) (hb : b < 22) (h : ∀ r : Int32, (¬ r = 0 ↔ srM a b) → F r x) : KT G q d zk_X4_sortsRace 0 [(0, vi (Int32.ofNat a)), (1, vi (Int32.ofNat b))] [] x (ri F) := by
  have k2 : (2 : Int32).toInt = 2 := rfl
  have k1 : ¬ (1 : Int32) = 0 := by decide
  have ea : (Int32.ofNat a).toInt = (a : Nat) := Int32.toInt_ofNat_of_lt (by omega)
  have eb : (Int32.ofNat b).toInt = (b : Nat) := Int32.toInt_ofNat_of_lt (by omega)
  have z0 : ∀ n, n < 22 → (Int32.ofNat n = 0 ↔ n = 0) := by decide +kernel
  have p29 : ∀ s u : Int32, (¬ s = 0 ↔ a = 0 ∧ b = 0) → (¬ u = 0 ↔ 2 ≤ a ∧ 2 ≤ b) → KT G q d zk_X4_sortsRace 29 [(2, vi s)] [vi u] x (ri F) := fun s u hs hu => kg_X4_sortsRace_29 hq _ _ ⟨fun c => ri_i (h _ ⟨fun z => absurd rfl z, fun z => absurd (hs.mp c) z.1⟩), fun c => ⟨fun c2 => ri_i (h _ ⟨fun z => absurd rfl z, fun z => absurd (hu.mp c2) z.2⟩), fun c2 => ri_i (h _ ⟨fun _ => ⟨fun z => hs.mpr z c, fun z => hu.mpr z c2⟩, fun _ => k1⟩)⟩⟩
  have p13 : ∀ s : Int32, (¬ s = 0 ↔ a = 0 ∧ b = 0) → KT G q d zk_X4_sortsRace 13 [(0, vi (Int32.ofNat a)), (1, vi (Int32.ofNat b))] [vi s] x (ri F) := fun s hs => kg_X4_sortsRace_13 hq _ _ _ ⟨fun c => p29 _ _ hs ⟨fun z => absurd rfl z, fun z => by rw [t_lt, k2] at c; omega⟩, fun c => ⟨fun c2 => p29 _ _ hs ⟨fun z => absurd rfl z, fun z => by rw [t_lt, k2] at c2; omega⟩, fun c2 => p29 _ _ hs ⟨fun _ => by rw [t_lt, k2] at c c2; omega, fun _ => k1⟩⟩⟩
  exact kg_X4_sortsRace_0 hq _ _ ⟨fun c => p13 _ ⟨fun z => absurd rfl z, fun z => absurd ((z0 a ha).mpr z.1) c⟩, fun c => ⟨fun c2 => p13 _ ⟨fun z => absurd rfl z, fun z => absurd ((z0 b hb).mpr z.2) c2⟩, fun c2 => p13 _ ⟨fun _ => ⟨(z0 a ha).mp c, (z0 b hb).mp c2⟩, fun _ => k1⟩⟩⟩
/-- a row's cells are sure alike -/
theorem su_row (hX : NXc C) (hX3 : NX3 C) {st : gNs} (s1 : C.1[(M.2.2 T).2.2.1]? = some st) (s2 : stN C (M.2.2 T).2.2.1 = st) (o4 : st.1 ≤ 4) (c24 : C.2.2.1.length ≤ 24) (l0 : (lkI C M T).1 = 0) : suM C (lkI C M T).2.toNatClampNeg = suM C st.2.2.2.2.1.toNatClampNeg := by
  obtain ⟨x1, x2, x3, -, x5, x6⟩ := hX _ st s1
  cases hix : st.2.2.2.2.2.2.2.1 with
  | none => rw [lkI_n (by rw [s2]; exact hix), s2]
  | some Q =>
    have hix' : (stN C (M.2.2 T).2.2.1).2.2.2.2.2.2.2.1 = some Q := by rw [s2]; exact hix
    cases hwk : wkQ (M.2.2 T).2.2.2.2.2.2.2 (fun _ => 0) (Int32.ofNat T) Q with
    | none => rw [lkI_1 hix' hwk] at l0; exact absurd l0 (by decide)
    | some v =>
      by_cases cv : v < 0 ∨ (stN C (M.2.2 T).2.2.1).2.2.2.2.2.1 ≤ v
      · rw [lkI_2 hix' hwk cv] at l0; exact absurd l0 (by decide)
      · rw [lkI_0 hix' hwk cv, s2]
        rw [s2] at cv
        have v0 : 0 ≤ v.toInt := by
          have : ¬ v < 0 := fun z => cv (Or.inl z)
          rw [t_lt] at this
          have k0 : (0 : Int32).toInt = 0 := rfl
          omega
        have v1 : v.toInt < st.2.2.2.2.2.1.toInt := by
          have : ¬ st.2.2.2.2.2.1 ≤ v := fun z => cv (Or.inr z)
          rw [t_le] at this
          omega
        obtain ⟨z1, z2, z3⟩ := x6 o4
        have z3 := z3 (by rw [hix]; exact fun z => nomatch z)
        have e5 : (st.2.2.2.2.1 + v).toInt = st.2.2.2.2.1.toInt + v.toInt := t_add (by omega) (by omega)
        have := hX3 _ st s1 o4 (by rw [hix]; exact fun z => nomatch z) v.toInt.toNat (by omega)
        rw [← this]
        show suM C (st.2.2.2.2.1 + v).toNatClampNeg = _
        congr 1
        rw [t_cl, t_cl]
        omega
end PFN
