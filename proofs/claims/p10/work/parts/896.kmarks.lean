/-! what the class notes of names' uses, by what is told: HAw, what an event makes of the uses; HB, whether an event tells of a use -/
abbrev nn (x : gd) : Nat := (x.1 100 4).toNatClampNeg
def HAw (sN : Nat → Nat → Bool) (U : Nat → Int32) (n : Nat) (E : gV) (v : Nat × Nat × Nat) : Prop :=
  (v.1 = 3 → v.2.1 < n ∧ (kfi sN E.1 v.2.1 = none → U v.2.1 = 3)) ∧
  (v.1 = 6 → v.2.1 < n ∧ U v.2.1 = 6) ∧
  (v.1 = 7 → v.2.1 < n ∧ (U v.2.1 = 7 ∨ U v.2.1 = 9)) ∧
  (v.1 = 12 → v.2.1 < n ∧ U v.2.1 = 12 ∧ v.2.1 = v.2.2 + 2) ∧
  (v.1 = 23 → v.2.1 < n ∧ ((∃ k ∈ E.1.take (E.1.length - E.2.1.headD 0), sN k.1 v.2.1 = true) → U v.2.1 = 2)) ∧
  (v.1 = 24 ∨ v.1 = 25 → v.2.1 < n ∧ (kfi sN E.1 v.2.1 = none → U v.2.1 = 6)) ∧
  (v.1 = 26 → kfi sN E.1 v.2.1 = none → ∃ j, j < n ∧ (U j = 9 ∨ U j = 10)) ∧
  (v.1 = 27 → v.2.2 < n ∧ (kfi sN E.1 v.2.2 = none → (kfi sN E.1 v.2.1 = none → U v.2.2 = 8) ∧ (¬ kfi sN E.1 v.2.1 = none → U v.2.2 = 6))) ∧
  (v.1 = 27 → v.2.1 < n ∧ (kfi sN E.1 v.2.1 = none → U v.2.1 = 6)) ∧
  (v.1 = 65 ∨ v.1 = 66 → v.2.2 < n ∧ U v.2.2 = 4) ∧
  (v.1 = 67 → v.2.2 < n ∧ U v.2.2 = 5) ∧
  (v.1 = 70 → v.2.2 < n ∧ U v.2.2 = 13) ∧
  (v.1 = 31 ∨ v.1 = 32 ∨ v.1 = 33 ∨ v.1 = 34 → v.2.1 < n ∧ U v.2.1 = 1) ∧
  (v.1 = 32 → v.2.2 < n ∧ U v.2.2 = 11)
def HB (sN : Nat → Nat → Bool) (E : gV) (v : Nat × Nat × Nat) (j : Nat) (u : Int32) : Prop :=
  (v.1 = 3 ∧ u = 3 ∧ j = v.2.1 ∧ kfi sN E.1 v.2.1 = none) ∨
  (v.1 = 6 ∧ u = 6 ∧ j = v.2.1) ∨
  (v.1 = 7 ∧ u = 7 ∧ j = v.2.1) ∨
  (v.1 = 12 ∧ u = 12 ∧ j = v.2.1 ∧ j = v.2.2 + 2) ∨
  (v.1 = 23 ∧ u = 2 ∧ ∃ k ∈ E.1.take (E.1.length - E.2.1.headD 0), sN k.1 v.2.1 = true) ∨
  ((v.1 = 24 ∨ v.1 = 25) ∧ u = 6 ∧ j = v.2.1 ∧ kfi sN E.1 v.2.1 = none) ∨
  (v.1 = 26 ∧ kfi sN E.1 v.2.1 = none ∧ (u = 6 ∨ u = 9 ∨ u = 10)) ∨
  (v.1 = 27 ∧ u = 8 ∧ kfi sN E.1 v.2.2 = none ∧ kfi sN E.1 v.2.1 = none) ∨
  (v.1 = 27 ∧ u = 6 ∧ j = v.2.2 ∧ kfi sN E.1 v.2.2 = none ∧ ¬ kfi sN E.1 v.2.1 = none) ∨
  (v.1 = 27 ∧ u = 6 ∧ j = v.2.1 ∧ kfi sN E.1 v.2.1 = none) ∨
  ((v.1 = 65 ∨ v.1 = 66) ∧ u = 4 ∧ j = v.2.2) ∨
  (v.1 = 67 ∧ u = 5 ∧ j = v.2.2) ∨
  (v.1 = 70 ∧ u = 13 ∧ j = v.2.2) ∨
  ((v.1 = 31 ∨ v.1 = 32 ∨ v.1 = 33 ∨ v.1 = 34) ∧ u = 1 ∧ j = v.2.1) ∨
  (v.1 = 32 ∧ u = 11 ∧ j = v.2.2)
def HAs (sN : Nat → Nat → Bool) (U : Nat → Int32) (n : Nat) : gU → gV → Prop
  | [], _ => True
  | v :: L, E => HAw sN U n E v ∧ HAs sN U n L (exV E v)
def HBs (sN : Nat → Nat → Bool) : gU → gV → Nat → Int32 → Prop
  | [], _, _, _ => False
  | v :: L, E, j, u => HB sN E v j u ∨ HBs sN L (exV E v) j u
section MRK
variable {sN : Nat → Nat → Bool} {U U' : Nat → Int32} {n n' : Nat} {E : gV} {v : Nat × Nat × Nat} {L M : gU} {j : Nat} {u : Int32}
theorem HAs_app : ∀ {L : gU} {E : gV}, HAs sN U n (L ++ M) E ↔ HAs sN U n L E ∧ HAs sN U n M (exs L E) := by
  intro L
  induction L with
  | nil => intro E; exact ⟨fun h => ⟨trivial, h⟩, fun h => h.2⟩
  | cons v L ih =>
    intro E
    show HAw sN U n E v ∧ HAs sN U n (L ++ M) (exV E v) ↔ (HAw sN U n E v ∧ HAs sN U n L (exV E v)) ∧ HAs sN U n M (exs L (exV E v))
    rw [ih, and_assoc]
theorem HBs_app : ∀ {L : gU} {E : gV}, HBs sN (L ++ M) E j u ↔ HBs sN L E j u ∨ HBs sN M (exs L E) j u := by
  intro L
  induction L with
  | nil => intro E; exact ⟨Or.inr, fun h => h.elim (fun q => q.elim) id⟩
  | cons v L ih =>
    intro E
    show HB sN E v j u ∨ HBs sN (L ++ M) (exV E v) j u ↔ (HB sN E v j u ∨ HBs sN L (exV E v) j u) ∨ HBs sN M (exs L (exV E v)) j u
    rw [ih, or_assoc]
theorem HAs_one : HAs sN U n [v] E ↔ HAw sN U n E v := ⟨fun h => h.1, fun h => ⟨h, trivial⟩⟩
theorem HBs_one : HBs sN [v] E j u ↔ HB sN E v j u := ⟨fun h => h.elim id (fun q => q.elim), Or.inl⟩
theorem HA_up (h : HAw sN U n E v) (hn : n ≤ n') (e : ∀ j, j < n → U' j = U j) : HAw sN U' n' E v := by
  obtain ⟨h1, h2, h3, h4, h5, h6, h7, h8, h9, h10, h11, h12, h13, h14⟩ := h
  have up : ∀ {t : Nat}, t < n → t < n' := fun q => Nat.lt_of_lt_of_le q hn
  refine ⟨fun c => ⟨up (h1 c).1, fun z => ?_⟩, fun c => ⟨up (h2 c).1, ?_⟩, fun c => ⟨up (h3 c).1, ?_⟩, fun c => ⟨up (h4 c).1, ?_, (h4 c).2.2⟩, fun c => ⟨up (h5 c).1, fun z => ?_⟩, fun c => ⟨up (h6 c).1, fun z => ?_⟩, fun c z => ?_, fun c => ⟨up (h8 c).1, fun z => ⟨fun z1 => ?_, fun z1 => ?_⟩⟩, fun c => ⟨up (h9 c).1, fun z => ?_⟩, fun c => ⟨up (h10 c).1, ?_⟩, fun c => ⟨up (h11 c).1, ?_⟩, fun c => ⟨up (h12 c).1, ?_⟩, fun c => ⟨up (h13 c).1, ?_⟩, fun c => ⟨up (h14 c).1, ?_⟩⟩
  · rw [e _ (h1 c).1]; exact (h1 c).2 z
  · rw [e _ (h2 c).1]; exact (h2 c).2
  · rw [e _ (h3 c).1]; exact (h3 c).2
  · rw [e _ (h4 c).1]; exact (h4 c).2.1
  · rw [e _ (h5 c).1]; exact (h5 c).2 z
  · rw [e _ (h6 c).1]; exact (h6 c).2 z
  · obtain ⟨j, a, b⟩ := h7 c z
    exact ⟨j, up a, by rw [e _ a]; exact b⟩
  · rw [e _ (h8 c).1]; exact ((h8 c).2 z).1 z1
  · rw [e _ (h8 c).1]; exact ((h8 c).2 z).2 z1
  · rw [e _ (h9 c).1]; exact (h9 c).2 z
  · rw [e _ (h10 c).1]; exact (h10 c).2
  · rw [e _ (h11 c).1]; exact (h11 c).2
  · rw [e _ (h12 c).1]; exact (h12 c).2
  · rw [e _ (h13 c).1]; exact (h13 c).2
  · rw [e _ (h14 c).1]; exact (h14 c).2
theorem HAs_up (hn : n ≤ n') (e : ∀ j, j < n → U' j = U j) : ∀ {L : gU} {E : gV}, HAs sN U n L E → HAs sN U' n' L E := by
  intro L
  induction L with
  | nil => intro E _; exact trivial
  | cons v L ih => intro E h; exact ⟨HA_up h.1 hn e, ih h.2⟩
/-- events that tell of no use -/
def dull (v : Nat × Nat × Nat) : Prop := ∀ k ∈ [3, 6, 7, 12, 23, 24, 25, 26, 27, 65, 66, 67, 70, 31, 32, 33, 34], ¬ v.1 = k
theorem HA_dull (h : dull v) : HAw sN U n E v := by
  have no : ∀ k : Nat, k ∈ [3, 6, 7, 12, 23, 24, 25, 26, 27, 65, 66, 67, 70, 31, 32, 33, 34] → v.1 = k → False := fun k hk c => h k hk c
  refine ⟨fun c => (no 3 (by decide) c).elim, fun c => (no 6 (by decide) c).elim, fun c => (no 7 (by decide) c).elim, fun c => (no 12 (by decide) c).elim, fun c => (no 23 (by decide) c).elim, fun c => (c.elim (no 24 (by decide)) (no 25 (by decide))).elim, fun c => (no 26 (by decide) c).elim, fun c => (no 27 (by decide) c).elim, fun c => (no 27 (by decide) c).elim, fun c => (c.elim (no 65 (by decide)) (no 66 (by decide))).elim, fun c => (no 67 (by decide) c).elim, fun c => (no 70 (by decide) c).elim, fun c => ?_, fun c => (no 32 (by decide) c).elim⟩
  rcases c with c | c | c | c
  · exact (no 31 (by decide) c).elim
  · exact (no 32 (by decide) c).elim
  · exact (no 33 (by decide) c).elim
  · exact (no 34 (by decide) c).elim
theorem HA_3 {a b : Nat} : HAw sN U n E (3, a, b) ↔ a < n ∧ (kfi sN E.1 a = none → U a = 3) := by unfold HAw; simp
theorem HA_6 {a b : Nat} : HAw sN U n E (6, a, b) ↔ a < n ∧ U a = 6 := by unfold HAw; simp
theorem HA_7 {a b : Nat} : HAw sN U n E (7, a, b) ↔ a < n ∧ (U a = 7 ∨ U a = 9) := by unfold HAw; simp
theorem HA_12 {a b : Nat} : HAw sN U n E (12, a, b) ↔ a < n ∧ U a = 12 ∧ a = b + 2 := by unfold HAw; simp
end MRK
/-- from x to y, M was read and noted -/
def UR (sN : Nat → Nat → Bool) (E : gV) (x y : gd) (M : gU) : Prop := HAs sN (y.1 42) (nn y) M E ∧ ∀ j, nn x ≤ j → j < nn y → ¬ y.1 42 j = 0 → HBs sN M E j (y.1 42 j)
section URS
variable {sN : Nat → Nat → Bool} {E : gV} {v : Nat × Nat × Nat} {M N : gU} {x y z : gd}
theorem nn_is (h : 0 ≤ nx x) : ((nn x : Nat) : Int) = nx x := by
  unfold nn nx at *
  rw [t_cl]; omega
theorem La_nn (h0 : 0 ≤ nx x) (h : La x y) : nn x ≤ nn y ∧ ∀ j, j < nn x → y.1 42 j = x.1 42 j := by
  have a := nn_is h0
  have b := nn_is (x := y) (by have := h.2.1; omega)
  have c := h.2.1
  exact ⟨by omega, fun j hj => h.2.2 j (by omega)⟩
theorem UR_app (h0 : 0 ≤ nx y) (h : UR sN E x y M) (l : La y z) (g : UR sN (exs M E) y z N) : UR sN E x z (M ++ N) := by
  obtain ⟨n1, n2⟩ := La_nn h0 l
  refine ⟨HAs_app.mpr ⟨HAs_up n1 n2 h.1, g.1⟩, fun j h1 h2 h3 => HBs_app.mpr ?_⟩
  by_cases c : j < nn y
  · rw [n2 j c] at h3 ⊢
    exact Or.inl (h.2 j h1 c h3)
  · exact Or.inr (g.2 j (by omega) h2 h3)
/-- nothing but the place is the same -/
theorem UR_0 (e : nn y = nn x) : UR sN E x y [] := ⟨trivial, fun j h1 h2 => by omega⟩
theorem UR_same (h : UR sN E x y M) (e4 : nn z = nn y) (e : ∀ j, j < nn y → z.1 42 j = y.1 42 j) : UR sN E x z M := by
  refine ⟨by rw [e4]; exact HAs_up (Nat.le_refl _) e h.1, fun j h1 h2 h3 => ?_⟩
  rw [e4] at h2
  rw [e j h2] at h3 ⊢
  exact h.2 j h1 h2 h3
theorem UR_dull (h : UR sN E x y M) (hv : dull v) : UR sN E x y (M ++ [v]) := ⟨HAs_app.mpr ⟨h.1, HAs_one.mpr (HA_dull hv)⟩, fun j h1 h2 h3 => HBs_app.mpr (Or.inl (h.2 j h1 h2 h3))⟩
/-- a token without a use is passed -/
theorem UR_tok (h0 : 0 ≤ nx y) (h : UR sN E x y M) (l : La y z) (e : nn z = nn y + 1) (u : z.1 42 (nn y) = 0) : UR sN E x z M := by
  obtain ⟨n1, n2⟩ := La_nn h0 l
  refine ⟨HAs_up n1 n2 h.1, fun j h1 h2 h3 => ?_⟩
  by_cases c : j < nn y
  · rw [n2 j c] at h3 ⊢
    exact h.2 j h1 c h3
  · have : j = nn y := by omega
    rw [this] at h3
    exact absurd u h3
end URS
/-- the class's tokens, up to e, are those of K and V; names alike by sN -/
def smk (x : gd) (a b : Nat) : Prop := x.1 27 a = x.1 27 b ∧ x.1 26 a = x.1 26 b ∧ ∀ i, i < (x.1 26 a).toNatClampNeg → x.1 21 ((x.1 24 a).toNatClampNeg + i) = x.1 21 ((x.1 24 b).toNatClampNeg + i)
def KA (K V : Nat → Int32) (sN : Nat → Nat → Bool) (e : Nat) (x : gd) : Prop := (∀ j, j ≤ e → kc (x.1 23 j) = K j) ∧ (∀ j, j ≤ e → K j = 2 → x.1 27 j = V j) ∧ (∀ a b, a ≤ e → b ≤ e → K a = 1 → K b = 1 → (smk x a b ↔ sN a b = true)) ∧ e ≤ 700 ∧ (K e = 0 ∨ K e = 3 ∨ e = 700)
section KAS
variable {K V : Nat → Int32} {sN : Nat → Nat → Bool} {e : Nat} {x y : gd}
theorem KA_fm (h : KA K V sN e x) (f : ∀ c k, 20 ≤ c → c < 40 → y.1 c k = x.1 c k) : KA K V sN e y := by
  have r : ∀ c, 20 ≤ c → c < 40 → y.1 c = x.1 c := fun c h1 h2 => by funext k; exact f c k h1 h2
  unfold KA smk at h ⊢
  rw [r 23 (by omega) (by omega), r 27 (by omega) (by omega), r 26 (by omega) (by omega), r 24 (by omega) (by omega), r 21 (by omega) (by omega)]
  exact h
/-- a kind, and the class's number of it -/
theorem KA_k (h : KA K V sN e x) {j : Nat} (hj : j ≤ e) (c : Int32) (hc : ¬ kc c = -1) : x.1 23 j = c ↔ K j = kc c := by
  rw [← h.1 j hj]
  exact ⟨fun q => by rw [q], fun q => kc_i q hc⟩
/-- behind a token that is one, and not one too many, there is another -/
theorem KA_on (h : KA K V sN e x) {j : Nat} (hj : j ≤ e) (h7 : j < 700) (h0 : ¬ K j = 0) (h3 : ¬ K j = 3) : j + 1 ≤ e := by
  by_cases c : j = e
  · rw [c] at h0 h3 h7
    rcases h.2.2.2.2 with z | z | z
    · exact absurd z h0
    · exact absurd z h3
    · omega
  · omega
end KAS
section KSN
variable {G : kG} {q : kP} {d : Nat} {x : gd} {F : Int32 → gd → Prop} {K V : Nat → Int32} {sN : Nat → Nat → Bool} {e : Nat}
theorem kf_sameName (hq : kV q) (hT : kT x) (a b : Int32) (ha : tk x a) (hb : tk x b) (h : ∀ r, (¬ r = 0 ↔ smk x a.toNatClampNeg b.toNatClampNeg) → F r x) : KT G q d zk_X9_sameName 0 [(0, vr 20), (1, vi a), (2, vi b)] [] x (ri F) := by
  obtain ⟨va, a1, a2, a3⟩ := kT_at hT ha
  obtain ⟨vb, b1, b2, b3⟩ := kT_at hT hb
  have no : ∀ r : Int32, r = 0 → ¬ smk x a.toNatClampNeg b.toNatClampNeg → F r x := fun r e n => h r ⟨fun z => absurd e z, fun z => absurd z n⟩
  have ua := t_cl (x.1 26 a.toNatClampNeg)
  have pa := t_cl (x.1 24 a.toNatClampNeg)
  have pb := t_cl (x.1 24 b.toNatClampNeg)
  have loop : ∀ (n : Nat) (i : Int32), 0 ≤ i.toInt → x.1 27 a.toNatClampNeg = x.1 27 b.toNatClampNeg → x.1 26 a.toNatClampNeg = x.1 26 b.toNatClampNeg → (x.1 26 a.toNatClampNeg).toInt - i.toInt ≤ n → (∀ t, t < i.toNatClampNeg → x.1 21 ((x.1 24 a.toNatClampNeg).toNatClampNeg + t) = x.1 21 ((x.1 24 b.toNatClampNeg).toNatClampNeg + t)) → KT G q d zk_X9_sameName 34 [(0, vr 20), (1, vi a), (2, vi b), (3, vi i)] [] x (ri F) := by
    intro n
    induction n with
    | zero =>
      intro i i0 hv hs hn ht
      have ui := t_cl i
      refine kg_X9_sameName_34 hq _ _ _ ⟨va, fun _ => ri_i (h _ ⟨fun _ => ⟨hv, hs, fun t hl => ht t (by omega)⟩, fun _ => by decide⟩), fun c => ?_⟩
      exfalso; rw [t_le] at c; omega
    | succ n ih =>
      intro i i0 hv hs hn ht
      have ui := t_cl i
      refine kg_X9_sameName_34 hq _ _ _ ⟨va, fun c => ri_i (h _ ⟨fun _ => ⟨hv, hs, fun t hl => ht t (by rw [t_le] at c; omega)⟩, fun _ => by decide⟩), fun c => ?_⟩
      rw [t_le] at c
      have e1 : (i + 1).toInt = i.toInt + 1 := t_add (by show _ ≤ _ + (1 : Int); omega) (by show _ + (1 : Int) ≤ _; omega)
      have e1c : (i + 1).toNatClampNeg = i.toNatClampNeg + 1 := by rw [t_cl]; omega
      have hs2 : (x.1 26 a.toNatClampNeg).toInt = (x.1 26 b.toNatClampNeg).toInt := by rw [hs]
      have e2 := t_add (a := x.1 24 a.toNatClampNeg) (b := i) (by omega) (by omega)
      have e3 := t_add (a := x.1 24 b.toNatClampNeg) (b := i) (by omega) (by omega)
      have e2c : (x.1 24 a.toNatClampNeg + i).toNatClampNeg = (x.1 24 a.toNatClampNeg).toNatClampNeg + i.toNatClampNeg := by rw [t_cl]; omega
      have e3c : (x.1 24 b.toNatClampNeg + i).toNatClampNeg = (x.1 24 b.toNatClampNeg).toNatClampNeg + i.toNatClampNeg := by rw [t_cl]; omega
      rw [e2c, e3c]
      refine ⟨va, by rw [vp_in_iff]; omega, vb, by rw [vp_in_iff]; omega, fun c2 => ih _ (by omega) hv hs (by omega) (fun t hl => ?_), fun c2 => ri_i (no _ rfl (fun z => c2 (z.2.2 i.toNatClampNeg (by omega))))⟩
      by_cases ct : t = i.toNatClampNeg
      · rw [ct]; exact c2
      · exact ht t (by omega)
  exact kg_X9_sameName_0 hq _ _ ⟨va, vb, fun c => ri_i (no _ rfl (fun z => c z.1)), fun cv => ⟨va, vb, fun c => loop ((x.1 26 a.toNatClampNeg).toInt).toNat _ (by decide) cv c (by show _ - (0 : Int) ≤ _; omega) (fun t hl => absurd hl (Nat.not_lt_zero _)), fun c => ri_i (no _ rfl (fun z => c z.2.1))⟩⟩
end KSN
