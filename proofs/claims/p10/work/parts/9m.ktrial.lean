/-! the class: what a trying has told -/
def oN (q : kP) (o : Nat) : Nat := if o = 260 then q.o0 else q.o1
/-- outcomes: their rows are there, their order is one of them -/
def TO (x : gd) (q : kP) (o : Nat) : Prop := (0 ≤ (x.1 o 3).toInt ∧ (x.1 o 3).toInt ≤ oN q o ∧ oN q o ≤ 3000) ∧ ∀ i : Nat, (i : Int) < (x.1 o 3).toInt → 0 ≤ (x.1 (o + 14) i).toInt ∧ (x.1 (o + 14) i).toInt < (x.1 o 3).toInt
/-- states: the first of each finding, where each comes from -/
def TZ (x : gd) (o : Nat) : Prop := (0 ≤ (x.1 o 0).toInt ∧ (x.1 o 0).toInt ≤ 3000) ∧ (∀ f : Nat, f < 11 → x.1 (o + 7) f = -1 ∨ (0 ≤ (x.1 (o + 7) f).toInt ∧ (x.1 (o + 7) f).toInt < (x.1 o 0).toInt)) ∧ ∀ s : Nat, (s : Int) < (x.1 o 0).toInt → (0 ≤ (x.1 (o + 12) s).toInt ∧ (x.1 (o + 12) s).toInt ≤ s) ∧ ((x.1 (o + 12) s).toInt = 0 ∨ (0 ≤ (x.1 (o + 10) s).toInt ∧ (x.1 (o + 10) s).toInt < s ∧ (x.1 (o + 12) s).toInt = (x.1 (o + 12) (x.1 (o + 10) s).toInt.toNat).toInt + 1))
def sTr (o c k : Nat) : Prop := o ≤ c ∧ c ≤ o + 14
theorem tr_row {q : kP} {o i : Nat} (hq : kV q) (ho : kiT q o) (hi : i < oN q o) : ∃ c, (kf q).1 (o + 13) i = some c ∧ kK c = .inr (.int, 24) ∧ c ∈ (kf q).2.1 ∧ 4000 ≤ c := by
  rcases ho with ⟨rfl, h⟩ | ⟨rfl, h⟩
  · have hi : i < q.o0 := hi
    refine ⟨4000 + i, ?_, ?_, hq.2.2.2.2.2.2.1 i hi, by omega⟩
    · show kR q 273 i = _
      unfold kR
      rw [if_neg (by omega), if_neg (by omega), if_neg (by omega), if_neg (by omega), if_neg (by omega), if_pos rfl, if_pos hi]
    · unfold kK; rw [if_neg (by omega), if_neg (by omega), if_neg (by omega)]
  · have hi : i < q.o1 := hi
    refine ⟨7000 + i, ?_, ?_, hq.2.2.2.2.2.2.2 i hi, by omega⟩
    · show kR q 293 i = _
      unfold kR
      rw [if_neg (by omega), if_neg (by omega), if_neg (by omega), if_neg (by omega), if_neg (by omega), if_neg (by omega), if_pos rfl, if_pos hi]
    · unfold kK; rw [if_neg (by omega), if_neg (by omega), if_neg (by omega)]
theorem TO_fm {x y : gd} {q : kP} {o : Nat} {S : Nat → Nat → Prop} (f : fm S x y) (h1 : ¬ S o 3) (h2 : ∀ k, ¬ S (o + 14) k) (h : TO x q o) : TO y q o := by
  unfold TO at h ⊢
  rw [f o 3 h1]
  refine ⟨h.1, fun i hi => ?_⟩
  rw [f (o + 14) i (h2 i)]; exact h.2 i hi
theorem TZ_fm {x y : gd} {o : Nat} {S : Nat → Nat → Prop} (f : fm S x y) (h1 : ¬ S o 0) (h2 : ∀ c k, c = o + 7 ∨ c = o + 10 ∨ c = o + 12 → ¬ S c k) (h : TZ x o) : TZ y o := by
  unfold TZ at h ⊢
  rw [f o 0 h1]
  refine ⟨h.1, fun g hg => ?_, fun s hs => ?_⟩
  · rw [f (o + 7) g (h2 _ _ (by omega))]; exact h.2.1 g hg
  · rw [f (o + 12) s (h2 _ _ (by omega)), f (o + 10) s (h2 _ _ (by omega)), f (o + 12) _ (h2 _ _ (by omega))]; exact h.2.2 s hs
section KTR
variable {G : kG} {q : kP} {d o : Nat} {x x0 y z : gd} {F : Int32 → gd → Prop} {Fv : gd → Prop}
theorem kt_clear (hq : kV q) (ho : kiT q o) (hN : oN q o ≤ 3000) (l : Int32) (h : ∀ y, fm (sTr o) x y → y.1 o 0 = 0 → y.1 o 3 = 0 → y.1 o 1 = 0 → TZ y o → TO y q o → Fv y) : KT G q (d + 1) zk_X10_clear 0 [(0, vr o), (1, vi l)] [] x (rv Fv) := by
  have k0 : (0 : Int32).toInt = 0 := rfl
  refine kg_X10_clear_0 hq ho _ (fun x1 e1 x2 e2 x3 e3 x4 e4 x5 e5 x6 e6 x7 e7 x8 e8 z ez => ?_)
  have c0 : ∀ k, k < 6 → z.1 o k = 0 := by
    intro k hk
    have g : z.1 o k = x6.1 o k := by rw [ez, sfl_get, if_neg (by omega), e8, sfl_get, if_neg (by omega), e7, sfl_get, if_neg (by omega)]
    rw [g, e6, si_get]
    split
    · rfl
    rw [e5, si_get]
    split
    · rfl
    rw [e4, si_get]
    split
    · rfl
    rw [e3, si_get]
    split
    · rfl
    rw [e2, si_get]
    split
    · rfl
    rw [e1, si_get]
    split
    · rfl
    omega
  have z0 := c0 0 (by omega)
  have z3 := c0 3 (by omega)
  refine rv_i (h z ?_ z0 z3 (c0 1 (by omega)) ?_ ?_)
  · rw [ez, e8, e7, e6, e5, e4, e3, e2, e1]
    refine fm_fl (fm_fl (fm_fl (fm_si (fm_si (fm_si (fm_si (fm_si (fm_si (fm_rf _ _) ?_) ?_) ?_) ?_) ?_) ?_) ?_) ?_) ?_ <;> (try intro k _) <;> unfold sTr <;> omega
  · unfold TZ; rw [z0, k0]
    refine ⟨by omega, fun g hg => Or.inl ?_, fun s hs => by omega⟩
    rw [ez, sfl_get, if_neg (by omega), e8, sfl_get, if_neg (by omega), e7, sfl_get, if_pos ⟨rfl, hg⟩]
  · unfold TO; rw [z3, k0]
    exact ⟨by omega, fun i hi => by omega⟩
def sTs (o c k : Nat) : Prop := (c = o ∧ k = 0) ∨ (o + 10 ≤ c ∧ c ≤ o + 12)
theorem kt_addState (hq : kV q) (ho : kiT q o) (a b : Int32) (hz : TZ x o) (ha : a = -1 ∨ (0 ≤ a.toInt ∧ a.toInt < (x.1 o 0).toInt)) (h : ∀ y, fm (sTs o) x y → TZ y o → ((x.1 o 0).toInt < 3000 → (y.1 o 0).toInt = (x.1 o 0).toInt + 1) → Fv y) : KT G q d zk_X10_addState 0 [(0, vr o), (1, vi a), (2, vi b)] [] x (rv Fv) := by
  have k3 : (3000 : Int32).toInt = 3000 := rfl
  have k1 : (1 : Int32).toInt = 1 := rfl
  obtain ⟨⟨b0, b1⟩, hf, hs⟩ := hz
  refine kg_X10_addState_0 hq ho _ _ ⟨fun c => rv_i (h x (fm_rf _ _) ⟨⟨b0, b1⟩, hf, hs⟩ (fun q => ?_)), fun c => ?_⟩
  · rw [t_le, k3] at c; omega
  rw [t_le, k3] at c
  have eS : (x.1 o 0).toNatClampNeg = (x.1 o 0).toInt.toNat := rfl
  have v0 : vp_in (x.1 o 0) 3000 := by rw [vp_in_iff]; omega
  rw [eS]
  refine ⟨v0, fun x3 e3 => ?_⟩
  have f3 : fm (fun c k => c = o + 10 ∧ k = (x.1 o 0).toInt.toNat) x x3 := by rw [e3]; exact fm_si (fm_rf _ _) ⟨rfl, rfl⟩
  rw [f3 o 0 (by omega)]
  refine ⟨v0, fun x5 e5 => ?_⟩
  have f5 : fm (fun c k => (c = o + 10 ∧ k = (x.1 o 0).toInt.toNat) ∨ c = o + 11) x x5 := by rw [e5]; exact fm_si (fm_w f3 (fun c k q => Or.inl q)) (Or.inr rfl)
  rw [f5 o 0 (by omega)]
  have fin : ∀ (w : Int32) (y z : gd), y = si x5 (o + 12) (x.1 o 0).toInt.toNat w → z = si y o 0 (y.1 o 0 + 1) → (0 ≤ w.toInt ∧ w.toInt ≤ (x.1 o 0).toInt) → (w.toInt = 0 ∨ (0 ≤ a.toInt ∧ a.toInt < (x.1 o 0).toInt ∧ w.toInt = (x.1 (o + 12) a.toInt.toNat).toInt + 1)) → rv Fv none z := by
    intro w y z ey ez hw hw2
    have gy : y.1 o 0 = x.1 o 0 := by rw [ey, si_cell (by omega), f5 o 0 (by omega)]
    rw [gy] at ez
    have g0 : z.1 o 0 = x.1 o 0 + 1 := by rw [ez, si_get, if_pos ⟨rfl, rfl⟩]
    have e1 : (x.1 o 0 + 1).toInt = (x.1 o 0).toInt + 1 := by rw [t_add (by rw [k1]; omega) (by rw [k1]; omega), k1]
    have g7 : ∀ k, z.1 (o + 7) k = x.1 (o + 7) k := fun k => by rw [ez, si_cell (by omega), ey, si_cell (by omega), f5 _ _ (by omega)]
    have g10 : ∀ k, ¬ k = (x.1 o 0).toInt.toNat → z.1 (o + 10) k = x.1 (o + 10) k := fun k hk => by rw [ez, si_cell (by omega), ey, si_cell (by omega), f5 _ _ (by omega)]
    have g12 : ∀ k, ¬ k = (x.1 o 0).toInt.toNat → z.1 (o + 12) k = x.1 (o + 12) k := fun k hk => by rw [ez, si_cell (by omega), ey, si_get, if_neg (fun q => hk q.2), f5 _ _ (by omega)]
    have n10 : z.1 (o + 10) (x.1 o 0).toInt.toNat = a := by rw [ez, si_cell (by omega), ey, si_cell (by omega), e5, si_cell (by omega), e3, si_get, if_pos ⟨rfl, rfl⟩]
    have n12 : z.1 (o + 12) (x.1 o 0).toInt.toNat = w := by rw [ez, si_cell (by omega), ey, si_get, if_pos ⟨rfl, rfl⟩]
    refine rv_i (h z ?_ ?_ (fun _ => by rw [g0, e1]))
    · rw [ez, ey]; exact fm_si (fm_si (fm_w f5 (fun c k q => by unfold sTs; omega)) (by unfold sTs; omega)) (by unfold sTs; omega)
    · unfold TZ; rw [g0, e1]
      refine ⟨by omega, fun f hf2 => ?_, fun s hs2 => ?_⟩
      · rw [g7]
        rcases hf f hf2 with e | e
        · exact Or.inl e
        · exact Or.inr (by omega)
      · by_cases h9 : s = (x.1 o 0).toInt.toNat
        · rw [h9, n12, n10]
          refine ⟨by omega, ?_⟩
          rcases hw2 with e | ⟨q1, q2, q3⟩
          · exact Or.inl e
          · exact Or.inr ⟨q1, by omega, by rw [g12 _ (by omega)]; exact q3⟩
        · obtain ⟨s1, s2⟩ := hs s (by omega)
          rw [g12 s h9, g10 s h9]
          refine ⟨s1, ?_⟩
          rcases s2 with e | ⟨q1, q2, q3⟩
          · exact Or.inl e
          · exact Or.inr ⟨q1, q2, by rw [g12 _ (by omega)]; exact q3⟩
  refine ⟨fun hn => ?_, fun hn => ⟨v0, fun y ey z ez => fin _ y z ey ez (by show (0 : Int) ≤ 0 ∧ (0 : Int) ≤ _; omega) (Or.inl rfl)⟩⟩
  have ha2 : 0 ≤ a.toInt ∧ a.toInt < (x.1 o 0).toInt := by
    rcases ha with e | e
    · exact absurd e hn
    · exact e
  have eA : a.toNatClampNeg = a.toInt.toNat := rfl
  rw [eA, f5 (o + 12) _ (by omega)]
  obtain ⟨s1, s2⟩ := hs a.toInt.toNat (by omega)
  have e1 : (x.1 (o + 12) a.toInt.toNat + 1).toInt = (x.1 (o + 12) a.toInt.toNat).toInt + 1 := by rw [t_add (by rw [k1]; omega) (by rw [k1]; omega), k1]
  refine ⟨by rw [vp_in_iff]; omega, v0, fun y ey z ez => fin _ y z ey ez ?_ (Or.inr ⟨ha2.1, ha2.2, e1⟩)⟩
  rw [e1]; omega
theorem kt_find (hq : kV q) (ho : kiT q o) (f s : Int32) {Fn : Nat} (ef : f.toInt = Fn) (hF : Fn < 11) (hz : TZ x o) (hs : 0 ≤ s.toInt ∧ s.toInt < (x.1 o 0).toInt) (h : ∀ y, fm (fun c k => c = o + 7) x y → TZ y o → Fv y) : KT G q d zk_X10_find 0 [(0, vr o), (1, vi f), (2, vi s)] [] x (rv Fv) := by
  have vf : vp_in f 11 := by rw [vp_in_iff]; omega
  have eF : f.toNatClampNeg = Fn := by rw [t_cl, ef]; rfl
  refine kg_X10_find_0 hq ho _ _ ⟨vf, fun _ => rv_i (h x (fm_rf _ _) hz), fun _ => ⟨vf, fun z ez => rv_i (h z ?_ ?_)⟩⟩
  · rw [ez]; exact fm_si (fm_rf _ _) rfl
  · rw [eF] at ez
    obtain ⟨b, hf, hs2⟩ := hz
    have g : ∀ c k, ¬ c = o + 7 → z.1 c k = x.1 c k := fun c k hc => by rw [ez, si_cell hc]
    unfold TZ
    rw [g o 0 (by omega)]
    refine ⟨b, fun k hk => ?_, fun k hk => ?_⟩
    · by_cases h9 : k = Fn
      · have : z.1 (o + 7) k = s := by rw [ez, h9, si_get, if_pos ⟨rfl, rfl⟩]
        rw [this]; exact Or.inr hs
      · have : z.1 (o + 7) k = x.1 (o + 7) k := by rw [ez, si_get, if_neg (fun q => h9 q.2)]
        rw [this]; exact hf k hk
    · rw [g (o + 12) k (by omega), g (o + 10) k (by omega), g (o + 12) _ (by omega)]; exact hs2 k hk
theorem kt_pathTo (hq : kV q) (ho : kiT q o) {a : Nat} (ka : kK a = .inr (.int, 400)) (ma : a ∈ (kf q).2.1) (hoa : a < o) (s : Int32) (hz : TZ x o) (hs : 0 ≤ s.toInt ∧ s.toInt < (x.1 o 0).toInt) (h : ∀ y, fm (fun c k => c = a) x y → Fv y) : KT G q d zk_X10_pathTo 0 [(0, vr o), (1, vi s), (2, vr a)] [] x (rv Fv) := by
  have k1 : (1 : Int32).toInt = 1 := rfl
  have km : (-1 : Int32).toInt = -1 := rfl
  have k0 : (0 : Int32).toInt = 0 := rfl
  obtain ⟨b, -, hs2⟩ := hz
  have loop : ∀ (n : Nat) (u i : Int32) (y : gd), i.toInt = (n : Int) - 1 → n ≤ 3000 → fm (fun c k => c = a) x y → (0 < n → 0 ≤ u.toInt ∧ u.toInt < (x.1 o 0).toInt ∧ (x.1 (o + 12) u.toInt.toNat).toInt = n) → KT G q d zk_X10_pathTo 12 [(0, vr o), (2, vr a), (3, vi u), (4, vi i)] [] y (rv Fv) := by
    intro n
    induction n with
    | zero =>
      intro u i y ei hn fy hu
      refine kg_X10_pathTo_12 hq ho ka ma _ _ ⟨fun _ => rv_i (h y fy), fun c => ?_⟩
      rw [t_lt, k0] at c; omega
    | succ n ih =>
      intro u i y ei hn fy hu
      obtain ⟨u0, u1, u2⟩ := hu (by omega)
      have vu : vp_in u 3000 := by rw [vp_in_iff]; omega
      refine kg_X10_pathTo_12 hq ho ka ma _ _ ⟨fun _ => rv_i (h y fy), fun c => ⟨fun _ => rv_i (h y fy), fun c2 => ⟨vu, ?_, fun z ez => ⟨vu, ?_⟩⟩⟩⟩
      · rw [t_le] at c2
        have : (Int32.ofNat 400).toInt = 400 := rfl
        rw [this] at c2
        rw [vp_in_iff]; push_cast at ei; omega
      have eU : u.toNatClampNeg = u.toInt.toNat := rfl
      have fz : fm (fun c k => c = a) x z := by rw [ez]; exact fm_si fy rfl
      rw [eU, fz (o + 10) _ (by omega)]
      obtain ⟨i2, hi2⟩ : ∃ i2, i2 = i + -1 := ⟨_, rfl⟩
      rw [← hi2]
      have ei1 : i2.toInt = (n : Int) - 1 := by rw [hi2, t_add (by rw [km]; push_cast at ei; omega) (by rw [km]; push_cast at ei; omega), km, ei]; push_cast; omega
      clear hi2
      refine ih _ _ z ei1 (by omega) fz (fun hn0 => ?_)
      obtain ⟨s1, s3⟩ := hs2 u.toInt.toNat (by omega)
      rcases s3 with e | ⟨q1, q2, q3⟩
      · rw [u2] at e; push_cast at e; omega
      · refine ⟨q1, by omega, ?_⟩
        rw [u2] at q3; push_cast at q3; omega
  have eS : s.toNatClampNeg = s.toInt.toNat := rfl
  obtain ⟨s1, s3⟩ := hs2 s.toInt.toNat (by omega)
  refine kg_X10_pathTo_0 hq ho ka ma _ ⟨by rw [vp_in_iff]; omega, ?_⟩
  rw [eS]
  refine loop (x.1 (o + 12) s.toInt.toNat).toInt.toNat _ _ x ?_ (by omega) (fm_rf _ _) (fun _ => ⟨hs.1, hs.2, by omega⟩)
  rw [t_sub (by rw [k1]; omega) (by rw [k1]; omega), k1]; omega
theorem kt_addTake (hq : kV q) (ho : kiT q o) (a b : Int32) (h : ∀ y, fm (fun c k => c = o + 9) x y → Fv y) : KT G q d zk_X10_addTake 0 [(0, vr o), (1, vi a), (2, vi b)] [] x (rv Fv) := by
  have k6 : (6 : Int32).toInt = 6 := rfl
  have loop : ∀ (n k : Nat) (i : Int32) (y : gd), i.toInt = k → (6 : Int) - k ≤ n → fm (fun c k => c = o + 9) x y → KT G q d zk_X10_addTake 2 [(0, vr o), (1, vi a), (2, vi b), (3, vi i)] [] y (rv Fv) := by
    intro n
    induction n with
    | zero =>
      intro k i y ei hn fy
      refine kg_X10_addTake_2 hq ho _ _ _ ⟨fun _ => rv_i (h y fy), fun c => ?_⟩
      rw [t_le, k6] at c; omega
    | succ n ih =>
      intro k i y ei hn fy
      refine kg_X10_addTake_2 hq ho _ _ _ ⟨fun _ => rv_i (h y fy), fun c => ?_⟩
      rw [t_le, k6] at c
      have e1 : (i + 1).toInt = ((k + 1 : Nat) : Int) := by rw [t_add (by show _ ≤ _ + (1 : Int); omega) (by show _ + (1 : Int) ≤ _; omega), ei]; rfl
      have v6 : vp_in i 6 := by rw [vp_in_iff]; omega
      have go : ∀ z, fm (fun c k => c = o + 9) x z → KT G q d zk_X10_addTake 2 [(0, vr o), (1, vi a), (2, vi b), (3, vi (i + 1))] [] z (rv Fv) := fun z fz => ih (k + 1) _ z e1 (by push_cast; omega) fz
      exact ⟨fun _ => go y fy, fun _ => ⟨fun _ => go y fy, fun _ => ⟨v6, v6, fun z ez => go z (by rw [ez]; exact fm_si fy rfl)⟩⟩⟩
  exact kg_X10_addTake_0 hq ho _ _ (loop 6 0 _ x rfl (by omega) (fm_rf _ _))
theorem kt_ringFrom (hq : kV q) (ho : kiT q o) (a : Int32) (h : ∀ r, F r x) : KT G q d zk_X10_ringFrom 0 [(0, vr o), (1, vi a)] [] x (ri F) := by
  have k6 : (6 : Int32).toInt = 6 := rfl
  have outer : ∀ (m j : Nat) (l2 l3 : Int32), l3.toInt = j → (7 : Int) - j ≤ m → KT G q d zk_X10_ringFrom 6 [(0, vr o), (1, vi a), (2, vi l2), (3, vi l3)] [] x (ri F) := by
    intro m
    induction m with
    | zero =>
      intro j l2 l3 ej hm
      refine kg_X10_ringFrom_6 hq ho _ _ _ ⟨fun _ => ri_i (h _), fun c => ?_⟩
      rw [t_lt, k6] at c; omega
    | succ m ih =>
      intro j l2 l3 ej hm
      refine kg_X10_ringFrom_6 hq ho _ _ _ ⟨fun _ => ri_i (h _), fun c => ?_⟩
      rw [t_lt, k6] at c
      have e1 : (l3 + 1).toInt = ((j + 1 : Nat) : Int) := by rw [t_add (by show _ ≤ _ + (1 : Int); omega) (by show _ + (1 : Int) ≤ _; omega), ej]; rfl
      have loop : ∀ (n k : Nat) (i l4 : Int32), i.toInt = k → (6 : Int) - k ≤ n → KT G q d zk_X10_ringFrom 18 [(0, vr o), (1, vi a), (2, vi l2), (3, vi l3), (4, vi l4), (5, vi i)] [] x (ri F) := by
        intro n
        induction n with
        | zero =>
          intro k i l4 ei hn
          refine kg_X10_ringFrom_18 hq ho _ _ _ _ _ ⟨fun _ => ⟨fun _ => ih (j + 1) _ _ e1 (by push_cast; omega), fun _ => ri_i (h _)⟩, fun c => ?_⟩
          rw [t_le, k6] at c; omega
        | succ n ihn =>
          intro k i l4 ei hn
          refine kg_X10_ringFrom_18 hq ho _ _ _ _ _ ⟨fun _ => ⟨fun _ => ih (j + 1) _ _ e1 (by push_cast; omega), fun _ => ri_i (h _)⟩, fun c => ?_⟩
          rw [t_le, k6] at c
          have ei1 : (i + 1).toInt = ((k + 1 : Nat) : Int) := by rw [t_add (by show _ ≤ _ + (1 : Int); omega) (by show _ + (1 : Int) ≤ _; omega), ei]; rfl
          exact ⟨fun _ => ihn (k + 1) _ _ ei1 (by push_cast; omega), fun _ => ⟨by rw [vp_in_iff]; omega, ihn (k + 1) _ _ ei1 (by push_cast; omega)⟩⟩
      exact loop 6 0 _ _ rfl (by omega)
  exact kg_X10_ringFrom_0 hq ho _ (outer 7 1 _ _ rfl (by omega))
theorem kt_ring (hq : kV q) (ho : kiT q o) (h : ∀ r, F r x) : KT G q (d + 1) zk_X10_shortestRing 0 [(0, vr o)] [] x (ri F) := by
  have k6 : (6 : Int32).toInt = 6 := rfl
  have loop : ∀ (n k : Nat) (i l1 : Int32), i.toInt = k → (6 : Int) - k ≤ n → KT G q (d + 1) zk_X10_shortestRing 4 [(0, vr o), (1, vi l1), (2, vi i)] [] x (ri F) := by
    intro n
    induction n with
    | zero =>
      intro k i l1 ei hn
      refine kg_X10_shortestRing_4 hq ho _ _ ⟨fun _ => ri_i (h _), fun c => ?_⟩
      rw [t_le, k6] at c; omega
    | succ n ih =>
      intro k i l1 ei hn
      refine kg_X10_shortestRing_4 hq ho _ _ ⟨fun _ => ri_i (h _), fun c => ?_⟩
      rw [t_le, k6] at c
      have ei1 : (i + 1).toInt = ((k + 1 : Nat) : Int) := by rw [t_add (by show _ ≤ _ + (1 : Int); omega) (by show _ + (1 : Int) ≤ _; omega), ei]; rfl
      have go : ∀ l, KT G q (d + 1) zk_X10_shortestRing 4 [(0, vr o), (1, vi l), (2, vi (i + 1))] [] x (ri F) := fun l => ih (k + 1) _ _ ei1 (by push_cast; omega)
      exact kt_ringFrom hq ho _ (fun r => ⟨fun _ => go _, fun _ => ⟨fun _ => go _, fun _ => ⟨fun _ => go _, fun _ => go _⟩⟩⟩)
  exact kg_X10_shortestRing_0 hq ho (loop 6 0 _ _ rfl (by omega))
theorem kt_valueOf (hq : kV q) (ho : kiT q o) (i c : Int32) (hT : TO x q o) (hi : 0 ≤ i.toInt ∧ i.toInt < (x.1 o 3).toInt) (hc : 0 ≤ c.toInt ∧ c.toInt < 24) (h : ∀ r, F r x) : KT G q d zk_X10_valueOf 0 [(0, vr o), (1, vi i), (2, vi c)] [] x (ri F) := by
  obtain ⟨⟨b0, b1, b2⟩, hO⟩ := hT
  have eI : i.toNatClampNeg = i.toInt.toNat := rfl
  obtain ⟨o0, o1⟩ := hO i.toInt.toNat (by omega)
  refine kg_X10_valueOf_0 hq ho _ _ ⟨by rw [vp_in_iff]; omega, ?_⟩
  rw [eI]
  refine ⟨by rw [vp_in_iff]; omega, fun u3 e3 => ?_⟩
  have eO : (x.1 (o + 14) i.toInt.toNat).toNatClampNeg = (x.1 (o + 14) i.toInt.toNat).toInt.toNat := rfl
  obtain ⟨c4, r1, r2, r3, -⟩ := tr_row (i := (x.1 (o + 14) i.toInt.toNat).toInt.toNat) hq ho (by omega)
  rw [eO, r1] at e3
  exact ⟨c4, e3, r2, r3, by rw [vp_in_iff]; omega, ri_i (h _)⟩
theorem kt_order (hq : kV q) (ho : kiT q o) {a b na nb : Nat} (ka : kK a = .inr (.int, na)) (ma : a ∈ (kf q).2.1) (kb : kK b = .inr (.int, nb)) (mb : b ∈ (kf q).2.1) (n : Int32) (hna : n.toInt ≤ na) (hnb : n.toInt ≤ nb) (h24 : n.toInt ≤ 24) (h : ∀ r, F r x) : KT G q d zk_X10_order 0 [(0, vr a), (1, vr b), (2, vi n)] [] x (ri F) := by
  have loop : ∀ (m k : Nat) (i : Int32), i.toInt = k → n.toInt - k ≤ m → KT G q d zk_X10_order 2 [(0, vr a), (1, vr b), (2, vi n), (3, vi i)] [] x (ri F) := by
    intro m
    induction m with
    | zero =>
      intro k i ei hn
      refine kg_X10_order_2 hq ho ka ma kb mb _ _ ⟨fun _ => ri_i (h _), fun c => ?_⟩
      rw [t_le] at c; omega
    | succ m ih =>
      intro k i ei hn
      refine kg_X10_order_2 hq ho ka ma kb mb _ _ ⟨fun _ => ri_i (h _), fun c => ?_⟩
      rw [t_le] at c
      have ei1 : (i + 1).toInt = ((k + 1 : Nat) : Int) := by rw [t_add (by show _ ≤ _ + (1 : Int); omega) (by show _ + (1 : Int) ≤ _; omega), ei]; rfl
      have va : vp_in i na := by rw [vp_in_iff]; omega
      have vb : vp_in i nb := by rw [vp_in_iff]; omega
      exact ⟨va, vb, fun _ => ih (k + 1) _ ei1 (by push_cast; omega), fun _ => ⟨va, vb, fun _ => ri_i (h _), fun _ => ri_i (h _)⟩⟩
  exact kg_X10_order_0 hq ho ka ma kb mb _ (loop 24 0 _ rfl (by omega))
theorem kt_same (hq : kV q) (ho : kiT q o) {p : Nat} (hp : kiT q p) (n : Int32) (h24 : n.toInt ≤ 24) (hT : TO x q o) (hU : TO x q p) (h : ∀ r, gbool r → F r x) : KT G q (d + 1) zk_X10_sameOutcomes 0 [(0, vr o), (1, vr p), (2, vi n)] [] x (ri F) := by
  obtain ⟨⟨b0, b1, b2⟩, hO⟩ := hT
  obtain ⟨⟨c0, c1, c2⟩, hO2⟩ := hU
  refine kg_X10_sameOutcomes_0 hq ho hp _ ⟨fun eq => ?_, fun _ => ri_i (h _ gbool_0)⟩
  rw [t_eq] at eq
  have loop : ∀ (m k : Nat) (i : Int32), i.toInt = k → (x.1 o 3).toInt - k ≤ m → KT G q (d + 1) zk_X10_sameOutcomes 15 [(0, vr o), (1, vr p), (2, vi n), (3, vi i)] [] x (ri F) := by
    intro m
    induction m with
    | zero =>
      intro k i ei hn
      refine kg_X10_sameOutcomes_15 hq ho hp _ _ ⟨fun _ => ri_i (h _ gbool_1), fun c => ?_⟩
      rw [t_le] at c; omega
    | succ m ih =>
      intro k i ei hn
      refine kg_X10_sameOutcomes_15 hq ho hp _ _ ⟨fun _ => ri_i (h _ gbool_1), fun c => ?_⟩
      rw [t_le] at c
      have ei1 : (i + 1).toInt = ((k + 1 : Nat) : Int) := by rw [t_add (by show _ ≤ _ + (1 : Int); omega) (by show _ + (1 : Int) ≤ _; omega), ei]; rfl
      have v1 : vp_in i 3000 := by rw [vp_in_iff]; omega
      have eI : i.toNatClampNeg = k := by rw [t_cl, ei]; rfl
      obtain ⟨o0, o1⟩ := hO k (by omega)
      obtain ⟨p0, p1⟩ := hO2 k (by omega)
      rw [eI]
      refine ⟨v1, by rw [vp_in_iff]; omega, fun u4 e4 => ⟨v1, by rw [vp_in_iff]; omega, fun u7 e7 => ?_⟩⟩
      have eO : ∀ w : Nat, (x.1 w k).toNatClampNeg = (x.1 w k).toInt.toNat := fun w => rfl
      obtain ⟨r, r1, r2, r3, -⟩ := tr_row (i := (x.1 (o + 14) k).toInt.toNat) hq ho (by omega)
      obtain ⟨s, s1, s2, s3, -⟩ := tr_row (i := (x.1 (p + 14) k).toInt.toNat) hq hp (by omega)
      rw [eO, r1] at e4
      rw [eO, s1] at e7
      exact ⟨r, e4, r2, r3, s, e7, s2, s3, kt_order hq ho r2 r3 s2 s3 _ h24 h24 h24 (fun r9 => ⟨fun _ => ih (k + 1) _ ei1 (by push_cast; omega), fun _ => ri_i (h _ gbool_0)⟩)⟩
  exact loop 3000 0 _ rfl (by omega)
end KTR
