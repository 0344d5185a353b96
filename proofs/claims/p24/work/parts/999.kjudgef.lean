/-! the class's judge -/
section KJF
variable {G : kG} {q : kP} {d : Nat} {x : gd} {F : Int32 → gd → Prop} {T : gTd}
theorem kf_numberOf (hq : kV q) (hT : kT x) {a1 n1 : Nat} (ka1 : kK a1 = .inr (.int, n1)) (ma1 : a1 ∈ (kf q).2.1) (m t : Int32) (h0 : 0 ≤ m.toInt) (hn : m.toInt ≤ n1) (hk : ∀ i : Nat, (i : Int) < m.toInt → tk x (x.1 a1 i)) (ht : tk x t) (h : ∀ r : Int32, ((r = -1 ∧ ∀ i : Nat, (i : Int) < m.toInt → ¬ smk x (x.1 a1 i).toNatClampNeg t.toNatClampNeg) ∨ ((0 ≤ r.toInt ∧ r.toInt < m.toInt) ∧ ∃ i : Nat, (i : Int) < m.toInt ∧ r.toInt = (i : Nat) ∧ smk x (x.1 a1 i).toNatClampNeg t.toNatClampNeg)) → F r x) : KT G q (d + 1) zk_X6_numberOf 0 [(0, vr 40), (1, vr a1), (2, vi m), (3, vi t)] [] x (ri F) := by
  have loop : ∀ (n : Nat) (i : Int32), 0 ≤ i.toInt → m.toInt - i.toInt ≤ n → (∀ k : Nat, (k : Int) < i.toInt → ¬ smk x (x.1 a1 k).toNatClampNeg t.toNatClampNeg) → KT G q (d + 1) zk_X6_numberOf 3 [(0, vr 40), (1, vr a1), (2, vi m), (3, vi t), (4, vi i)] [] x (ri F) := by
    intro n
    induction n with
    | zero =>
      intro i i0 hn no
      refine kg_X6_numberOf_3 hq ka1 ma1 _ _ _ ⟨fun _ => ri_i (h _ (Or.inl ⟨rfl, fun k hk => no k (by omega)⟩)), fun c => ?_⟩
      exfalso; rw [t_le] at c; omega
    | succ n ih =>
      intro i i0 hn no
      refine kg_X6_numberOf_3 hq ka1 ma1 _ _ _ ⟨fun c => ri_i (h _ (Or.inl ⟨rfl, fun k hk => no k (by rw [t_le] at c; omega)⟩)), fun c => ?_⟩
      rw [t_le] at c
      have rm := t_rg m
      have ui := t_cl i
      have e1 : (i + 1).toInt = i.toInt + 1 := t_add (by show _ ≤ _ + (1 : Int); omega) (by show _ + (1 : Int) ≤ _; omega)
      have lt : ((i.toNatClampNeg : Nat) : Int) < m.toInt := by omega
      have v1 : vp_in i n1 := by rw [vp_in_iff]; omega
      have v2 : 0 ≤ (i + 1).toInt := by omega
      have v3 : m.toInt - (i + 1).toInt ≤ n := by omega
      refine ⟨v1, kf_sameName hq hT _ _ (hk _ lt) ht (fun r hr => ⟨fun c0 => ih _ v2 v3 (fun k hk => ?_), fun c0 => ri_i (h _ (Or.inr ⟨⟨i0, by omega⟩, i.toNatClampNeg, lt, by omega, hr.mp c0⟩))⟩)⟩
      by_cases ck : k = i.toNatClampNeg
      · rw [ck]; exact fun z => hr.mpr z c0
      · exact no k (by omega)
  exact kg_X6_numberOf_0 hq ka1 ma1 _ _ (loop m.toInt.toNat _ (by decide) (by show _ - (0 : Int) ≤ _; omega) (fun k hk => absurd hk (by show ¬ (k : Int) < 0; omega)))
theorem kf_isAmong (hq : kV q) (hT : kT x) {a1 n1 : Nat} (ka1 : kK a1 = .inr (.int, n1)) (ma1 : a1 ∈ (kf q).2.1) (m t : Int32) (h0 : 0 ≤ m.toInt) (hn : m.toInt ≤ n1) (hk : ∀ i : Nat, (i : Int) < m.toInt → tk x (x.1 a1 i)) (ht : tk x t) (h : ∀ r : Int32, (¬ r = 0 ↔ ∃ i : Nat, (i : Int) < m.toInt ∧ (x.1 a1 i).toNatClampNeg < t.toNatClampNeg ∧ smk x (x.1 a1 i).toNatClampNeg t.toNatClampNeg) → F r x) : KT G q (d + 1) zk_X6_isAmong 0 [(0, vr 40), (1, vr a1), (2, vi m), (3, vi t)] [] x (ri F) := by
  have ut := t_cl t
  have ht0 := ht.1
  have no1 : ∀ i : Int32, m.toInt ≤ i.toInt → (∀ k : Nat, (k : Int) < i.toInt → ¬ ((x.1 a1 k).toNatClampNeg < t.toNatClampNeg ∧ smk x (x.1 a1 k).toNatClampNeg t.toNatClampNeg)) → F 0 x := fun i hi no => h _ ⟨fun z => absurd rfl z, fun ⟨k, k1, k2⟩ => absurd k2 (no k (by omega))⟩
  have loop : ∀ (n : Nat) (i : Int32), 0 ≤ i.toInt → m.toInt - i.toInt ≤ n → (∀ k : Nat, (k : Int) < i.toInt → ¬ ((x.1 a1 k).toNatClampNeg < t.toNatClampNeg ∧ smk x (x.1 a1 k).toNatClampNeg t.toNatClampNeg)) → KT G q (d + 1) zk_X6_isAmong 3 [(0, vr 40), (1, vr a1), (2, vi m), (3, vi t), (4, vi i)] [] x (ri F) := by
    intro n
    induction n with
    | zero =>
      intro i i0 hn no
      refine kg_X6_isAmong_3 hq ka1 ma1 _ _ _ ⟨fun _ => ri_i (no1 i (by omega) no), fun c => ?_⟩
      exfalso; rw [t_le] at c; omega
    | succ n ih =>
      intro i i0 hn no
      refine kg_X6_isAmong_3 hq ka1 ma1 _ _ _ ⟨fun c => ri_i (no1 i (by rw [t_le] at c; exact c) no), fun c => ?_⟩
      rw [t_le] at c
      have rm := t_rg m
      have ui := t_cl i
      have e1 : (i + 1).toInt = i.toInt + 1 := t_add (by show _ ≤ _ + (1 : Int); omega) (by show _ + (1 : Int) ≤ _; omega)
      have vin : vp_in i n1 := by rw [vp_in_iff]; omega
      have lt : ((i.toNatClampNeg : Nat) : Int) < m.toInt := by omega
      have v2 : 0 ≤ (i + 1).toInt := by omega
      have v3 : m.toInt - (i + 1).toInt ≤ n := by omega
      have hti := (hk _ lt).1
      have ua := t_cl (x.1 a1 i.toNatClampNeg)
      have go : ¬ ((x.1 a1 i.toNatClampNeg).toNatClampNeg < t.toNatClampNeg ∧ smk x (x.1 a1 i.toNatClampNeg).toNatClampNeg t.toNatClampNeg) → KT G q (d + 1) zk_X6_isAmong 3 [(0, vr 40), (1, vr a1), (2, vi m), (3, vi t), (4, vi (i + 1))] [] x (ri F) := fun ni => ih _ v2 v3 (fun k hk => by
        by_cases ck : k = i.toNatClampNeg
        · rw [ck]; exact ni
        · exact no k (by omega))
      refine ⟨vin, fun c2 => go (fun z => ?_), fun c2 => ⟨vin, kf_sameName hq hT _ _ (hk _ lt) ht (fun r hr => ⟨fun c0 => go (fun z => absurd c0 (hr.mpr z.2)), fun c0 => ri_i (h _ ⟨fun _ => ⟨i.toNatClampNeg, lt, ?_, hr.mp c0⟩, fun _ => by decide⟩)⟩)⟩⟩
      · rw [t_le] at c2
        have := z.1
        omega
      · rw [t_le] at c2
        omega
  exact kg_X6_isAmong_0 hq ka1 ma1 _ _ (loop m.toInt.toNat _ (by decide) (by show _ - (0 : Int) ≤ _; omega) (fun k hk => absurd hk (by show ¬ (k : Int) < 0; omega)))
/-- a table's places, and what was told -/
theorem tb_ex {l : gTd} {m : Int32} {a : Nat → Int32} {Q : Nat → Prop} (hl : m.toInt = (l.length : Nat)) (he : ∀ (i : Nat) (q : Nat × Nat × Nat × Nat), l[i]? = some q → (a i).toNatClampNeg = q.1) : (∃ i : Nat, (i : Int) < m.toInt ∧ Q (a i).toNatClampNeg) ↔ ∃ q ∈ l, Q q.1 := by
  constructor
  · rintro ⟨i, hi, h⟩
    have il : i < l.length := by omega
    refine ⟨l[i], List.getElem_mem il, ?_⟩
    rw [← he i _ (List.getElem?_eq_getElem il)]; exact h
  · rintro ⟨q, hq, h⟩
    obtain ⟨i, hi, ei⟩ := List.getElem_of_mem hq
    refine ⟨i, by omega, ?_⟩
    rw [he i q (by rw [List.getElem?_eq_getElem hi, ei])]; exact h
theorem kf_isToldBefore (hq : kV q) (hT : kT x) (hN : NM x) (hTb : TBk x T) (hs : ∀ q ∈ T, q.2.1 = 0 ∨ q.2.1 = 1 ∨ q.2.1 = 2) (t : Int32) (ht : tk x t) (h : ∀ r : Int32, (¬ r = 0 ↔ ∃ q ∈ T, q.1 < t.toNatClampNeg ∧ smk x q.1 t.toNatClampNeg) → F r x) : KT G q (d + 2) zk_X6_isToldBefore 0 [(0, vr 40), (1, vi t)] [] x (ri F) := by
  obtain ⟨⟨a0, a1⟩, ⟨b0, b1⟩, ⟨c0, c1⟩, hc, hl, hh⟩ := hN
  obtain ⟨⟨p1, p2, p3⟩, ⟨q1, q2⟩, r1, r2⟩ := hTb
  have t0 := tb_ex (Q := fun k => k < t.toNatClampNeg ∧ smk x k t.toNatClampNeg) p1 (fun i q hq => (p3 i q hq).1)
  have t1 := tb_ex (Q := fun k => k < t.toNatClampNeg ∧ smk x k t.toNatClampNeg) q1 q2
  have t2 := tb_ex (Q := fun k => k < t.toNatClampNeg ∧ smk x k t.toNatClampNeg) r1 r2
  have yes : ∀ w r, ¬ r = (0 : Int32) → (∃ q ∈ tdS T w, q.1 < t.toNatClampNeg ∧ smk x q.1 t.toNatClampNeg) → F r x := fun w r hr ⟨q, hq, hp⟩ => h r ⟨fun _ => ⟨q, (tdS_mem.mp hq).1, hp⟩, fun _ => hr⟩
  refine kg_X6_isToldBefore_0 hq _ (kf_isAmong hq hT kk_44 (kl_44 hq) _ _ a0 a1 (fun i hi => (hc i hi).1) ht (fun r hr => ⟨fun z => ri_i (yes 0 _ (by decide) (t0.mp (hr.mp z))), fun z => kf_isAmong hq hT kk_48 (kl_48 hq) _ _ b0 b1 hl ht (fun r' hr' => ⟨fun z' => ri_i (yes 1 _ (by decide) (t1.mp (hr'.mp z'))), fun z' => kf_isAmong hq hT kk_50 (kl_50 hq) _ _ c0 c1 hh ht (fun r2 hr2 => ⟨fun z2 => ri_i (h _ ⟨fun w => absurd rfl w, fun ⟨q, hq, hp⟩ => ?_⟩), fun z2 => ri_i (yes 2 _ (by decide) (t2.mp (hr2.mp z2)))⟩)⟩)⟩))
  exfalso
  rcases hs q hq with e | e | e
  · exact hr.mpr (t0.mpr ⟨q, tdS_mem.mpr ⟨hq, e⟩, hp⟩) z
  · exact hr'.mpr (t1.mpr ⟨q, tdS_mem.mpr ⟨hq, e⟩, hp⟩) z'
  · exact hr2.mpr (t2.mpr ⟨q, tdS_mem.mpr ⟨hq, e⟩, hp⟩) z2
theorem kf_cellOf (hq : kV q) (hT : kT x) (hN : NM x) (t b : Int32) (hb : b = 0 ∨ b = 1) (ht : tk x t) (h : ∀ r : Int32, ((r = -1 ∧ ∀ i : Nat, (i : Int) < (x.1 40 6).toInt → (0 < (x.1 46 i).toInt ↔ b = 1) → ¬ smk x (x.1 44 i).toNatClampNeg t.toNatClampNeg) ∨ ((0 ≤ r.toInt ∧ r.toInt < (x.1 40 6).toInt) ∧ ∃ i : Nat, (i : Int) < (x.1 40 6).toInt ∧ r.toInt = (i : Nat) ∧ (0 < (x.1 46 i).toInt ↔ b = 1) ∧ smk x (x.1 44 i).toNatClampNeg t.toNatClampNeg ∧ ∀ k : Nat, k < i → (0 < (x.1 46 k).toInt ↔ b = 1) → ¬ smk x (x.1 44 k).toNatClampNeg t.toNatClampNeg)) → F r x) : KT G q (d + 1) zk_X6_cellOf 0 [(0, vr 40), (1, vi t), (2, vi b)] [] x (ri F) := by
  obtain ⟨⟨a0, a1⟩, -, -, hc, -⟩ := hN
  have k0 : (0 : Int32).toInt = 0 := rfl
  have loop : ∀ (n : Nat) (i : Int32), 0 ≤ i.toInt → (x.1 40 6).toInt - i.toInt ≤ n → (∀ k : Nat, (k : Int) < i.toInt → (0 < (x.1 46 k).toInt ↔ b = 1) → ¬ smk x (x.1 44 k).toNatClampNeg t.toNatClampNeg) → KT G q (d + 1) zk_X6_cellOf 2 [(0, vr 40), (1, vi t), (2, vi b), (3, vi i)] [] x (ri F) := by
    intro n
    induction n with
    | zero =>
      intro i i0 hn no
      refine kg_X6_cellOf_2 hq _ _ _ ⟨fun _ => ri_i (h _ (Or.inl ⟨rfl, fun k hk => no k (by omega)⟩)), fun c => ?_⟩
      exfalso; rw [t_le] at c; omega
    | succ n ih =>
      intro i i0 hn no
      refine kg_X6_cellOf_2 hq _ _ _ ⟨fun c => ri_i (h _ (Or.inl ⟨rfl, fun k hk => no k (by rw [t_le] at c; omega)⟩)), fun c => ?_⟩
      rw [t_le] at c
      have ui := t_cl i
      have e1 : (i + 1).toInt = i.toInt + 1 := t_add (by show _ ≤ _ + (1 : Int); omega) (by show _ + (1 : Int) ≤ _; omega)
      have vin : vp_in i 24 := by rw [vp_in_iff]; omega
      have lt : ((i.toNatClampNeg : Nat) : Int) < (x.1 40 6).toInt := by omega
      have ei : i.toInt = ((i.toNatClampNeg : Nat) : Int) := by omega
      have v2 : 0 ≤ (i + 1).toInt := by omega
      have v3 : (x.1 40 6).toInt - (i + 1).toInt ≤ n := by omega
      have v4 : i.toInt < (x.1 40 6).toInt := by omega
      have go : ((0 < (x.1 46 i.toNatClampNeg).toInt ↔ b = 1) → ¬ smk x (x.1 44 i.toNatClampNeg).toNatClampNeg t.toNatClampNeg) → KT G q (d + 1) zk_X6_cellOf 2 [(0, vr 40), (1, vi t), (2, vi b), (3, vi (i + 1))] [] x (ri F) := fun ni => ih _ v2 v3 (fun k hk => by
        by_cases ck : k = i.toNatClampNeg
        · rw [ck]; exact ni
        · exact no k (by omega))
      have mid : ∀ s : Int32, (s = b ↔ (0 < (x.1 46 i.toNatClampNeg).toInt ↔ b = 1)) → KT G q (d + 1) zk_X6_cellOf 24 [(0, vr 40), (1, vi t), (2, vi b), (3, vi i)] [vi s] x (ri F) := fun s hs => kg_X6_cellOf_24 hq _ _ _ _ ⟨fun c2 => go (fun z => absurd (hs.mpr z) c2), fun c2 => ⟨vin, kf_sameName hq hT _ _ (hc _ lt).1 ht (fun r hr => ⟨fun c0 => go (fun _ z => absurd c0 (hr.mpr z)), fun c0 => ri_i (h _ (Or.inr ⟨⟨i0, v4⟩, i.toNatClampNeg, lt, ei, hs.mp c2, hr.mp c0, fun k hk => no k (by omega)⟩))⟩)⟩⟩
      refine ⟨vin, fun c2 => mid 0 ?_, fun c2 => mid 1 ?_⟩
      · rw [t_le, k0] at c2
        rcases hb with e | e
        · rw [e]; exact ⟨fun _ => ⟨fun z => absurd z (by omega), fun z => absurd z (by decide)⟩, fun _ => rfl⟩
        · rw [e]; exact ⟨fun z => absurd z (by decide), fun z => absurd (z.mpr rfl) (by omega)⟩
      · rw [t_le, k0] at c2
        rcases hb with e | e
        · rw [e]; exact ⟨fun z => absurd z (by decide), fun z => absurd (z.mp (by omega)) (by decide)⟩
        · rw [e]; exact ⟨fun _ => ⟨fun _ => rfl, fun _ => by omega⟩, fun _ => rfl⟩
  exact kg_X6_cellOf_0 hq _ _ (loop (x.1 40 6).toInt.toNat _ (by decide) (by show _ - (0 : Int) ≤ _; omega) (fun k hk => absurd hk (by show ¬ (k : Int) < 0; omega)))
/-- what a name means: the told lock, thread or cell -/
def MNg (R : Nat → Nat → Prop) (T : gTd) (U W : Nat → Int32) (j : Nat) : Prop := (U j = 4 → ∃ (k : Nat) (q : Nat × Nat × Nat × Nat), (W j).toInt = (k : Nat) ∧ (tdS T 1)[k]? = some q ∧ R q.1 j) ∧ (U j = 5 → ∃ (k : Nat) (q : Nat × Nat × Nat × Nat), (W j).toInt = (k : Nat) ∧ (tdS T 2)[k]? = some q ∧ R q.1 j) ∧ (U j = 6 ∨ U j = 7 → ∃ (k : Nat) (q : Nat × Nat × Nat × Nat), (W j).toInt = (k : Nat) ∧ (tdS T 0)[k]? = some q ∧ R q.1 j)
theorem MNg_w {R : Nat → Nat → Prop} {U W W' : Nat → Int32} {j : Nat} (e : W' j = W j) (h : MNg R T U W j) : MNg R T U W' j := by
  unfold MNg
  rw [e]
  exact h
theorem MNg_no {R : Nat → Nat → Prop} {U W : Nat → Int32} {j : Nat} {u : Int32} (hu : U j = u) (h : ¬ u = 4 ∧ ¬ u = 5 ∧ ¬ u = 6 ∧ ¬ u = 7) : MNg R T U W j := ⟨fun z => absurd (hu.symm.trans z) h.1, fun z => absurd (hu.symm.trans z) h.2.1, fun z => z.elim (fun z => absurd (hu.symm.trans z) h.2.2.1) (fun z => absurd (hu.symm.trans z) h.2.2.2)⟩
/-- what a judged token's verdict says -/
def JV (x : gd) (T : gTd) (j : Nat) (r : Int32) (y : gd) : Prop := (r = 0 → JM y j) ∧ (r = 0 ↔ ¬ CFp (smk x) (x.1 27) (x.1 42) T j) ∧ (r = 0 → x.1 42 j = 7 → ∃ (k : Nat) (q : Nat × Nat × Nat × Nat), (y.1 43 j).toInt = (k : Nat) ∧ rwK (smk x) T j k q) ∧ (r = 0 → MNg (smk x) T (x.1 42) (y.1 43) j)
theorem JV_no {j : Nat} {r : Int32} {y : gd} (hr : ¬ r = 0) (h : CFp (smk x) (x.1 27) (x.1 42) T j) : JV x T j r y := ⟨fun z => absurd z hr, ⟨fun z => absurd z hr, fun z => absurd h z⟩, fun z => absurd z hr, fun z => absurd z hr⟩
theorem JV_ye {j : Nat} {y : gd} {u : Int32} (hu : x.1 42 j = u) (h7 : ¬ u = 7) (hj : JM y j) (hm : MNg (smk x) T (x.1 42) (y.1 43) j) (h : ¬ CFp (smk x) (x.1 27) (x.1 42) T j) : JV x T j 0 y := ⟨fun _ => hj, ⟨fun _ => h, fun _ => rfl⟩, fun _ z => absurd (hu.symm.trans z) h7, fun _ => hm⟩
theorem kf_faultOfCell (hq : kV q) (hT : kT x) (hN : NM x) (hTb : TBk x T) (i : Int32) {j : Nat} (ei : i.toInt = j) (ht : tk x i) (hU : x.1 42 j = 6 ∨ x.1 42 j = 7 ∨ x.1 42 j = 8 ∨ x.1 42 j = 9) (h : ∀ r y, fm (fun c k => c = 43 ∧ k = j) x y → JV x T j r y → F r y) : KT G q (d + 2) zk_X6_faultOfCell 0 [(0, vr 40), (1, vi i)] [] x (ri F) := by
  have vin := (kT_at hT ht).1
  have ej : i.toNatClampNeg = j := by rw [t_cl, ei]; rfl
  obtain ⟨p1, p2, p3⟩ := hTb.1
  have at0 : ∀ (k : Nat), (k : Int) < (x.1 40 6).toInt → ∃ q, (tdS T 0)[k]? = some q ∧ (x.1 44 k).toNatClampNeg = q.1 ∧ (x.1 46 k).toInt = (q.2.2.1 : Nat) := fun k hk => by
    have il : k < (tdS T 0).length := by omega
    exact ⟨_, List.getElem?_eq_getElem il, (p3 k _ (List.getElem?_eq_getElem il)).1, (p3 k _ (List.getElem?_eq_getElem il)).2.1⟩
  have mid : ∀ s : Int32, (s = 0 ∨ s = 1) → (s = 1 ↔ x.1 42 j = 7 ∨ x.1 42 j = 9) → KT G q (d + 2) zk_X6_faultOfCell 34 [(0, vr 40), (1, vi i)] [vi s, vi i, vr 40, vi i, vr 43] x (ri F) := by
    intro s hs01 hs
    refine kg_X6_faultOfCell_34 hq _ _ _ _ (kf_cellOf hq hT hN _ _ hs01 ht (fun r hr => ⟨vin, fun x4 e4 => ?_⟩))
    rw [ej] at e4 hr ⊢
    have f4 : fm (fun c k => c = 43 ∧ k = j) x x4 := by rw [e4]; exact fm_si (fm_rf _ _) ⟨rfl, rfl⟩
    have g4 : x4.1 43 j = r := by rw [e4]; (simp only [si_get, sfl_get, Nat.reduceEqDiff, eq_self, and_false, false_and, and_true, true_and, if_true, if_false, reduceIte, reduceCtorEq])
    have g6 : x4.1 40 6 = x.1 40 6 := f4 _ _ (by omega)
    have g42 : x4.1 42 j = x.1 42 j := f4 _ _ (by omega)
    have km : ∀ r : Int32, 0 ≤ r.toInt → ¬ r = -1 := fun r hr z => by rw [z, tm1] at hr; omega
    rw [g4, g42]
    refine ⟨vin, fun c => ?_, fun c => ri_i (h _ x4 f4 (JV_no (by decide) ?_))⟩
    · obtain ⟨hr2, k, hk, ek, hrow, hsm, hfi⟩ : (0 ≤ r.toInt ∧ r.toInt < (x.1 40 6).toInt) ∧ ∃ i : Nat, (i : Int) < (x.1 40 6).toInt ∧ r.toInt = (i : Nat) ∧ (0 < (x.1 46 i).toInt ↔ s = 1) ∧ smk x (x.1 44 i).toNatClampNeg j ∧ ∀ k : Nat, k < i → (0 < (x.1 46 k).toInt ↔ s = 1) → ¬ smk x (x.1 44 k).toNatClampNeg j := by
        rcases hr with ⟨e, -⟩ | e
        · exact absurd e c
        · exact e
      obtain ⟨q, hq9, q1, q2⟩ := at0 k hk
      have hqm := tdS_mem.mp (List.mem_of_getElem? hq9)
      have jm : ∀ u : Int32, x4.1 42 j = u → (u = 6 ∨ u = 7) → JM x4 j := by
        intro u eu hu
        unfold JM
        rw [eu, g4, g6]
        rcases hu with rfl | rfl <;> exact ⟨by decide, fun q => absurd q (by decide), fun q => absurd q (by decide), fun _ => hr2, fun q => absurd q (by decide)⟩
      refine ⟨vin, fun c6 => ri_i (h _ x4 f4 (JV_ye c6 (by decide) (jm 6 (by rw [g42]; exact c6) (Or.inl rfl)) ⟨fun z => absurd (c6.symm.trans z) (by decide), fun z => absurd (c6.symm.trans z) (by decide), fun _ => ⟨k, q, by rw [g4]; exact ek, hq9, by rw [← q1]; exact hsm⟩⟩ (fun hC => ?_))), fun c6 => ⟨vin, fun c7 => ri_i (h _ x4 f4 (JV_no (by decide) ?_)), fun c7 => ri_i (h _ x4 f4 ⟨fun _ => jm 7 (by rw [g42]; exact c7) (Or.inr rfl), ⟨fun _ hC => ?_, fun _ => rfl⟩, fun _ _ => ⟨k, q, by rw [g4]; exact ek, hq9, ?_, by rw [← q1]; exact hsm, fun k' q' hk' hq' hr' hR' => ?_⟩, fun _ => ⟨fun z => absurd (c7.symm.trans z) (by decide), fun z => absurd (c7.symm.trans z) (by decide), fun _ => ⟨k, q, by rw [g4]; exact ek, hq9, by rw [← q1]; exact hsm⟩⟩⟩)⟩⟩
      · have s0 : ¬ s = 1 := fun z => by
          rcases hs.mp z with e | e <;> (rw [c6] at e; exact absurd e (by decide))
        refine CF_o6 hC c6 q hqm.1 hqm.2 ?_ (by rw [← q1]; exact hsm)
        have : ¬ 0 < (x.1 46 k).toInt := fun z => s0 (hrow.mp z)
        omega
      · rcases hU with e | e | e | e
        · exact absurd e c6
        · exact absurd e c7
        · exact CF_i8 e
        · exact CF_i9 e
      · have := hrow.mpr (hs.mpr (Or.inl c7))
        exact CF_o7 hC c7 q hqm.1 hqm.2 (by omega) (by rw [← q1]; exact hsm)
      · have := hrow.mpr (hs.mpr (Or.inl c7))
        omega
      · obtain ⟨z1, z2, -⟩ := p3 k' q' hq'
        refine hfi k' hk' ⟨fun _ => hs.mpr (Or.inl c7), fun _ => by omega⟩ ?_
        rw [z1]; exact hR'
    · obtain ⟨-, hno⟩ : r = -1 ∧ ∀ i : Nat, (i : Int) < (x.1 40 6).toInt → (0 < (x.1 46 i).toInt ↔ s = 1) → ¬ smk x (x.1 44 i).toNatClampNeg j := by
        rcases hr with e | ⟨e, -⟩
        · exact e
        · exact absurd c (km r e.1)
      have all : ∀ q ∈ T, q.2.1 = 0 → (0 < q.2.2.1 ↔ s = 1) → ¬ smk x q.1 j := fun q hq e0 hr => by
        obtain ⟨k, hk, ek⟩ := List.getElem_of_mem (tdS_mem.mpr ⟨hq, e0⟩)
        have hk9 : (tdS T 0)[k]? = some q := by rw [List.getElem?_eq_getElem hk, ek]
        obtain ⟨z1, z2, -⟩ := p3 k q hk9
        have := hno k (by omega) ⟨fun z => hr.mp (by omega), fun z => by have := hr.mpr z; omega⟩
        rw [z1] at this
        exact this
      rcases hU with e | e | e | e
      · refine CF_i6 e (fun q hq e0 r0 => all q hq e0 ⟨fun z => absurd z (by omega), fun z => ?_⟩)
        rcases hs.mp z with e' | e' <;> (rw [e] at e'; exact absurd e' (by decide))
      · exact CF_i7 e (fun q hq e0 r0 => all q hq e0 ⟨fun _ => hs.mpr (Or.inl e), fun _ => r0⟩)
      · exact CF_i8 e
      · exact CF_i9 e
  refine kg_X6_faultOfCell_0 hq _ ⟨vin, ?_⟩
  rw [ej]
  exact ⟨fun c => mid 1 (Or.inr rfl) ⟨fun _ => Or.inl c, fun _ => rfl⟩, fun c => ⟨vin, fun c9 => mid 0 (Or.inl rfl) ⟨fun z => absurd z (by decide), fun z => z.elim (fun e => absurd e c) (fun e => absurd e c9)⟩, fun c9 => mid 1 (Or.inr rfl) ⟨fun _ => Or.inr c9, fun _ => rfl⟩⟩⟩
theorem rwK_un {R : Nat → Nat → Prop} {t k k' : Nat} {q q' : Nat × Nat × Nat × Nat} (h : rwK R T t k q) (h' : rwK R T t k' q') : k = k' ∧ q = q' := by
  obtain ⟨a1, a2, a3, a4⟩ := h
  obtain ⟨b1, b2, b3, b4⟩ := h'
  rcases Nat.lt_trichotomy k k' with c | c | c
  · exact absurd a3 (b4 k q c a1 a2)
  · rw [c] at a1
    exact ⟨c, Option.some.inj (a1.symm.trans b1)⟩
  · exact absurd b3 (a4 k' q' c b1 b2)
theorem kf_faultOf (hq : kV q) (hT : kT x) (hN : NM x) (hTb : TBk x T) (hs : ∀ q ∈ T, q.2.1 = 0 ∨ q.2.1 = 1 ∨ q.2.1 = 2) (i : Int32) {j : Nat} (ei : i.toInt = j) (ht : tk x i) (hU : x.1 42 j = 1 ∨ x.1 42 j = 2 ∨ x.1 42 j = 3 ∨ x.1 42 j = 4 ∨ x.1 42 j = 5 ∨ x.1 42 j = 6 ∨ x.1 42 j = 7 ∨ x.1 42 j = 8 ∨ x.1 42 j = 9 ∨ x.1 42 j = 10 ∨ x.1 42 j = 11 ∨ x.1 42 j = 12 ∨ x.1 42 j = 13) (hp : x.1 42 j = 12 → 2 ≤ j ∧ ∃ (k : Nat) (q : Nat × Nat × Nat × Nat), (x.1 43 (j - 2)).toInt = (k : Nat) ∧ rwK (smk x) T (j - 2) k q) (h : ∀ r y, fm (fun c k => c = 43 ∧ k = j) x y → JV x T j r y → F r y) : KT G q (d + 3) zk_X6_faultOf 0 [(0, vr 40), (1, vi i)] [] x (ri F) := by
  have vin := (kT_at hT ht).1
  have ej : i.toNatClampNeg = j := by rw [t_cl, ei]; rfl
  have k3 : (3 : Int32).toInt = 3 := rfl
  obtain ⟨⟨a0, a1⟩, ⟨b0, b1⟩, ⟨c0, c1⟩, hc, hl, hh⟩ := id hN
  obtain ⟨⟨p1, p2, p3⟩, ⟨q1, q2⟩, r1, r2⟩ := id hTb
  have rf := fm_rf (fun c k => c = 43 ∧ k = j) x
  have km : ∀ r : Int32, 0 ≤ r.toInt → ¬ r = -1 := fun r hr z => by rw [z, tm1] at hr; omega
  have no : ∀ {r : Int32} {y : gd}, ¬ r = 0 → CFp (smk x) (x.1 27) (x.1 42) T j → fm (fun c k => c = 43 ∧ k = j) x y → ri F (some (vi r)) y := fun hr hC hf => ri_i (h _ _ hf (JV_no hr hC))
  refine kg_X6_faultOf_0 hq _ ⟨vin, ?_⟩
  rw [ej]
  refine ⟨fun c => kf_isToldBefore hq hT hN hTb hs _ ht (fun r hr => ?_), fun c => no (by decide) (CF_i2 c) rf, fun c => no (by decide) (CF_i3 c) rf, fun c => ?_, fun c => ?_, fun c => no (by decide) (CF_i10 c) rf, fun c => ⟨vin, kg_X6_isRowSize_0 hq _ ?_⟩, fun c => ⟨vin, fun c3 => ri_i (h _ x rf (JV_ye c (by decide) (JM_of c (Or.inr (Or.inr (Or.inr rfl)))) (MNg_no c (by decide)) (fun hC => ?_))), fun c3 => no (by decide) (CF_i13 c ?_) rf⟩, fun c => ⟨fun c2 => ?_, fun _ => ?_⟩, fun c => kf_faultOfCell hq hT hN hTb _ ei ht ?_ (fun r y hf hr => ri_i (h r y hf hr))⟩
  · rw [ej] at hr
    refine ⟨fun c4 => ri_i (h _ x rf (JV_ye c (by decide) (JM_of c (Or.inr (Or.inl rfl))) (MNg_no c (by decide)) (fun hC => ?_))), fun c4 => no (by decide) (CF_i1 c (hr.mp c4)) rf⟩
    exact hr.mpr (CF_o1 hC c) c4
  · refine kf_numberOf hq hT kk_48 (kl_48 hq) _ _ b0 b1 hl ht (fun r hr => ⟨vin, fun z ez => ?_⟩)
    rw [ej] at hr
    have fz : fm (fun c k => c = 43 ∧ k = j) x z := by rw [ez]; exact fm_si (fm_rf _ _) ⟨rfl, rfl⟩
    have gz : z.1 43 j = r := by rw [ez]; (simp only [si_get, sfl_get, Nat.reduceEqDiff, eq_self, and_false, false_and, and_true, true_and, if_true, if_false, reduceIte, reduceCtorEq])
    have t1 := tb_ex (Q := fun k => smk x k j) q1 q2
    refine ⟨vin, fun c2 => ri_i (h _ z fz (JV_ye c (by decide) ?_ ⟨fun _ => by
      rw [gz] at c2
      rcases hr with ⟨e, -⟩ | ⟨-, k, hk, ek, hs9⟩
      · exact absurd e c2
      · have il : k < (tdS T 1).length := by omega
        exact ⟨k, _, by rw [gz]; exact ek, List.getElem?_eq_getElem il, by rw [← q2 k _ (List.getElem?_eq_getElem il)]; exact hs9⟩, fun z => absurd (c.symm.trans z) (by decide), fun z => z.elim (fun z => absurd (c.symm.trans z) (by decide)) (fun z => absurd (c.symm.trans z) (by decide))⟩ (fun hC => ?_))), fun c2 => no (by decide) (CF_i4 c (fun q hq e0 s => ?_)) fz⟩
    · rw [gz] at c2
      unfold JM
      rw [fz 42 j (by omega), fz 40 8 (by omega), gz, c]
      refine ⟨by decide, fun _ => ?_, fun q => absurd q (by decide), fun q => absurd q (by decide), fun q => absurd q (by decide)⟩
      rcases hr with ⟨e, -⟩ | ⟨e, -⟩
      · exact absurd e c2
      · exact e
    · rw [gz] at c2
      rcases hr with ⟨e, -⟩ | ⟨-, k, hk, -, hs9⟩
      · exact absurd e c2
      · obtain ⟨q, hq, hs8⟩ := t1.mp ⟨k, hk, hs9⟩
        obtain ⟨m1, m2⟩ := tdS_mem.mp hq
        exact CF_o4 hC c q m1 m2 hs8
    · rw [gz] at c2
      rcases hr with ⟨-, e⟩ | ⟨e, -⟩
      · obtain ⟨k, hk, hs9⟩ := t1.mpr ⟨q, tdS_mem.mpr ⟨hq, e0⟩, s⟩
        exact e k hk hs9
      · exact absurd c2 (km r e.1)
  · refine kf_numberOf hq hT kk_50 (kl_50 hq) _ _ c0 c1 hh ht (fun r hr => ⟨vin, fun z ez => ?_⟩)
    rw [ej] at hr
    have fz : fm (fun c k => c = 43 ∧ k = j) x z := by rw [ez]; exact fm_si (fm_rf _ _) ⟨rfl, rfl⟩
    have gz : z.1 43 j = r := by rw [ez]; (simp only [si_get, sfl_get, Nat.reduceEqDiff, eq_self, and_false, false_and, and_true, true_and, if_true, if_false, reduceIte, reduceCtorEq])
    have t1 := tb_ex (Q := fun k => smk x k j) r1 r2
    refine ⟨vin, fun c2 => ri_i (h _ z fz (JV_ye c (by decide) ?_ ⟨fun z => absurd (c.symm.trans z) (by decide), fun _ => by
      rw [gz] at c2
      rcases hr with ⟨e, -⟩ | ⟨-, k, hk, ek, hs9⟩
      · exact absurd e c2
      · have il : k < (tdS T 2).length := by omega
        exact ⟨k, _, by rw [gz]; exact ek, List.getElem?_eq_getElem il, by rw [← r2 k _ (List.getElem?_eq_getElem il)]; exact hs9⟩, fun z => z.elim (fun z => absurd (c.symm.trans z) (by decide)) (fun z => absurd (c.symm.trans z) (by decide))⟩ (fun hC => ?_))), fun c2 => no (by decide) (CF_i5 c (fun q hq e0 s => ?_)) fz⟩
    · rw [gz] at c2
      unfold JM
      rw [fz 42 j (by omega), fz 40 10 (by omega), gz, c]
      refine ⟨by decide, fun q => absurd q (by decide), fun _ => ?_, fun q => absurd q (by decide), fun q => absurd q (by decide)⟩
      rcases hr with ⟨e, -⟩ | ⟨e, -⟩
      · exact absurd e c2
      · exact e
    · rw [gz] at c2
      rcases hr with ⟨e, -⟩ | ⟨-, k, hk, -, hs9⟩
      · exact absurd e c2
      · obtain ⟨q, hq, hs8⟩ := t1.mp ⟨k, hk, hs9⟩
        obtain ⟨m1, m2⟩ := tdS_mem.mp hq
        exact CF_o5 hC c q m1 m2 hs8
    · rw [gz] at c2
      rcases hr with ⟨-, e⟩ | ⟨e, -⟩
      · obtain ⟨k, hk, hs9⟩ := t1.mpr ⟨q, tdS_mem.mpr ⟨hq, e0⟩, s⟩
        exact e k hk hs9
      · exact absurd c2 (km r e.1)
  · have k1 : (1 : Int32).toInt = 1 := rfl
    have k8 : (8 : Int32).toInt = 8 := rfl
    refine ⟨fun c2 => ri_i ⟨fun _ => no (by decide) (CF_i11 c (by rw [t_lt, k1] at c2; omega)) rf, fun z => absurd rfl z⟩, fun c2 => ⟨fun c3 => ri_i ⟨fun _ => no (by decide) (CF_i11 c (by rw [t_lt, k8] at c3; omega)) rf, fun z => absurd rfl z⟩, fun c3 => ri_i ⟨fun z => absurd z (by decide), fun _ => ri_i (h _ x rf (JV_ye c (by decide) (JM_of c (Or.inr (Or.inr (Or.inl rfl)))) (MNg_no c (by decide)) (fun hC => CF_o11 hC c ?_)))⟩⟩⟩
    rw [t_lt, k1] at c2
    rw [t_lt, k8] at c3
    omega
  · have := CF_o13 hC c
    rw [t_le, k3] at c3
    omega
  · rw [t_le, k3] at c3
    omega
  · exfalso
    have k2 : (2 : Int32).toInt = 2 := rfl
    obtain ⟨z, -⟩ := hp c
    rw [t_lt, k2, ei] at c2
    omega
  · obtain ⟨p1, k, q, p2, hrw⟩ := hp c
    have k2 : (2 : Int32).toInt = 2 := rfl
    have vv := vp_in_iff.mp vin
    rw [ei] at vv
    have e2 : (i - 2).toInt = ((j - 2 : Nat) : Int) := by rw [t_sub (by rw [k2, ei]; omega) (by rw [k2, ei]; omega), k2, ei]; omega
    have e3 : (i - 2).toNatClampNeg = j - 2 := by rw [t_cl, e2]; rfl
    have v2 : vp_in (i - 2) 702 := by rw [vp_in_iff] at vin ⊢; omega
    rw [e3]
    have eK : (x.1 43 (j - 2)).toNatClampNeg = k := by rw [t_cl, p2]; rfl
    rw [eK]
    obtain ⟨z1, z2, -⟩ := p3 k q hrw.1
    have kl : k < (tdS T 0).length := by
      obtain ⟨hh, -⟩ := List.getElem?_eq_some_iff.mp hrw.1
      exact hh
    refine ⟨vin, v2, by rw [vp_in_iff]; omega, fun c3 => no (by decide) (CF_i12 c ⟨k, q, hrw, ?_⟩) rf, fun c3 => ri_i (h _ x rf (JV_ye c (by decide) ?_ (MNg_no c (by decide)) (fun hC => ?_)))⟩
    · rw [t_le] at c3
      omega
    · unfold JM
      rw [c]
      refine ⟨by decide, fun q => absurd q (by decide), fun q => absurd q (by decide), fun q => absurd q (by decide), fun _ => ?_⟩
      rw [t_le] at c3
      rw [eK]
      omega
    · obtain ⟨k', q', h1, h2⟩ := CF_o12 hC c
      obtain ⟨-, eq⟩ := rwK_un hrw h1
      rw [← eq] at h2
      rw [t_le] at c3
      omega
  · have c := fun k hk => c k hk
    rcases hU with e | e | e | e | e | e | e | e | e | e | e | e | e
    · exact absurd e (c 1 (by decide))
    · exact absurd e (c 2 (by decide))
    · exact absurd e (c 3 (by decide))
    · exact absurd e (c 4 (by decide))
    · exact absurd e (c 5 (by decide))
    · exact Or.inl e
    · exact Or.inr (Or.inl e)
    · exact Or.inr (Or.inr (Or.inl e))
    · exact Or.inr (Or.inr (Or.inr e))
    · exact absurd e (c 10 (by decide))
    · exact absurd e (c 11 (by decide))
    · exact absurd e (c 12 (by decide))
    · exact absurd e (c 13 (by decide))
theorem smk_e {y : gd} (f : ∀ c k, 20 ≤ c → c < 40 → y.1 c k = x.1 c k) : smk y = smk x := by
  have r : ∀ c, 20 ≤ c → c < 40 → y.1 c = x.1 c := fun c h1 h2 => by funext k; exact f c k h1 h2
  funext a b
  unfold smk
  rw [r 27 (by omega) (by omega), r 26 (by omega) (by omega), r 24 (by omega) (by omega), r 21 (by omega) (by omega)]
theorem kf_judge (hq : kV q) (hT : kT x) (hN : NM x) (hTb : TBk x T) (hs : ∀ q ∈ T, q.2.1 = 0 ∨ q.2.1 = 1 ∨ q.2.1 = 2) (hU : ∀ j : Nat, (j : Int) < (x.1 20 7).toInt → ¬ x.1 42 j = 0 → x.1 42 j = 1 ∨ x.1 42 j = 2 ∨ x.1 42 j = 3 ∨ x.1 42 j = 4 ∨ x.1 42 j = 5 ∨ x.1 42 j = 6 ∨ x.1 42 j = 7 ∨ x.1 42 j = 8 ∨ x.1 42 j = 9 ∨ x.1 42 j = 10 ∨ x.1 42 j = 11 ∨ x.1 42 j = 12 ∨ x.1 42 j = 13) (hp : ∀ j : Nat, (j : Int) < (x.1 20 7).toInt → x.1 42 j = 12 → 2 ≤ j ∧ x.1 42 (j - 2) = 7) (h : ∀ r y, fm (fun c k => c = 43 ∨ (c = 40 ∧ k = 11)) x y → (r = 0 → ∀ j : Nat, (j : Int) < (x.1 20 7).toInt → JM y j) → (¬ r = 0 → tk x (y.1 40 11)) → (r = 0 ↔ ¬ ∃ j : Nat, (j : Int) < (x.1 20 7).toInt ∧ CFp (smk x) (x.1 27) (x.1 42) T j) → (r = 0 → ∀ j : Nat, (j : Int) < (x.1 20 7).toInt → MNg (smk x) T (x.1 42) (y.1 43) j) → F r y) : KT G q (d + 4) zk_X6_judge 0 [(0, vr 40)] [] x (ri F) := by
  obtain ⟨-, n, en, hn, -⟩ := id hT
  have loop : ∀ (m j : Nat) (i : Int32) (y : gd), i.toInt = j → j + m = n → fm (fun c k => c = 43) x y → (∀ k, k < j → JM y k) → (∀ k, k < j → ¬ CFp (smk x) (x.1 27) (x.1 42) T k) → (∀ k, k < j → x.1 42 k = 7 → ∃ (kk : Nat) (q : Nat × Nat × Nat × Nat), (y.1 43 k).toInt = (kk : Nat) ∧ rwK (smk x) T k kk q) → (∀ k, k < j → MNg (smk x) T (x.1 42) (y.1 43) k) → KT G q (d + 4) zk_X6_judge 2 [(0, vr 40), (1, vi i)] [] y (ri F) := by
    intro m
    induction m with
    | zero =>
      intro j i y ei hj hf hJ hC hM hMn
      have e7 : y.1 20 7 = x.1 20 7 := hf _ _ (by omega)
      refine kg_X6_judge_2 hq _ ⟨fun _ => ri_i (h _ y (fm_w hf (fun c k q => Or.inl q)) (fun _ k hk => hJ k (by omega)) (fun q => absurd rfl q) ⟨fun _ ⟨k, hk, hc⟩ => hC k (by omega) hc, fun _ => rfl⟩ (fun _ k hk => hMn k (by omega))), fun c => ?_⟩
      exfalso; rw [e7, t_le] at c; omega
    | succ m ih =>
      intro j i y ei hj hf hJ hC hM hMn
      have e7 : y.1 20 7 = x.1 20 7 := hf _ _ (by omega)
      have ej : i.toNatClampNeg = j := by rw [t_cl, ei]; rfl
      have hTy : kT y := kT_fm hT (fun c k q1 q2 => hf c k (by omega))
      have hNy : NM y := NM_fm hN (fun c k q1 q2 q3 q4 => hf c k (by omega)) (hf _ _ (by omega)) (hf _ _ (by omega))
      have hTby : TBk y T := TBk_f hTb (fun c k q => hf c k (by omega))
      have sm : smk y = smk x := smk_e (fun c k q1 q2 => hf c k (by omega))
      have e27 : y.1 27 = x.1 27 := by funext k; exact hf _ _ (by omega)
      have e42 : y.1 42 = x.1 42 := by funext k; exact hf _ _ (by omega)
      have jv : ∀ r z, JV y T j r z → (r = 0 → JM z j) ∧ (r = 0 ↔ ¬ CFp (smk x) (x.1 27) (x.1 42) T j) ∧ (r = 0 → x.1 42 j = 7 → ∃ (k : Nat) (q : Nat × Nat × Nat × Nat), (z.1 43 j).toInt = (k : Nat) ∧ rwK (smk x) T j k q) ∧ (r = 0 → MNg (smk x) T (x.1 42) (z.1 43) j) := fun r z hv => by
        unfold JV at hv
        rw [sm, e27, e42] at hv
        exact hv
      have hti : tk y i := by unfold tk; rw [e7]; omega
      have vin := (kT_at hTy hti).1
      have e1 : (i + 1).toInt = ((j + 1 : Nat) : Int) := by rw [t_add (by show _ ≤ _ + (1 : Int); omega) (by show _ + (1 : Int) ≤ _; omega), ei]; rfl
      refine kg_X6_judge_2 hq _ ⟨fun c => ?_, fun c => ⟨vin, ?_⟩⟩
      · exfalso; rw [e7, t_le] at c; omega
      rw [ej]
      have mid : ∀ (r : Int32) (z : gd), fm (fun c k => c = 43 ∧ k = j) y z → (r = 0 → JM z j) → (r = 0 ↔ ¬ CFp (smk x) (x.1 27) (x.1 42) T j) → (r = 0 → x.1 42 j = 7 → ∃ (k : Nat) (q : Nat × Nat × Nat × Nat), (z.1 43 j).toInt = (k : Nat) ∧ rwK (smk x) T j k q) → (r = 0 → MNg (smk x) T (x.1 42) (z.1 43) j) → KT G q (d + 4) zk_X6_judge 31 [(0, vr 40), (1, vi i)] [vi r] z (ri F) := by
        intro r z fz hr hr2 hr3 hr4
        have fx : fm (fun c k => c = 43) x z := fm_tr hf (fm_w fz (fun c k q => q.1))
        refine kg_X6_judge_31 hq _ _ ⟨fun c0 => ih (j + 1) _ z e1 (by omega) fx (fun k hk => ?_) (fun k hk => ?_) (fun k hk hu => ?_) (fun k hk => ?_), fun c0 w ew => ri_i (h _ w ?_ (fun q => absurd q c0) (fun _ => ?_) ⟨fun z => absurd z c0, fun z => absurd ⟨j, by omega, ?_⟩ z⟩ (fun q => absurd q c0))⟩
        · by_cases hkj : k = j
          · rw [hkj]; exact hr c0
          · have hk := hJ k (by omega)
            unfold JM at hk ⊢
            rw [fz 42 k (by omega), fz 43 k (by omega), fz 40 8 (by omega), fz 40 10 (by omega), fz 40 6 (by omega), fz 27 k (by omega), fz 43 (k - 2) (by omega), fz 46 _ (by omega)]
            exact hk
        · by_cases hkj : k = j
          · rw [hkj]; exact hr2.mp c0
          · exact hC k (by omega)
        · by_cases hkj : k = j
          · rw [hkj] at hu ⊢; exact hr3 c0 hu
          · rw [fz 43 k (by omega)]; exact hM k (by omega) hu
        · by_cases hkj : k = j
          · rw [hkj]; exact hr4 c0
          · exact MNg_w (fz 43 k (by omega)) (hMn k (by omega))
        · rw [ew]; exact fm_si (fm_w fx (fun c k q => Or.inl q)) (Or.inr ⟨rfl, rfl⟩)
        · have : w.1 40 11 = i := by rw [ew]; (simp only [si_get, sfl_get, Nat.reduceEqDiff, eq_self, and_false, false_and, and_true, true_and, if_true, if_false, reduceIte, reduceCtorEq])
          rw [this]; unfold tk; omega
        · exact Classical.byContradiction (fun z => c0 (hr2.mpr z))
      refine ⟨fun c1 => kf_faultOf hq hTy hNy hTby hs _ ei hti ?_ ?_ (fun r z fz hr => mid r z fz (jv r z hr).1 (jv r z hr).2.1 (jv r z hr).2.2.1 (jv r z hr).2.2.2), fun c1 => mid 0 y (fm_rf _ _) (fun _ => JM_of c1 (Or.inl rfl)) ⟨fun _ hc => CF_n0 hc (by rw [← e42]; exact c1), fun _ => rfl⟩ (fun _ z => absurd (by rw [← e42] at z; exact c1.symm.trans z) (by decide)) (fun _ => MNg_no (u := 0) (by rw [← e42]; exact c1) (by decide))⟩
      · rw [e42] at c1 ⊢
        exact hU j (by omega) c1
      · intro c12
        rw [e42] at c12
        obtain ⟨p1, p2⟩ := hp j (by omega) c12
        obtain ⟨kk, q, z1, z2⟩ := hM (j - 2) (by omega) p2
        exact ⟨p1, kk, q, z1, by rw [sm]; exact z2⟩
  exact kg_X6_judge_0 hq (loop n 0 _ x rfl (by omega) (fm_rf _ _) (fun k hk => by omega) (fun k hk => by omega) (fun k hk => by omega) (fun k hk => by omega))
end KJF
