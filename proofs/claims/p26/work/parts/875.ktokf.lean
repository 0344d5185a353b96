section
/-! the class's tokens are those of the text -/
def cby0 (b : Nat → Int32) (n p : Nat) : Int32 := if p < n then b p else 0
def kby (x : gd) (p : Nat) : Int32 := x.1 21 p &&& 255
def kln (x : gd) : Nat := (x.1 20 1).toNatClampNeg
/-- the class's numbers of kinds, by the model's -/
def kc (s : Int32) : Int32 := if s = 0 then 0 else if s = 1 then 3 else if s = 2 then 1 else if s = 3 then 2 else if 40 ≤ s ∧ s < 80 then s - 30 else if 10 ≤ s ∧ s < 40 then s + 40 else -1
theorem kc_z (s : Int32) : (s.toInt = 0 ∧ (kc s).toInt = 0) ∨ (s.toInt = 1 ∧ (kc s).toInt = 3) ∨ (s.toInt = 2 ∧ (kc s).toInt = 1) ∨ (s.toInt = 3 ∧ (kc s).toInt = 2) ∨ (40 ≤ s.toInt ∧ s.toInt < 80 ∧ (kc s).toInt = s.toInt - 30) ∨ (10 ≤ s.toInt ∧ s.toInt < 40 ∧ (kc s).toInt = s.toInt + 40) ∨ (kc s).toInt = -1 := by
  have k10 : (10 : Int32).toInt = 10 := rfl
  have k30 : (30 : Int32).toInt = 30 := rfl
  have k40 : (40 : Int32).toInt = 40 := rfl
  have k80 : (80 : Int32).toInt = 80 := rfl
  unfold kc
  by_cases c0 : s = 0
  · rw [if_pos c0, c0]; exact Or.inl ⟨rfl, rfl⟩
  rw [if_neg c0]
  by_cases c1 : s = 1
  · rw [if_pos c1, c1]; exact Or.inr (Or.inl ⟨rfl, rfl⟩)
  rw [if_neg c1]
  by_cases c2 : s = 2
  · rw [if_pos c2, c2]; exact Or.inr (Or.inr (Or.inl ⟨rfl, rfl⟩))
  rw [if_neg c2]
  by_cases c3 : s = 3
  · rw [if_pos c3, c3]; exact Or.inr (Or.inr (Or.inr (Or.inl ⟨rfl, rfl⟩)))
  rw [if_neg c3]
  by_cases c4 : 40 ≤ s ∧ s < 80
  · rw [if_pos c4]
    rw [t_le, t_lt, k40, k80] at c4
    refine Or.inr (Or.inr (Or.inr (Or.inr (Or.inl ⟨c4.1, c4.2, ?_⟩))))
    rw [t_sub (by omega) (by omega), k30]
  rw [if_neg c4]
  by_cases c5 : 10 ≤ s ∧ s < 40
  · rw [if_pos c5]
    rw [t_le, t_lt, k40, k10] at c5
    refine Or.inr (Or.inr (Or.inr (Or.inr (Or.inr (Or.inl ⟨c5.1, c5.2, ?_⟩)))))
    rw [t_add (by omega) (by omega), k40]
  rw [if_neg c5]
  exact Or.inr (Or.inr (Or.inr (Or.inr (Or.inr (Or.inr rfl)))))
theorem kc_i {s c : Int32} (h : kc s = kc c) (n : ¬ kc c = -1) : s = c := by
  have a := kc_z s
  have b := kc_z c
  have m1 : (-1 : Int32).toInt = -1 := rfl
  rw [t_eq] at n h
  rw [t_eq]
  omega
theorem kc_i1 {s : Int32} (h : kc s = 3) : s = 1 := kc_i (c := 1) (h.trans (by decide)) (by decide)
/-- a name's number -/
def hsh (b : Nat → Int32) (p : Nat) : Nat → Int32
  | 0 => 0
  | m + 1 => hsh b p m * 31 + b (p + m)
theorem cby0_lt {b : Nat → Int32} {n p : Nat} (h : p < n) : cby0 b n p = b p := if_pos h
theorem cby0_no {b : Nat → Int32} {n p : Nat} (h : ¬ p < n) : cby0 b n p = 0 := if_neg h
theorem k_ch : ∀ w, w < 32 → ∀ i, i < 7 → cch 0 (w * 7 + i) = wch w i := by decide +kernel
theorem wch_32 {w i : Nat} (hw : w < 32) (hi : i < 8) : wch w i = 32 ↔ wln w ≤ i := by
  have a := w_small w hw i hi
  rw [← w_blank w hw i hi]
  have e1 : (Int32.ofNat ((wtab.getD w []).getD i 32)).toInt = ((wtab.getD w []).getD i 32 : Nat) := Int32.toInt_ofNat_of_lt (by omega)
  have k32 : (32 : Int32).toInt = 32 := rfl
  unfold wch
  rw [t_eq, e1, k32]
  omega
theorem isLD_32 {c : Int32} (h : isLD c) : ¬ c = 32 := fun e => by rw [e] at h; exact absurd h (by decide)
theorem sgk_0 {c d : Int32} (h : ¬ d = 61) : sgk c d = sgk c 0 := by
  have a : ¬ (d = 61 ∧ (c = 61 ∨ c = 33 ∨ c = 60 ∨ c = 62)) := fun q => h q.1
  have b : ¬ ((0 : Int32) = 61 ∧ (c = 61 ∨ c = 33 ∨ c = 60 ∨ c = 62)) := fun q => absurd q.1 (by decide)
  unfold sgk
  rw [if_neg a, if_neg b]
theorem sgk_c {b : Nat → Int32} {n p : Nat} {c : Int32} : sgk c (cby0 b n p) = sgk c (cby1 b n p) := by
  by_cases q : p < n
  · rw [cby0_lt q, cby1_lt q]
  · rw [cby0_no q, cby1_no q]
    exact (sgk_0 (by decide)).symm
theorem sg2_c {b : Nat → Int32} {n p : Nat} {c : Int32} : sg2 c (cby0 b n p) ↔ sg2 c (cby1 b n p) := by
  by_cases q : p < n
  · rw [cby0_lt q, cby1_lt q]
  · rw [cby0_no q, cby1_no q]
    exact ⟨fun z => absurd z.1 (by decide), fun z => absurd z.1 (by decide)⟩
section KTF
variable {G : kG} {q : kP} {d : Nat} {x : gd} {F : Int32 → gd → Prop} {Fv : gd → Prop}
theorem kf_isLetter (hq : kV q) (c : Int32) (h : ∀ r, (¬ r = 0 ↔ isL c) → F r x) : KT G q d zk_X9_isLetter 0 [(0, vi c)] [] x (ri F) := by
  have no : ∀ r : Int32, r = 0 → ¬ isL c → F r x := fun r e n => h r ⟨fun z => absurd e z, fun z => absurd z n⟩
  have yes : ∀ r : Int32, r = 1 → isL c → F r x := fun r e n => h r ⟨fun _ => n, fun _ => by rw [e]; decide⟩
  have g : ¬ (97 ≤ c ∧ c ≤ 122) → KT G q d zk_X9_isLetter 12 [(0, vi c)] [] x (ri F) := by
    intro n
    refine kg_X9_isLetter_12 hq _ ⟨fun c1 => ri_i (no _ rfl ?_), fun c1 => ⟨fun c2 => ri_i (no _ rfl ?_), fun c2 => ri_i (yes _ rfl (Or.inr ⟨?_, ?_⟩))⟩⟩
    · rintro (z | ⟨z, _⟩)
      · exact n z
      · rw [t_lt] at c1; rw [t_le] at z; omega
    · rintro (z | ⟨_, z⟩)
      · exact n z
      · rw [t_lt] at c2; rw [t_le] at z; omega
    · rw [t_lt] at c1; rw [t_le]; omega
    · rw [t_lt] at c2; rw [t_le]; omega
  refine kg_X9_isLetter_0 hq _ ⟨fun c1 => g (fun z => ?_), fun c1 => ⟨fun c2 => ri_i (yes _ rfl (Or.inl ⟨?_, c2⟩)), fun c2 => g (fun z => c2 z.2)⟩⟩
  · have z1 := z.1
    rw [t_lt] at c1; rw [t_le] at z1; omega
  · rw [t_lt] at c1; rw [t_le]; omega
theorem kf_isDigit (hq : kV q) (c : Int32) (h : ∀ r, (¬ r = 0 ↔ isD c) → F r x) : KT G q d zk_X9_isDigit 0 [(0, vi c)] [] x (ri F) := by
  have no : ∀ r : Int32, r = 0 → ¬ isD c → F r x := fun r e n => h r ⟨fun z => absurd e z, fun z => absurd z n⟩
  refine kg_X9_isDigit_0 hq _ ⟨fun c1 => ri_i (no _ rfl (fun z => ?_)), fun c1 => ⟨fun c2 => ri_i (no _ rfl (fun z => ?_)), fun c2 => ri_i (h _ ⟨fun _ => ⟨?_, ?_⟩, fun _ => by decide⟩)⟩⟩
  · have z1 := z.1
    rw [t_lt] at c1; rw [t_le] at z1; omega
  · have z1 := z.2
    rw [t_lt] at c2; rw [t_le] at z1; omega
  · rw [t_lt] at c1; rw [t_le]; omega
  · rw [t_lt] at c2; rw [t_le]; omega
theorem kf_byteAt (hq : kV q) (i : Int32) (hl : kL x) (h0 : 0 ≤ i.toInt) (h : F (cby0 (kby x) (kln x) i.toNatClampNeg) x) : KT G q d zk_X9_byteAt 0 [(0, vr 20), (1, vi i)] [] x (ri F) := by
  obtain ⟨l0, l1⟩ := hl
  have u1 := t_cl i
  have u2 : kln x = (x.1 20 1).toInt.toNat := rfl
  refine kg_X9_byteAt_0 hq _ ⟨fun c => ri_i ?_, fun c => ⟨?_, ri_i ?_⟩⟩
  · rw [t_le] at c
    rwa [cby0_no (by omega)] at h
  · rw [t_le] at c
    rw [vp_in_iff]; omega
  · rw [t_le] at c
    rwa [cby0_lt (by omega)] at h
theorem kf_skip (hq : kV q) (hl : kL x) (h0 : 0 ≤ (x.1 20 8).toInt) (h1 : (x.1 20 8).toInt ≤ (x.1 20 1).toInt) (h : ∀ x', fm (fun c k => c = 20 ∧ (k = 8 ∨ k = 9)) x x' → (x.1 20 8).toInt ≤ (x'.1 20 8).toInt → (x'.1 20 8).toInt ≤ (x.1 20 1).toInt → (x'.1 20 8).toNatClampNeg = lx (kby x) (kln x) (x.1 20 8).toNatClampNeg → Fv x') : KT G q (d + 1) zk_X9_skipBlanks 0 [(0, vr 20)] [] x (rv Fv) := by
  obtain ⟨b, eb⟩ : ∃ b, b = kby x := ⟨_, rfl⟩
  obtain ⟨N, eN⟩ : ∃ N, N = kln x := ⟨_, rfl⟩
  rw [← eb, ← eN] at h
  have uN : (N : Int) = (x.1 20 1).toInt := by
    rw [eN]
    show (((x.1 20 1).toNatClampNeg : Nat) : Int) = _
    rw [t_cl]; have := hl.1; omega
  have k1 : (1 : Int32).toInt = 1 := rfl
  have g1 := hl.2
  have loop : ∀ (n : Nat) (l1 : Int32) (r : Bool) (y : gd), (r = true ↔ ¬ l1 = 0) → fm (fun c k => c = 20 ∧ (k = 8 ∨ k = 9)) x y → (x.1 20 8).toInt ≤ (y.1 20 8).toInt → (y.1 20 8).toInt ≤ (x.1 20 1).toInt → (x.1 20 1).toInt - (y.1 20 8).toInt ≤ n → lx b N (x.1 20 8).toNatClampNeg = lxr b N r (y.1 20 8).toNatClampNeg → KT G q (d + 1) zk_X9_skipBlanks 2 [(0, vr 20), (1, vi l1)] [] y (rv Fv) := by
    intro n
    induction n with
    | zero =>
      intro l1 r y hr hf a1 a2 a3 hx
      have el : y.1 20 1 = x.1 20 1 := hf _ _ (by omega)
      have u8 := t_cl (y.1 20 8)
      refine kg_X9_skipBlanks_2 hq _ ⟨fun c => rv_i (h y hf a1 a2 ?_), fun c => ?_⟩
      · rw [hx, lxr_end (by omega)]
      · rw [t_le, el] at c; omega
    | succ n ih =>
      intro l1 r y hr hf a1 a2 a3 hx
      have el : y.1 20 1 = x.1 20 1 := hf _ _ (by omega)
      have hly : kL y := by unfold kL; rw [el]; exact hl
      have u8 := t_cl (y.1 20 8)
      have eby : kby y = b := by rw [eb]; funext p; unfold kby; rw [hf 21 p (by omega)]
      have eln : kln y = N := by rw [eN]; unfold kln; rw [el]
      refine kg_X9_skipBlanks_2 hq _ ⟨fun c => rv_i (h y hf a1 a2 ?_), fun c => ?_⟩
      · rw [t_le, el] at c
        rw [hx, lxr_end (by omega)]
      rw [t_le, el] at c
      have lt : (y.1 20 8).toNatClampNeg < N := by omega
      have e1 : (y.1 20 8 + 1).toInt = (y.1 20 8).toInt + 1 := by rw [t_add (by omega) (by omega), k1]
      have e2 : (y.1 20 8 + 1).toNatClampNeg = (y.1 20 8).toNatClampNeg + 1 := by rw [t_cl]; omega
      have st := lxr_step (b := b) (n := N) (r := r) lt
      have next : ∀ (l2 : Int32) (r2 : Bool) (z : gd), (r2 = true ↔ ¬ l2 = 0) → fm (fun c k => c = 20 ∧ (k = 8 ∨ k = 9)) x z → z.1 20 8 = y.1 20 8 + 1 → lxr b N r (y.1 20 8).toNatClampNeg = lxr b N r2 ((y.1 20 8).toNatClampNeg + 1) → KT G q (d + 1) zk_X9_skipBlanks 2 [(0, vr 20), (1, vi l2)] [] z (rv Fv) := by
        intro l2 r2 z hr2 fz ez hx2
        refine ih l2 r2 z hr2 fz ?_ ?_ ?_ ?_
        · rw [ez, e1]; omega
        · rw [ez, e1]; omega
        · rw [ez, e1]; omega
        · rw [hx, hx2, ez, e2]
      have fm1 : ∀ z, z = si y 20 8 (y.1 20 8 + 1) → fm (fun c k => c = 20 ∧ (k = 8 ∨ k = 9)) x z ∧ z.1 20 8 = y.1 20 8 + 1 := fun z ez => ⟨by rw [ez]; exact fm_si hf ⟨rfl, Or.inl rfl⟩, by rw [ez]; (simp only [si_get, sfl_get, Nat.reduceEqDiff, eq_self, and_false, false_and, and_true, true_and, if_true, if_false, reduceIte, reduceCtorEq])⟩
      have tail : ¬ b (y.1 20 8).toNatClampNeg = 10 → ¬ (b (y.1 20 8).toNatClampNeg = 47 ∧ (if (y.1 20 8).toNatClampNeg + 1 < N then b ((y.1 20 8).toNatClampNeg + 1) else 0) = 47) → KT G q (d + 1) zk_X9_skipBlanks 69 [(0, vr 20), (1, vi l1), (2, vi (b (y.1 20 8).toNatClampNeg))] [] y (rv Fv) := by
        intro n10 n47
        rw [if_neg n10, if_neg n47] at st
        have one : ¬ (r = false ∧ ¬ b (y.1 20 8).toNatClampNeg = 32 ∧ ¬ b (y.1 20 8).toNatClampNeg = 9 ∧ ¬ b (y.1 20 8).toNatClampNeg = 13) → ∀ z, z = si y 20 8 (y.1 20 8 + 1) → KT G q (d + 1) zk_X9_skipBlanks 2 [(0, vr 20), (1, vi l1)] [] z (rv Fv) := by
          intro no z ez
          rw [if_neg no] at st
          exact next l1 r z hr (fm1 z ez).1 (fm1 z ez).2 st
        refine kg_X9_skipBlanks_69 hq _ _ ⟨fun c1 => one (fun z => ?_), fun c1 => ⟨fun c2 => one (fun z => z.2.1 c2), fun c2 => ⟨fun c3 => one (fun z => z.2.2.1 c3), fun c3 => ⟨fun c4 => one (fun z => z.2.2.2 c4), fun c4 => rv_i (h y hf a1 a2 ?_)⟩⟩⟩⟩
        · have := hr.mpr c1
          rw [z.1] at this
          exact absurd this (by decide)
        · have rf : r = false := by
            cases r with
            | false => rfl
            | true => exact absurd c1 (hr.mp rfl)
          rw [if_pos ⟨rf, c2, c3, c4⟩] at st
          rw [hx, st]
      refine kf_byteAt hq _ hly (by omega) ?_
      rw [eby, eln, cby0_lt lt]
      refine ⟨fun n10 => ⟨fun n47 => tail n10 (fun z => n47 z.1), fun c47 => kf_byteAt hq _ hly (by omega) ?_⟩, fun c10 z ez w ew => ?_⟩
      · rw [eby, eln, e2]
        refine ⟨fun n47 => tail n10 (fun z => n47 z.2), fun d47 z ez => ?_⟩
        rw [if_neg n10, if_pos ⟨c47, d47⟩] at st
        exact next 1 true z ⟨fun _ => by decide, fun _ => rfl⟩ (fm1 z ez).1 (fm1 z ez).2 st
      · rw [if_pos c10] at st
        refine next 0 false w ⟨fun z => absurd z (by decide), fun z => absurd rfl z⟩ ?_ ?_ st
        · rw [ew, ez]; exact fm_si (fm_si hf ⟨rfl, Or.inr rfl⟩) ⟨rfl, Or.inl rfl⟩
        · rw [ew, ez]; (simp only [si_get, sfl_get, Nat.reduceEqDiff, eq_self, and_false, false_and, and_true, true_and, if_true, if_false, reduceIte, reduceCtorEq])
  exact kg_X9_skipBlanks_0 hq (loop ((x.1 20 1).toInt - (x.1 20 8).toInt).toNat 0 false x ⟨fun z => absurd z (by decide), fun z => absurd rfl z⟩ (fm_rf _ _) (Int.le_refl _) h1 (by omega) rfl)
theorem kf_passLD (hq : kV q) (hl : kL x) (hm : vp_in (x.1 20 7) 702) (h0 : 0 ≤ (x.1 20 8).toInt) (h1 : (x.1 20 8).toInt ≤ (x.1 20 1).toInt) (h : ∀ x' (m : Nat), fm (fun c k => (c = 20 ∧ k = 8) ∨ (c = 26 ∧ k = (x.1 20 7).toNatClampNeg)) x x' → RUNq isLD (kby x) (kln x) (x.1 20 8).toNatClampNeg m → (x'.1 20 8).toInt = (x.1 20 8).toInt + m → (x'.1 26 (x.1 20 7).toNatClampNeg).toInt = m → Fv x') : KT G q (d + 1) zk_X9_passLettersAndDigits 0 [(0, vr 20)] [] x (rv Fv) := by
  obtain ⟨b, eb⟩ : ∃ b, b = kby x := ⟨_, rfl⟩
  obtain ⟨N, eN⟩ : ∃ N, N = kln x := ⟨_, rfl⟩
  rw [← eb, ← eN] at h
  have uN : (N : Int) = (x.1 20 1).toInt := by
    rw [eN]
    show (((x.1 20 1).toNatClampNeg : Nat) : Int) = _
    rw [t_cl]; have := hl.1; omega
  have u0 := t_cl (x.1 20 8)
  have k1 : (1 : Int32).toInt = 1 := rfl
  have g1 := hl.2
  have last : ∀ (m : Nat) (y z : gd), fm (fun c k => c = 20 ∧ k = 8) x y → (y.1 20 8).toInt = (x.1 20 8).toInt + m → (x.1 20 8).toInt + m ≤ (x.1 20 1).toInt → RUNq isLD b N (x.1 20 8).toNatClampNeg m → z = si y 26 (y.1 20 7).toNatClampNeg (y.1 20 8 - x.1 20 8) → rv Fv none z := by
    intro m y z hf a1 a2 run ez
    have em : y.1 20 7 = x.1 20 7 := hf _ _ (by omega)
    rw [em] at ez
    refine rv_i (h z m ?_ run ?_ ?_)
    · rw [ez]; exact fm_si (fm_w hf (fun c k q => Or.inl q)) (Or.inr ⟨rfl, rfl⟩)
    · have : z.1 20 8 = y.1 20 8 := by rw [ez]; (simp only [si_get, sfl_get, Nat.reduceEqDiff, eq_self, and_false, false_and, and_true, true_and, if_true, if_false, reduceIte, reduceCtorEq])
      rw [this]; exact a1
    · have e6 : z.1 26 (x.1 20 7).toNatClampNeg = y.1 20 8 - x.1 20 8 := by rw [ez]; (simp only [si_get, sfl_get, Nat.reduceEqDiff, eq_self, and_false, false_and, and_true, true_and, if_true, if_false, reduceIte, reduceCtorEq])
      rw [e6, t_sub (by omega) (by omega)]
      omega
  have loop : ∀ (n m : Nat) (y : gd), fm (fun c k => c = 20 ∧ k = 8) x y → (y.1 20 8).toInt = (x.1 20 8).toInt + m → (x.1 20 8).toInt + m ≤ (x.1 20 1).toInt → (x.1 20 1).toInt - (y.1 20 8).toInt ≤ n → (∀ i, i < m → isLD (b ((x.1 20 8).toNatClampNeg + i))) → KT G q (d + 1) zk_X9_passLettersAndDigits 5 [(0, vr 20), (1, vi (x.1 20 8))] [] y (rv Fv) := by
    intro n
    induction n with
    | zero =>
      intro m y hf a1 a2 a3 hr
      have el : y.1 20 1 = x.1 20 1 := hf _ _ (by omega)
      have em : y.1 20 7 = x.1 20 7 := hf _ _ (by omega)
      refine kg_X9_passLettersAndDigits_5 hq _ ⟨fun c => ⟨by rw [em]; exact hm, fun z ez => last m y z hf a1 a2 ⟨by omega, hr, fun z => by omega⟩ ez⟩, fun c => ?_⟩
      rw [t_le, el] at c; omega
    | succ n ih =>
      intro m y hf a1 a2 a3 hr
      have el : y.1 20 1 = x.1 20 1 := hf _ _ (by omega)
      have em : y.1 20 7 = x.1 20 7 := hf _ _ (by omega)
      have hly : kL y := by unfold kL; rw [el]; exact hl
      have eby : kby y = b := by rw [eb]; funext p; unfold kby; rw [hf 21 p (by omega)]
      have eln : kln y = N := by rw [eN]; unfold kln; rw [el]
      have u8 := t_cl (y.1 20 8)
      have ep : (y.1 20 8).toNatClampNeg = (x.1 20 8).toNatClampNeg + m := by omega
      refine kg_X9_passLettersAndDigits_5 hq _ ⟨fun c => ⟨by rw [em]; exact hm, fun z ez => last m y z hf a1 a2 ⟨by omega, hr, fun z => by rw [t_le, el] at c; omega⟩ ez⟩, fun c => ?_⟩
      rw [t_le, el] at c
      have lt : (x.1 20 8).toNatClampNeg + m < N := by omega
      have e1 : (y.1 20 8 + 1).toInt = (y.1 20 8).toInt + 1 := by rw [t_add (by omega) (by omega), k1]
      have next : isLD (b ((x.1 20 8).toNatClampNeg + m)) → ∀ z, z = si y 20 8 (y.1 20 8 + 1) → KT G q (d + 1) zk_X9_passLettersAndDigits 5 [(0, vr 20), (1, vi (x.1 20 8))] [] z (rv Fv) := by
        intro hb z ez
        have e8 : z.1 20 8 = y.1 20 8 + 1 := by rw [ez]; (simp only [si_get, sfl_get, Nat.reduceEqDiff, eq_self, and_false, false_and, and_true, true_and, if_true, if_false, reduceIte, reduceCtorEq])
        refine ih (m + 1) z (by rw [ez]; exact fm_si hf ⟨rfl, rfl⟩) ?_ (by omega) ?_ (fun i hi => ?_)
        · rw [e8, e1]; omega
        · rw [e8, e1]; omega
        · by_cases ci : i = m
          · rw [ci]; exact hb
          · exact hr i (by omega)
      refine kf_byteAt hq _ hly (by omega) ?_
      rw [eby, eln, ep, cby0_lt lt]
      exact kf_isLetter hq _ (fun r7 h7 => ⟨fun c7 z ez => next (Or.inl (h7.mp c7)) z ez, fun c7 => kf_isDigit hq _ (fun r11 h11 => ⟨fun c11 z ez => next (Or.inr (h11.mp c11)) z ez, fun c11 => ⟨by rw [em]; exact hm, fun z ez => last m y z hf a1 a2 ⟨by omega, hr, fun w => w.2.elim (fun w => h7.mpr w c7) (fun w => h11.mpr w c11)⟩ ez⟩⟩)⟩)
  exact kg_X9_passLettersAndDigits_0 hq (loop ((x.1 20 1).toInt - (x.1 20 8).toInt).toNat 0 x (fm_rf _ _) (by omega) (by omega) (by omega) (fun i hi => absurd hi (Nat.not_lt_zero _)))
theorem kf_isWord (hq : kV q) (w f s : Int32) (wn : Nat) (hl : kL x) (ew : w.toInt = wn) (hw2 : wn < 32) (hf : 0 ≤ f.toInt) (hs : 0 ≤ s.toInt) (hfs : f.toInt + s.toInt ≤ (x.1 20 1).toInt) (hb : ∀ i, i < s.toNatClampNeg → ¬ kby x (f.toNatClampNeg + i) = 32) (h : ∀ r, (¬ r = 0 ↔ WD (kby x) f.toNatClampNeg s.toNatClampNeg wn) → F r x) : KT G q (d + 7) zk_X9_isWord 0 [(0, vr 20), (1, vi w), (2, vi f), (3, vi s)] [] x (ri F) := by
  obtain ⟨b, eb⟩ : ∃ b, b = kby x := ⟨_, rfl⟩
  rw [← eb] at h hb
  have uN : (kln x : Int) = (x.1 20 1).toInt := by
    show (((x.1 20 1).toNatClampNeg : Nat) : Int) = _
    rw [t_cl]; have := hl.1; omega
  have g1 := hl.2
  have k1 : (1 : Int32).toInt = 1 := rfl
  have k7 : (7 : Int32).toInt = 7 := rfl
  have uf := t_cl f
  have us := t_cl s
  have w7 := w_seven wn hw2
  obtain ⟨pd, hpd⟩ : ∃ pd : Nat → Int32, ∀ j, pd j = if j < s.toNatClampNeg then b (f.toNatClampNeg + j) else 32 := ⟨_, fun _ => rfl⟩
  have toWD : s.toInt ≤ 7 → ((∀ j, j < 7 → pd j = wch wn j) ↔ WD b f.toNatClampNeg s.toNatClampNeg wn) := by
    intro s7
    refine ⟨fun a => ?_, fun a j hj => ?_⟩
    · have el : wln wn = s.toNatClampNeg := by
        by_cases c1 : wln wn < s.toNatClampNeg
        · have z := a (wln wn) (by omega)
          rw [hpd, if_pos c1, (wch_32 hw2 (by omega)).mpr (Nat.le_refl _)] at z
          exact absurd z (hb _ c1)
        · by_cases c2 : s.toNatClampNeg < wln wn
          · have z := a s.toNatClampNeg (by omega)
            rw [hpd, if_neg (by omega)] at z
            have := (wch_32 hw2 (by omega)).mp z.symm
            omega
          · omega
      refine ⟨el, fun i hi => ?_⟩
      have z := a i (by omega)
      rw [hpd, if_pos hi] at z
      exact z
    · rw [hpd]
      by_cases c1 : j < s.toNatClampNeg
      · rw [if_pos c1]; exact a.2 j c1
      · rw [if_neg c1]
        exact ((wch_32 hw2 (by omega)).mpr (by rw [a.1]; omega)).symm
  have loop : ∀ (n : Nat) (i : Int32), 0 ≤ i.toInt → i.toInt ≤ 7 → 7 - i.toInt ≤ n → s.toInt ≤ 7 → (∀ j, j < i.toNatClampNeg → pd j = wch wn j) → KT G q (d + 7) zk_X9_isWord 11 [(0, vr 20), (1, vi w), (2, vi f), (3, vi s), (4, vi i)] [] x (ri F) := by
    intro n
    induction n with
    | zero =>
      intro i i0 i7 hn s7 ha
      have ui := t_cl i
      refine kg_X9_isWord_11 hq _ _ _ _ ⟨fun _ => ri_i (h _ ⟨fun _ => (toWD s7).mp (fun j hj => ha j (by omega)), fun _ => by decide⟩), fun c => ?_⟩
      rw [t_le, k7] at c; omega
    | succ n ih =>
      intro i i0 i7 hn s7 ha
      have ui := t_cl i
      refine kg_X9_isWord_11 hq _ _ _ _ ⟨fun c => ri_i (h _ ⟨fun _ => (toWD s7).mp (fun j hj => ha j (by rw [t_le, k7] at c; omega)), fun _ => by decide⟩), fun c => ?_⟩
      rw [t_le, k7] at c
      have e1 : (i + 1).toInt = i.toInt + 1 := by rw [t_add (by omega) (by omega), k1]
      have e1c : (i + 1).toNatClampNeg = i.toNatClampNeg + 1 := by rw [t_cl]; omega
      have e2 : (f + i).toInt = f.toInt + i.toInt := t_add (by omega) (by omega)
      have e2c : (f + i).toNatClampNeg = f.toNatClampNeg + i.toNatClampNeg := by rw [t_cl]; omega
      have e3 : (w * 7).toInt = wn * 7 := by rw [t_mul (by rw [k7]; omega) (by rw [k7]; omega), k7]; omega
      have e4 : (w * 7 + i).toInt = wn * 7 + i.toInt := by rw [t_add (by omega) (by omega), e3]
      have e4c : (w * 7 + i).toNatClampNeg = wn * 7 + i.toNatClampNeg := by rw [t_cl]; omega
      have mid : ∀ v : Int32, v = pd i.toNatClampNeg → KT G q (d + 7) zk_X9_isWord 37 [(0, vr 20), (1, vi w), (2, vi f), (3, vi s), (4, vi i)] [vi v] x (ri F) := by
        intro v ev
        have ch := k_ch wn hw2 i.toNatClampNeg (by omega)
        refine kg_X9_isWord_37 hq _ _ _ _ _ ⟨by rw [vp_in_iff]; omega, fun c5 => ih _ (by omega) (by omega) (by omega) s7 (fun j hj => ?_), fun c5 => ri_i (h _ ⟨fun z => absurd rfl z, fun z => ?_⟩)⟩
        · by_cases cj : j = i.toNatClampNeg
          · rw [e4c, ch] at c5
            rw [cj, ← ev, ← c5]
          · exact ha j (by omega)
        · rw [e4c, ch] at c5
          exact absurd ((toWD s7).mpr z i.toNatClampNeg (by omega)).symm (by rw [← ev]; exact c5)
      refine ⟨fun c6 => mid _ ?_, fun c6 => kf_byteAt hq _ hl (by omega) (mid _ ?_)⟩
      · rw [t_le] at c6
        rw [hpd, if_neg (by omega)]
      · rw [t_le] at c6
        rw [hpd, if_pos (by omega), e2c, cby0_lt (by omega), eb]
  refine kg_X9_isWord_0 hq _ _ _ ⟨fun c => loop 7 0 (by decide) (by decide) (by decide) (by rw [t_le, k7] at c; exact c) (fun j hj => absurd hj (Nat.not_lt_zero _)), fun c => ri_i (h _ ⟨fun z => absurd rfl z, fun z => ?_⟩)⟩
  rw [t_le, k7] at c
  have := z.1
  omega
end KTF
end
section
/-! cutting the text: its tokens, one by one -/
theorem kc_w {w : Nat} {l : Int32} (hw : w < 32) (h : l.toInt = w) : kc (40 + l) = Int32.ofNat (10 + w) := by
  have k40 : (40 : Int32).toInt = 40 := rfl
  have k30 : (30 : Int32).toInt = 30 := rfl
  have k80 : (80 : Int32).toInt = 80 := rfl
  have e : (40 + l).toInt = 40 + w := by rw [t_add (by rw [k40]; omega) (by rw [k40]; omega), k40, h]
  have ne : ∀ v : Int32, v.toInt < 40 → ¬ 40 + l = v := fun v hv q => by rw [← q, e] at hv; omega
  unfold kc
  rw [if_neg (ne 0 (by decide)), if_neg (ne 1 (by decide)), if_neg (ne 2 (by decide)), if_neg (ne 3 (by decide)), if_pos ⟨by rw [t_le, e, k40]; omega, by rw [t_lt, e, k80]; omega⟩, t_eq, t_sub (by rw [e, k30]; omega) (by rw [e, k30]; omega), e, k30]
  have e1 : (Int32.ofNat (10 + w)).toInt = ((10 + w : Nat) : Int) := Int32.toInt_ofNat_of_lt (by omega)
  rw [e1]
  omega
theorem wh_up {v c : Int32} : v * 10 + (c - 48) = 10 * v + c - 48 := by
  rw [Int32.mul_comm v 10, Int32.sub_eq_add_neg, Int32.sub_eq_add_neg, Int32.add_assoc]
section KCF
variable {G : kG} {q : kP} {d : Nat} {x : gd} {F : Int32 → gd → Prop} {Fv : gd → Prop}
theorem kf_nameOrWord (hq : kV q) (f : Int32) (m : Nat) (hl : kL x) (hm : vp_in (x.1 20 7) 702) (hf : 0 ≤ f.toInt) (hs : (x.1 26 (x.1 20 7).toNatClampNeg).toInt = m) (hL : isL (kby x f.toNatClampNeg)) (pn : f.toNatClampNeg < kln x) (run : RUNq isLD (kby x) (kln x) f.toNatClampNeg m) (h : ∀ r x', fm (fun c k => c = 27 ∧ k = (x.1 20 7).toNatClampNeg) x x' → TOK (kby x) (kln x) f.toNatClampNeg (kc r) m (x'.1 27 (x.1 20 7).toNatClampNeg) → ¬ r = 0 → ¬ r = 3 → (r = 2 → x'.1 27 (x.1 20 7).toNatClampNeg = hsh (kby x) f.toNatClampNeg m) → F r x') : KT G q (d + 8) zk_X9_nameOrWord 0 [(0, vr 20), (1, vi f)] [] x (ri F) := by
  obtain ⟨b, eb⟩ : ∃ b, b = kby x := ⟨_, rfl⟩
  obtain ⟨N, eN⟩ : ∃ N, N = kln x := ⟨_, rfl⟩
  rw [← eb] at hL run h
  rw [← eN] at run h pn
  have uN : (N : Int) = (x.1 20 1).toInt := by
    rw [eN]
    show (((x.1 20 1).toNatClampNeg : Nat) : Int) = _
    rw [t_cl]; have := hl.1; omega
  have g1 := hl.2
  have k1 : (1 : Int32).toInt = 1 := rfl
  have k12 : (12 : Int32).toInt = 12 := rfl
  have k32 : (32 : Int32).toInt = 32 := rfl
  have uf := t_cl f
  have us := t_cl (x.1 26 (x.1 20 7).toNatClampNeg)
  have r1 := run.1
  have tk : ∀ {k v : Int32}, ((∃ w, w < 32 ∧ WD b f.toNatClampNeg m w ∧ k = Int32.ofNat (10 + w)) ∨ ((∀ w, w < 32 → ¬ WD b f.toNatClampNeg m w) ∧ ((m ≤ 12 ∧ k = 1) ∨ (12 < m ∧ k = 3)))) → TOK b N f.toNatClampNeg k m v := fun z => Or.inr (Or.inl ⟨pn, hL, run, z⟩)
  have l57 : ∀ (n j : Nat) (v i : Int32), i.toInt = j → j + n = m → m ≤ 12 → v = hsh b f.toNatClampNeg j → (∀ w, w < 32 → ¬ WD b f.toNatClampNeg m w) → KT G q (d + 8) zk_X9_nameOrWord 57 [(0, vr 20), (1, vi f), (2, vi v), (3, vi i)] [] x (ri F) := by
    intro n
    induction n with
    | zero =>
      intro j v i ei hj m12 ev no
      refine kg_X9_nameOrWord_57 hq _ _ _ ⟨hm, fun _ => ⟨hm, fun z ez => ?_⟩, fun c => ?_⟩
      · have z7 : z.1 27 (x.1 20 7).toNatClampNeg = v := by rw [ez, si_get, if_pos ⟨rfl, rfl⟩]
        refine ri_i (h _ z (by rw [ez]; exact fm_si (fm_rf _ _) ⟨rfl, rfl⟩) (tk (Or.inr ⟨no, Or.inl ⟨m12, by decide⟩⟩)) (by decide) (by decide) (fun _ => ?_))
        rw [z7, ev, show j = m by omega]
      · rw [t_le] at c; omega
    | succ n ih =>
      intro j v i ei hj m12 ev no
      refine kg_X9_nameOrWord_57 hq _ _ _ ⟨hm, fun c => ?_, fun c => ?_⟩
      · rw [t_le] at c; omega
      have e1 : (i + 1).toInt = ((j + 1 : Nat) : Int) := by rw [t_add (by omega) (by omega), k1, ei]; rfl
      have e2 : (f + i).toInt = f.toInt + j := by rw [t_add (by omega) (by omega), ei]
      have e2c : (f + i).toNatClampNeg = f.toNatClampNeg + j := by rw [t_cl]; omega
      refine kf_byteAt hq _ hl (by omega) ?_
      rw [e2c, ← eb, ← eN, cby0_lt (by omega)]
      exact ih (j + 1) _ _ e1 (by omega) m12 (by rw [ev]; rfl) no
  have l18 : ∀ (n w : Nat) (i : Int32), i.toInt = w → w + n = 32 → m ≤ 12 → (∀ v, v < w → ¬ WD b f.toNatClampNeg m v) → KT G q (d + 8) zk_X9_nameOrWord 18 [(0, vr 20), (1, vi f), (2, vi i)] [] x (ri F) := by
    intro n
    induction n with
    | zero =>
      intro w i ei hw m12 no
      refine kg_X9_nameOrWord_18 hq _ _ ⟨fun _ => l57 m 0 0 0 rfl (by omega) m12 rfl (fun v hv => no v (by omega)), fun c => ?_⟩
      rw [t_le, k32] at c; omega
    | succ n ih =>
      intro w i ei hw m12 no
      refine kg_X9_nameOrWord_18 hq _ _ ⟨fun c => ?_, fun c => ⟨hm, ?_⟩⟩
      · rw [t_le, k32] at c; omega
      have e1 : (i + 1).toInt = ((w + 1 : Nat) : Int) := by rw [t_add (by omega) (by omega), k1, ei]; rfl
      have sm : (x.1 26 (x.1 20 7).toNatClampNeg).toNatClampNeg = m := by omega
      refine kf_isWord hq _ _ _ w hl ei (by omega) hf (by omega) (by omega) (fun j hj => ?_) (fun r hr => ?_)
      · rw [sm] at hj
        rw [← eb]
        exact isLD_32 (run.2.1 j hj)
      · rw [sm, ← eb] at hr
        refine ⟨fun c4 => ih (w + 1) _ e1 (by omega) m12 (fun v hv => ?_), fun c4 => ri_i (h _ x (fm_rf _ _) (tk (Or.inl ⟨w, by omega, hr.mp c4, kc_w (by omega) ei⟩)) ?_ ?_ (fun q2 => ?_))⟩
        · by_cases cv : v = w
          · rw [cv]; exact fun z => hr.mpr z c4
          · exact no v (by omega)
        all_goals
          have k40 : (40 : Int32).toInt = 40 := rfl
          have e4 : (40 + i).toInt = 40 + w := by rw [t_add (by rw [k40]; omega) (by rw [k40]; omega), k40, ei]
        · intro z; rw [z] at e4; have : (0 : Int32).toInt = 0 := rfl; omega
        · intro z; rw [z] at e4; have : (3 : Int32).toInt = 3 := rfl; omega
        · rw [q2] at e4; have : (2 : Int32).toInt = 2 := rfl; omega
  refine kg_X9_nameOrWord_0 hq _ ⟨hm, fun c => l18 32 0 0 rfl rfl ?_ (fun v hv => absurd hv (Nat.not_lt_zero _)), fun c => ri_i (h _ x (fm_rf _ _) (tk (Or.inr ⟨fun w hw z => ?_, Or.inr ⟨?_, by decide⟩⟩)) (by decide) (by decide) (fun q2 => absurd q2 (by decide)))⟩
  · rw [t_le, k12] at c; omega
  · have := w_seven w hw
    have := z.1
    rw [t_le, k12] at c; omega
  · rw [t_le, k12] at c; omega
theorem kf_wholeOrBad (hq : kV q) (f : Int32) (m : Nat) (hl : kL x) (hm : vp_in (x.1 20 7) 702) (hf : 0 ≤ f.toInt) (hs : (x.1 26 (x.1 20 7).toNatClampNeg).toInt = m) (hD : isD (kby x f.toNatClampNeg)) (pn : f.toNatClampNeg < kln x) (run : RUNq isLD (kby x) (kln x) f.toNatClampNeg m) (h : ∀ r x', fm (fun c k => c = 27 ∧ k = (x.1 20 7).toNatClampNeg) x x' → TOK (kby x) (kln x) f.toNatClampNeg (kc r) m (x'.1 27 (x.1 20 7).toNatClampNeg) → ¬ r = 0 → ¬ r = 2 → F r x') : KT G q (d + 1) zk_X9_wholeOrBad 0 [(0, vr 20), (1, vi f)] [] x (ri F) := by
  obtain ⟨b, eb⟩ : ∃ b, b = kby x := ⟨_, rfl⟩
  obtain ⟨N, eN⟩ : ∃ N, N = kln x := ⟨_, rfl⟩
  rw [← eb] at hD run h
  rw [← eN] at run h pn
  have uN : (N : Int) = (x.1 20 1).toInt := by
    rw [eN]
    show (((x.1 20 1).toNatClampNeg : Nat) : Int) = _
    rw [t_cl]; have := hl.1; omega
  have g1 := hl.2
  have k1 : (1 : Int32).toInt = 1 := rfl
  have k9 : (9 : Int32).toInt = 9 := rfl
  have uf := t_cl f
  have r1 := run.1
  have bad : ∀ v : Int32, (9 < m ∨ ∃ i, i < m ∧ ¬ isD (b (f.toNatClampNeg + i))) → TOK b N f.toNatClampNeg 3 m v := fun v z => Or.inr (Or.inr (Or.inl ⟨pn, hD, Or.inr ⟨rfl, m, run, z⟩⟩))
  have loop : ∀ (n j : Nat) (v i : Int32), i.toInt = j → j + n = m → m ≤ 9 → v = whv b f.toNatClampNeg j → (∀ t, t < j → isD (b (f.toNatClampNeg + t))) → KT G q (d + 1) zk_X9_wholeOrBad 20 [(0, vr 20), (1, vi f), (2, vi v), (3, vi i)] [] x (ri F) := by
    intro n
    induction n with
    | zero =>
      intro j v i ei hj m9 ev hd
      refine kg_X9_wholeOrBad_20 hq _ _ _ ⟨hm, fun _ => ⟨hm, fun z ez => ?_⟩, fun c => ?_⟩
      · have z7 : z.1 27 (x.1 20 7).toNatClampNeg = v := by rw [ez, si_get, if_pos ⟨rfl, rfl⟩]
        have jm : j = m := by omega
        refine ri_i (h _ z (by rw [ez]; exact fm_si (fm_rf _ _) ⟨rfl, rfl⟩) ?_ (by decide) (by decide))
        rw [z7]
        exact Or.inr (Or.inr (Or.inl ⟨pn, hD, Or.inl ⟨by decide, run, m9, fun t ht => hd t (by omega), by rw [ev, jm]⟩⟩))
      · rw [t_le] at c; omega
    | succ n ih =>
      intro j v i ei hj m9 ev hd
      refine kg_X9_wholeOrBad_20 hq _ _ _ ⟨hm, fun c => ?_, fun c => ?_⟩
      · rw [t_le] at c; omega
      have e1 : (i + 1).toInt = ((j + 1 : Nat) : Int) := by rw [t_add (by omega) (by omega), k1, ei]; rfl
      have e2 : (f + i).toInt = f.toInt + j := by rw [t_add (by omega) (by omega), ei]
      have e2c : (f + i).toNatClampNeg = f.toNatClampNeg + j := by rw [t_cl]; omega
      refine kf_byteAt hq _ hl (by omega) ?_
      rw [e2c, ← eb, ← eN, cby0_lt (by omega)]
      refine kf_isDigit hq _ (fun r8 h8 => ⟨fun c8 => ih (j + 1) _ _ e1 (by omega) m9 ?_ (fun t ht => ?_), fun c8 => ri_i (h _ x (fm_rf _ _) (bad _ (Or.inr ⟨j, by omega, fun z => h8.mpr z c8⟩)) (by decide) (by decide))⟩)
      · rw [wh_up, ev]; rfl
      · by_cases ct : t = j
        · rw [ct]; exact h8.mp c8
        · exact hd t (by omega)
  refine kg_X9_wholeOrBad_0 hq _ ⟨hm, fun c => loop m 0 0 0 rfl (by omega) ?_ rfl (fun t ht => absurd ht (Nat.not_lt_zero _)), fun c => ri_i (h _ x (fm_rf _ _) (bad _ (Or.inl ?_)) (by decide) (by decide))⟩
  · rw [t_le, k9] at c; omega
  · rw [t_le, k9] at c; omega
theorem kf_singleSign (hq : kV q) (c : Int32) (n61 : ¬ c = 61) (n33 : ¬ c = 33) (n60 : ¬ c = 60) (n62 : ¬ c = 62) (h : ∀ r, kc r = sgk c 0 → ¬ r = 0 → ¬ r = 2 → F r x) : KT G q d zk_X9_singleSign 0 [(0, vi c)] [] x (ri F) := by
  have no : ¬ ((0 : Int32) = 61 ∧ (c = 61 ∨ c = 33 ∨ c = 60 ∨ c = 62)) := fun z => absurd z.1 (by decide)
  refine kg_X9_singleSign_0 hq _ ⟨fun e => ?_, fun e => ?_, fun e => ?_, fun e => ?_, fun e => ?_, fun e => ?_, fun e => ?_, fun e => ?_, fun e => ?_, fun e => ?_, fun e => ?_, fun e => ?_, fun e => ?_⟩
  case' refine_13 =>
    refine ri_i (h _ ?_ (by decide) (by decide))
    unfold sgk
    rw [if_neg no, if_neg n61, if_neg n60, if_neg n62, if_neg (e 43 (by decide)), if_neg (e 45 (by decide)), if_neg (e 42 (by decide)), if_neg (e 47 (by decide)), if_neg (e 40 (by decide)), if_neg (e 41 (by decide)), if_neg (e 123 (by decide)), if_neg (e 125 (by decide)), if_neg (e 91 (by decide)), if_neg (e 93 (by decide)), if_neg (e 59 (by decide)), if_neg (e 44 (by decide))]
    rfl
  all_goals
    refine ri_i (h _ ?_ (by decide) (by decide))
    rw [e]
    decide
theorem kf_sign (hq : kV q) (b0 : Nat → Int32) (N p : Nat) (hl : kL x) (hm : vp_in (x.1 20 7) 702) (eb : b0 = kby x) (eN : N = kln x) (ep : (x.1 20 8).toInt = p) (pn : p < N) (nld : ¬ isLD (b0 p))
    (h : ∀ r x' (m : Nat), fm (skO (x.1 20 7).toNatClampNeg) x x' → TOK b0 N p (kc r) m (x'.1 27 (x.1 20 7).toNatClampNeg) → ¬ r = 0 → ¬ r = 2 → (x'.1 26 (x.1 20 7).toNatClampNeg).toInt = m → (x'.1 20 8).toInt = p + m → p + m ≤ N → F r x') : KT G q (d + 1) zk_X9_sign 0 [(0, vr 20), (1, vi (b0 p)), (2, vi (cby0 b0 N (p + 1)))] [] x (ri F) := by
  have g1 := hl.2
  have uN : (N : Int) = (x.1 20 1).toInt := by
    rw [eN]
    show (((x.1 20 1).toNatClampNeg : Nat) : Int) = _
    rw [t_cl]; have := hl.1; omega
  have k1 : (1 : Int32).toInt = 1 := rfl
  have k2 : (2 : Int32).toInt = 2 := rfl
  obtain ⟨c, ec⟩ : ∃ c, c = b0 p := ⟨_, rfl⟩
  obtain ⟨e, ee⟩ : ∃ e, e = cby0 b0 N (p + 1) := ⟨_, rfl⟩
  rw [← ec, ← ee]
  have two : sg2 c e → p + 2 ≤ N := fun z => by
    have z1 := z.1
    rw [ee] at z1
    by_cases cq : p + 1 < N
    · omega
    · rw [cby0_no cq] at z1; exact absurd z1 (by decide)
  have p53 : ∀ (l3 s : Int32), ((l3 = 0 ∧ s = 1 ∧ ¬ sg2 c e) ∨ (¬ l3 = 0 ∧ s = 2 ∧ sg2 c e)) → KT G q (d + 1) zk_X9_sign 53 [(0, vr 20), (1, vi c), (3, vi l3)] [vi s, vi (x.1 20 7), vr 26] x (ri F) := by
    intro l3 s hs
    refine kg_X9_sign_53 hq _ _ _ _ ⟨hm, fun x2 e2 => ?_⟩
    have m2 : x2.1 20 7 = x.1 20 7 := by rw [e2]; (simp only [si_get, sfl_get, Nat.reduceEqDiff, eq_self, and_false, false_and, and_true, true_and, if_true, if_false, reduceIte, reduceCtorEq])
    refine ⟨by rw [m2]; exact hm, fun x4 e4 => ?_⟩
    have fin : ∀ r : Int32, kc r = sgk c e → ¬ r = 0 → ¬ r = 2 → F r x4 := by
      intro r hr r0 r2
      have s6 : x4.1 26 (x.1 20 7).toNatClampNeg = s := by rw [e4, e2]; (simp only [si_get, sfl_get, Nat.reduceEqDiff, eq_self, and_false, false_and, and_true, true_and, if_true, if_false, reduceIte, reduceCtorEq])
      have s8 : x4.1 20 8 = x.1 20 8 + s := by rw [e4, m2, e2]; (simp only [si_get, sfl_get, Nat.reduceEqDiff, eq_self, and_false, false_and, and_true, true_and, if_true, if_false, reduceIte, reduceCtorEq])
      obtain ⟨m, em, hm2, hN⟩ : ∃ m : Nat, s.toInt = m ∧ ((sg2 c e ∧ m = 2) ∨ (¬ sg2 c e ∧ m = 1)) ∧ p + m ≤ N := by
        rcases hs with ⟨_, rfl, z⟩ | ⟨_, rfl, z⟩
        · exact ⟨1, rfl, Or.inr ⟨z, rfl⟩, by omega⟩
        · exact ⟨2, rfl, Or.inl ⟨z, rfl⟩, two z⟩
      refine h r x4 m ?_ ?_ r0 r2 (by rw [s6]; exact em) (by rw [s8, t_add (by omega) (by omega)]; omega) hN
      · rw [e4, e2]; exact fm_si (fm_si (fm_rf _ _) (Or.inr ⟨Or.inl rfl, rfl⟩)) (Or.inl ⟨rfl, rfl⟩)
      · refine Or.inr (Or.inr (Or.inr ⟨pn, nld, ?_, ?_⟩))
        · rw [hr, ← ec, ee, sgk_c]
        · rw [← ec, ← sg2_c, ← ee]; exact hm2
    have one : ¬ sg2 c e → ∀ v : Int32, sgk c 0 = v → sgk c e = v := fun z v hv => by
      by_cases q61 : e = 61
      · rw [← hv]
        unfold sgk
        unfold sg2 at z
        rw [if_neg z, if_neg (fun w : (0 : Int32) = 61 ∧ _ => absurd w.1 (by decide))]
      · rw [sgk_0 q61]; exact hv
    have sgt : ∀ v w : Int32, sg2 c e → c = w → (if w = 61 then (51 : Int32) else if w = 33 then 52 else if w = 60 then 54 else 56) = v → sgk c e = v := fun v w z hw hv => by
      unfold sgk
      unfold sg2 at z
      rw [if_pos z, hw, hv]
    refine ⟨fun c1 => ⟨fun z => ri_i (fin _ ?_ (by decide) (by decide)), fun z => ri_i (fin _ ?_ (by decide) (by decide))⟩, fun c1 => ⟨fun z => ri_i (fin _ ?_ (by decide) (by decide)), fun z => ri_i (fin _ ?_ (by decide) (by decide))⟩, fun c1 => ⟨fun z => ri_i (fin _ ?_ (by decide) (by decide)), fun z => ri_i (fin _ ?_ (by decide) (by decide))⟩, fun c1 => ⟨fun z => ri_i (fin _ ?_ (by decide) (by decide)), fun z => ri_i (fin _ ?_ (by decide) (by decide))⟩, fun c1 => kf_singleSign hq _ (c1 61 (by decide)) (c1 33 (by decide)) (c1 60 (by decide)) (c1 62 (by decide)) (fun r hr r0 r2 => ri_i (fin r ?_ r0 r2))⟩
    rotate_right
    · have ns : ¬ sg2 c e := fun z => z.2.elim (c1 61 (by decide)) (fun z => z.elim (c1 33 (by decide)) (fun z => z.elim (c1 60 (by decide)) (c1 62 (by decide))))
      rw [hr]
      exact (one ns _ rfl).symm
    all_goals
      rcases hs with ⟨a1, -, a3⟩ | ⟨a1, -, a3⟩
    all_goals first
      | exact absurd a1 z
      | exact absurd z a1
      | (refine (one a3 _ ?_).symm; rw [c1]; decide)
      | (refine (sgt _ _ a3 c1 ?_).symm; decide)
  have p35 : ∀ s : Int32, (s = 0 → ¬ sg2 c e) → (¬ s = 0 → sg2 c e) → KT G q (d + 1) zk_X9_sign 35 [(0, vr 20), (1, vi c)] [vi s] x (ri F) := by
    intro s h0 h1
    exact kg_X9_sign_35 hq _ _ ⟨fun z => p53 _ _ (Or.inl ⟨z, rfl, h0 z⟩), fun z => p53 _ _ (Or.inr ⟨z, rfl, h1 z⟩)⟩
  have p0 : ¬ sg2 c e → KT G q (d + 1) zk_X9_sign 35 [(0, vr 20), (1, vi c)] [vi 0] x (ri F) := fun z => p35 0 (fun _ => z) (fun q => absurd rfl q)
  have p1 : sg2 c e → KT G q (d + 1) zk_X9_sign 35 [(0, vr 20), (1, vi c)] [vi 1] x (ri F) := fun z => p35 1 (fun q => absurd q (by decide)) (fun _ => z)
  exact kg_X9_sign_0 hq _ _ ⟨fun z => p0 (fun w => z w.1), fun z => ⟨fun c1 => p1 ⟨z, Or.inl c1⟩, fun c1 => ⟨fun c2 => p1 ⟨z, Or.inr (Or.inl c2)⟩, fun c2 => ⟨fun c3 => p1 ⟨z, Or.inr (Or.inr (Or.inl c3))⟩, fun c3 => ⟨fun c4 => p0 (fun w => w.2.elim c1 (fun w => w.elim c2 (fun w => w.elim c3 c4))), fun c4 => p1 ⟨z, Or.inr (Or.inr (Or.inr c4))⟩⟩⟩⟩⟩⟩
theorem kf_cutOne (hq : kV q) (b : Nat → Int32) (N p : Nat) (hl : kL x) (hm : vp_in (x.1 20 7) 702) (eb : b = kby x) (eN : N = kln x) (ep : (x.1 20 8).toInt = p) (pn : p < N)
    (h : ∀ r x' (m : Nat), fm (skO (x.1 20 7).toNatClampNeg) x x' → TOK b N p (kc r) m (x'.1 27 (x.1 20 7).toNatClampNeg) → ¬ r = 0 → (r = 2 → x'.1 27 (x.1 20 7).toNatClampNeg = hsh b p m) → (x'.1 26 (x.1 20 7).toNatClampNeg).toInt = m → (x'.1 20 8).toInt = p + m → p + m ≤ N → F r x') : KT G q (d + 9) zk_X9_cutOne 0 [(0, vr 20)] [] x (ri F) := by
  have g1 := hl.2
  have uN : (N : Int) = (x.1 20 1).toInt := by
    rw [eN]
    show (((x.1 20 1).toNatClampNeg : Nat) : Int) = _
    rw [t_cl]; have := hl.1; omega
  have k1 : (1 : Int32).toInt = 1 := rfl
  have cp : (x.1 20 8).toNatClampNeg = p := by rw [t_cl]; omega
  have e1 : (x.1 20 8 + 1).toInt = (x.1 20 8).toInt + 1 := by rw [t_add (by omega) (by omega), k1]
  have e1c : (x.1 20 8 + 1).toNatClampNeg = p + 1 := by rw [t_cl]; omega
  have ld : ∀ {P : gd → Prop}, (∀ y (m : Nat), fm (fun c k => (c = 20 ∧ k = 8) ∨ (c = 26 ∧ k = (x.1 20 7).toNatClampNeg)) x y → RUNq isLD b N p m → (y.1 20 8).toInt = p + m → (y.1 26 (y.1 20 7).toNatClampNeg).toInt = m → kL y → y.1 20 7 = x.1 20 7 → kby y = b → kln y = N → P y) → KT G q (d + 8) zk_X9_passLettersAndDigits 0 [(0, vr 20)] [] x (rv P) := by
    intro P hP
    refine kf_passLD hq hl hm (by omega) (by omega) (fun y m hf run a1 a2 => ?_)
    have em : y.1 20 7 = x.1 20 7 := hf _ _ (by omega)
    have el : y.1 20 1 = x.1 20 1 := hf _ _ (by omega)
    rw [cp, ← eb, ← eN] at run
    refine hP y m hf run (by rw [a1, ep]) (by rw [em]; exact a2) (by unfold kL; rw [el]; exact hl) em ?_ ?_
    · rw [eb]; funext t; unfold kby; rw [hf 21 t (by omega)]
    · rw [eN]; unfold kln; rw [el]
  refine kg_X9_cutOne_0 hq (kf_byteAt hq _ hl (by omega) ?_)
  rw [cp, ← eb, ← eN, cby0_lt pn]
  refine kf_isLetter hq _ (fun r4 h4 => ⟨fun c4 => kf_isDigit hq _ (fun r7 h7 => ⟨fun c7 => kf_byteAt hq _ hl (by omega) ?_, fun c7 => ld (fun y m hf run a1 a2 hly em eby eln => ?_)⟩), fun c4 => ld (fun y m hf run a1 a2 hly em eby eln => ?_)⟩)
  · rw [e1c, ← eb, ← eN]
    exact kf_sign hq b N p hl hm eb eN ep pn (fun z => z.elim (fun z => h4.mpr z c4) (fun z => h7.mpr z c7)) (fun r x' m f1 t1 r0 r2 s0 s1 s2 => ri_i (h r x' m f1 t1 r0 (fun z => absurd z r2) s0 s1 s2))
  · refine kf_wholeOrBad hq _ m hly (by rw [em]; exact hm) (by omega) a2 (by rw [cp, eby]; exact h7.mp c7) (by rw [cp, eln]; exact pn) (by rw [cp, eby, eln]; exact run) (fun r z hz t1 r0 r2 => ri_i ?_)
    rw [em] at hz t1 a2
    rw [cp, eby, eln] at t1
    have z6 : z.1 26 (x.1 20 7).toNatClampNeg = y.1 26 (x.1 20 7).toNatClampNeg := hz _ _ (by omega)
    have z8 : z.1 20 8 = y.1 20 8 := hz _ _ (by omega)
    refine h r z m (fm_tr (fm_w hf (fun c k q => ?_)) (fm_w hz (fun c k q => ?_))) t1 r0 (fun q => absurd q r2) (by rw [z6]; exact a2) (by rw [z8]; exact a1) run.1
    · unfold skO; omega
    · unfold skO; omega
  · refine kf_nameOrWord hq _ m hly (by rw [em]; exact hm) (by omega) a2 (by rw [cp, eby]; exact h4.mp c4) (by rw [cp, eln]; exact pn) (by rw [cp, eby, eln]; exact run) (fun r z hz t1 r0 r3 r2 => ri_i ?_)
    rw [em] at hz t1 a2 r2
    rw [cp, eby] at r2
    rw [cp, eby, eln] at t1
    have z6 : z.1 26 (x.1 20 7).toNatClampNeg = y.1 26 (x.1 20 7).toNatClampNeg := hz _ _ (by omega)
    have z8 : z.1 20 8 = y.1 20 8 := hz _ _ (by omega)
    refine h r z m (fm_tr (fm_w hf (fun c k q => ?_)) (fm_w hz (fun c k q => ?_))) t1 r0 r2 (by rw [z6]; exact a2) (by rw [z8]; exact a1) run.1
    · unfold skO; omega
    · unfold skO; omega
end KCF
end
section
/-! the class: the cut text, names -/
/-- n tokens are well -/
def kTw (x : gd) (n : Nat) : Prop := ∀ j, j < n → (0 ≤ (x.1 24 j).toInt ∧ 0 ≤ (x.1 26 j).toInt ∧ (x.1 24 j).toInt + (x.1 26 j).toInt ≤ 3000) ∧ ¬ x.1 23 j = 0 ∧ (x.1 23 j = 3 → 0 ≤ (x.1 27 j).toInt)
def kT (x : gd) : Prop := kL x ∧ ∃ n : Nat, (x.1 20 7).toInt = n ∧ n ≤ 701 ∧ kTw x n ∧ x.1 23 n = 0
/-- a token of the text -/
def tk (x : gd) (a : Int32) : Prop := 0 ≤ a.toInt ∧ a.toInt < (x.1 20 7).toInt
/-- what cutting changes -/
def skC (c k : Nat) : Prop := (23 ≤ c ∧ c ≤ 27) ∨ (c = 20 ∧ 7 ≤ k)
section KNM
variable {G : kG} {q : kP} {d : Nat} {x : gd} {F : Int32 → gd → Prop} {Fv : gd → Prop}
theorem kT_at (hT : kT x) {a : Int32} (ha : tk x a) : vp_in a 702 ∧ (0 ≤ (x.1 24 a.toNatClampNeg).toInt ∧ 0 ≤ (x.1 26 a.toNatClampNeg).toInt ∧ (x.1 24 a.toNatClampNeg).toInt + (x.1 26 a.toNatClampNeg).toInt ≤ 3000) := by
  obtain ⟨hl, n, en, hn, hw, -⟩ := hT
  obtain ⟨h0, h1⟩ := ha
  exact ⟨by rw [vp_in_iff]; omega, (hw _ (by rw [t_cl]; omega)).1⟩
/-- what was told -/
def NM (x : gd) : Prop := (0 ≤ (x.1 40 6).toInt ∧ (x.1 40 6).toInt ≤ 24) ∧ (0 ≤ (x.1 40 8).toInt ∧ (x.1 40 8).toInt ≤ 6) ∧ (0 ≤ (x.1 40 10).toInt ∧ (x.1 40 10).toInt ≤ 6) ∧ (∀ i : Nat, (i : Int) < (x.1 40 6).toInt → tk x (x.1 44 i) ∧ 0 ≤ (x.1 45 i).toInt ∧ 0 ≤ (x.1 46 i).toInt ∧ (x.1 46 i).toInt ≤ 8 ∧ (x.1 45 i).toInt + 1 ≤ (x.1 60 6).toInt ∧ (x.1 45 i).toInt + (x.1 46 i).toInt ≤ (x.1 60 6).toInt) ∧ (∀ i : Nat, (i : Int) < (x.1 40 8).toInt → tk x (x.1 48 i)) ∧ ∀ i : Nat, (i : Int) < (x.1 40 10).toInt → tk x (x.1 50 i)
theorem kp_isRowSize (hq : kV q) (v : Int32) (h : ∀ r : Int32, (¬ r = 0 → 1 ≤ v.toInt ∧ v.toInt ≤ 8) → F r x) : KT G q d zk_X6_isRowSize 0 [(0, vi v)] [] x (ri F) := by
  refine kg_X6_isRowSize_0 hq _ ⟨fun c1 => ri_i (h _ (fun q => absurd rfl q)), fun c1 => ⟨fun c2 => ri_i (h _ (fun q => absurd rfl q)), fun c2 => ri_i (h _ (fun _ => ?_))⟩⟩
  clear h; constructor <;> ((try simp only [t_lt, t_le, t_eq, t_cl, tm1, vp_in_iff, Int32.toInt_add, Int32.toInt_sub, Int32.toInt_mul, Int32.reduceToInt, Nat.reducePow] at *) <;> (try simp (disch := omega) only [bm] at *) <;> omega)
/-- a token that was judged -/
def JM (x : gd) (j : Nat) : Prop := (x.1 42 j = 0 ∨ x.1 42 j = 1 ∨ x.1 42 j = 4 ∨ x.1 42 j = 5 ∨ x.1 42 j = 6 ∨ x.1 42 j = 7 ∨ x.1 42 j = 11 ∨ x.1 42 j = 12 ∨ x.1 42 j = 13) ∧ (x.1 42 j = 4 → 0 ≤ (x.1 43 j).toInt ∧ (x.1 43 j).toInt < (x.1 40 8).toInt) ∧ (x.1 42 j = 5 → 0 ≤ (x.1 43 j).toInt ∧ (x.1 43 j).toInt < (x.1 40 10).toInt) ∧ (x.1 42 j = 6 ∨ x.1 42 j = 7 → 0 ≤ (x.1 43 j).toInt ∧ (x.1 43 j).toInt < (x.1 40 6).toInt) ∧ (x.1 42 j = 12 → (x.1 27 j).toInt < (x.1 46 (x.1 43 (j - 2)).toNatClampNeg).toInt)
theorem JM_of {j : Nat} {u : Int32} (e : x.1 42 j = u) (h1 : u = 0 ∨ u = 1 ∨ u = 11 ∨ u = 13) : JM x j := by
  unfold JM
  rw [e]
  rcases h1 with rfl | rfl | rfl | rfl <;> refine ⟨by decide, fun q => absurd q (by decide), fun q => absurd q (by decide), fun q => absurd q (by decide), fun q => absurd q (by decide)⟩
end KNM
end
section
/-! cutting the whole text -/
theorem TSq_cg {b : Nat → Int32} {n e : Nat} {K K' V V' : Nat → Int32} {P P' Z Z' : Nat → Nat} (h : TSq b n e K P Z V) (g : ∀ j, j ≤ e → K' j = K j ∧ P' j = P j ∧ Z' j = Z j ∧ V' j = V j) : TSq b n e K' P' Z' V' := by
  obtain ⟨h0, h1, h2, h3, h4, h5⟩ := h
  refine ⟨h0, by rw [(g 0 (by omega)).2.1]; exact h1, fun j hj => ?_, fun j hj => ?_, fun j hj => ?_, by rw [(g e (by omega)).1]; exact h5⟩
  · rw [(g (j + 1) (by omega)).2.1, (g j (by omega)).2.1, (g j (by omega)).2.2.1]; exact h2 j hj
  · obtain ⟨a1, a2, a3, a4⟩ := g j hj
    rw [a1, a2, a3, a4]; exact h3 j hj
  · rw [(g j (by omega)).1]; exact h4 j hj
theorem TC_701 {b : Nat → Int32} {n p : Nat} {K V : Nat → Int32} {P Z : Nat → Nat} (h : TC b n 701 p K P Z V) : TSq b n 700 K P Z V := by
  obtain ⟨h1, h2, h3, h4⟩ := h
  exact ⟨by omega, (h2 (by omega)).1, fun j hj => h3 j (by omega), fun j hj => (h4 j (by omega)).1, fun j hj => (h4 j (by omega)).2, Or.inr (Or.inr rfl)⟩
theorem whv_0 {b : Nat → Int32} {p : Nat} : ∀ m, m ≤ 9 → (∀ i, i < m → isD (b (p + i))) → vW (Int32.ofNat m) (whv b p m) := by
  intro m
  induction m with
  | zero => intro _ _; exact vW_0
  | succ m ih =>
    intro hm hd
    have e1 : (Int32.ofNat m).toInt = m := Int32.toInt_ofNat_of_lt (by omega)
    have e2 : (Int32.ofNat (m + 1)).toInt = ((m + 1 : Nat) : Int) := Int32.toInt_ofNat_of_lt (by omega)
    have k1 : (1 : Int32).toInt = 1 := rfl
    have k9 : (9 : Int32).toInt = 9 := rfl
    have e3 : (Int32.ofNat m + 1).toInt = (Int32.ofNat m).toInt + 1 := by rw [t_add (by omega) (by omega), k1]
    have e4 : Int32.ofNat (m + 1) = Int32.ofNat m + 1 := by rw [t_eq, e2, e3, e1]; omega
    rw [e4]
    exact vW_up (by omega) (by rw [t_le, k9]; omega) e3 (hd m (by omega)) (ih (by omega) (fun i hi => hd i (by omega)))
theorem sgk_2 {c d : Int32} : ¬ sgk c d = 2 := by
  unfold sgk
  repeat' (first | apply ite_n | decide)
theorem TOK_v {b : Nat → Int32} {n p m : Nat} {k v : Int32} (h : TOK b n p k m v) (hk : k = 2) : 0 ≤ v.toInt := by
  rcases h with ⟨-, h⟩ | ⟨-, -, -, ⟨w, hw, -, h⟩ | ⟨-, ⟨-, h⟩ | ⟨-, h⟩⟩⟩ | ⟨-, -, ⟨-, -, h9, hd, hv⟩ | ⟨h, -⟩⟩ | ⟨-, -, h, -⟩
  · rw [hk] at h; exact absurd h (by decide)
  · rw [hk] at h
    have e : (Int32.ofNat (10 + w)).toInt = ((10 + w : Nat) : Int) := Int32.toInt_ofNat_of_lt (by omega)
    rw [← h] at e
    have : (2 : Int32).toInt = 2 := rfl
    omega
  · rw [hk] at h; exact absurd h (by decide)
  · rw [hk] at h; exact absurd h (by decide)
  · rw [hv]; exact (whv_0 m h9 hd).1
  · rw [hk] at h; exact absurd h (by decide)
  · rw [hk] at h; exact absurd h.symm sgk_2
abbrev kP' (x : gd) : Nat → Nat := fun j => (x.1 24 j).toNatClampNeg
abbrev kZ' (x : gd) : Nat → Nat := fun j => (x.1 26 j).toNatClampNeg
abbrev kK' (x : gd) : Nat → Int32 := fun j => kc (x.1 23 j)
theorem kc_1 {s : Int32} (h : s = 1) : kc s = 3 := by rw [h]; decide
theorem kc_3 {s : Int32} (h : s = 3) : kc s = 2 := by rw [h]; decide
theorem TOK_01 {b : Nat → Int32} {n p m : Nat} {k v : Int32} (h : TOK b n p k m v) (hp : p < n) : ¬ k = 0 := by
  rcases h with ⟨h, -⟩ | ⟨-, -, -, ⟨w, hw, -, h⟩ | ⟨-, ⟨-, h⟩ | ⟨-, h⟩⟩⟩ | ⟨-, -, ⟨h, -⟩ | ⟨h, -⟩⟩ | ⟨-, -, h, -⟩
  · omega
  · have e : (Int32.ofNat (10 + w)).toInt = ((10 + w : Nat) : Int) := Int32.toInt_ofNat_of_lt (by omega)
    rw [← h] at e
    intro q
    rw [q] at e
    have : (0 : Int32).toInt = 0 := rfl
    omega
  · rw [h]; decide
  · rw [h]; decide
  · rw [h]; decide
  · rw [h]; decide
  · rw [h]
    unfold sgk
    repeat' (first | apply ite_n | decide)
/-- what the class cut: e tokens that go on, and the last -/
def KCUT (b : Nat → Int32) (N : Nat) (x : gd) (e : Nat) : Prop := TSq b N e (kK' x) (kP' x) (kZ' x) (x.1 27) ∧ ((x.1 23 e = 0 ∧ (x.1 20 7).toInt = e) ∨ (¬ x.1 23 e = 0 ∧ (x.1 20 7).toInt = e + 1)) ∧ (∀ j, j ≤ e → x.1 23 j = 2 → x.1 27 j = hsh b (kP' x j) (kZ' x j)) ∧ kT x
section KCA
variable {G : kG} {q : kP} {d : Nat} {x : gd} {F : Int32 → gd → Prop} {Fv : gd → Prop}
theorem kf_cut (hq : kV q) (hl : kL x) (h : ∀ x' e, fm skC x x' → KCUT (kby x) (kln x) x' e → Fv x') : KT G q (d + 10) zk_X9_cut 0 [(0, vr 20)] [] x (rv Fv) := by
  obtain ⟨b, eb⟩ : ∃ b, b = kby x := ⟨_, rfl⟩
  obtain ⟨N, eN⟩ : ∃ N, N = kln x := ⟨_, rfl⟩
  rw [← eb, ← eN] at h
  have uN : (N : Int) = (x.1 20 1).toInt := by
    rw [eN]
    show (((x.1 20 1).toNatClampNeg : Nat) : Int) = _
    rw [t_cl]; have := hl.1; omega
  have g1 := hl.2
  have fin : ∀ (n : Nat) (y : gd), fm skC x y → (y.1 20 7).toInt = n → n ≤ 701 → kTw y n → (∀ j, j < n → y.1 23 j = 2 → y.1 27 j = hsh b (kP' y j) (kZ' y j)) → ((0 < n ∧ TSq b N (n - 1) (kK' y) (kP' y) (kZ' y) (y.1 27)) ∨ (n ≤ 700 ∧ ∃ p, lx b N p = N ∧ TC b N n p (kK' y) (kP' y) (kZ' y) (y.1 27))) → KT G q (d + 10) zk_X9_cut 122 [(0, vr 20)] [] y (rv Fv) := by
    intro n y hf en hn hw hh hT
    have em : (y.1 20 7).toNatClampNeg = n := by rw [t_cl, en]; rfl
    have vin : vp_in (y.1 20 7) 702 := by rw [vp_in_iff]; omega
    refine kg_X9_cut_122 hq ⟨vin, fun x2 e2 => ?_⟩
    rw [em] at e2
    have m2 : x2.1 20 7 = y.1 20 7 := by rw [e2]; (simp only [si_get, sfl_get, Nat.reduceEqDiff, eq_self, and_false, false_and, and_true, true_and, if_true, if_false, reduceIte, reduceCtorEq])
    refine ⟨by rw [m2]; exact vin, fun x4 e4 => ?_⟩
    rw [m2, em] at e4
    have m4 : x4.1 20 7 = y.1 20 7 := by rw [e4, ← m2]; (simp only [si_get, sfl_get, Nat.reduceEqDiff, eq_self, and_false, false_and, and_true, true_and, if_true, if_false, reduceIte, reduceCtorEq])
    refine ⟨by rw [m4]; exact vin, fun x6 e6 => rv_i ?_⟩
    have hf6 : fm skC x x6 := by
      rw [e6, e4, e2]
      exact fm_si (fm_si (fm_si hf (Or.inl (by omega))) (Or.inl (by omega))) (Or.inl (by omega))
    rw [m4, em] at e6
    have m6 : x6.1 20 7 = y.1 20 7 := by rw [e6, ← m4]; (simp only [si_get, sfl_get, Nat.reduceEqDiff, eq_self, and_false, false_and, and_true, true_and, if_true, if_false, reduceIte, reduceCtorEq])
    have g : ∀ c j, 23 ≤ c → c ≤ 27 → j ≠ n → x6.1 c j = y.1 c j := by
      intro c j c1 c2 hj
      rw [e6, si_get, if_neg (fun q => hj q.2), e4, si_get, if_neg (fun q => hj q.2), e2, si_get, if_neg (fun q => hj q.2)]
    have s23 : x6.1 23 n = 0 := by rw [e6, e4, e2]; (simp only [si_get, sfl_get, Nat.reduceEqDiff, eq_self, and_false, false_and, and_true, true_and, if_true, if_false, reduceIte, reduceCtorEq])
    have s24 : x6.1 24 n = x.1 20 1 := by rw [e6, e4, e2]; (simp only [si_get, sfl_get, Nat.reduceEqDiff, eq_self, and_false, false_and, and_true, true_and, if_true, if_false, reduceIte, reduceCtorEq]); exact hf _ _ (by unfold skC; omega)
    have s26 : ∀ j, x6.1 26 j = y.1 26 j := fun j => by rw [e6, e4, e2]; (simp only [si_get, sfl_get, Nat.reduceEqDiff, eq_self, and_false, false_and, and_true, true_and, if_true, if_false, reduceIte, reduceCtorEq])
    have s27 : ∀ j, x6.1 27 j = y.1 27 j := fun j => by rw [e6, e4, e2]; (simp only [si_get, sfl_get, Nat.reduceEqDiff, eq_self, and_false, false_and, and_true, true_and, if_true, if_false, reduceIte, reduceCtorEq])
    have hT6 : kT x6 := by
      refine ⟨?_, n, by rw [m6]; exact en, hn, fun j hj => ?_, s23⟩
      · unfold kL
        have : x6.1 20 1 = x.1 20 1 := hf6 _ _ (by unfold skC; omega)
        rw [this]; exact hl
      · rw [g 24 j (by omega) (by omega) (by omega), g 26 j (by omega) (by omega) (by omega), g 23 j (by omega) (by omega) (by omega), g 27 j (by omega) (by omega) (by omega)]
        exact hw j hj
    have hh6 : ∀ j, j < n → x6.1 23 j = 2 → x6.1 27 j = hsh b (kP' x6 j) (kZ' x6 j) := by
      intro j hj
      unfold kP' kZ'
      rw [g 24 j (by omega) (by omega) (by omega), g 26 j (by omega) (by omega) (by omega), g 23 j (by omega) (by omega) (by omega), g 27 j (by omega) (by omega) (by omega)]
      exact hh j hj
    rcases hT with ⟨n0, hT⟩ | ⟨n7, p, hp, hT⟩
    · refine h x6 (n - 1) hf6 ⟨TSq_cg hT (fun j hj => ?_), Or.inr ⟨?_, by rw [m6, en]; omega⟩, fun j hj => hh6 j (by omega), hT6⟩
      · unfold kK' kP' kZ'
        rw [g 24 j (by omega) (by omega) (by omega), g 26 j (by omega) (by omega) (by omega), g 23 j (by omega) (by omega) (by omega), g 27 j (by omega) (by omega) (by omega)]
        exact ⟨rfl, rfl, rfl, rfl⟩
      · rw [g 23 _ (by omega) (by omega) (by omega)]
        exact (hw (n - 1) (by omega)).2.1
    · have u1 : (x.1 20 1).toNatClampNeg = N := eN.symm
      have up := TC_up (K' := kK' x6) (P' := kP' x6) (Z' := kZ' x6) (V' := x6.1 27) (k := 0) (q := N) (m := kZ' x6 n) (v := x6.1 27 n) hT (fun j => ?_) (fun j => ?_) (fun j => ?_) (fun j => ?_) hp.symm (Or.inl ⟨Nat.le_refl _, rfl⟩)
      · obtain ⟨u2, u3, u4, u5, -, -, u6⟩ := up
        refine h x6 n hf6 ⟨⟨n7, u3, u4, fun j hj => ?_, fun j hj => (u2 j hj).2, Or.inl u6⟩, Or.inl ⟨s23, by rw [m6, en]⟩, fun j hj => ?_, hT6⟩
        · by_cases cj : j = n
          · rw [cj]; exact u5
          · exact (u2 j (by omega)).1
        · by_cases cj : j = n
          · rw [cj, s23]; exact fun z => absurd z (by decide)
          · exact hh6 j (by omega)
      · by_cases cj : j = n
        · rw [if_pos cj, cj]
          show kc (x6.1 23 n) = 0
          rw [s23]; decide
        · rw [if_neg cj]
          show kc (x6.1 23 j) = kc (y.1 23 j)
          rw [g 23 j (by omega) (by omega) cj]
      · by_cases cj : j = n
        · rw [if_pos cj, cj]
          show (x6.1 24 n).toNatClampNeg = N
          rw [s24]; exact u1
        · rw [if_neg cj]
          show (x6.1 24 j).toNatClampNeg = (y.1 24 j).toNatClampNeg
          rw [g 24 j (by omega) (by omega) cj]
      · by_cases cj : j = n
        · rw [if_pos cj, cj]
        · rw [if_neg cj]
          show (x6.1 26 j).toNatClampNeg = (y.1 26 j).toNatClampNeg
          rw [s26]
      · by_cases cj : j = n
        · rw [if_pos cj, cj]
        · rw [if_neg cj, s27]
  have loop : ∀ (m n : Nat) (l1 l2 : Int32) (y : gd), n + m = 701 → l2.toInt = n → fm skC x y → (y.1 20 7).toInt = n → kTw y n → 0 ≤ (y.1 20 8).toInt → (y.1 20 8).toInt ≤ (x.1 20 1).toInt → (∀ j, j < n → y.1 23 j = 2 → y.1 27 j = hsh b (kP' y j) (kZ' y j)) → (¬ l1 = 0 → TC b N n (y.1 20 8).toNatClampNeg (kK' y) (kP' y) (kZ' y) (y.1 27)) → (l1 = 0 → 0 < n ∧ TSq b N (n - 1) (kK' y) (kP' y) (kZ' y) (y.1 27)) → KT G q (d + 10) zk_X9_cut 19 [(0, vr 20), (1, vi l1), (2, vi l2)] [] y (rv Fv) := by
    intro m
    induction m with
    | zero =>
      intro n l1 l2 y hn el hf en hw a0 a1 hh t1 t0
      refine kg_X9_cut_19 hq _ _ ⟨fun _ => fin n y hf en (by omega) hw hh ?_, fun c => ?_⟩
      · by_cases c0 : l1 = 0
        · exact Or.inl (t0 c0)
        · have n701 : n = 701 := by omega
          have := t1 c0
          rw [n701] at this ⊢
          exact Or.inl ⟨by omega, TC_701 this⟩
      · exfalso; clear h fin hf hw hh t1 t0; ((try simp only [t_lt, t_le, t_eq, t_cl, tm1, vp_in_iff, Int32.toInt_add, Int32.toInt_sub, Int32.toInt_mul, Int32.reduceToInt, Nat.reducePow] at *) <;> (try simp (disch := omega) only [bm] at *) <;> omega)
    | succ m ih =>
      intro n l1 l2 y hn el hf en hw a0 a1 hh t1 t0
      have ely : y.1 20 1 = x.1 20 1 := hf _ _ (by unfold skC; omega)
      have hly : kL y := by unfold kL; rw [ely]; exact hl
      have eby : kby y = b := by rw [eb]; funext p; unfold kby; rw [hf 21 p (by unfold skC; omega)]
      have eln : kln y = N := by rw [eN]; unfold kln; rw [ely]
      refine kg_X9_cut_19 hq _ _ ⟨fun c => ?_, fun c => ⟨fun c0 => fin n y hf en (by omega) hw hh (Or.inl (t0 c0)), fun c0 => ?_⟩⟩
      · exfalso; clear h fin hf hw hh t1 t0 ih; ((try simp only [t_lt, t_le, t_eq, t_cl, tm1, vp_in_iff, Int32.toInt_add, Int32.toInt_sub, Int32.toInt_mul, Int32.reduceToInt, Nat.reducePow] at *) <;> (try simp (disch := omega) only [bm] at *) <;> omega)
      have tc := t1 c0
      have e1 : (l2 + 1).toInt = ((n + 1 : Nat) : Int) := by
        have k1 : (1 : Int32).toInt = 1 := rfl
        rw [t_add (by omega) (by omega), k1, el]; rfl
      refine kf_skip hq hly a0 (by rw [ely]; exact a1) (fun x3 f3 b1 b2 b3 => ?_)
      rw [eby, eln] at b3
      have m3 : x3.1 20 7 = y.1 20 7 := f3 _ _ (by omega)
      have l3 : x3.1 20 1 = x.1 20 1 := by rw [f3 _ _ (by omega), ely]
      have hf3 : fm skC x x3 := fm_tr hf (fm_w f3 (fun c k q => Or.inr ⟨q.1, by omega⟩))
      have em : (x3.1 20 7).toNatClampNeg = n := by rw [m3, t_cl, en]; rfl
      have w3 : kTw x3 n := fun j hj => by rw [f3 24 j (by omega), f3 26 j (by omega), f3 23 j (by omega), f3 27 j (by omega)]; exact hw j hj
      have q23 : kK' x3 = kK' y := by funext j; show kc (x3.1 23 j) = kc (y.1 23 j); rw [f3 23 j (by omega)]
      have q24 : kP' x3 = kP' y := by funext j; show (x3.1 24 j).toNatClampNeg = (y.1 24 j).toNatClampNeg; rw [f3 24 j (by omega)]
      have q26 : kZ' x3 = kZ' y := by funext j; show (x3.1 26 j).toNatClampNeg = (y.1 26 j).toNatClampNeg; rw [f3 26 j (by omega)]
      have q27 : x3.1 27 = y.1 27 := by funext j; rw [f3 27 j (by omega)]
      have u3 := t_cl (x3.1 20 8)
      rw [ely] at b2
      refine ⟨fun c3 => ?_, fun c3 => fin n x3 hf3 (by rw [m3]; exact en) (by omega) w3 (fun j hj => ?_) (Or.inr ⟨by omega, (y.1 20 8).toNatClampNeg, ?_, ?_⟩)⟩
      rotate_left
      · rw [q24, q26, q27, f3 23 j (by omega)]; exact hh j hj
      · rw [← b3]
        rw [l3, t_lt] at c3
        omega
      · rw [q23, q24, q26, q27]; exact tc
      have vin : vp_in (x3.1 20 7) 702 := by rw [m3, vp_in_iff]; omega
      refine ⟨vin, fun x6 e6 => ?_⟩
      have m6 : x6.1 20 7 = x3.1 20 7 := by rw [e6]; (simp only [si_get, sfl_get, Nat.reduceEqDiff, eq_self, and_false, false_and, and_true, true_and, if_true, if_false, reduceIte, reduceCtorEq])
      refine ⟨by rw [m6]; exact vin, fun x8 e8 => ?_⟩
      have m8 : x8.1 20 7 = x3.1 20 7 := by rw [e8, ← m6]; (simp only [si_get, sfl_get, Nat.reduceEqDiff, eq_self, and_false, false_and, and_true, true_and, if_true, if_false, reduceIte, reduceCtorEq])
      have a8 : x8.1 20 8 = x3.1 20 8 := by rw [e8, e6]; (simp only [si_get, sfl_get, Nat.reduceEqDiff, eq_self, and_false, false_and, and_true, true_and, if_true, if_false, reduceIte, reduceCtorEq])
      have l8 : x8.1 20 1 = x.1 20 1 := by rw [e8, e6, ← l3]; (simp only [si_get, sfl_get, Nat.reduceEqDiff, eq_self, and_false, false_and, and_true, true_and, if_true, if_false, reduceIte, reduceCtorEq])
      rw [em] at e6
      rw [m6, em] at e8
      have hl8 : kL x8 := by unfold kL; rw [l8]; exact hl
      have lt3 : (x3.1 20 8).toInt < (x.1 20 1).toInt := by rw [l3, t_lt] at c3; exact c3
      have f6 : fm skC x x8 := by rw [e8, e6]; exact fm_si (fm_si hf3 (Or.inl (by omega))) (Or.inl (by omega))
      have eb8 : b = kby x8 := by rw [eb]; funext p; unfold kby; rw [f6 21 p (by unfold skC; omega)]
      have eN8 : N = kln x8 := by rw [eN]; unfold kln; rw [l8]
      refine kf_cutOne hq b N (x3.1 20 8).toNatClampNeg hl8 (by rw [m8]; exact vin) eb8 eN8 (by rw [a8]; omega) (by omega) (fun r x9 k f9 tk9 r0 r2 s0 t0' t1' => ?_)
      rw [m8, em] at tk9 f9 s0 r2
      refine ⟨by rw [m8]; exact vin, fun x12 e12 => ?_⟩
      rw [m8, em] at e12
      have m12 : x12.1 20 7 = x3.1 20 7 := by rw [e12, si_cell (by decide), f9 _ _ (by unfold skO; omega), m8]
      have next : ∀ l z, z = si x12 20 7 (x12.1 20 7 + 1) → (¬ l = 0 ↔ ¬ r = 1) → KT G q (d + 10) zk_X9_cut 19 [(0, vr 20), (1, vi l), (2, vi (l2 + 1))] [] z (rv Fv) := by
        intro l z ez hlr
        have g : ∀ c j, 23 ≤ c → c ≤ 27 → j ≠ n → z.1 c j = y.1 c j := by
          intro c j c1 c2 hj
          rw [ez, si_get, if_neg (by omega), e12, si_get, if_neg (fun q => hj q.2), f9 _ _ (by unfold skO; omega), e8, si_get, if_neg (fun q => hj q.2), e6, si_get, if_neg (fun q => hj q.2), f3 _ _ (by omega)]
        have z24 : z.1 24 n = x3.1 20 8 := by rw [ez, si_get, if_neg (by omega), e12, si_get, if_neg (by omega), f9 _ _ (by unfold skO; omega), e8, e6]; (simp only [si_get, sfl_get, Nat.reduceEqDiff, eq_self, and_false, false_and, and_true, true_and, if_true, if_false, reduceIte, reduceCtorEq])
        have z26 : z.1 26 n = x9.1 26 n := by rw [ez, e12]; (simp only [si_get, sfl_get, Nat.reduceEqDiff, eq_self, and_false, false_and, and_true, true_and, if_true, if_false, reduceIte, reduceCtorEq])
        have z27 : z.1 27 n = x9.1 27 n := by rw [ez, e12]; (simp only [si_get, sfl_get, Nat.reduceEqDiff, eq_self, and_false, false_and, and_true, true_and, if_true, if_false, reduceIte, reduceCtorEq])
        have z23 : z.1 23 n = r := by rw [ez, e12]; (simp only [si_get, sfl_get, Nat.reduceEqDiff, eq_self, and_false, false_and, and_true, true_and, if_true, if_false, reduceIte, reduceCtorEq])
        have z8 : z.1 20 8 = x9.1 20 8 := by rw [ez, e12]; (simp only [si_get, sfl_get, Nat.reduceEqDiff, eq_self, and_false, false_and, and_true, true_and, if_true, if_false, reduceIte, reduceCtorEq])
        have cz : (z.1 20 8).toNatClampNeg = (x3.1 20 8).toNatClampNeg + k := by rw [z8, t_cl, t0']; rfl
        have c26 : (z.1 26 n).toNatClampNeg = k := by rw [z26, t_cl, s0]; rfl
        have up := TC_up (K' := kK' z) (P' := kP' z) (Z' := kZ' z) (V' := z.1 27) (k := kc r) (q := (x3.1 20 8).toNatClampNeg) (m := k) (v := x9.1 27 n) tc (fun j => by
          by_cases cj : j = n
          · rw [if_pos cj, cj]; show kc (z.1 23 n) = _; rw [z23]
          · rw [if_neg cj]; show kc (z.1 23 j) = kc (y.1 23 j); rw [g 23 j (by omega) (by omega) cj]) (fun j => by
          by_cases cj : j = n
          · rw [if_pos cj, cj]; show (z.1 24 n).toNatClampNeg = _; rw [z24]
          · rw [if_neg cj]; show (z.1 24 j).toNatClampNeg = (y.1 24 j).toNatClampNeg; rw [g 24 j (by omega) (by omega) cj]) (fun j => by
          by_cases cj : j = n
          · rw [if_pos cj, cj]; exact c26
          · rw [if_neg cj]; show (z.1 26 j).toNatClampNeg = (y.1 26 j).toNatClampNeg; rw [g 26 j (by omega) (by omega) cj]) (fun j => by
          by_cases cj : j = n
          · rw [if_pos cj, cj, z27]
          · rw [if_neg cj, g 27 j (by omega) (by omega) cj]) b3 tk9
        obtain ⟨u2, uP, u4, u5, v1, v2, v3⟩ := up
        have k0 : ¬ kc r = 0 := TOK_01 tk9 (by omega)
        refine ih (n + 1) l (l2 + 1) z (by omega) e1 ?_ ?_ ?_ ?_ ?_ ?_ ?_ ?_
        · have f10 : fm skC x x9 := fm_tr f6 (fm_w f9 (fun c k q => by unfold skO at q; unfold skC; omega))
          rw [ez, e12]
          exact fm_si (fm_si f10 (Or.inl (by omega))) (Or.inr ⟨rfl, by omega⟩)
        · have : z.1 20 7 = x12.1 20 7 + 1 := by rw [ez]; (simp only [si_get, sfl_get, Nat.reduceEqDiff, eq_self, and_false, false_and, and_true, true_and, if_true, if_false, reduceIte, reduceCtorEq])
          have g2 : (y.1 20 7 + 1).toInt = ((n + 1 : Nat) : Int) := by
            rw [t_add (by show _ ≤ _ + (1 : Int); omega) (by show _ + (1 : Int) ≤ _; omega), en]; rfl
          rw [this, m12, m3, g2]
        · intro j hj
          by_cases hjn : j = n
          · subst hjn
            rw [z24, z26, z23, z27]
            exact ⟨⟨by omega, by omega, by omega⟩, r0, fun r3 => TOK_v tk9 (kc_3 r3)⟩
          · rw [g 24 j (by omega) (by omega) hjn, g 26 j (by omega) (by omega) hjn, g 23 j (by omega) (by omega) hjn, g 27 j (by omega) (by omega) hjn]
            exact hw j (by omega)
        · rw [z8]; omega
        · rw [z8]; omega
        · intro j hj
          by_cases hjn : j = n
          · rw [hjn, z23, v1, v2, z27]; exact r2
          · show z.1 23 j = 2 → z.1 27 j = hsh b (z.1 24 j).toNatClampNeg (z.1 26 j).toNatClampNeg
            rw [g 24 j (by omega) (by omega) hjn, g 26 j (by omega) (by omega) hjn, g 23 j (by omega) (by omega) hjn, g 27 j (by omega) (by omega) hjn]
            exact hh j (by omega)
        · intro l0
          have r1 := hlr.mp l0
          refine ⟨fun q => absurd q (by omega), fun _ => ⟨uP, by rw [cz, show n + 1 - 1 = n by omega, v1, v2]⟩, fun j hj => u4 j (by omega), fun j hj => ?_⟩
          by_cases hjn : j = n
          · rw [hjn]
            refine ⟨u5, by rw [v3]; exact k0, ?_⟩
            rw [v3]
            exact fun z => r1 (kc_i1 z)
          · exact u2 j (by omega)
        · intro l0
          have r1 : r = 1 := by
            by_cases c : r = 1
            · exact c
            · exact absurd l0 (hlr.mpr c)
          refine ⟨by omega, ?_⟩
          rw [show n + 1 - 1 = n by omega]
          refine ⟨by omega, uP, u4, fun j hj => ?_, fun j hj => (u2 j hj).2, Or.inr (Or.inl ?_)⟩
          · by_cases cj : j = n
            · rw [cj]; exact u5
            · exact (u2 j (by omega)).1
          · rw [v3]; exact kc_1 r1
      have s23 : x12.1 23 n = r := by rw [e12]; (simp only [si_get, sfl_get, Nat.reduceEqDiff, eq_self, and_false, false_and, and_true, true_and, if_true, if_false, reduceIte, reduceCtorEq])
      refine ⟨by rw [m12]; exact vin, fun c9 z ez => next _ z ez ?_, fun c9 z ez => next _ z ez ?_⟩
      all_goals
        rw [m12, em, s23] at c9
      · exact ⟨fun z => absurd rfl z, fun z => absurd c9 z⟩
      · exact ⟨fun _ => c9, fun _ => by decide⟩
  refine kg_X9_cut_0 hq (fun x1 e1 x2 e2 x3 e3 => ?_)
  have z8 : x3.1 20 8 = 0 := by rw [e3, e2, e1]; (simp only [si_get, sfl_get, Nat.reduceEqDiff, eq_self, and_false, false_and, and_true, true_and, if_true, if_false, reduceIte, reduceCtorEq])
  refine loop 701 0 _ _ x3 rfl rfl ?_ ?_ ?_ ?_ ?_ ?_ ?_ ?_
  · rw [e3, e2, e1]; exact fm_si (fm_si (fm_si (fm_rf _ _) (Or.inr ⟨rfl, by omega⟩)) (Or.inr ⟨rfl, by omega⟩)) (Or.inr ⟨rfl, by omega⟩)
  · rw [e3]; (simp only [si_get, sfl_get, Nat.reduceEqDiff, eq_self, and_false, false_and, and_true, true_and, if_true, if_false, reduceIte, reduceCtorEq]); rfl
  · intro j hj; omega
  · rw [z8]; decide
  · rw [z8]; exact hl.1
  · intro j hj; omega
  · intro _
    rw [z8]
    exact ⟨fun _ => rfl, fun q => absurd q (by omega), fun j hj => absurd hj (by omega), fun j hj => absurd hj (by omega)⟩
  · intro q; exact absurd q (by decide)
end KCA
end
section
/-! the class: the reader's small steps -/
/-- where reading is, how many tokens there are -/
abbrev nx (x : gd) : Int := (x.1 100 4).toInt
abbrev mt (x : gd) : Int := (x.1 20 7).toInt
def RB (x : gd) : Prop := kT x ∧ 0 ≤ nx x ∧ nx x ≤ 700 ∧ nx x ≤ mt x
/-- a use that is a fault -/
def BU (x : gd) : Prop := ∃ j : Nat, (j : Int) < nx x ∧ (x.1 42 j = 3 ∨ x.1 42 j = 8 ∨ x.1 42 j = 9 ∨ x.1 42 j = 10)
def US (x : gd) : Prop := (∀ j : Nat, nx x < j → j < 702 → x.1 42 j = 0) ∧ ∀ j : Nat, (j : Int) < nx x → x.1 42 j = 12 → 2 ≤ j ∧ x.1 42 (j - 2) = 7
/-- a part of a sum -/
def PQ (x : gd) (i : Nat) : Prop := (x.1 62 i = 2 → (0 ≤ (x.1 63 i).toInt ∧ (x.1 63 i).toInt < 24) ∨ BU x) ∧ (x.1 62 i = 6 → ∃ t : Nat, (x.1 63 i).toInt = t ∧ (t : Int) < nx x ∧ (x.1 42 t = 6 ∨ (x.1 42 t = 7 ∧ (t : Int) + 2 < nx x ∧ x.1 42 (t + 2) = 12 ∧ x.1 23 (t + 2) = 3)))
def SV (x : gd) (m : Int) : Prop := RB x ∧ US x ∧ (0 ≤ (x.1 60 3).toInt ∧ (x.1 60 3).toInt ≤ 800) ∧ ∀ i : Nat, (i : Int) < m → PQ x i
/-- later in reading -/
def La (x y : gd) : Prop := (∀ c k, 20 ≤ c → c < 40 → y.1 c k = x.1 c k) ∧ nx x ≤ nx y ∧ ∀ j : Nat, (j : Int) < nx x → y.1 42 j = x.1 42 j
/-- what reading changes -/
def sR (c k : Nat) : Prop := 40 ≤ c ∧ c < 120
def RX (x0 : gd) (X : String → gd → Prop) : Prop := ∀ y, fm sR x0 y → vp_in (y.1 100 4) 702 → ¬ y.1 100 6 = 0 → X iSE y
def FR (x : gd) : Prop := x.1 42 (x.1 100 4).toNatClampNeg = 0
section KRD
variable {G : kG} {q : kP} {d : Nat} {x x0 y z : gd} {F : Int32 → gd → Prop} {Fv : gd → Prop} {X : String → gd → Prop} {P : Option gv → gd → Prop} {m : Int}
theorem La_rf : La x x := ⟨fun _ _ _ _ => rfl, Int.le_refl _, fun _ _ => rfl⟩
theorem La_tr (a : La x y) (b : La y z) : La x z := ⟨fun c k h1 h2 => (b.1 c k h1 h2).trans (a.1 c k h1 h2), Int.le_trans a.2.1 b.2.1, fun j hj => (b.2.2 j (Int.lt_of_lt_of_le hj a.2.1)).trans (a.2.2 j hj)⟩
theorem La_BU (a : La x y) (h : BU x) : BU y := by
  obtain ⟨j, h1, h2⟩ := h
  exact ⟨j, Int.lt_of_lt_of_le h1 a.2.1, by rw [a.2.2 j h1]; exact h2⟩
theorem La_PQ (a : La x y) {i : Nat} (e1 : y.1 62 i = x.1 62 i) (e2 : y.1 63 i = x.1 63 i) (h : PQ x i) : PQ y i := by
  unfold PQ at h ⊢
  rw [e1, e2]
  refine ⟨fun c => (h.1 c).imp id (La_BU a), fun c => ?_⟩
  obtain ⟨t, h1, h2, h3⟩ := h.2 c
  have := a.2.1
  refine ⟨t, h1, by omega, ?_⟩
  rw [a.2.2 t h2]
  rcases h3 with h3 | ⟨h3, h4, h5, h6⟩
  · exact Or.inl h3
  · refine Or.inr ⟨h3, by omega, ?_, ?_⟩
    · rw [a.2.2 _ (by omega)]; exact h5
    · rw [a.1 23 _ (by omega) (by omega)]; exact h6
theorem kT_fm (h : kT x) (f : ∀ c k, 20 ≤ c → c < 40 → y.1 c k = x.1 c k) : kT y := by
  obtain ⟨q1, n2, q2, q3, q4, q5⟩ := h
  refine ⟨by unfold kL; rw [f 20 1 (by omega) (by omega)]; exact q1, n2, by rw [f 20 7 (by omega) (by omega)]; exact q2, q3, fun k hk => ?_, by rw [f 23 _ (by omega) (by omega)]; exact q5⟩
  rw [f 24 k (by omega) (by omega), f 26 k (by omega) (by omega), f 23 k (by omega) (by omega), f 27 k (by omega) (by omega)]
  exact q4 k hk
theorem RB_at (h : RB x) : vp_in (x.1 100 4) 702 := by rw [vp_in_iff]; have := h.2.1; have := h.2.2.1; unfold nx at *; omega
theorem RB_lt (h : RB x) (hs : ¬ x.1 23 (x.1 100 4).toNatClampNeg = 0) : nx x < mt x := by
  obtain ⟨⟨-, n, e1, e2, e3, e4⟩, h1, h2, h3⟩ := h
  unfold nx mt at *
  refine Int.lt_iff_le_and_ne.mpr ⟨h3, fun q => hs ?_⟩
  have : (x.1 100 4).toNatClampNeg = n := by rw [t_cl, q, e1]; rfl
  rw [this]; exact e4
/-- on to the next token; the one that is passed has the use u -/
theorem SV_adv (h : SV x m) (hs : ¬ x.1 23 (x.1 100 4).toNatClampNeg = 0) (h7 : nx x < 700) {u : Int32} (hu : u = 12 → 2 ≤ (x.1 100 4).toNatClampNeg ∧ x.1 42 ((x.1 100 4).toNatClampNeg - 2) = 7) (f : fm (fun c k => (c = 42 ∧ k = (x.1 100 4).toNatClampNeg) ∨ (c = 100 ∧ k = 4)) x y) (e1 : y.1 42 (x.1 100 4).toNatClampNeg = u) (e2 : nx y = nx x + 1) : SV y m ∧ FR y ∧ La x y := by
  have hlt := RB_lt h.1 hs
  obtain ⟨⟨hT, b1, b2, b3⟩, ⟨u1, u2⟩, hp, hP⟩ := h
  have eN : ((x.1 100 4).toNatClampNeg : Int) = nx x := by rw [t_cl]; unfold nx at *; omega
  have la : La x y := ⟨fun c k q1 q2 => f c k (by omega), by omega, fun j hj => f 42 j (by omega)⟩
  have e7 : mt y = mt x := by unfold mt; rw [f 20 7 (by omega)]
  refine ⟨⟨⟨kT_fm hT la.1, by omega, by omega, by omega⟩, ⟨fun j h1 h2 => ?_, fun j h1 h2 => ?_⟩, ?_, fun i hi => La_PQ la (f _ _ (by omega)) (f _ _ (by omega)) (hP i hi)⟩, ?_, la⟩
  · rw [f 42 j (by omega)]; exact u1 j (by omega) h2
  · by_cases hj : j = (x.1 100 4).toNatClampNeg
    · rw [hj, e1] at h2
      obtain ⟨g1, g2⟩ := hu h2
      rw [hj, f 42 _ (by omega)]
      exact ⟨g1, g2⟩
    · rw [f 42 j (by omega)] at h2
      obtain ⟨g1, g2⟩ := u2 j (by omega) h2
      rw [f 42 _ (by omega)]
      exact ⟨g1, g2⟩
  · rw [f 60 3 (by omega)]; exact hp
  · unfold FR
    have : (y.1 100 4).toNatClampNeg = (x.1 100 4).toNatClampNeg + 1 := by
      have : ((y.1 100 4).toNatClampNeg : Int) = nx y := by rw [t_cl]; unfold nx at *; omega
      omega
    rw [this, f 42 _ (by omega)]
    exact u1 _ (by omega) (by omega)
theorem kp_refuse (hq : kV q) (n : Int32) (h1 : vp_in (x.1 100 4) 702) (h0 : fm sR x0 x) (hx : RX x0 X) (hn : ¬ n = 0 := by decide) : KE G q (d + 6) zk_X7_refuse 0 [(0, vr 100), (1, vi n)] [] x P X := by
  have g : ∀ v : Int32, ¬ v = 0 → KE G q (d + 6) zk_X7_refuse 22 [] [vi v, vr 100] x P X := fun v hv => kg_X7_refuse_22 hq _ (fun z ez => by
    refine hx z ?_ ?_ (by rw [ez, si_get, if_pos ⟨rfl, rfl⟩]; exact hv)
    · rw [ez]; exact fm_si h0 (by unfold sR; omega)
    · have : z.1 100 4 = x.1 100 4 := by rw [ez]; (simp only [si_get, sfl_get, Nat.reduceEqDiff, eq_self, and_false, false_and, and_true, true_and, if_true, if_false, reduceIte, reduceCtorEq])
      rw [this]; exact h1)
  exact kg_X7_refuse_0 hq _ ⟨h1, fun _ => g _ hn, fun _ => g _ (by decide)⟩
theorem kp_sort (hq : kV q) (h1 : RB x) (h : F (x.1 23 (x.1 100 4).toNatClampNeg) x) : KT G q d zk_X7_sort 0 [(0, vr 100)] [] x (ri F) := kg_X7_sort_0 hq ⟨RB_at h1, ri_i h⟩
theorem nx_1 (h : RB x) : (x.1 100 4 + 1).toInt = nx x + 1 ∧ (x.1 100 4 + 1).toNatClampNeg = (x.1 100 4).toNatClampNeg + 1 := by
  have h1 := h.2.1
  have h2 := h.2.2.1
  have e : (x.1 100 4 + 1).toInt = nx x + 1 := t_add (by show _ ≤ _ + (1 : Int); unfold nx at *; omega) (by show _ + (1 : Int) ≤ _; unfold nx at *; omega)
  exact ⟨e, by rw [t_cl, e, t_cl]; unfold nx at *; omega⟩
theorem kp_sortBehind (hq : kV q) (h1 : RB x) (h : F (x.1 23 ((x.1 100 4).toNatClampNeg + 1)) x) : KT G q d zk_X7_sortBehind 0 [(0, vr 100)] [] x (ri F) := by
  obtain ⟨e1, e2⟩ := nx_1 h1
  refine kg_X7_sortBehind_0 hq ⟨?_, ?_⟩
  · rw [vp_in_iff]; have := h1.2.1; have := h1.2.2.1; omega
  · rw [e2]; exact ri_i h
theorem nx_si (h : RB x) (ey : y = si x 100 4 (x.1 100 4 + 1)) : nx y = nx x + 1 ∧ fm (fun c k => (c = 42 ∧ k = (x.1 100 4).toNatClampNeg) ∨ (c = 100 ∧ k = 4)) x y ∧ y.1 42 (x.1 100 4).toNatClampNeg = x.1 42 (x.1 100 4).toNatClampNeg := by
  refine ⟨?_, ?_, ?_⟩
  · have : y.1 100 4 = x.1 100 4 + 1 := by rw [ey]; (simp only [si_get, sfl_get, Nat.reduceEqDiff, eq_self, and_false, false_and, and_true, true_and, if_true, if_false, reduceIte, reduceCtorEq])
    unfold nx
    rw [this]; exact (nx_1 h).1
  · rw [ey]; exact fm_si (fm_rf _ _) (Or.inr ⟨rfl, rfl⟩)
  · rw [ey]; (simp only [si_get, sfl_get, Nat.reduceEqDiff, eq_self, and_false, false_and, and_true, true_and, if_true, if_false, reduceIte, reduceCtorEq])
/-- a part more -/
def AP (x y : gd) (p a : Int32) : Prop := fm (fun c k => (c = 60 ∧ k = 3) ∨ c = 62 ∨ c = 63) x y ∧ (0 ≤ (y.1 60 3).toInt ∧ (y.1 60 3).toInt ≤ 800) ∧ (x.1 60 3).toInt ≤ (y.1 60 3).toInt ∧ (∀ i : Nat, (i : Int) < (x.1 60 3).toInt → y.1 62 i = x.1 62 i ∧ y.1 63 i = x.1 63 i) ∧ ∀ i : Nat, (i : Int) < (y.1 60 3).toInt → (i : Int) < (x.1 60 3).toInt ∨ (y.1 62 i = p ∧ y.1 63 i = a)
theorem AP_La {p a : Int32} (h : AP x y p a) : La x y := ⟨fun c k q1 q2 => h.1 c k (by omega), by unfold nx; rw [h.1 100 4 (by omega)]; exact Int.le_refl _, fun j _ => h.1 42 j (by omega)⟩
theorem AP_SV {p a : Int32} (hm : m ≤ (x.1 60 3).toInt) (hS : SV x m) (h : AP x y p a) : SV y m := by
  have la := AP_La h
  obtain ⟨⟨hT, b1, b2, b3⟩, ⟨u1, u2⟩, hp, hP⟩ := hS
  have e4 : y.1 100 4 = x.1 100 4 := h.1 _ _ (by omega)
  have e7 : y.1 20 7 = x.1 20 7 := h.1 _ _ (by omega)
  refine ⟨⟨kT_fm hT la.1, by unfold nx; rw [e4]; exact b1, by unfold nx; rw [e4]; exact b2, by unfold nx mt; rw [e4, e7]; exact b3⟩, ⟨fun j h1 h2 => ?_, fun j h1 h2 => ?_⟩, h.2.1, fun i hi => La_PQ la (h.2.2.2.1 i (by omega)).1 (h.2.2.2.1 i (by omega)).2 (hP i hi)⟩
  · rw [h.1 42 j (by omega)]; exact u1 j (by unfold nx at h1; rw [e4] at h1; exact h1) h2
  · rw [h.1 42 j (by omega)] at h2
    rw [h.1 42 _ (by omega)]
    exact u2 j (by unfold nx at h1; rw [e4] at h1; exact h1) h2
/-- all parts are well -/
abbrev SU (x : gd) : Prop := SV x (x.1 60 3).toInt
theorem AP_SU {p a : Int32} (hS : SU x) (h : AP x y p a) (hp2 : p = 2 → (0 ≤ a.toInt ∧ a.toInt < 24) ∨ BU y) (hp6 : ¬ p = 6) : SU y := by
  obtain ⟨g1, g2, g3, g4⟩ := AP_SV (Int.le_refl _) hS h
  refine ⟨g1, g2, g3, fun i hi => ?_⟩
  rcases h.2.2.2.2 i hi with e | ⟨e1, e2⟩
  · exact g4 i e
  · unfold PQ
    rw [e1, e2]
    exact ⟨hp2, fun c => absurd c hp6⟩
/-- locals that are known -/
def KN (x : gd) : Prop := (0 ≤ (x.1 100 9).toInt ∧ (x.1 100 9).toInt ≤ 8) ∧ ∀ i : Nat, (i : Int) < (x.1 100 9).toInt → tk x (x.1 109 i)
end KRD
end
section
/-! the class: the reader's small steps, and when they refuse -/
section KRDF
variable {G : kG} {q : kP} {d : Nat} {x x0 y z : gd} {F : Int32 → gd → Prop} {Fv : gd → Prop} {X : String → gd → Prop} {P : Option gv → gd → Prop} {m : Int}
theorem kf_pass (hq : kV q) (h0 : fm sR x0 x) (hx : 700 ≤ nx x → RX x0 X) (hS : SV x m) (hs : ¬ x.1 23 (x.1 100 4).toNatClampNeg = 0) (hu : ¬ x.1 42 (x.1 100 4).toNatClampNeg = 12) (h : nx x < 700 → ∀ y, fm (fun c k => c = 100 ∧ k = 4) x y → nx y = nx x + 1 → SV y m → FR y → La x y → fm sR x0 y → Fv y) : KE G q (d + 7) zk_X7_pass 0 [(0, vr 100)] [] x (rv Fv) X := by
  refine kg_X7_pass_0 hq ⟨fun c y ey => rv_i ?_, fun c => kp_refuse hq _ (RB_at hS.1) h0 (hx (by rw [t_lt] at c; have : (700 : Int32).toInt = 700 := rfl; unfold nx; omega))⟩
  obtain ⟨e1, e2, e3⟩ := nx_si hS.1 ey
  obtain ⟨g1, g2, g3⟩ := SV_adv hS hs (by rw [t_lt] at c; exact c) (u := x.1 42 (x.1 100 4).toNatClampNeg) (fun q => absurd q hu) e2 e3 e1
  exact h (by rw [t_lt] at c; exact c) y (by rw [ey]; exact fm_si (fm_rf _ _) ⟨rfl, rfl⟩) e1 g1 g2 g3 (by rw [ey]; exact fm_si h0 (by unfold sR; omega))
theorem kf_need (hq : kV q) (h0 : fm sR x0 x) (w : Int32) (hx : (¬ x.1 23 (x.1 100 4).toNatClampNeg = w ∨ 700 ≤ nx x) → RX x0 X) (hS : SV x m) (hw : ¬ w = 0) (hu : FR x) (h : x.1 23 (x.1 100 4).toNatClampNeg = w → nx x < 700 → ∀ y, fm (fun c k => c = 100 ∧ k = 4) x y → nx y = nx x + 1 → SV y m → FR y → La x y → fm sR x0 y → Fv y) : KE G q (d + 7) zk_X7_need 0 [(0, vr 100), (1, vi w)] [] x (rv Fv) X := by
  have k7 : (700 : Int32).toInt = 700 := rfl
  have g32 : RX x0 X → ∀ s : Int32, ¬ s = 0 → KE G q (d + 7) zk_X7_need 32 [(0, vr 100)] [vi s, vr 100] x (rv Fv) X := fun hx s hs9 => kg_X7_need_32 hq _ (kp_refuse hq _ (RB_at hS.1) h0 hx hs9)
  have g18 : RX x0 X → KE G q (d + 7) zk_X7_need 18 [(0, vr 100), (1, vi w)] [] x (rv Fv) X := fun hx => kg_X7_need_18 hq _ (kp_sort hq hS.1 ⟨fun _ => g32 hx _ (by decide), fun _ => g32 hx _ (by decide)⟩)
  refine kg_X7_need_0 hq _ (kp_sort hq hS.1 ⟨fun c => g18 (hx (Or.inl c)), fun cw => ⟨fun c y ey => rv_i ?_, fun c => g18 (hx (Or.inr (by rw [t_lt, k7] at c; unfold nx; omega)))⟩⟩)
  obtain ⟨e1, e2, e3⟩ := nx_si hS.1 ey
  unfold FR at hu
  obtain ⟨g1, g2, g3⟩ := SV_adv hS (by rw [cw]; exact hw) (by rw [t_lt] at c; exact c) (u := x.1 42 (x.1 100 4).toNatClampNeg) (fun q => absurd q (by rw [hu]; decide)) e2 e3 e1
  exact h cw (by rw [t_lt] at c; exact c) y (by rw [ey]; exact fm_si (fm_rf _ _) ⟨rfl, rfl⟩) e1 g1 g2 g3 (by rw [ey]; exact fm_si h0 (by unfold sR; omega))
theorem kf_needFor (hq : kV q) (h0 : fm sR x0 x) (w u : Int32) (hx : (¬ x.1 23 (x.1 100 4).toNatClampNeg = w ∨ 700 ≤ nx x) → RX x0 X) (hS : SV x m) (hw : ¬ w = 0) (hu : u = 12 → 2 ≤ (x.1 100 4).toNatClampNeg ∧ x.1 42 ((x.1 100 4).toNatClampNeg - 2) = 7) (h : x.1 23 (x.1 100 4).toNatClampNeg = w → nx x < 700 → ∀ y, fm (fun c k => (c = 42 ∧ k = (x.1 100 4).toNatClampNeg) ∨ (c = 100 ∧ k = 4)) x y → y.1 42 (x.1 100 4).toNatClampNeg = u → nx y = nx x + 1 → SV y m → FR y → La x y → fm sR x0 y → tk y (x.1 100 4) → F (x.1 100 4) y) : KE G q (d + 7) zk_X7_needFor 0 [(0, vr 100), (1, vi w), (2, vi u)] [] x (ri F) X := by
  have g35 : x.1 23 (x.1 100 4).toNatClampNeg = w → (x.1 100 4).toInt < 700 → KE G q (d + 7) zk_X7_needFor 35 [(0, vr 100), (2, vi u)] [] x (ri F) X := by
    intro cw c
    refine kg_X7_needFor_35 hq _ ⟨RB_at hS.1, fun x2 e2 y ey => ?_⟩
    have f4 : x2.1 100 4 = x.1 100 4 := by rw [e2]; (simp only [si_get, sfl_get, Nat.reduceEqDiff, eq_self, and_false, false_and, and_true, true_and, if_true, if_false, reduceIte, reduceCtorEq])
    rw [f4] at ey
    have y4 : y.1 100 4 = x.1 100 4 + 1 := by rw [ey]; (simp only [si_get, sfl_get, Nat.reduceEqDiff, eq_self, and_false, false_and, and_true, true_and, if_true, if_false, reduceIte, reduceCtorEq])
    have yN : nx y = nx x + 1 := by unfold nx; rw [y4]; exact (nx_1 hS.1).1
    have er : y.1 100 4 - 1 = x.1 100 4 := by rw [y4]; exact Int32.add_sub_cancel _ _
    have ff : fm (fun c k => (c = 42 ∧ k = (x.1 100 4).toNatClampNeg) ∨ (c = 100 ∧ k = 4)) x y := by rw [ey, e2]; exact fm_si (fm_si (fm_rf _ _) (Or.inl ⟨rfl, rfl⟩)) (Or.inr ⟨rfl, rfl⟩)
    have eu : y.1 42 (x.1 100 4).toNatClampNeg = u := by rw [ey, e2]; (simp only [si_get, sfl_get, Nat.reduceEqDiff, eq_self, and_false, false_and, and_true, true_and, if_true, if_false, reduceIte, reduceCtorEq])
    have hlt := RB_lt hS.1 (by rw [cw]; exact hw)
    obtain ⟨g1, g2, g3⟩ := SV_adv hS (by rw [cw]; exact hw) c hu ff eu yN
    rw [er]
    refine ri_i (h cw c y ff eu yN g1 g2 g3 (by rw [ey, e2]; exact fm_si (fm_si h0 (by unfold sR; omega)) (by unfold sR; omega)) ⟨hS.1.2.1, ?_⟩)
    rw [ff 20 7 (by omega)]; exact hlt
  have g18 : (¬ x.1 23 (x.1 100 4).toNatClampNeg = w ∨ ¬ (x.1 100 4).toInt < 700) → KE G q (d + 7) zk_X7_needFor 18 [(0, vr 100), (1, vi w), (2, vi u)] [] x (ri F) X := by
    intro ho
    have k7 : (700 : Int32).toInt = 700 := rfl
    have hx := hx (ho.imp id (fun z => by unfold nx; omega))
    have g32 : ∀ s : Int32, ¬ s = 0 → KE G q (d + 7) zk_X7_needFor 32 [(0, vr 100), (2, vi u)] [vi s, vr 100] x (ri F) X := fun s hs9 => kg_X7_needFor_32 hq _ _ (kp_refuse hq _ (RB_at hS.1) h0 hx hs9)
    exact kg_X7_needFor_18 hq _ _ (kp_sort hq hS.1 ⟨fun _ => g32 _ (by decide), fun _ => g32 _ (by decide)⟩)
  exact kg_X7_needFor_0 hq _ _ (kp_sort hq hS.1 ⟨fun c => g18 (Or.inl c), fun cw => ⟨fun c => g35 cw (by rw [t_lt] at c; exact c), fun c => g18 (Or.inr (by rw [t_lt] at c; exact c))⟩⟩)
end KRDF
end
section
/-! what the class notes of names' uses, by what is told: HAw, what an event makes of the uses; HB, whether an event tells of a use -/
abbrev nn (x : gd) : Nat := (x.1 100 4).toNatClampNeg
def HAw (sN : Nat → Nat → Bool) (U : Nat → Int32) (n : Nat) (E : gV) (v : Nat × Nat × Nat) : Prop :=
  (v.1 = 3 → v.2.1 < n ∧ (kfi sN E.1 v.2.1 = none → U v.2.1 = 3)) ∧
  (v.1 = 6 → v.2.1 < n ∧ U v.2.1 = 6) ∧
  (v.1 = 7 → v.2.1 < n ∧ (U v.2.1 = 7 ∨ U v.2.1 = 9)) ∧
  (v.1 = 12 → v.2.1 < n ∧ U v.2.1 = 12 ∧ v.2.1 = v.2.2 + 2) ∧
  (v.1 = 23 → v.2.1 < n ∧ ((∃ k ∈ E.1.take (E.1.length - E.2.1.headD 0), sN k.1 v.2.1 = true) → U v.2.1 = 2)) ∧
  (v.1 = 24 ∨ v.1 = 25 → v.2.1 < n ∧ (kfi sN E.1 v.2.1 = none → U v.2.1 = 6)) ∧
  (v.1 = 26 → kfi sN E.1 v.2.1 = none → ∃ j, j < n ∧ (U j = 9 ∨ U j = 10)) ∧
  (v.1 = 27 → v.2.2 < n ∧ (kfi sN E.1 v.2.2 = none → (kfi sN E.1 v.2.1 = none → U v.2.2 = 8) ∧ (¬ kfi sN E.1 v.2.1 = none → U v.2.2 = 6))) ∧
  (v.1 = 27 → v.2.1 < n ∧ (kfi sN E.1 v.2.1 = none → U v.2.1 = 6)) ∧
  (v.1 = 65 ∨ v.1 = 66 → v.2.2 < n ∧ U v.2.2 = 4) ∧
  (v.1 = 67 → v.2.2 < n ∧ U v.2.2 = 5) ∧
  (v.1 = 70 → v.2.2 < n ∧ U v.2.2 = 13) ∧
  (v.1 = 31 ∨ v.1 = 32 ∨ v.1 = 33 ∨ v.1 = 34 → v.2.1 < n ∧ U v.2.1 = 1) ∧
  (v.1 = 32 → v.2.2 < n ∧ U v.2.2 = 11)
def HB (sN : Nat → Nat → Bool) (E : gV) (v : Nat × Nat × Nat) (j : Nat) (u : Int32) : Prop :=
  (v.1 = 3 ∧ u = 3 ∧ j = v.2.1 ∧ kfi sN E.1 v.2.1 = none) ∨
  (v.1 = 6 ∧ u = 6 ∧ j = v.2.1) ∨
  (v.1 = 7 ∧ u = 7 ∧ j = v.2.1) ∨
  (v.1 = 12 ∧ u = 12 ∧ j = v.2.1 ∧ j = v.2.2 + 2) ∨
  (v.1 = 23 ∧ u = 2 ∧ ∃ k ∈ E.1.take (E.1.length - E.2.1.headD 0), sN k.1 v.2.1 = true) ∨
  ((v.1 = 24 ∨ v.1 = 25) ∧ u = 6 ∧ j = v.2.1 ∧ kfi sN E.1 v.2.1 = none) ∨
  (v.1 = 26 ∧ kfi sN E.1 v.2.1 = none ∧ (u = 6 ∨ u = 9 ∨ u = 10)) ∨
  (v.1 = 27 ∧ u = 8 ∧ kfi sN E.1 v.2.2 = none ∧ kfi sN E.1 v.2.1 = none) ∨
  (v.1 = 27 ∧ u = 6 ∧ j = v.2.2 ∧ kfi sN E.1 v.2.2 = none ∧ ¬ kfi sN E.1 v.2.1 = none) ∨
  (v.1 = 27 ∧ u = 6 ∧ j = v.2.1 ∧ kfi sN E.1 v.2.1 = none) ∨
  ((v.1 = 65 ∨ v.1 = 66) ∧ u = 4 ∧ j = v.2.2) ∨
  (v.1 = 67 ∧ u = 5 ∧ j = v.2.2) ∨
  (v.1 = 70 ∧ u = 13 ∧ j = v.2.2) ∨
  ((v.1 = 31 ∨ v.1 = 32 ∨ v.1 = 33 ∨ v.1 = 34) ∧ u = 1 ∧ j = v.2.1) ∨
  (v.1 = 32 ∧ u = 11 ∧ j = v.2.2)
def HAs (sN : Nat → Nat → Bool) (U : Nat → Int32) (n : Nat) : gU → gV → Prop
  | [], _ => True
  | v :: L, E => HAw sN U n E v ∧ HAs sN U n L (exV E v)
def HBs (sN : Nat → Nat → Bool) : gU → gV → Nat → Int32 → Prop
  | [], _, _, _ => False
  | v :: L, E, j, u => HB sN E v j u ∨ HBs sN L (exV E v) j u
section MRK
variable {sN : Nat → Nat → Bool} {U U' : Nat → Int32} {n n' : Nat} {E : gV} {v : Nat × Nat × Nat} {L M : gU} {j : Nat} {u : Int32}
theorem HAs_app : ∀ {L : gU} {E : gV}, HAs sN U n (L ++ M) E ↔ HAs sN U n L E ∧ HAs sN U n M (exs L E) := by
  intro L
  induction L with
  | nil => intro E; exact ⟨fun h => ⟨trivial, h⟩, fun h => h.2⟩
  | cons v L ih =>
    intro E
    show HAw sN U n E v ∧ HAs sN U n (L ++ M) (exV E v) ↔ (HAw sN U n E v ∧ HAs sN U n L (exV E v)) ∧ HAs sN U n M (exs L (exV E v))
    rw [ih, and_assoc]
theorem HBs_app : ∀ {L : gU} {E : gV}, HBs sN (L ++ M) E j u ↔ HBs sN L E j u ∨ HBs sN M (exs L E) j u := by
  intro L
  induction L with
  | nil => intro E; exact ⟨Or.inr, fun h => h.elim (fun q => q.elim) id⟩
  | cons v L ih =>
    intro E
    show HB sN E v j u ∨ HBs sN (L ++ M) (exV E v) j u ↔ (HB sN E v j u ∨ HBs sN L (exV E v) j u) ∨ HBs sN M (exs L (exV E v)) j u
    rw [ih, or_assoc]
theorem HAs_one : HAs sN U n [v] E ↔ HAw sN U n E v := ⟨fun h => h.1, fun h => ⟨h, trivial⟩⟩
theorem HBs_one : HBs sN [v] E j u ↔ HB sN E v j u := ⟨fun h => h.elim id (fun q => q.elim), Or.inl⟩
theorem HA_up (h : HAw sN U n E v) (hn : n ≤ n') (e : ∀ j, j < n → U' j = U j) : HAw sN U' n' E v := by
  obtain ⟨h1, h2, h3, h4, h5, h6, h7, h8, h9, h10, h11, h12, h13, h14⟩ := h
  have up : ∀ {t : Nat}, t < n → t < n' := fun q => Nat.lt_of_lt_of_le q hn
  refine ⟨fun c => ⟨up (h1 c).1, fun z => ?_⟩, fun c => ⟨up (h2 c).1, ?_⟩, fun c => ⟨up (h3 c).1, ?_⟩, fun c => ⟨up (h4 c).1, ?_, (h4 c).2.2⟩, fun c => ⟨up (h5 c).1, fun z => ?_⟩, fun c => ⟨up (h6 c).1, fun z => ?_⟩, fun c z => ?_, fun c => ⟨up (h8 c).1, fun z => ⟨fun z1 => ?_, fun z1 => ?_⟩⟩, fun c => ⟨up (h9 c).1, fun z => ?_⟩, fun c => ⟨up (h10 c).1, ?_⟩, fun c => ⟨up (h11 c).1, ?_⟩, fun c => ⟨up (h12 c).1, ?_⟩, fun c => ⟨up (h13 c).1, ?_⟩, fun c => ⟨up (h14 c).1, ?_⟩⟩
  · rw [e _ (h1 c).1]; exact (h1 c).2 z
  · rw [e _ (h2 c).1]; exact (h2 c).2
  · rw [e _ (h3 c).1]; exact (h3 c).2
  · rw [e _ (h4 c).1]; exact (h4 c).2.1
  · rw [e _ (h5 c).1]; exact (h5 c).2 z
  · rw [e _ (h6 c).1]; exact (h6 c).2 z
  · obtain ⟨j, a, b⟩ := h7 c z
    exact ⟨j, up a, by rw [e _ a]; exact b⟩
  · rw [e _ (h8 c).1]; exact ((h8 c).2 z).1 z1
  · rw [e _ (h8 c).1]; exact ((h8 c).2 z).2 z1
  · rw [e _ (h9 c).1]; exact (h9 c).2 z
  · rw [e _ (h10 c).1]; exact (h10 c).2
  · rw [e _ (h11 c).1]; exact (h11 c).2
  · rw [e _ (h12 c).1]; exact (h12 c).2
  · rw [e _ (h13 c).1]; exact (h13 c).2
  · rw [e _ (h14 c).1]; exact (h14 c).2
theorem HAs_up (hn : n ≤ n') (e : ∀ j, j < n → U' j = U j) : ∀ {L : gU} {E : gV}, HAs sN U n L E → HAs sN U' n' L E := by
  intro L
  induction L with
  | nil => intro E _; exact trivial
  | cons v L ih => intro E h; exact ⟨HA_up h.1 hn e, ih h.2⟩
/-- events that tell of no use -/
def dull (v : Nat × Nat × Nat) : Prop := ∀ k ∈ [3, 6, 7, 12, 23, 24, 25, 26, 27, 65, 66, 67, 70, 31, 32, 33, 34], ¬ v.1 = k
theorem HA_dull (h : dull v) : HAw sN U n E v := by
  have no : ∀ k : Nat, k ∈ [3, 6, 7, 12, 23, 24, 25, 26, 27, 65, 66, 67, 70, 31, 32, 33, 34] → v.1 = k → False := fun k hk c => h k hk c
  refine ⟨fun c => (no 3 (by decide) c).elim, fun c => (no 6 (by decide) c).elim, fun c => (no 7 (by decide) c).elim, fun c => (no 12 (by decide) c).elim, fun c => (no 23 (by decide) c).elim, fun c => (c.elim (no 24 (by decide)) (no 25 (by decide))).elim, fun c => (no 26 (by decide) c).elim, fun c => (no 27 (by decide) c).elim, fun c => (no 27 (by decide) c).elim, fun c => (c.elim (no 65 (by decide)) (no 66 (by decide))).elim, fun c => (no 67 (by decide) c).elim, fun c => (no 70 (by decide) c).elim, fun c => ?_, fun c => (no 32 (by decide) c).elim⟩
  rcases c with c | c | c | c
  · exact (no 31 (by decide) c).elim
  · exact (no 32 (by decide) c).elim
  · exact (no 33 (by decide) c).elim
  · exact (no 34 (by decide) c).elim
theorem HA_3 {a b : Nat} : HAw sN U n E (3, a, b) ↔ a < n ∧ (kfi sN E.1 a = none → U a = 3) := by unfold HAw; simp
theorem HA_6 {a b : Nat} : HAw sN U n E (6, a, b) ↔ a < n ∧ U a = 6 := by unfold HAw; simp
theorem HA_7 {a b : Nat} : HAw sN U n E (7, a, b) ↔ a < n ∧ (U a = 7 ∨ U a = 9) := by unfold HAw; simp
theorem HA_12 {a b : Nat} : HAw sN U n E (12, a, b) ↔ a < n ∧ U a = 12 ∧ a = b + 2 := by unfold HAw; simp
end MRK
/-- from x to y, M was read and noted -/
def UR (sN : Nat → Nat → Bool) (E : gV) (x y : gd) (M : gU) : Prop := HAs sN (y.1 42) (nn y) M E ∧ ∀ j, nn x ≤ j → j < nn y → ¬ y.1 42 j = 0 → HBs sN M E j (y.1 42 j)
section URS
variable {sN : Nat → Nat → Bool} {E : gV} {v : Nat × Nat × Nat} {M N : gU} {x y z : gd}
theorem nn_is (h : 0 ≤ nx x) : ((nn x : Nat) : Int) = nx x := by
  unfold nn nx at *
  rw [t_cl]; omega
theorem La_nn (h0 : 0 ≤ nx x) (h : La x y) : nn x ≤ nn y ∧ ∀ j, j < nn x → y.1 42 j = x.1 42 j := by
  have a := nn_is h0
  have b := nn_is (x := y) (by have := h.2.1; omega)
  have c := h.2.1
  exact ⟨by omega, fun j hj => h.2.2 j (by omega)⟩
theorem UR_app (h0 : 0 ≤ nx y) (h : UR sN E x y M) (l : La y z) (g : UR sN (exs M E) y z N) : UR sN E x z (M ++ N) := by
  obtain ⟨n1, n2⟩ := La_nn h0 l
  refine ⟨HAs_app.mpr ⟨HAs_up n1 n2 h.1, g.1⟩, fun j h1 h2 h3 => HBs_app.mpr ?_⟩
  by_cases c : j < nn y
  · rw [n2 j c] at h3 ⊢
    exact Or.inl (h.2 j h1 c h3)
  · exact Or.inr (g.2 j (by omega) h2 h3)
/-- nothing but the place is the same -/
theorem UR_0 (e : nn y = nn x) : UR sN E x y [] := ⟨trivial, fun j h1 h2 => by omega⟩
theorem UR_same (h : UR sN E x y M) (e4 : nn z = nn y) (e : ∀ j, j < nn y → z.1 42 j = y.1 42 j) : UR sN E x z M := by
  refine ⟨by rw [e4]; exact HAs_up (Nat.le_refl _) e h.1, fun j h1 h2 h3 => ?_⟩
  rw [e4] at h2
  rw [e j h2] at h3 ⊢
  exact h.2 j h1 h2 h3
theorem UR_dull (h : UR sN E x y M) (hv : dull v) : UR sN E x y (M ++ [v]) := ⟨HAs_app.mpr ⟨h.1, HAs_one.mpr (HA_dull hv)⟩, fun j h1 h2 h3 => HBs_app.mpr (Or.inl (h.2 j h1 h2 h3))⟩
/-- a token without a use is passed -/
theorem UR_tok (h0 : 0 ≤ nx y) (h : UR sN E x y M) (l : La y z) (e : nn z = nn y + 1) (u : z.1 42 (nn y) = 0) : UR sN E x z M := by
  obtain ⟨n1, n2⟩ := La_nn h0 l
  refine ⟨HAs_up n1 n2 h.1, fun j h1 h2 h3 => ?_⟩
  by_cases c : j < nn y
  · rw [n2 j c] at h3 ⊢
    exact h.2 j h1 c h3
  · have : j = nn y := by omega
    rw [this] at h3
    exact absurd u h3
end URS
/-- the class's tokens, up to e, are those of K and V; names alike by sN -/
def smk (x : gd) (a b : Nat) : Prop := x.1 27 a = x.1 27 b ∧ x.1 26 a = x.1 26 b ∧ ∀ i, i < (x.1 26 a).toNatClampNeg → x.1 21 ((x.1 24 a).toNatClampNeg + i) = x.1 21 ((x.1 24 b).toNatClampNeg + i)
def KA (K V : Nat → Int32) (sN : Nat → Nat → Bool) (e : Nat) (x : gd) : Prop := (∀ j, j ≤ e → kc (x.1 23 j) = K j) ∧ (∀ j, j ≤ e → K j = 2 → x.1 27 j = V j) ∧ (∀ a b, a ≤ e → b ≤ e → K a = 1 → K b = 1 → (smk x a b ↔ sN a b = true)) ∧ e ≤ 700 ∧ (K e = 0 ∨ K e = 3 ∨ e = 700)
section KAS
variable {K V : Nat → Int32} {sN : Nat → Nat → Bool} {e : Nat} {x y : gd}
theorem KA_fm (h : KA K V sN e x) (f : ∀ c k, 20 ≤ c → c < 40 → y.1 c k = x.1 c k) : KA K V sN e y := by
  have r : ∀ c, 20 ≤ c → c < 40 → y.1 c = x.1 c := fun c h1 h2 => by funext k; exact f c k h1 h2
  unfold KA smk at h ⊢
  rw [r 23 (by omega) (by omega), r 27 (by omega) (by omega), r 26 (by omega) (by omega), r 24 (by omega) (by omega), r 21 (by omega) (by omega)]
  exact h
/-- a kind, and the class's number of it -/
theorem KA_k (h : KA K V sN e x) {j : Nat} (hj : j ≤ e) (c : Int32) (hc : ¬ kc c = -1) : x.1 23 j = c ↔ K j = kc c := by
  rw [← h.1 j hj]
  exact ⟨fun q => by rw [q], fun q => kc_i q hc⟩
/-- behind a token that is one, and not one too many, there is another -/
theorem KA_on (h : KA K V sN e x) {j : Nat} (hj : j ≤ e) (h7 : j < 700) (h0 : ¬ K j = 0) (h3 : ¬ K j = 3) : j + 1 ≤ e := by
  by_cases c : j = e
  · rw [c] at h0 h3 h7
    rcases h.2.2.2.2 with z | z | z
    · exact absurd z h0
    · exact absurd z h3
    · omega
  · omega
end KAS
section KSN
variable {G : kG} {q : kP} {d : Nat} {x : gd} {F : Int32 → gd → Prop} {K V : Nat → Int32} {sN : Nat → Nat → Bool} {e : Nat}
theorem kf_sameName (hq : kV q) (hT : kT x) (a b : Int32) (ha : tk x a) (hb : tk x b) (h : ∀ r, (¬ r = 0 ↔ smk x a.toNatClampNeg b.toNatClampNeg) → F r x) : KT G q d zk_X9_sameName 0 [(0, vr 20), (1, vi a), (2, vi b)] [] x (ri F) := by
  obtain ⟨va, a1, a2, a3⟩ := kT_at hT ha
  obtain ⟨vb, b1, b2, b3⟩ := kT_at hT hb
  have no : ∀ r : Int32, r = 0 → ¬ smk x a.toNatClampNeg b.toNatClampNeg → F r x := fun r e n => h r ⟨fun z => absurd e z, fun z => absurd z n⟩
  have ua := t_cl (x.1 26 a.toNatClampNeg)
  have pa := t_cl (x.1 24 a.toNatClampNeg)
  have pb := t_cl (x.1 24 b.toNatClampNeg)
  have loop : ∀ (n : Nat) (i : Int32), 0 ≤ i.toInt → x.1 27 a.toNatClampNeg = x.1 27 b.toNatClampNeg → x.1 26 a.toNatClampNeg = x.1 26 b.toNatClampNeg → (x.1 26 a.toNatClampNeg).toInt - i.toInt ≤ n → (∀ t, t < i.toNatClampNeg → x.1 21 ((x.1 24 a.toNatClampNeg).toNatClampNeg + t) = x.1 21 ((x.1 24 b.toNatClampNeg).toNatClampNeg + t)) → KT G q d zk_X9_sameName 34 [(0, vr 20), (1, vi a), (2, vi b), (3, vi i)] [] x (ri F) := by
    intro n
    induction n with
    | zero =>
      intro i i0 hv hs hn ht
      have ui := t_cl i
      refine kg_X9_sameName_34 hq _ _ _ ⟨va, fun _ => ri_i (h _ ⟨fun _ => ⟨hv, hs, fun t hl => ht t (by omega)⟩, fun _ => by decide⟩), fun c => ?_⟩
      exfalso; rw [t_le] at c; omega
    | succ n ih =>
      intro i i0 hv hs hn ht
      have ui := t_cl i
      refine kg_X9_sameName_34 hq _ _ _ ⟨va, fun c => ri_i (h _ ⟨fun _ => ⟨hv, hs, fun t hl => ht t (by rw [t_le] at c; omega)⟩, fun _ => by decide⟩), fun c => ?_⟩
      rw [t_le] at c
      have e1 : (i + 1).toInt = i.toInt + 1 := t_add (by show _ ≤ _ + (1 : Int); omega) (by show _ + (1 : Int) ≤ _; omega)
      have e1c : (i + 1).toNatClampNeg = i.toNatClampNeg + 1 := by rw [t_cl]; omega
      have hs2 : (x.1 26 a.toNatClampNeg).toInt = (x.1 26 b.toNatClampNeg).toInt := by rw [hs]
      have e2 := t_add (a := x.1 24 a.toNatClampNeg) (b := i) (by omega) (by omega)
      have e3 := t_add (a := x.1 24 b.toNatClampNeg) (b := i) (by omega) (by omega)
      have e2c : (x.1 24 a.toNatClampNeg + i).toNatClampNeg = (x.1 24 a.toNatClampNeg).toNatClampNeg + i.toNatClampNeg := by rw [t_cl]; omega
      have e3c : (x.1 24 b.toNatClampNeg + i).toNatClampNeg = (x.1 24 b.toNatClampNeg).toNatClampNeg + i.toNatClampNeg := by rw [t_cl]; omega
      rw [e2c, e3c]
      refine ⟨va, by rw [vp_in_iff]; omega, vb, by rw [vp_in_iff]; omega, fun c2 => ih _ (by omega) hv hs (by omega) (fun t hl => ?_), fun c2 => ri_i (no _ rfl (fun z => c2 (z.2.2 i.toNatClampNeg (by omega))))⟩
      by_cases ct : t = i.toNatClampNeg
      · rw [ct]; exact c2
      · exact ht t (by omega)
  exact kg_X9_sameName_0 hq _ _ ⟨va, vb, fun c => ri_i (no _ rfl (fun z => c z.1)), fun cv => ⟨va, vb, fun c => loop ((x.1 26 a.toNatClampNeg).toInt).toNat _ (by decide) cv c (by show _ - (0 : Int) ≤ _; omega) (fun t hl => absurd hl (Nat.not_lt_zero _)), fun c => ri_i (no _ rfl (fun z => c z.2.1))⟩⟩
end KSN
end
section
/-! the locals that are known, on the class's side -/
section KSO
variable {G : kG} {q : kP} {d : Nat} {x : gd} {F : Int32 → gd → Prop} {K V : Nat → Int32} {sN : Nat → Nat → Bool} {e : Nat}
/-- the locals that are known, told last first -/
def KV' (K : Nat → Int32) (e : Nat) (x : gd) (E : gV) : Prop := (x.1 100 9).toInt = E.1.length ∧ ∀ p k, E.1[p]? = some k → (x.1 109 (E.1.length - 1 - p)).toNatClampNeg = k.1 ∧ K k.1 = 1 ∧ k.1 ≤ e
theorem KV_fm {y : gd} {E : gV} (h : KV' K e x E) (f9 : y.1 100 9 = x.1 100 9) (f : ∀ k, y.1 109 k = x.1 109 k) : KV' K e y E := by
  unfold KV' at h ⊢
  rw [f9]
  exact ⟨h.1, fun p k hp => by rw [f]; exact h.2 p k hp⟩
theorem kfi_at : ∀ {l : gK} {p : Nat} {k : Nat × Nat} {t : Nat}, (∀ p' k', p' < p → l[p']? = some k' → ¬ sN k'.1 t = true) → l[p]? = some k → sN k.1 t = true → kfi sN l t = some (l.length - 1 - p) := by
  intro l
  induction l with
  | nil => intro p k t _ h; exact absurd h (by simp)
  | cons a l ih =>
    intro p k t no hk hs
    cases p with
    | zero =>
      have e1 : a = k := Option.some.inj hk
      show (if sN a.1 t = true then some l.length else kfi sN l t) = _
      rw [e1, if_pos hs]
      rfl
    | succ p =>
      have na := no 0 a (by omega) rfl
      show (if sN a.1 t = true then some l.length else kfi sN l t) = _
      have r := ih (p := p) (k := k) (t := t) (fun p' k' hp' hk' => no (p' + 1) k' (Nat.succ_lt_succ hp') hk') hk hs
      rw [if_neg na, r, List.length_cons]
      congr 1
      omega
theorem kfi_none : ∀ {l : gK} {t : Nat}, (∀ (p : Nat) (k : Nat × Nat), l[p]? = some k → ¬ sN k.1 t = true) → kfi sN l t = none := by
  intro l
  induction l with
  | nil => intro t _; rfl
  | cons a l ih =>
    intro t no
    show (if sN a.1 t = true then some l.length else kfi sN l t) = _
    rw [if_neg (no 0 a rfl), ih (fun p k hk => no (p + 1) k hk)]
theorem take_ex {l : gK} {m : Nat} {P : Nat × Nat → Prop} : (∃ k ∈ l.take m, P k) ↔ ∃ p k, p < m ∧ l[p]? = some k ∧ P k := by
  constructor
  · rintro ⟨k, hk, hp⟩
    obtain ⟨i, hi, e⟩ := List.getElem_of_mem hk
    rw [List.length_take] at hi
    refine ⟨i, k, by omega, ?_, hp⟩
    rw [List.getElem_take] at e
    rw [List.getElem?_eq_getElem (by omega), e]
  · rintro ⟨i, k, hi, hk, hp⟩
    refine ⟨k, List.mem_of_getElem? (i := i) ?_, hp⟩
    rw [List.getElem?_take, if_pos hi]
    exact hk
end KSO
end
section
/-! the search of a local -/
section KSO
variable {G : kG} {q : kP} {d : Nat} {x : gd} {F : Int32 → gd → Prop} {K V : Nat → Int32} {sN : Nat → Nat → Bool} {e : Nat}
theorem kk_dn {i : Int32} (h0 : 0 ≤ i.toInt) (h8 : i.toInt ≤ 8) : (i + (-1)).toInt = i.toInt + (-1) := by rw [t_add (by rw [tm1]; omega) (by rw [tm1]; omega), tm1]
theorem kf_knownFrom {E : gV} (hq : kV q) (hT : kT x) (hK : KN x) (hA : KA K V sN e x) (hE : KV' K e x E) (f t : Int32) (hf : 0 ≤ f.toInt) (ht : tk x t) (hte : t.toNatClampNeg ≤ e) (ht1 : K t.toNatClampNeg = 1) (h : ∀ r : Int32, ((r = -1 ∧ ∀ (p : Nat) (k : Nat × Nat), p < E.1.length - f.toNatClampNeg → E.1[p]? = some k → ¬ sN k.1 t.toNatClampNeg = true) ∨ ∃ n : Nat, r.toInt = n ∧ f.toInt ≤ n ∧ n < E.1.length ∧ kfi sN E.1 t.toNatClampNeg = some n ∧ ∃ (p : Nat) (k : Nat × Nat), p < E.1.length - f.toNatClampNeg ∧ E.1[p]? = some k ∧ sN k.1 t.toNatClampNeg = true) → F r x) : KT G q (d + 1) zk_X7_knownFrom 0 [(0, vr 100), (1, vi f), (2, vi t)] [] x (ri F) := by
  obtain ⟨⟨k0, k8⟩, hk⟩ := hK
  obtain ⟨e9, he⟩ := hE
  have uf := t_cl f
  have loop : ∀ (n p : Nat) (i : Int32), i.toInt + 1 + p = E.1.length → p + n = E.1.length → (∀ p' k', p' < p → E.1[p']? = some k' → ¬ sN k'.1 t.toNatClampNeg = true) → KT G q (d + 1) zk_X7_knownFrom 7 [(0, vr 100), (1, vi f), (2, vi t), (3, vi i)] [] x (ri F) := by
    intro n
    induction n with
    | zero =>
      intro p i hi hp no
      refine kg_X7_knownFrom_7 hq _ _ _ ⟨fun _ => ri_i (h _ (Or.inl ⟨rfl, fun p' k' a b => no p' k' (by omega) b⟩)), fun c => ?_⟩
      exfalso; rw [t_lt] at c; omega
    | succ n ih =>
      intro p i hi hp no
      refine kg_X7_knownFrom_7 hq _ _ _ ⟨fun c => ri_i (h _ (Or.inl ⟨rfl, fun p' k' a b => no p' k' ?_ b⟩)), fun c => ?_⟩
      · rw [t_lt] at c; omega
      rw [t_lt] at c
      have ui := t_cl i
      have f0 : 0 ≤ i.toInt := by omega
      have f8 : i.toInt ≤ 8 := by omega
      have pl : p < E.1.length := by omega
      obtain ⟨k, ek⟩ : ∃ k, E.1[p]? = some k := ⟨_, List.getElem?_eq_getElem pl⟩
      have ei : E.1.length - 1 - p = i.toNatClampNeg := by omega
      have v1 : vp_in i 8 := by rw [vp_in_iff]; omega
      have v2 : ((i.toNatClampNeg : Nat) : Int) < (x.1 100 9).toInt := by omega
      have v3 : i.toInt + (-1) + 1 + ((p + 1 : Nat) : Int) = E.1.length := by omega
      have v4 : i.toInt = ((i.toNatClampNeg : Nat) : Int) ∧ f.toInt ≤ ((i.toNatClampNeg : Nat) : Int) ∧ i.toNatClampNeg < E.1.length ∧ p < E.1.length - f.toNatClampNeg := by omega
      have v5 : p + 1 + n = E.1.length := by omega
      obtain ⟨q1, q2, q3⟩ := he p k ek
      rw [ei] at q1
      refine ⟨v1, kf_sameName hq hT _ _ (hk _ v2) ht (fun r hr => ?_)⟩
      rw [q1, hA.2.2.1 _ _ q3 hte q2 ht1] at hr
      refine ⟨fun c0 => ih (p + 1) _ (by rw [kk_dn f0 f8]; exact v3) v5 (fun p' k' a b => ?_), fun c0 => ri_i (h _ (Or.inr ⟨i.toNatClampNeg, v4.1, v4.2.1, v4.2.2.1, ?_, p, k, v4.2.2.2, ek, hr.mp c0⟩))⟩
      · by_cases cp : p' = p
        · rw [cp, ek] at b
          rw [← Option.some.inj b]
          exact fun z => hr.mpr z c0
        · exact no p' k' (Nat.lt_of_le_of_ne (Nat.le_of_lt_succ a) cp) b
      · rw [kfi_at no ek (hr.mp c0), ei]
  have e1 : (x.1 100 9 - 1).toInt = (x.1 100 9).toInt - 1 := t_sub (by show _ ≤ _ - (1 : Int); omega) (by show _ - (1 : Int) ≤ _; omega)
  exact kg_X7_knownFrom_0 hq _ _ (loop E.1.length 0 _ (by omega) (by omega) (fun p' k' a => absurd a (Nat.not_lt_zero _)))
end KSO
end
section
/-! the class: sums are read -/
def zc (x : gd) : Nat → Nat
  | 0 => 0
  | n + 1 => zc x n + (if x.1 116 n = 0 then 1 else 0)
/-- operators that are held -/
def HI (x : gd) : Prop := (0 ≤ (x.1 100 17).toInt ∧ (x.1 100 17).toInt ≤ 18) ∧ (∀ i : Nat, (i : Int) < (x.1 100 17).toInt → (¬ x.1 115 i = 2 ∧ ¬ x.1 115 i = 6) ∧ 0 ≤ (x.1 116 i).toInt ∧ (i : Int) + 1 ≤ (x.1 117 i).toInt ∧ (x.1 117 i).toInt ≤ 18) ∧ ∀ i j : Nat, i ≤ j → (j : Int) < (x.1 100 17).toInt → (x.1 117 i).toInt ≤ (x.1 117 j).toInt
def hz (x : gd) : Nat := zc x (x.1 100 17).toNatClampNeg
def DL (x : gd) : Prop := ∀ i : Nat, (i : Int) < (x.1 100 17).toInt → (x.1 117 i).toInt ≤ 16
def sSum (c k : Nat) : Prop := c = 42 ∨ (c = 60 ∧ k = 3) ∨ c = 62 ∨ c = 63 ∨ (c = 100 ∧ (k = 4 ∨ k = 17)) ∨ (115 ≤ c ∧ c ≤ 117)
def SM (x y : gd) : Prop := SU y ∧ HI y ∧ La x y ∧ fm sSum x y
section KSU
variable {G : kG} {q : kP} {d : Nat} {x x0 y z : gd} {F : Int32 → gd → Prop} {Fv : gd → Prop} {X : String → gd → Prop} {P : Option gv → gd → Prop} {m : Int}
theorem zc_eq : ∀ n : Nat, (∀ i, i < n → z.1 116 i = y.1 116 i) → zc z n = zc y n := by
  intro n
  induction n with
  | zero => intro _; rfl
  | succ n ih =>
    intro h
    show zc z n + (if z.1 116 n = 0 then 1 else 0) = zc y n + (if y.1 116 n = 0 then 1 else 0)
    rw [ih (fun i hi => h i (by omega)), h n (by omega)]
theorem HI_eq (h : HI y) (e : z.1 100 17 = y.1 100 17) (f : ∀ c k, 115 ≤ c → c ≤ 117 → z.1 c k = y.1 c k) : HI z ∧ hz z = hz y := by
  refine ⟨?_, ?_⟩
  · unfold HI at h ⊢
    rw [e]
    refine ⟨h.1, fun i hi => ?_, fun i j h1 h2 => ?_⟩
    · rw [f 115 i (by omega) (by omega), f 116 i (by omega) (by omega), f 117 i (by omega) (by omega)]; exact h.2.1 i hi
    · rw [f 117 i (by omega) (by omega), f 117 j (by omega) (by omega)]; exact h.2.2 i j h1 h2
  · unfold hz
    rw [e]
    exact zc_eq _ (fun i _ => f 116 i (by omega) (by omega))
theorem sSum_R {c k : Nat} (h : sSum c k) : sR c k := by unfold sSum at h; unfold sR; omega
def dh (x : gd) : Int32 := if x.1 100 17 ≤ 0 then 0 else x.1 117 (x.1 100 17 - 1).toNatClampNeg
theorem dh_is (hH : HI x) : (x.1 100 17).toInt ≤ (dh x).toInt ∧ 0 ≤ (dh x).toInt ∧ (dh x).toInt ≤ 18 ∧ (∀ i : Nat, (i : Int) < (x.1 100 17).toInt → (x.1 117 i).toInt ≤ (dh x).toInt) := by
  obtain ⟨⟨a0, a1⟩, a2, a3⟩ := hH
  have k0 : (0 : Int32).toInt = 0 := rfl
  unfold dh
  by_cases c : x.1 100 17 ≤ 0
  · rw [if_pos c, k0]
    rw [t_le, k0] at c
    exact ⟨by omega, by omega, by omega, fun i hi => by omega⟩
  · rw [if_neg c]
    rw [t_le, k0] at c
    have e1 : (x.1 100 17 - 1).toInt = (x.1 100 17).toInt - 1 := t_sub (by show _ ≤ _ - (1 : Int); omega) (by show _ - (1 : Int) ≤ _; omega)
    have e2 : ((x.1 100 17 - 1).toNatClampNeg : Int) = (x.1 100 17).toInt - 1 := by rw [t_cl, e1]; omega
    have g := a2 _ (show (((x.1 100 17 - 1).toNatClampNeg : Nat) : Int) < _ by omega)
    exact ⟨by omega, by omega, by omega, fun i hi => a3 _ _ (by omega) (by omega)⟩
theorem kp_depthHere (hq : kV q) (hH : HI x) (h : F (dh x) x) : KT G q d zk_X7_depthHere 0 [(0, vr 100)] [] x (ri F) := by
  obtain ⟨⟨a0, a1⟩, a2, a3⟩ := hH
  have k0 : (0 : Int32).toInt = 0 := rfl
  unfold dh at h
  refine kg_X7_depthHere_0 hq ⟨fun c => ri_i ?_, fun c => ⟨?_, ri_i ?_⟩⟩
  · rw [if_pos c] at h; exact h
  · rw [t_le, k0] at c
    have e1 : (x.1 100 17 - 1).toInt = (x.1 100 17).toInt - 1 := t_sub (by show _ ≤ _ - (1 : Int); omega) (by show _ - (1 : Int) ≤ _; omega)
    rw [vp_in_iff]; omega
  · rw [if_neg c] at h; exact h
theorem SM_rf (hS : SU x) (hH : HI x) : SM x x := ⟨hS, hH, La_rf, fm_rf _ _⟩
theorem SM_tr (a : SM x y) (b : SM y z) : SM x z := ⟨b.1, b.2.1, La_tr a.2.2.1 b.2.2.1, fm_tr a.2.2.2 b.2.2.2⟩
theorem SM_hold (a : SM x y) (f : fm (fun c k => (c = 100 ∧ k = 17) ∨ (115 ≤ c ∧ c ≤ 117)) y z) (hH : HI z) : SM x z ∧ (FR y → FR z) ∧ z.1 100 4 = y.1 100 4 := by
  have q4 : z.1 100 4 = y.1 100 4 := f _ _ (by omega)
  have la : La y z := ⟨fun c k q1 q2 => f c k (by omega), by unfold nx; rw [q4]; exact Int.le_refl _, fun j _ => f 42 j (by omega)⟩
  have S : SU z := by
    obtain ⟨⟨hT, b1, b2, b3⟩, ⟨u1, u2⟩, hp, hP⟩ := a.1
    have q7 : z.1 20 7 = y.1 20 7 := f _ _ (by omega)
    have q3 : z.1 60 3 = y.1 60 3 := f _ _ (by omega)
    unfold SU SV US RB nx mt
    rw [q4, q7, q3]
    refine ⟨⟨kT_fm hT la.1, b1, b2, b3⟩, ⟨fun j h1 h2 => ?_, fun j h1 h2 => ?_⟩, hp, fun i hi => La_PQ la (f _ _ (by omega)) (f _ _ (by omega)) (hP i hi)⟩
    · rw [f 42 j (by omega)]; exact u1 j h1 h2
    · rw [f 42 j (by omega)] at h2; rw [f 42 _ (by omega)]; exact u2 j h1 h2
  refine ⟨SM_tr a ⟨S, hH, la, fm_w f (fun c k q => by unfold sSum; omega)⟩, fun hF => ?_, q4⟩
  unfold FR at hF ⊢
  rw [q4, f 42 _ (by omega)]; exact hF
theorem SM_pass (a : SM x y) (f : fm (fun c k => c = 100 ∧ k = 4) y z) (hS : SV z (y.1 60 3).toInt) (hl : La y z) : SM x z ∧ hz z = hz y := by
  obtain ⟨g1, g2⟩ := HI_eq (z := z) a.2.1 (f _ _ (by omega)) (fun c k q1 q2 => f c k (by omega))
  refine ⟨SM_tr a ⟨?_, g1, hl, fm_w f (fun c k q => by unfold sSum; omega)⟩, g2⟩
  unfold SU
  rw [f 60 3 (by omega)]; exact hS
theorem FR_12 (h : FR x) : ¬ x.1 42 (x.1 100 4).toNatClampNeg = 12 := by unfold FR at h; rw [h]; decide
theorem zc_le : ∀ n : Nat, zc x n ≤ n := by
  intro n
  induction n with
  | zero => exact Nat.le_refl _
  | succ n ih =>
    show zc x n + (if x.1 116 n = 0 then 1 else 0) ≤ n + 1
    split <;> omega
theorem SM_rel (a : SM x y) (f : fm (fun c k => (c = 100 ∧ k = 17) ∨ (c = 60 ∧ k = 3) ∨ c = 62 ∨ c = 63) y z) (hS : SU z) (hH : HI z) : SM x z ∧ (FR y → FR z) ∧ z.1 100 4 = y.1 100 4 := by
  have q4 : z.1 100 4 = y.1 100 4 := f _ _ (by omega)
  refine ⟨SM_tr a ⟨hS, hH, ⟨fun c k q1 q2 => f c k (by omega), by unfold nx; rw [q4]; exact Int.le_refl _, fun j _ => f 42 j (by omega)⟩, fm_w f (fun c k q => by unfold sSum; omega)⟩, fun hF => ?_, q4⟩
  unfold FR at hF ⊢
  rw [q4, f 42 _ (by omega)]; exact hF
theorem KN_fm (h : KN x) (e : y.1 100 9 = x.1 100 9) (e7 : y.1 20 7 = x.1 20 7) (f : ∀ k, y.1 109 k = x.1 109 k) : KN y := by
  unfold KN tk at h ⊢
  rw [e, e7]
  exact ⟨h.1, fun i hi => by rw [f i]; exact h.2 i hi⟩
end KSU
end
section
/-! the class: the parts of sums, as the events say them -/
/-- what is told at an operator's end -/
def opE (M : gU) : Prop := ∀ v ∈ M, v.1 = 50 ∨ v.1 = 51
theorem opE_nil : opE [] := fun _ h => by cases h
theorem opE_app {M N : gU} (h : opE M) (g : opE N) : opE (M ++ N) := fun v hv => (List.mem_append.mp hv).elim (h v) (g v)
theorem opE_one {v : Nat × Nat × Nat} (h : v.1 = 50 ∨ v.1 = 51) : opE [v] := fun w hw => by rw [List.mem_singleton.mp hw]; exact h
theorem pst_c {k : Int32} (h : ∀ w ∈ [(30 : Int32), 12, 51, 52, 53, 54, 55, 56, 57, 58, 59, 60, 28], ¬ k = w) : pst k = 0 := by
  have lo : ¬ (51 ≤ k ∧ k ≤ 56) := by
    rintro ⟨a, b⟩
    rw [t_le] at a b
    have k51 : (51 : Int32).toInt = 51 := rfl
    have k52 : (52 : Int32).toInt = 52 := rfl
    have k53 : (53 : Int32).toInt = 53 := rfl
    have k54 : (54 : Int32).toInt = 54 := rfl
    have k55 : (55 : Int32).toInt = 55 := rfl
    have k56 : (56 : Int32).toInt = 56 := rfl
    have h1 := h 51 (by decide)
    have h2 := h 52 (by decide)
    have h3 := h 53 (by decide)
    have h4 := h 54 (by decide)
    have h5 := h 55 (by decide)
    have h6 := h 56 (by decide)
    rw [t_eq] at h1 h2 h3 h4 h5 h6
    omega
  unfold pst
  rw [if_neg (h 30 (by decide)), if_neg (h 12 (by decide)), if_neg lo, if_neg (fun c => c.elim (h 57 (by decide)) (h 58 (by decide))), if_neg (fun c => c.elim (h 59 (by decide)) (fun c => c.elim (h 60 (by decide)) (h 28 (by decide))))]
/-- the class's number of a kind that is a word or a sign -/
def kcv (k : Int32) : Int32 := if k < 50 then k + 30 else k - 40
/-- what an operator is in a sum -/
def oP (K : Nat → Int32) (v : Nat × Nat × Nat) : Int32 := if v.1 = 50 then (if K v.2.1 = 29 then 5 else 4) else kcv (K v.2.1)
def oPs (K : Nat → Int32) (M : gU) : List (Int32 × Int32) := M.map (fun v => (oP K v, 0))
def cPt (sN : Nat → Nat → Bool) (V K : Nat → Int32) (E : gV) (v : Nat × Nat × Nat) : Option (Int32 × Int32) :=
  if v.1 = 50 ∨ v.1 = 51 then some (oP K v, 0)
  else if v.1 = 52 then some (1, V v.2.1)
  else if v.1 = 53 then some (3, 0)
  else if v.1 = 3 then some (2, match kfi sN E.1 v.2.1 with | some p => Int32.ofNat p | none => -1)
  else if v.1 = 6 ∨ v.1 = 7 then (if E.2.1 = [] then some (6, Int32.ofNat v.2.1) else none)
  else if v.1 = 54 then some (0, 0)
  else none
def sPs (sN : Nat → Nat → Bool) (V K : Nat → Int32) (E : gV) (M : gU) : List (Int32 × Int32) := M.filterMap (cPt sN V K E)
/-- the parts written so far: no more than 800 have room -/
def PR (x : gd) (P : List (Int32 × Int32)) : Prop := (x.1 60 3).toInt = (min P.length 800 : Nat) ∧ ∀ i q, i < 800 → P[i]? = some q → x.1 62 i = q.1 ∧ x.1 63 i = q.2
/-- from x to y the parts Q were added -/
def CPl (x y : gd) (Q : List (Int32 × Int32)) : Prop := ∀ P, PR x P → PR y (P ++ Q)
/-- the operators held, as parts -/
def HP (K : Nat → Int32) (x : gd) : Nat → gH → Prop
  | 0, _ => True
  | n + 1, s => match s with
    | [] => True
    | z :: s' => (¬ z.1 = 0 → x.1 115 n = oP K z.2.2) ∧ HP K x n s'
section CPS
variable {sN : Nat → Nat → Bool} {V K : Nat → Int32} {E : gV} {x y z w : gd} {M N : gU} {P Q : List (Int32 × Int32)}
theorem sPs_app : sPs sN V K E (M ++ N) = sPs sN V K E M ++ sPs sN V K E N := List.filterMap_append
theorem sPs_op (h : opE M) : sPs sN V K E M = oPs K M := by
  induction M with
  | nil => rfl
  | cons v M ih =>
    have e : cPt sN V K E v = some (oP K v, 0) := if_pos (h v List.mem_cons_self)
    show (v :: M).filterMap (cPt sN V K E) = _
    rw [List.filterMap_cons, e]
    show _ :: sPs sN V K E M = _ :: _
    rw [ih (fun w hw => h w (List.mem_cons_of_mem _ hw))]
    rfl
theorem oPs_app : oPs K (M ++ N) = oPs K M ++ oPs K N := List.map_append
theorem CPl_rf : CPl x x [] := fun P h => by rw [List.append_nil]; exact h
theorem CPl_st (h : CPl x y P) (e3 : z.1 60 3 = y.1 60 3) (e : ∀ k, z.1 62 k = y.1 62 k ∧ z.1 63 k = y.1 63 k) : CPl x z P := fun P0 h0 => by
  obtain ⟨h1, h2⟩ := h P0 h0
  exact ⟨by rw [e3]; exact h1, fun i q hi hq => ⟨(e i).1.trans (h2 i q hi hq).1, (e i).2.trans (h2 i q hi hq).2⟩⟩
theorem CPl_app (h : CPl x y P) (g : CPl y z Q) : CPl x z (P ++ Q) := fun P0 h0 => by
  rw [← List.append_assoc]
  exact g _ (h P0 h0)
theorem HP_eq : ∀ {n : Nat} {s : gH}, (∀ k, k < n → y.1 115 k = x.1 115 k) → HP K x n s → HP K y n s := by
  intro n
  induction n with
  | zero => intro s _ _; trivial
  | succ n ih =>
    intro s e h
    cases s with
    | nil => trivial
    | cons z s' => exact ⟨fun q => by rw [e n (Nat.lt_succ_self _)]; exact h.1 q, ih (fun k hk => e k (Nat.lt_succ_of_lt hk)) h.2⟩
theorem kcv_is {s k : Int32} (hk : kc s = k) (h : ¬ pst k = 0) : kcv k = s := by
  have key : ∀ w ∈ [(30 : Int32), 12, 51, 52, 53, 54, 55, 56, 57, 58, 59, 60, 28], kc (kcv w) = w ∧ ¬ kc (kcv w) = -1 := by decide
  have hw : k ∈ [(30 : Int32), 12, 51, 52, 53, 54, 55, 56, 57, 58, 59, 60, 28] := by
    apply Classical.byContradiction
    intro c
    exact h (pst_c (fun w hw e => c (by rw [e]; exact hw)))
  obtain ⟨a, b⟩ := key k hw
  exact (kc_i (hk.trans a.symm) b).symm
end CPS
section CPA
variable {G : kG} {q : kP} {d : Nat} {x y : gd} {Fv : gd → Prop}
theorem kf_addPart (hq : kV q) (p a : Int32) (hp : 0 ≤ (x.1 60 3).toInt ∧ (x.1 60 3).toInt ≤ 800) (h : ∀ y, AP x y p a → CPl x y [(p, a)] → Fv y) : KT G q d zk_X0_addPart 0 [(0, vr 60), (1, vi p), (2, vi a)] [] x (rv Fv) := by
  have k8 : (800 : Int32).toInt = 800 := rfl
  refine kg_X0_addPart_0 hq _ _ ⟨fun c => rv_i (h x ⟨fm_rf _ _, hp, Int.le_refl _, fun _ _ => ⟨rfl, rfl⟩, fun i hi => Or.inl hi⟩ (fun P hP => ?_)), fun c => ?_⟩
  · rw [t_le, k8] at c
    obtain ⟨h1, h2⟩ := hP
    refine ⟨by rw [List.length_append]; show _ = ((min (P.length + 1) 800 : Nat) : Int); omega, fun i r hi hr => h2 i r hi ?_⟩
    rw [List.getElem?_append_left (by omega)] at hr
    exact hr
  rw [t_le, k8] at c
  have vin : vp_in (x.1 60 3) 800 := by rw [vp_in_iff]; omega
  refine ⟨vin, fun x3 e3 => ?_⟩
  have f3 : x3.1 60 3 = x.1 60 3 := by rw [e3]; (simp only [si_get, sfl_get, Nat.reduceEqDiff, eq_self, and_false, false_and, and_true, true_and, if_true, if_false, reduceIte, reduceCtorEq])
  refine ⟨by rw [f3]; exact vin, fun x5 e5 y ey => ?_⟩
  rw [f3] at e5
  have f5 : x5.1 60 3 = x.1 60 3 := by rw [e5, ← f3]; (simp only [si_get, sfl_get, Nat.reduceEqDiff, eq_self, and_false, false_and, and_true, true_and, if_true, if_false, reduceIte, reduceCtorEq])
  rw [f5] at ey
  have fy : y.1 60 3 = x.1 60 3 + 1 := by rw [ey]; (simp only [si_get, sfl_get, Nat.reduceEqDiff, eq_self, and_false, false_and, and_true, true_and, if_true, if_false, reduceIte, reduceCtorEq])
  have ty : (y.1 60 3).toInt = (x.1 60 3).toInt + 1 := by rw [fy, t_add (by show _ ≤ _ + (1 : Int); omega) (by show _ + (1 : Int) ≤ _; omega)]; rfl
  have eN : ((x.1 60 3).toNatClampNeg : Int) = (x.1 60 3).toInt := by rw [t_cl]; omega
  have lo : ∀ i : Nat, (i : Int) < (x.1 60 3).toInt → y.1 62 i = x.1 62 i ∧ y.1 63 i = x.1 63 i := fun i hi => by
    refine ⟨?_, ?_⟩
    · rw [ey, e5, e3, si_get, if_neg (by omega), si_get, if_neg (by omega), si_get, if_neg (by omega)]
    · rw [ey, e5, e3, si_get, if_neg (by omega), si_get, if_neg (by omega), si_get, if_neg (by omega)]
  have a2 : y.1 62 (x.1 60 3).toNatClampNeg = p := by rw [ey, e5, e3]; (simp only [si_get, sfl_get, Nat.reduceEqDiff, eq_self, and_false, false_and, and_true, true_and, if_true, if_false, reduceIte, reduceCtorEq])
  have a3 : y.1 63 (x.1 60 3).toNatClampNeg = a := by rw [ey, e5, e3]; (simp only [si_get, sfl_get, Nat.reduceEqDiff, eq_self, and_false, false_and, and_true, true_and, if_true, if_false, reduceIte, reduceCtorEq])
  refine rv_i (h y ⟨?_, by omega, by omega, lo, fun i hi => ?_⟩ (fun P hP => ?_))
  · rw [ey, e5, e3]; exact fm_si (fm_si (fm_si (fm_rf _ _) (Or.inr (Or.inl rfl))) (Or.inr (Or.inr rfl))) (Or.inl ⟨rfl, rfl⟩)
  · by_cases hi2 : (i : Int) < (x.1 60 3).toInt
    · exact Or.inl hi2
    · have : i = (x.1 60 3).toNatClampNeg := by omega
      subst this
      exact Or.inr ⟨a2, a3⟩
  · obtain ⟨h1, h2⟩ := hP
    refine ⟨by rw [List.length_append]; show _ = ((min (P.length + 1) 800 : Nat) : Int); omega, fun i r hi hr => ?_⟩
    by_cases ci : i < P.length
    · rw [List.getElem?_append_left ci] at hr
      have b := lo i (by omega)
      have b2 := h2 i r hi hr
      exact ⟨b.1.trans b2.1, b.2.trans b2.2⟩
    · have hlt := gt_lt hr
      rw [List.length_append] at hlt
      have hlt : i < P.length + 1 := hlt
      have ei : i = P.length := by omega
      rw [ei, List.getElem?_append_right (Nat.le_refl _), Nat.sub_self] at hr
      have hr : (p, a) = r := Option.some.inj hr
      have en : i = (x.1 60 3).toNatClampNeg := by omega
      rw [en, a2, a3, ← hr]
      exact ⟨rfl, rfl⟩
end CPA
end
section
/-! the class: sums are read as the grammar says -/
theorem opE_dull {v : Nat × Nat × Nat} (h : v.1 = 50 ∨ v.1 = 51) : dull v := by
  intro k hk c
  rw [c] at h
  rcases h with rfl | rfl <;> exact absurd hk (by decide)
theorem UR_op {sN : Nat → Nat → Bool} {E : gV} {x y : gd} : ∀ {N M : gU}, UR sN E x y M → opE N → UR sN E x y (M ++ N) := by
  intro N
  induction N with
  | nil => intro M h _; rw [List.append_nil]; exact h
  | cons v N ih =>
    intro M h g
    have := ih (UR_dull h (opE_dull (g v List.mem_cons_self))) (fun w hw => g w (List.mem_cons_of_mem _ hw))
    rw [List.append_assoc] at this
    exact this
/-- the operators held, as the grammar's stack -/
def HD (x : gd) : Nat → gH → Prop
  | 0, s => s = []
  | n + 1, s => ∃ a r v s', s = (a, r, v) :: s' ∧ ((x.1 117 n).toNatClampNeg + r = 17 ∨ (17 ≤ (x.1 117 n).toNatClampNeg ∧ r = 0)) ∧ ((x.1 116 n).toInt = (a : Nat) ∨ ((x.1 116 n).toInt = 6 ∧ a = 5)) ∧ (a ≤ 5 ∧ (n = 0 → a = 0)) ∧ (v.1 = 50 ∨ v.1 = 51) ∧ HD x n s'
theorem HD_eq {x y : gd} : ∀ {n : Nat} {s : gH}, (∀ k, k < n → y.1 116 k = x.1 116 k ∧ y.1 117 k = x.1 117 k) → HD x n s → HD y n s := by
  intro n
  induction n with
  | zero => intro s _ h; exact h
  | succ n ih =>
    intro s e h
    obtain ⟨a, r, v, s', h1, h2, h3, h4, h5, h6⟩ := h
    obtain ⟨e1, e2⟩ := e n (Nat.lt_succ_self _)
    exact ⟨a, r, v, s', h1, by rw [e2]; exact h2, by rw [e1]; exact h3, h4, h5, ih (fun k hk => e k (Nat.lt_succ_of_lt hk)) h6⟩
/-- how many parentheses -/
def zs : gH → Nat
  | [] => 0
  | z :: s => zs s + (if z.1 = 0 then 1 else 0)
theorem HD_zs {x : gd} : ∀ {n : Nat} {s : gH}, HD x n s → zc x n = zs s := by
  intro n
  induction n with
  | zero => intro s h; have h : s = [] := h; rw [h]; rfl
  | succ n ih =>
    intro s h
    obtain ⟨a, r, v, s', h1, h2, h3, h4, h5, h6⟩ := h
    rw [h1]
    show zc x n + (if x.1 116 n = 0 then 1 else 0) = zs s' + (if a = 0 then 1 else 0)
    rw [ih h6]
    have k0 : (0 : Int32).toInt = 0 := rfl
    congr 1
    by_cases c : a = 0
    · rw [if_pos c, if_pos]
      rw [t_eq, k0]; omega
    · rw [if_neg c, if_neg]
      rw [t_eq, k0]; omega
theorem HD_b {x : gd} : ∀ {n : Nat} {s : gH}, HD x (n + 1) s → 1 ≤ zs s := by
  intro n
  induction n with
  | zero =>
    intro s h
    obtain ⟨a, r, v, s', h1, h2, h3, h4, h5, h6⟩ := h
    rw [h1]
    show 1 ≤ zs s' + (if a = 0 then 1 else 0)
    rw [if_pos (h4.2 rfl)]; omega
  | succ n ih =>
    intro s h
    obtain ⟨a, r, v, s', h1, h2, h3, h4, h5, h6⟩ := h
    rw [h1]
    show 1 ≤ zs s' + (if a = 0 then 1 else 0)
    have := ih h6
    omega
theorem dW_stuck {K : Nat → Int32} {o : Bool} {j : Nat} (h : pst (K j) = 0) (hn : ¬ (K j = 62 ∧ j < 700)) : ∀ {s : gH} {L : gU}, 2 ≤ zs s → dW K o s j L = none := by
  intro s
  induction s with
  | nil => intro L h2; exact absurd h2 (by decide)
  | cons z s ih =>
    intro L h2
    obtain ⟨a, r, v⟩ := z
    have h2 : 2 ≤ zs s + (if a = 0 then 1 else 0) := h2
    cases s with
    | nil =>
      exfalso
      have : zs ([] : gH) = 0 := rfl
      rw [this] at h2
      split at h2 <;> omega
    | cons y s =>
      by_cases c : a = 0
      · subst c
        rw [dW_par h, if_neg hn]
      · rw [if_neg c] at h2
        rw [dW_pop c (by omega)]
        exact ih h2
section KSF
variable {G : kG} {q : kP} {d : Nat} {x x0 y z : gd} {F : Int32 → gd → Prop} {Fv : gd → Prop} {X : String → gd → Prop} {P : Option gv → gd → Prop} {m : Int}
theorem kf_hold (hq : kV q) (p s t : Int32) (hH : HI x) (hp : ¬ p = 2 ∧ ¬ p = 6) (hs : 0 ≤ s.toInt) (h1 : (x.1 100 17).toInt + 1 ≤ t.toInt) (h2 : t.toInt ≤ 18) (h3 : ∀ i : Nat, (i : Int) < (x.1 100 17).toInt → (x.1 117 i).toInt ≤ t.toInt) (h : ∀ y, fm (fun c k => (c = 100 ∧ k = 17) ∨ (115 ≤ c ∧ c ≤ 117)) x y → HI y → hz y = hz x + (if s = 0 then 1 else 0) → (y.1 100 17).toInt = (x.1 100 17).toInt + 1 → y.1 116 (x.1 100 17).toNatClampNeg = s → y.1 117 (x.1 100 17).toNatClampNeg = t → (∀ k, k < (x.1 100 17).toNatClampNeg → y.1 116 k = x.1 116 k ∧ y.1 117 k = x.1 117 k) → y.1 115 (x.1 100 17).toNatClampNeg = p → (∀ k, k < (x.1 100 17).toNatClampNeg → y.1 115 k = x.1 115 k) → Fv y) : KT G q d zk_X7_hold 0 [(0, vr 100), (1, vi p), (2, vi s), (3, vi t)] [] x (rv Fv) := by
  obtain ⟨⟨a0, a1⟩, a2, a3⟩ := hH
  have k20 : (20 : Int32).toInt = 20 := rfl
  have eN : ((x.1 100 17).toNatClampNeg : Int) = (x.1 100 17).toInt := by rw [t_cl]; omega
  have vin : vp_in (x.1 100 17) 20 := by rw [vp_in_iff]; omega
  refine kg_X7_hold_0 hq _ _ _ ⟨fun c => ?_, fun c => ⟨vin, fun x3 e3 => ?_⟩⟩
  · exfalso; rw [t_le, k20] at c; omega
  have f3 : x3.1 100 17 = x.1 100 17 := by rw [e3]; (simp only [si_get, sfl_get, Nat.reduceEqDiff, eq_self, and_false, false_and, and_true, true_and, if_true, if_false, reduceIte, reduceCtorEq])
  refine ⟨by rw [f3]; exact vin, fun x5 e5 => ?_⟩
  rw [f3] at e5
  have f5 : x5.1 100 17 = x.1 100 17 := by rw [e5, ← f3]; (simp only [si_get, sfl_get, Nat.reduceEqDiff, eq_self, and_false, false_and, and_true, true_and, if_true, if_false, reduceIte, reduceCtorEq])
  refine ⟨by rw [f5]; exact vin, fun x7 e7 y ey => rv_i (h y ?_ ?_ ?_ ?_ ?_ ?_ ?_ ?_ ?_)⟩
  · rw [ey, e7, e5, e3]
    exact fm_si (fm_si (fm_si (fm_si (fm_rf _ _) (Or.inr (by omega))) (Or.inr (by omega))) (Or.inr (by omega))) (Or.inl ⟨rfl, rfl⟩)
  all_goals
    rw [f5] at e7
    have f7 : x7.1 100 17 = x.1 100 17 := by rw [e7, ← f5]; (simp only [si_get, sfl_get, Nat.reduceEqDiff, eq_self, and_false, false_and, and_true, true_and, if_true, if_false, reduceIte, reduceCtorEq])
    rw [f7] at ey
    have fy : y.1 100 17 = x.1 100 17 + 1 := by rw [ey]; (simp only [si_get, sfl_get, Nat.reduceEqDiff, eq_self, and_false, false_and, and_true, true_and, if_true, if_false, reduceIte, reduceCtorEq])
    have ty : (y.1 100 17).toInt = (x.1 100 17).toInt + 1 := by rw [fy, t_add (by show _ ≤ _ + (1 : Int); omega) (by show _ + (1 : Int) ≤ _; omega)]; rfl
    have g : ∀ c k, 115 ≤ c → c ≤ 117 → k ≠ (x.1 100 17).toNatClampNeg → y.1 c k = x.1 c k := by
      intro c k c1 c2 hk
      rw [ey, e7, e5, e3, si_get, if_neg (by omega), si_get, if_neg (fun q => hk q.2), si_get, if_neg (fun q => hk q.2), si_get, if_neg (fun q => hk q.2)]
    have g5 : y.1 115 (x.1 100 17).toNatClampNeg = p := by rw [ey, e7, e5, e3]; (simp only [si_get, sfl_get, Nat.reduceEqDiff, eq_self, and_false, false_and, and_true, true_and, if_true, if_false, reduceIte, reduceCtorEq])
    have g6 : y.1 116 (x.1 100 17).toNatClampNeg = s := by rw [ey, e7, e5, e3]; (simp only [si_get, sfl_get, Nat.reduceEqDiff, eq_self, and_false, false_and, and_true, true_and, if_true, if_false, reduceIte, reduceCtorEq])
    have g7 : y.1 117 (x.1 100 17).toNatClampNeg = t := by rw [ey, e7, e5, e3]; (simp only [si_get, sfl_get, Nat.reduceEqDiff, eq_self, and_false, false_and, and_true, true_and, if_true, if_false, reduceIte, reduceCtorEq])
  · refine ⟨by omega, fun i hi => ?_, fun i j hij hj => ?_⟩
    · by_cases hi2 : i = (x.1 100 17).toNatClampNeg
      · subst hi2
        rw [g5, g6, g7]
        exact ⟨hp, hs, by omega, h2⟩
      · rw [g 115 i (by omega) (by omega) hi2, g 116 i (by omega) (by omega) hi2, g 117 i (by omega) (by omega) hi2]
        exact a2 i (by omega)
    · by_cases hj2 : j = (x.1 100 17).toNatClampNeg
      · by_cases hi2 : i = (x.1 100 17).toNatClampNeg
        · rw [hi2, hj2]; exact Int.le_refl _
        · rw [hj2, g7, g 117 i (by omega) (by omega) hi2]; exact h3 i (by omega)
      · rw [g 117 i (by omega) (by omega) (by omega), g 117 j (by omega) (by omega) hj2]; exact a3 i j hij (by omega)
  · unfold hz
    have : (y.1 100 17).toNatClampNeg = (x.1 100 17).toNatClampNeg + 1 := by
      have : ((y.1 100 17).toNatClampNeg : Int) = (y.1 100 17).toInt := by rw [t_cl]; omega
      omega
    rw [this]
    show zc y _ + (if y.1 116 _ = 0 then 1 else 0) = _
    rw [g6, zc_eq (z := y) (y := x) _ (fun i hi => g 116 i (by omega) (by omega) (by omega))]
  · exact ty
  · exact g6
  · exact g7
  · exact fun k hk => ⟨g 116 k (by omega) (by omega) (by omega), g 117 k (by omega) (by omega) (by omega)⟩
  · exact g5
  · exact fun k hk => g 115 k (by omega) (by omega) (by omega)
theorem kf_beginsSum (hq : kV q) (s : Int32) (o : Bool) (ho : o = true ↔ x.1 100 5 = 0) (h : ∀ r : Int32, (¬ r = 0 ↔ s = 3 ∨ s = 2 ∨ s = 21 ∨ s = 59 ∨ s = 18 ∨ (s = 62 ∧ o = false)) → F r x) : KT G q d zk_X7_beginsSum 0 [(0, vr 100), (1, vi s)] [] x (ri F) := by
  have yes : ∀ r : Int32, r = 1 → (s = 3 ∨ s = 2 ∨ s = 21 ∨ s = 59 ∨ s = 18 ∨ (s = 62 ∧ o = false)) → F r x := fun r e c => h r ⟨fun _ => c, fun _ => by rw [e]; decide⟩
  refine kg_X7_beginsSum_0 hq _ ⟨fun c => ri_i (yes _ rfl (Or.inl c)), fun n1 => ⟨fun c => ri_i (yes _ rfl (Or.inr (Or.inl c))), fun n2 => ⟨fun c => ri_i (yes _ rfl (Or.inr (Or.inr (Or.inl c)))), fun n3 => ⟨fun c => ri_i (yes _ rfl (Or.inr (Or.inr (Or.inr (Or.inl c))))), fun n4 => ⟨fun c => ri_i (yes _ rfl (Or.inr (Or.inr (Or.inr (Or.inr (Or.inl c)))))), fun n5 => ⟨fun n6 => ri_i (h _ ⟨fun z => absurd rfl z, fun z => ?_⟩), fun c => ⟨fun c5 => ri_i (h _ ⟨fun z => absurd rfl z, fun z => ?_⟩), fun c5 => ri_i (yes _ rfl (Or.inr (Or.inr (Or.inr (Or.inr (Or.inr ⟨c, ?_⟩))))))⟩⟩⟩⟩⟩⟩⟩
  · rcases z with z | z | z | z | z | z
    · exact absurd z n1
    · exact absurd z n2
    · exact absurd z n3
    · exact absurd z n4
    · exact absurd z n5
    · exact absurd z.1 n6
  · rcases z with z | z | z | z | z | z
    · exact absurd z n1
    · exact absurd z n2
    · exact absurd z n3
    · exact absurd z n4
    · exact absurd z n5
    · have := ho.mpr c5
      rw [z.2] at this
      exact absurd this (by decide)
  · cases o with
    | false => rfl
    | true => exact absurd (ho.mp rfl) c5
theorem kf_strengthOf (hq : kV q) (s k : Int32) (hk : kc s = k) (h : ∀ r : Int32, r.toInt = (pst k : Nat) → (¬ r = 0 → (1 ≤ r.toInt ∧ r.toInt ≤ 5) ∧ ¬ s = 2 ∧ ¬ s = 6 ∧ ¬ s = 0) → F r x) : KT G q d zk_X7_strengthOf 0 [(0, vi s)] [] x (ri F) := by
  refine kg_X7_strengthOf_0 hq _ ⟨fun c => ri_i (h _ ?_ (fun _ => ⟨by decide, ?_⟩)), fun c => ri_i (h _ ?_ (fun _ => ⟨by decide, ?_⟩)), fun c => ri_i (h _ ?_ (fun _ => ⟨by decide, ?_⟩)), fun c => ri_i (h _ ?_ (fun _ => ⟨by decide, ?_⟩)), fun c => ri_i (h _ ?_ (fun _ => ⟨by decide, ?_⟩)), fun c => ri_i (h _ ?_ (fun q => absurd rfl q))⟩
  · rw [← hk, c]; decide
  · rw [c]; decide
  · rw [← hk, c]; decide
  · rw [c]; decide
  · rcases c with e | e | e | e | e | e <;> rw [← hk, e] <;> decide
  · rcases c with e | e | e | e | e | e <;> rw [e] <;> decide
  · rcases c with e | e <;> rw [← hk, e] <;> decide
  · rcases c with e | e <;> rw [e] <;> decide
  · rcases c with e | e | e <;> rw [← hk, e] <;> decide
  · rcases c with e | e | e <;> rw [e] <;> decide
  · have kn : ∀ w ∈ [(60 : Int32), 42, 11, 12, 13, 14, 15, 16, 17, 18, 19, 20, 58], ¬ kc w = -1 := by decide
    have no : ∀ w ∈ [(60 : Int32), 42, 11, 12, 13, 14, 15, 16, 17, 18, 19, 20, 58], ¬ k = kc w := fun w hw e => c w hw (kc_i (hk.trans e) (kn w hw))
    have : pst k = 0 := pst_c (fun w hw => by
      rcases (by simpa using hw : w = 30 ∨ w = 12 ∨ w = 51 ∨ w = 52 ∨ w = 53 ∨ w = 54 ∨ w = 55 ∨ w = 56 ∨ w = 57 ∨ w = 58 ∨ w = 59 ∨ w = 60 ∨ w = 28) with e | e | e | e | e | e | e | e | e | e | e | e | e <;> rw [e]
      · exact no 60 (by decide)
      · exact no 42 (by decide)
      · exact no 11 (by decide)
      · exact no 12 (by decide)
      · exact no 13 (by decide)
      · exact no 14 (by decide)
      · exact no 15 (by decide)
      · exact no 16 (by decide)
      · exact no 17 (by decide)
      · exact no 18 (by decide)
      · exact no 19 (by decide)
      · exact no 20 (by decide)
      · exact no 58 (by decide))
    rw [this]
    decide
theorem kf_release (hq : kV q) (s : Int32) (hs : 1 ≤ s.toInt) (hs5 : s.toInt ≤ 5) (K : Nat → Int32) (o : Bool) (j : Nat) (st : gH) (L : gU) (hst : HD x (x.1 100 17).toNatClampNeg st) (hhp : HP K x (x.1 100 17).toNatClampNeg st) (hj : (pst (K j) : Int) ≤ s.toInt) (h2 : 1 ≤ hz x) (hS : SU x) (hH : HI x) (h : ∀ y, fm (fun c k => (c = 100 ∧ k = 17) ∨ (c = 60 ∧ k = 3) ∨ c = 62 ∨ c = 63) x y → SU y → HI y → hz y = hz x → (y.1 100 17).toInt ≤ (x.1 100 17).toInt → ((y.1 100 17).toInt = 0 ∨ (y.1 116 ((y.1 100 17).toInt.toNat - 1)).toInt < s.toInt) → (∀ k, y.1 116 k = x.1 116 k ∧ y.1 117 k = x.1 117 k) → ∀ a r v s' M, HD y (y.1 100 17).toNatClampNeg ((a, r, v) :: s') → (a : Int) < s.toInt → opE M → dW K o st j L = dW K o ((a, r, v) :: s') j (L ++ M) → HP K y (y.1 100 17).toNatClampNeg ((a, r, v) :: s') → CPl x y (oPs K M) → (∀ k, y.1 115 k = x.1 115 k) → Fv y) : KT G q (d + 1) zk_X7_release 0 [(0, vr 100), (1, vi s)] [] x (rv Fv) := by
  have k0 : (0 : Int32).toInt = 0 := rfl
  have k20 : (20 : Int32).toInt = 20 := rfl
  have loop : ∀ (n : Nat) (k : Int32) (y : gd) (sy : gH) (M : gU), HD y (y.1 100 17).toNatClampNeg sy → opE M → dW K o st j L = dW K o sy j (L ++ M) → HP K y (y.1 100 17).toNatClampNeg sy → CPl x y (oPs K M) → (∀ k, y.1 115 k = x.1 115 k) → (∀ k, y.1 116 k = x.1 116 k ∧ y.1 117 k = x.1 117 k) → fm (fun c k => (c = 100 ∧ k = 17) ∨ (c = 60 ∧ k = 3) ∨ c = 62 ∨ c = 63) x y → SU y → HI y → hz y = hz x → (y.1 100 17).toInt ≤ (x.1 100 17).toInt → (y.1 100 17).toInt ≤ n → 0 ≤ k.toInt → k.toInt + (y.1 100 17).toInt ≤ 18 → KT G q (d + 1) zk_X7_release 2 [(0, vr 100), (1, vi s), (2, vi k)] [] y (rv Fv) := by
    intro n
    induction n with
    | zero =>
      intro k y sy M hHD hM hdW hHP hCP h115 hsa hf hSy hHy hzy hle hn k0' kk
      have a0 := hHy.1.1
      refine kg_X7_release_2 hq _ _ ⟨fun c => ?_, fun c => ⟨fun c2 => ?_, fun c2 => ?_⟩⟩
      · exfalso; rw [t_le, k20] at c; omega
      · exfalso
        have e0 : (y.1 100 17).toNatClampNeg = 0 := by rw [t_cl]; omega
        unfold hz at hzy
        rw [e0] at hzy
        have : zc y 0 = 0 := rfl
        unfold hz at h2
        omega
      · exfalso; rw [t_le, k0] at c2; omega
    | succ n ih =>
      intro k y sy M hHD hM hdW hHP hCP h115 hsa hf hSy hHy hzy hle hn k0' kk
      obtain ⟨⟨a0, a1⟩, a2, a3⟩ := id hHy
      refine kg_X7_release_2 hq _ _ ⟨fun c => ?_, fun c => ⟨fun c2 => ?_, fun c2 => ?_⟩⟩
      · exfalso; rw [t_le, k20] at c; omega
      · exfalso
        rw [t_le, k0] at c2
        have e0 : (y.1 100 17).toNatClampNeg = 0 := by rw [t_cl]; omega
        unfold hz at hzy
        rw [e0] at hzy
        have : zc y 0 = 0 := rfl
        unfold hz at h2
        omega
      rw [t_le, k0] at c2
      have n9 : (y.1 100 17).toNatClampNeg = ((y.1 100 17).toInt.toNat - 1) + 1 := by rw [t_cl]; omega
      have hHD9 := hHD
      rw [n9] at hHD9
      obtain ⟨a, r, v, s', es, w1, w2, w3, w4, w5⟩ := hHD9
      have e1 : (y.1 100 17 - 1).toInt = (y.1 100 17).toInt - 1 := t_sub (by show _ ≤ _ - (1 : Int); omega) (by show _ - (1 : Int) ≤ _; omega)
      have e2 : (y.1 100 17 - 1).toNatClampNeg = (y.1 100 17).toInt.toNat - 1 := by rw [t_cl, e1]; omega
      refine ⟨by rw [vp_in_iff]; omega, fun c3 => rv_i (h y hf hSy hHy hzy hle (Or.inr ?_) hsa a r v s' M (by rw [← es]; exact hHD) ?_ hM (by rw [← es]; exact hdW) (by rw [← es]; exact hHP) hCP h115), fun c3 x5 e5 => ?_⟩
      · rw [t_lt, e2] at c3; exact c3
      · rw [t_lt, e2] at c3; omega
      rw [t_lt, e2] at c3
      have f5 : x5.1 100 17 = y.1 100 17 - 1 := by rw [e5]; (simp only [si_get, sfl_get, Nat.reduceEqDiff, eq_self, and_false, false_and, and_true, true_and, if_true, if_false, reduceIte, reduceCtorEq])
      have i5 : (x5.1 100 17).toInt = (y.1 100 17).toInt - 1 := by rw [f5]; exact e1
      have m5 : fm (fun c k => c = 100 ∧ k = 17) y x5 := by rw [e5]; exact fm_si (fm_rf _ _) ⟨rfl, rfl⟩
      have la5 : La y x5 := ⟨fun c k q1 q2 => m5 c k (by omega), by unfold nx; rw [m5 100 4 (by omega)]; exact Int.le_refl _, fun j _ => m5 42 j (by omega)⟩
      have H5 : HI x5 := by
        refine ⟨by omega, fun i hi => ?_, fun i j hij hj => ?_⟩
        · rw [m5 115 i (by omega), m5 116 i (by omega), m5 117 i (by omega)]; exact a2 i (by omega)
        · rw [m5 117 i (by omega), m5 117 j (by omega)]; exact a3 i j hij (by omega)
      have S5 : SU x5 := by
        obtain ⟨⟨hT, b1, b2, b3⟩, ⟨u1, u2⟩, hp, hP⟩ := hSy
        have q4 : x5.1 100 4 = y.1 100 4 := m5 _ _ (by omega)
        have q7 : x5.1 20 7 = y.1 20 7 := m5 _ _ (by omega)
        have q3 : x5.1 60 3 = y.1 60 3 := m5 _ _ (by omega)
        unfold SU SV US RB nx mt
        rw [q4, q7, q3]
        refine ⟨⟨kT_fm hT la5.1, b1, b2, b3⟩, ⟨fun j h1 h2 => ?_, fun j h1 h2 => ?_⟩, hp, fun i hi => La_PQ la5 (m5 _ _ (by omega)) (m5 _ _ (by omega)) (hP i hi)⟩
        · rw [m5 42 j (by omega)]; exact u1 j h1 h2
        · rw [m5 42 j (by omega)] at h2; rw [m5 42 _ (by omega)]; exact u2 j h1 h2
      have z5 : hz x5 = hz y := by
        unfold hz
        have n5 : (y.1 100 17).toNatClampNeg = (x5.1 100 17).toNatClampNeg + 1 := by rw [t_cl, t_cl]; omega
        have n6 : (x5.1 100 17).toNatClampNeg = (y.1 100 17).toInt.toNat - 1 := by rw [t_cl]; omega
        rw [n5]
        show _ = zc y _ + (if y.1 116 _ = 0 then 1 else 0)
        rw [n6, if_neg (fun q => by rw [q] at c3; rw [k0] at c3; omega), zc_eq (z := x5) (y := y) _ (fun i _ => m5 116 i (by omega))]
        rfl
      have v5 : vp_in (x5.1 100 17) 20 := by rw [vp_in_iff]; omega
      have e6 : (k + 1).toInt = k.toInt + 1 := t_add (by show _ ≤ _ + (1 : Int); omega) (by show _ + (1 : Int) ≤ _; omega)
      have h5 := a2 ((y.1 100 17).toInt.toNat - 1) (by omega)
      have n6 : (x5.1 100 17).toNatClampNeg = (y.1 100 17).toInt.toNat - 1 := by rw [t_cl]; omega
      have a0' : ¬ a = 0 := by omega
      have x53 : x5.1 60 3 = y.1 60 3 := m5 60 3 (by omega)
      refine ⟨v5, kf_addPart hq _ _ S5.2.2.1 (fun z hz9 hcz => ?_)⟩
      rw [n6, m5 115 _ (by omega)] at hz9 hcz
      have hv9 : y.1 115 ((y.1 100 17).toInt.toNat - 1) = oP K v := by
        have hq9 := hHP
        rw [n9, es] at hq9
        exact hq9.1 a0'
      have S6 : SU z := AP_SU S5 hz9 (fun c => absurd c h5.1.1) h5.1.2
      obtain ⟨H6, z6⟩ := HI_eq (z := z) H5 (hz9.1 _ _ (by omega)) (fun c k q1 q2 => hz9.1 c k (by omega))
      have w6 : z.1 100 17 = x5.1 100 17 := hz9.1 _ _ (by omega)
      have a0 : ¬ a = 0 := by omega
      have sz : zs s' = hz y := by
        unfold hz
        rw [HD_zs hHD, es]
        show zs s' = zs s' + (if a = 0 then 1 else 0)
        rw [if_neg a0]; rfl
      obtain ⟨y1, s1, es1⟩ : ∃ y1 s1, s' = y1 :: s1 := by
        cases s' with
        | nil => rw [hzy] at sz; exact absurd (show hz x = 0 from sz.symm) (by omega)
        | cons y1 s1 => exact ⟨y1, s1, rfl⟩
      have dp : dW K o st j L = dW K o s' j (L ++ (M ++ [v])) := by
        rw [hdW, es, es1, dW_pop a0 (by omega), List.append_assoc]
      have nz : (z.1 100 17).toNatClampNeg = (y.1 100 17).toInt.toNat - 1 := by rw [w6]; exact n6
      have sz9 : ∀ k, z.1 116 k = y.1 116 k ∧ z.1 117 k = y.1 117 k := fun k => ⟨by rw [hz9.1 _ _ (by omega), m5 _ _ (by omega)], by rw [hz9.1 _ _ (by omega), m5 _ _ (by omega)]⟩
      have z115 : ∀ k, z.1 115 k = y.1 115 k := fun k => by rw [hz9.1 _ _ (by omega), m5 _ _ (by omega)]
      have hHPz : HP K z (z.1 100 17).toNatClampNeg s' := by
        rw [nz]
        have hq9 := hHP
        rw [n9, es] at hq9
        exact HP_eq (fun k _ => z115 k) hq9.2
      have hCPz : CPl x z (oPs K (M ++ [v])) := by
        rw [oPs_app]
        refine CPl_app (CPl_st hCP x53 (fun k => ⟨m5 62 k (by omega), m5 63 k (by omega)⟩)) ?_
        rw [hv9] at hcz
        exact hcz
      refine ih _ z s' (M ++ [v]) (by rw [nz]; exact HD_eq (fun k _ => sz9 k) w5) (opE_app hM (opE_one w4)) dp hHPz hCPz (fun k => (z115 k).trans (h115 k)) (fun k => ⟨(sz9 k).1.trans (hsa k).1, (sz9 k).2.trans (hsa k).2⟩) (fm_tr (fm_tr hf (fm_w m5 (fun c k q => Or.inl q))) (fm_w hz9.1 (fun c k q => by omega))) S6 H6 (by rw [z6, z5, hzy]) ?_ ?_ ?_ ?_ <;> (try rw [w6]) <;> omega
  exact kg_X7_release_0 hq _ (loop 18 _ x st [] hst opE_nil (by rw [List.append_nil]) hhp CPl_rf (fun _ => rfl) (fun k => ⟨rfl, rfl⟩) (fm_rf _ _) hS hH rfl (Int.le_refl _) hH.1.2 (by decide) (by rw [k0]; have := hH.1.2; omega))
end KSF
end
