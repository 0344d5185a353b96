/-! the class's tokens are those of the text -/
def cby0 (b : Nat → Int32) (n p : Nat) : Int32 := if p < n then b p else 0
def kby (x : gd) (p : Nat) : Int32 := x.1 21 p &&& 255
def kln (x : gd) : Nat := (x.1 20 1).toNatClampNeg
/-- the class's numbers of kinds, by the model's -/
def kc (s : Int32) : Int32 := if s = 0 then 0 else if s = 1 then 3 else if s = 2 then 1 else if s = 3 then 2 else if 40 ≤ s ∧ s < 80 then s - 30 else if 10 ≤ s ∧ s < 40 then s + 40 else -1
theorem kc_z (s : Int32) : (s.toInt = 0 ∧ (kc s).toInt = 0) ∨ (s.toInt = 1 ∧ (kc s).toInt = 3) ∨ (s.toInt = 2 ∧ (kc s).toInt = 1) ∨ (s.toInt = 3 ∧ (kc s).toInt = 2) ∨ (40 ≤ s.toInt ∧ s.toInt < 80 ∧ (kc s).toInt = s.toInt - 30) ∨ (10 ≤ s.toInt ∧ s.toInt < 40 ∧ (kc s).toInt = s.toInt + 40) ∨ (kc s).toInt = -1 := by
  have k10 : (10 : Int32).toInt = 10 := rfl
  have k30 : (30 : Int32).toInt = 30 := rfl
  have k40 : (40 : Int32).toInt = 40 := rfl
  have k80 : (80 : Int32).toInt = 80 := rfl
  unfold kc
  by_cases c0 : s = 0
  · rw [if_pos c0, c0]; exact Or.inl ⟨rfl, rfl⟩
  rw [if_neg c0]
  by_cases c1 : s = 1
  · rw [if_pos c1, c1]; exact Or.inr (Or.inl ⟨rfl, rfl⟩)
  rw [if_neg c1]
  by_cases c2 : s = 2
  · rw [if_pos c2, c2]; exact Or.inr (Or.inr (Or.inl ⟨rfl, rfl⟩))
  rw [if_neg c2]
  by_cases c3 : s = 3
  · rw [if_pos c3, c3]; exact Or.inr (Or.inr (Or.inr (Or.inl ⟨rfl, rfl⟩)))
  rw [if_neg c3]
  by_cases c4 : 40 ≤ s ∧ s < 80
  · rw [if_pos c4]
    rw [t_le, t_lt, k40, k80] at c4
    refine Or.inr (Or.inr (Or.inr (Or.inr (Or.inl ⟨c4.1, c4.2, ?_⟩))))
    rw [t_sub (by omega) (by omega), k30]
  rw [if_neg c4]
  by_cases c5 : 10 ≤ s ∧ s < 40
  · rw [if_pos c5]
    rw [t_le, t_lt, k40, k10] at c5
    refine Or.inr (Or.inr (Or.inr (Or.inr (Or.inr (Or.inl ⟨c5.1, c5.2, ?_⟩)))))
    rw [t_add (by omega) (by omega), k40]
  rw [if_neg c5]
  exact Or.inr (Or.inr (Or.inr (Or.inr (Or.inr (Or.inr rfl)))))
theorem kc_i {s c : Int32} (h : kc s = kc c) (n : ¬ kc c = -1) : s = c := by
  have a := kc_z s
  have b := kc_z c
  have m1 : (-1 : Int32).toInt = -1 := rfl
  rw [t_eq] at n h
  rw [t_eq]
  omega
theorem kc_i1 {s : Int32} (h : kc s = 3) : s = 1 := kc_i (c := 1) (h.trans (by decide)) (by decide)
/-- a name's number -/
def hsh (b : Nat → Int32) (p : Nat) : Nat → Int32
  | 0 => 0
  | m + 1 => hsh b p m * 31 + b (p + m)
theorem cby0_lt {b : Nat → Int32} {n p : Nat} (h : p < n) : cby0 b n p = b p := if_pos h
theorem cby0_no {b : Nat → Int32} {n p : Nat} (h : ¬ p < n) : cby0 b n p = 0 := if_neg h
theorem k_ch : ∀ w, w < 32 → ∀ i, i < 7 → cch 0 (w * 7 + i) = wch w i := by decide +kernel
theorem wch_32 {w i : Nat} (hw : w < 32) (hi : i < 8) : wch w i = 32 ↔ wln w ≤ i := by
  have a := w_small w hw i hi
  rw [← w_blank w hw i hi]
  have e1 : (Int32.ofNat ((wtab.getD w []).getD i 32)).toInt = ((wtab.getD w []).getD i 32 : Nat) := Int32.toInt_ofNat_of_lt (by omega)
  have k32 : (32 : Int32).toInt = 32 := rfl
  unfold wch
  rw [t_eq, e1, k32]
  omega
theorem isLD_32 {c : Int32} (h : isLD c) : ¬ c = 32 := fun e => by rw [e] at h; exact absurd h (by decide)
theorem sgk_0 {c d : Int32} (h : ¬ d = 61) : sgk c d = sgk c 0 := by
  have a : ¬ (d = 61 ∧ (c = 61 ∨ c = 33 ∨ c = 60 ∨ c = 62)) := fun q => h q.1
  have b : ¬ ((0 : Int32) = 61 ∧ (c = 61 ∨ c = 33 ∨ c = 60 ∨ c = 62)) := fun q => absurd q.1 (by decide)
  unfold sgk
  rw [if_neg a, if_neg b]
theorem sgk_c {b : Nat → Int32} {n p : Nat} {c : Int32} : sgk c (cby0 b n p) = sgk c (cby1 b n p) := by
  by_cases q : p < n
  · rw [cby0_lt q, cby1_lt q]
  · rw [cby0_no q, cby1_no q]
    exact (sgk_0 (by decide)).symm
theorem sg2_c {b : Nat → Int32} {n p : Nat} {c : Int32} : sg2 c (cby0 b n p) ↔ sg2 c (cby1 b n p) := by
  by_cases q : p < n
  · rw [cby0_lt q, cby1_lt q]
  · rw [cby0_no q, cby1_no q]
    exact ⟨fun z => absurd z.1 (by decide), fun z => absurd z.1 (by decide)⟩
section KTF
variable {G : kG} {q : kP} {d : Nat} {x : gd} {F : Int32 → gd → Prop} {Fv : gd → Prop}
theorem kf_isLetter (hq : kV q) (c : Int32) (h : ∀ r, (¬ r = 0 ↔ isL c) → F r x) : KT G q d zk_X9_isLetter 0 [(0, vi c)] [] x (ri F) := by
  have no : ∀ r : Int32, r = 0 → ¬ isL c → F r x := fun r e n => h r ⟨fun z => absurd e z, fun z => absurd z n⟩
  have yes : ∀ r : Int32, r = 1 → isL c → F r x := fun r e n => h r ⟨fun _ => n, fun _ => by rw [e]; decide⟩
  have g : ¬ (97 ≤ c ∧ c ≤ 122) → KT G q d zk_X9_isLetter 12 [(0, vi c)] [] x (ri F) := by
    intro n
    refine kg_X9_isLetter_12 hq _ ⟨fun c1 => ri_i (no _ rfl ?_), fun c1 => ⟨fun c2 => ri_i (no _ rfl ?_), fun c2 => ri_i (yes _ rfl (Or.inr ⟨?_, ?_⟩))⟩⟩
    · rintro (z | ⟨z, _⟩)
      · exact n z
      · rw [t_lt] at c1; rw [t_le] at z; omega
    · rintro (z | ⟨_, z⟩)
      · exact n z
      · rw [t_lt] at c2; rw [t_le] at z; omega
    · rw [t_lt] at c1; rw [t_le]; omega
    · rw [t_lt] at c2; rw [t_le]; omega
  refine kg_X9_isLetter_0 hq _ ⟨fun c1 => g (fun z => ?_), fun c1 => ⟨fun c2 => ri_i (yes _ rfl (Or.inl ⟨?_, c2⟩)), fun c2 => g (fun z => c2 z.2)⟩⟩
  · have z1 := z.1
    rw [t_lt] at c1; rw [t_le] at z1; omega
  · rw [t_lt] at c1; rw [t_le]; omega
theorem kf_isDigit (hq : kV q) (c : Int32) (h : ∀ r, (¬ r = 0 ↔ isD c) → F r x) : KT G q d zk_X9_isDigit 0 [(0, vi c)] [] x (ri F) := by
  have no : ∀ r : Int32, r = 0 → ¬ isD c → F r x := fun r e n => h r ⟨fun z => absurd e z, fun z => absurd z n⟩
  refine kg_X9_isDigit_0 hq _ ⟨fun c1 => ri_i (no _ rfl (fun z => ?_)), fun c1 => ⟨fun c2 => ri_i (no _ rfl (fun z => ?_)), fun c2 => ri_i (h _ ⟨fun _ => ⟨?_, ?_⟩, fun _ => by decide⟩)⟩⟩
  · have z1 := z.1
    rw [t_lt] at c1; rw [t_le] at z1; omega
  · have z1 := z.2
    rw [t_lt] at c2; rw [t_le] at z1; omega
  · rw [t_lt] at c1; rw [t_le]; omega
  · rw [t_lt] at c2; rw [t_le]; omega
theorem kf_byteAt (hq : kV q) (i : Int32) (hl : kL x) (h0 : 0 ≤ i.toInt) (h : F (cby0 (kby x) (kln x) i.toNatClampNeg) x) : KT G q d zk_X9_byteAt 0 [(0, vr 20), (1, vi i)] [] x (ri F) := by
  obtain ⟨l0, l1⟩ := hl
  have u1 := t_cl i
  have u2 : kln x = (x.1 20 1).toInt.toNat := rfl
  refine kg_X9_byteAt_0 hq _ ⟨fun c => ri_i ?_, fun c => ⟨?_, ri_i ?_⟩⟩
  · rw [t_le] at c
    rwa [cby0_no (by omega)] at h
  · rw [t_le] at c
    rw [vp_in_iff]; omega
  · rw [t_le] at c
    rwa [cby0_lt (by omega)] at h
theorem kf_skip (hq : kV q) (hl : kL x) (h0 : 0 ≤ (x.1 20 8).toInt) (h1 : (x.1 20 8).toInt ≤ (x.1 20 1).toInt) (h : ∀ x', fm (fun c k => c = 20 ∧ (k = 8 ∨ k = 9)) x x' → (x.1 20 8).toInt ≤ (x'.1 20 8).toInt → (x'.1 20 8).toInt ≤ (x.1 20 1).toInt → (x'.1 20 8).toNatClampNeg = lx (kby x) (kln x) (x.1 20 8).toNatClampNeg → Fv x') : KT G q (d + 1) zk_X9_skipBlanks 0 [(0, vr 20)] [] x (rv Fv) := by
  obtain ⟨b, eb⟩ : ∃ b, b = kby x := ⟨_, rfl⟩
  obtain ⟨N, eN⟩ : ∃ N, N = kln x := ⟨_, rfl⟩
  rw [← eb, ← eN] at h
  have uN : (N : Int) = (x.1 20 1).toInt := by
    rw [eN]
    show (((x.1 20 1).toNatClampNeg : Nat) : Int) = _
    rw [t_cl]; have := hl.1; omega
  have k1 : (1 : Int32).toInt = 1 := rfl
  have g1 := hl.2
  have loop : ∀ (n : Nat) (l1 : Int32) (r : Bool) (y : gd), (r = true ↔ ¬ l1 = 0) → fm (fun c k => c = 20 ∧ (k = 8 ∨ k = 9)) x y → (x.1 20 8).toInt ≤ (y.1 20 8).toInt → (y.1 20 8).toInt ≤ (x.1 20 1).toInt → (x.1 20 1).toInt - (y.1 20 8).toInt ≤ n → lx b N (x.1 20 8).toNatClampNeg = lxr b N r (y.1 20 8).toNatClampNeg → KT G q (d + 1) zk_X9_skipBlanks 2 [(0, vr 20), (1, vi l1)] [] y (rv Fv) := by
    intro n
    induction n with
    | zero =>
      intro l1 r y hr hf a1 a2 a3 hx
      have el : y.1 20 1 = x.1 20 1 := hf _ _ (by omega)
      have u8 := t_cl (y.1 20 8)
      refine kg_X9_skipBlanks_2 hq _ ⟨fun c => rv_i (h y hf a1 a2 ?_), fun c => ?_⟩
      · rw [hx, lxr_end (by omega)]
      · rw [t_le, el] at c; omega
    | succ n ih =>
      intro l1 r y hr hf a1 a2 a3 hx
      have el : y.1 20 1 = x.1 20 1 := hf _ _ (by omega)
      have hly : kL y := by unfold kL; rw [el]; exact hl
      have u8 := t_cl (y.1 20 8)
      have eby : kby y = b := by rw [eb]; funext p; unfold kby; rw [hf 21 p (by omega)]
      have eln : kln y = N := by rw [eN]; unfold kln; rw [el]
      refine kg_X9_skipBlanks_2 hq _ ⟨fun c => rv_i (h y hf a1 a2 ?_), fun c => ?_⟩
      · rw [t_le, el] at c
        rw [hx, lxr_end (by omega)]
      rw [t_le, el] at c
      have lt : (y.1 20 8).toNatClampNeg < N := by omega
      have e1 : (y.1 20 8 + 1).toInt = (y.1 20 8).toInt + 1 := by rw [t_add (by omega) (by omega), k1]
      have e2 : (y.1 20 8 + 1).toNatClampNeg = (y.1 20 8).toNatClampNeg + 1 := by rw [t_cl]; omega
      have st := lxr_step (b := b) (n := N) (r := r) lt
      have next : ∀ (l2 : Int32) (r2 : Bool) (z : gd), (r2 = true ↔ ¬ l2 = 0) → fm (fun c k => c = 20 ∧ (k = 8 ∨ k = 9)) x z → z.1 20 8 = y.1 20 8 + 1 → lxr b N r (y.1 20 8).toNatClampNeg = lxr b N r2 ((y.1 20 8).toNatClampNeg + 1) → KT G q (d + 1) zk_X9_skipBlanks 2 [(0, vr 20), (1, vi l2)] [] z (rv Fv) := by
        intro l2 r2 z hr2 fz ez hx2
        refine ih l2 r2 z hr2 fz ?_ ?_ ?_ ?_
        · rw [ez, e1]; omega
        · rw [ez, e1]; omega
        · rw [ez, e1]; omega
        · rw [hx, hx2, ez, e2]
      have fm1 : ∀ z, z = si y 20 8 (y.1 20 8 + 1) → fm (fun c k => c = 20 ∧ (k = 8 ∨ k = 9)) x z ∧ z.1 20 8 = y.1 20 8 + 1 := fun z ez => ⟨by rw [ez]; exact fm_si hf ⟨rfl, Or.inl rfl⟩, by rw [ez]; (simp only [si_get, sfl_get, Nat.reduceEqDiff, eq_self, and_false, false_and, and_true, true_and, if_true, if_false, reduceIte, reduceCtorEq])⟩
      have tail : ¬ b (y.1 20 8).toNatClampNeg = 10 → ¬ (b (y.1 20 8).toNatClampNeg = 47 ∧ (if (y.1 20 8).toNatClampNeg + 1 < N then b ((y.1 20 8).toNatClampNeg + 1) else 0) = 47) → KT G q (d + 1) zk_X9_skipBlanks 69 [(0, vr 20), (1, vi l1), (2, vi (b (y.1 20 8).toNatClampNeg))] [] y (rv Fv) := by
        intro n10 n47
        rw [if_neg n10, if_neg n47] at st
        have one : ¬ (r = false ∧ ¬ b (y.1 20 8).toNatClampNeg = 32 ∧ ¬ b (y.1 20 8).toNatClampNeg = 9 ∧ ¬ b (y.1 20 8).toNatClampNeg = 13) → ∀ z, z = si y 20 8 (y.1 20 8 + 1) → KT G q (d + 1) zk_X9_skipBlanks 2 [(0, vr 20), (1, vi l1)] [] z (rv Fv) := by
          intro no z ez
          rw [if_neg no] at st
          exact next l1 r z hr (fm1 z ez).1 (fm1 z ez).2 st
        refine kg_X9_skipBlanks_69 hq _ _ ⟨fun c1 => one (fun z => ?_), fun c1 => ⟨fun c2 => one (fun z => z.2.1 c2), fun c2 => ⟨fun c3 => one (fun z => z.2.2.1 c3), fun c3 => ⟨fun c4 => one (fun z => z.2.2.2 c4), fun c4 => rv_i (h y hf a1 a2 ?_)⟩⟩⟩⟩
        · have := hr.mpr c1
          rw [z.1] at this
          exact absurd this (by decide)
        · have rf : r = false := by
            cases r with
            | false => rfl
            | true => exact absurd c1 (hr.mp rfl)
          rw [if_pos ⟨rf, c2, c3, c4⟩] at st
          rw [hx, st]
      refine kf_byteAt hq _ hly (by omega) ?_
      rw [eby, eln, cby0_lt lt]
      refine ⟨fun n10 => ⟨fun n47 => tail n10 (fun z => n47 z.1), fun c47 => kf_byteAt hq _ hly (by omega) ?_⟩, fun c10 z ez w ew => ?_⟩
      · rw [eby, eln, e2]
        refine ⟨fun n47 => tail n10 (fun z => n47 z.2), fun d47 z ez => ?_⟩
        rw [if_neg n10, if_pos ⟨c47, d47⟩] at st
        exact next 1 true z ⟨fun _ => by decide, fun _ => rfl⟩ (fm1 z ez).1 (fm1 z ez).2 st
      · rw [if_pos c10] at st
        refine next 0 false w ⟨fun z => absurd z (by decide), fun z => absurd rfl z⟩ ?_ ?_ st
        · rw [ew, ez]; exact fm_si (fm_si hf ⟨rfl, Or.inr rfl⟩) ⟨rfl, Or.inl rfl⟩
        · rw [ew, ez]; (simp only [si_get, sfl_get, Nat.reduceEqDiff, eq_self, and_false, false_and, and_true, true_and, if_true, if_false, reduceIte, reduceCtorEq])
  exact kg_X9_skipBlanks_0 hq (loop ((x.1 20 1).toInt - (x.1 20 8).toInt).toNat 0 false x ⟨fun z => absurd z (by decide), fun z => absurd rfl z⟩ (fm_rf _ _) (Int.le_refl _) h1 (by omega) rfl)
theorem kf_passLD (hq : kV q) (hl : kL x) (hm : vp_in (x.1 20 7) 702) (h0 : 0 ≤ (x.1 20 8).toInt) (h1 : (x.1 20 8).toInt ≤ (x.1 20 1).toInt) (h : ∀ x' (m : Nat), fm (fun c k => (c = 20 ∧ k = 8) ∨ (c = 26 ∧ k = (x.1 20 7).toNatClampNeg)) x x' → RUNq isLD (kby x) (kln x) (x.1 20 8).toNatClampNeg m → (x'.1 20 8).toInt = (x.1 20 8).toInt + m → (x'.1 26 (x.1 20 7).toNatClampNeg).toInt = m → Fv x') : KT G q (d + 1) zk_X9_passLettersAndDigits 0 [(0, vr 20)] [] x (rv Fv) := by
  obtain ⟨b, eb⟩ : ∃ b, b = kby x := ⟨_, rfl⟩
  obtain ⟨N, eN⟩ : ∃ N, N = kln x := ⟨_, rfl⟩
  rw [← eb, ← eN] at h
  have uN : (N : Int) = (x.1 20 1).toInt := by
    rw [eN]
    show (((x.1 20 1).toNatClampNeg : Nat) : Int) = _
    rw [t_cl]; have := hl.1; omega
  have u0 := t_cl (x.1 20 8)
  have k1 : (1 : Int32).toInt = 1 := rfl
  have g1 := hl.2
  have last : ∀ (m : Nat) (y z : gd), fm (fun c k => c = 20 ∧ k = 8) x y → (y.1 20 8).toInt = (x.1 20 8).toInt + m → (x.1 20 8).toInt + m ≤ (x.1 20 1).toInt → RUNq isLD b N (x.1 20 8).toNatClampNeg m → z = si y 26 (y.1 20 7).toNatClampNeg (y.1 20 8 - x.1 20 8) → rv Fv none z := by
    intro m y z hf a1 a2 run ez
    have em : y.1 20 7 = x.1 20 7 := hf _ _ (by omega)
    rw [em] at ez
    refine rv_i (h z m ?_ run ?_ ?_)
    · rw [ez]; exact fm_si (fm_w hf (fun c k q => Or.inl q)) (Or.inr ⟨rfl, rfl⟩)
    · have : z.1 20 8 = y.1 20 8 := by rw [ez]; (simp only [si_get, sfl_get, Nat.reduceEqDiff, eq_self, and_false, false_and, and_true, true_and, if_true, if_false, reduceIte, reduceCtorEq])
      rw [this]; exact a1
    · have e6 : z.1 26 (x.1 20 7).toNatClampNeg = y.1 20 8 - x.1 20 8 := by rw [ez]; (simp only [si_get, sfl_get, Nat.reduceEqDiff, eq_self, and_false, false_and, and_true, true_and, if_true, if_false, reduceIte, reduceCtorEq])
      rw [e6, t_sub (by omega) (by omega)]
      omega
  have loop : ∀ (n m : Nat) (y : gd), fm (fun c k => c = 20 ∧ k = 8) x y → (y.1 20 8).toInt = (x.1 20 8).toInt + m → (x.1 20 8).toInt + m ≤ (x.1 20 1).toInt → (x.1 20 1).toInt - (y.1 20 8).toInt ≤ n → (∀ i, i < m → isLD (b ((x.1 20 8).toNatClampNeg + i))) → KT G q (d + 1) zk_X9_passLettersAndDigits 5 [(0, vr 20), (1, vi (x.1 20 8))] [] y (rv Fv) := by
    intro n
    induction n with
    | zero =>
      intro m y hf a1 a2 a3 hr
      have el : y.1 20 1 = x.1 20 1 := hf _ _ (by omega)
      have em : y.1 20 7 = x.1 20 7 := hf _ _ (by omega)
      refine kg_X9_passLettersAndDigits_5 hq _ ⟨fun c => ⟨by rw [em]; exact hm, fun z ez => last m y z hf a1 a2 ⟨by omega, hr, fun z => by omega⟩ ez⟩, fun c => ?_⟩
      rw [t_le, el] at c; omega
    | succ n ih =>
      intro m y hf a1 a2 a3 hr
      have el : y.1 20 1 = x.1 20 1 := hf _ _ (by omega)
      have em : y.1 20 7 = x.1 20 7 := hf _ _ (by omega)
      have hly : kL y := by unfold kL; rw [el]; exact hl
      have eby : kby y = b := by rw [eb]; funext p; unfold kby; rw [hf 21 p (by omega)]
      have eln : kln y = N := by rw [eN]; unfold kln; rw [el]
      have u8 := t_cl (y.1 20 8)
      have ep : (y.1 20 8).toNatClampNeg = (x.1 20 8).toNatClampNeg + m := by omega
      refine kg_X9_passLettersAndDigits_5 hq _ ⟨fun c => ⟨by rw [em]; exact hm, fun z ez => last m y z hf a1 a2 ⟨by omega, hr, fun z => by rw [t_le, el] at c; omega⟩ ez⟩, fun c => ?_⟩
      rw [t_le, el] at c
      have lt : (x.1 20 8).toNatClampNeg + m < N := by omega
      have e1 : (y.1 20 8 + 1).toInt = (y.1 20 8).toInt + 1 := by rw [t_add (by omega) (by omega), k1]
      have next : isLD (b ((x.1 20 8).toNatClampNeg + m)) → ∀ z, z = si y 20 8 (y.1 20 8 + 1) → KT G q (d + 1) zk_X9_passLettersAndDigits 5 [(0, vr 20), (1, vi (x.1 20 8))] [] z (rv Fv) := by
        intro hb z ez
        have e8 : z.1 20 8 = y.1 20 8 + 1 := by rw [ez]; (simp only [si_get, sfl_get, Nat.reduceEqDiff, eq_self, and_false, false_and, and_true, true_and, if_true, if_false, reduceIte, reduceCtorEq])
        refine ih (m + 1) z (by rw [ez]; exact fm_si hf ⟨rfl, rfl⟩) ?_ (by omega) ?_ (fun i hi => ?_)
        · rw [e8, e1]; omega
        · rw [e8, e1]; omega
        · by_cases ci : i = m
          · rw [ci]; exact hb
          · exact hr i (by omega)
      refine kf_byteAt hq _ hly (by omega) ?_
      rw [eby, eln, ep, cby0_lt lt]
      exact kf_isLetter hq _ (fun r7 h7 => ⟨fun c7 z ez => next (Or.inl (h7.mp c7)) z ez, fun c7 => kf_isDigit hq _ (fun r11 h11 => ⟨fun c11 z ez => next (Or.inr (h11.mp c11)) z ez, fun c11 => ⟨by rw [em]; exact hm, fun z ez => last m y z hf a1 a2 ⟨by omega, hr, fun w => w.2.elim (fun w => h7.mpr w c7) (fun w => h11.mpr w c11)⟩ ez⟩⟩)⟩)
  exact kg_X9_passLettersAndDigits_0 hq (loop ((x.1 20 1).toInt - (x.1 20 8).toInt).toNat 0 x (fm_rf _ _) (by omega) (by omega) (by omega) (fun i hi => absurd hi (Nat.not_lt_zero _)))
theorem kf_isWord (hq : kV q) (w f s : Int32) (wn : Nat) (hl : kL x) (ew : w.toInt = wn) (hw2 : wn < 32) (hf : 0 ≤ f.toInt) (hs : 0 ≤ s.toInt) (hfs : f.toInt + s.toInt ≤ (x.1 20 1).toInt) (hb : ∀ i, i < s.toNatClampNeg → ¬ kby x (f.toNatClampNeg + i) = 32) (h : ∀ r, (¬ r = 0 ↔ WD (kby x) f.toNatClampNeg s.toNatClampNeg wn) → F r x) : KT G q (d + 7) zk_X9_isWord 0 [(0, vr 20), (1, vi w), (2, vi f), (3, vi s)] [] x (ri F) := by
  obtain ⟨b, eb⟩ : ∃ b, b = kby x := ⟨_, rfl⟩
  rw [← eb] at h hb
  have uN : (kln x : Int) = (x.1 20 1).toInt := by
    show (((x.1 20 1).toNatClampNeg : Nat) : Int) = _
    rw [t_cl]; have := hl.1; omega
  have g1 := hl.2
  have k1 : (1 : Int32).toInt = 1 := rfl
  have k7 : (7 : Int32).toInt = 7 := rfl
  have uf := t_cl f
  have us := t_cl s
  have w7 := w_seven wn hw2
  obtain ⟨pd, hpd⟩ : ∃ pd : Nat → Int32, ∀ j, pd j = if j < s.toNatClampNeg then b (f.toNatClampNeg + j) else 32 := ⟨_, fun _ => rfl⟩
  have toWD : s.toInt ≤ 7 → ((∀ j, j < 7 → pd j = wch wn j) ↔ WD b f.toNatClampNeg s.toNatClampNeg wn) := by
    intro s7
    refine ⟨fun a => ?_, fun a j hj => ?_⟩
    · have el : wln wn = s.toNatClampNeg := by
        by_cases c1 : wln wn < s.toNatClampNeg
        · have z := a (wln wn) (by omega)
          rw [hpd, if_pos c1, (wch_32 hw2 (by omega)).mpr (Nat.le_refl _)] at z
          exact absurd z (hb _ c1)
        · by_cases c2 : s.toNatClampNeg < wln wn
          · have z := a s.toNatClampNeg (by omega)
            rw [hpd, if_neg (by omega)] at z
            have := (wch_32 hw2 (by omega)).mp z.symm
            omega
          · omega
      refine ⟨el, fun i hi => ?_⟩
      have z := a i (by omega)
      rw [hpd, if_pos hi] at z
      exact z
    · rw [hpd]
      by_cases c1 : j < s.toNatClampNeg
      · rw [if_pos c1]; exact a.2 j c1
      · rw [if_neg c1]
        exact ((wch_32 hw2 (by omega)).mpr (by rw [a.1]; omega)).symm
  have loop : ∀ (n : Nat) (i : Int32), 0 ≤ i.toInt → i.toInt ≤ 7 → 7 - i.toInt ≤ n → s.toInt ≤ 7 → (∀ j, j < i.toNatClampNeg → pd j = wch wn j) → KT G q (d + 7) zk_X9_isWord 11 [(0, vr 20), (1, vi w), (2, vi f), (3, vi s), (4, vi i)] [] x (ri F) := by
    intro n
    induction n with
    | zero =>
      intro i i0 i7 hn s7 ha
      have ui := t_cl i
      refine kg_X9_isWord_11 hq _ _ _ _ ⟨fun _ => ri_i (h _ ⟨fun _ => (toWD s7).mp (fun j hj => ha j (by omega)), fun _ => by decide⟩), fun c => ?_⟩
      rw [t_le, k7] at c; omega
    | succ n ih =>
      intro i i0 i7 hn s7 ha
      have ui := t_cl i
      refine kg_X9_isWord_11 hq _ _ _ _ ⟨fun c => ri_i (h _ ⟨fun _ => (toWD s7).mp (fun j hj => ha j (by rw [t_le, k7] at c; omega)), fun _ => by decide⟩), fun c => ?_⟩
      rw [t_le, k7] at c
      have e1 : (i + 1).toInt = i.toInt + 1 := by rw [t_add (by omega) (by omega), k1]
      have e1c : (i + 1).toNatClampNeg = i.toNatClampNeg + 1 := by rw [t_cl]; omega
      have e2 : (f + i).toInt = f.toInt + i.toInt := t_add (by omega) (by omega)
      have e2c : (f + i).toNatClampNeg = f.toNatClampNeg + i.toNatClampNeg := by rw [t_cl]; omega
      have e3 : (w * 7).toInt = wn * 7 := by rw [t_mul (by rw [k7]; omega) (by rw [k7]; omega), k7]; omega
      have e4 : (w * 7 + i).toInt = wn * 7 + i.toInt := by rw [t_add (by omega) (by omega), e3]
      have e4c : (w * 7 + i).toNatClampNeg = wn * 7 + i.toNatClampNeg := by rw [t_cl]; omega
      have mid : ∀ v : Int32, v = pd i.toNatClampNeg → KT G q (d + 7) zk_X9_isWord 37 [(0, vr 20), (1, vi w), (2, vi f), (3, vi s), (4, vi i)] [vi v] x (ri F) := by
        intro v ev
        have ch := k_ch wn hw2 i.toNatClampNeg (by omega)
        refine kg_X9_isWord_37 hq _ _ _ _ _ ⟨by rw [vp_in_iff]; omega, fun c5 => ih _ (by omega) (by omega) (by omega) s7 (fun j hj => ?_), fun c5 => ri_i (h _ ⟨fun z => absurd rfl z, fun z => ?_⟩)⟩
        · by_cases cj : j = i.toNatClampNeg
          · rw [e4c, ch] at c5
            rw [cj, ← ev, ← c5]
          · exact ha j (by omega)
        · rw [e4c, ch] at c5
          exact absurd ((toWD s7).mpr z i.toNatClampNeg (by omega)).symm (by rw [← ev]; exact c5)
      refine ⟨fun c6 => mid _ ?_, fun c6 => kf_byteAt hq _ hl (by omega) (mid _ ?_)⟩
      · rw [t_le] at c6
        rw [hpd, if_neg (by omega)]
      · rw [t_le] at c6
        rw [hpd, if_pos (by omega), e2c, cby0_lt (by omega), eb]
  refine kg_X9_isWord_0 hq _ _ _ ⟨fun c => loop 7 0 (by decide) (by decide) (by decide) (by rw [t_le, k7] at c; exact c) (fun j hj => absurd hj (Nat.not_lt_zero _)), fun c => ri_i (h _ ⟨fun z => absurd rfl z, fun z => ?_⟩)⟩
  rw [t_le, k7] at c
  have := z.1
  omega
end KTF
