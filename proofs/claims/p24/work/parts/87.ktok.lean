section
/-! the class: what changes, tokens -/
theorem tm1 : (-1 : Int32).toInt = -1 := rfl
theorem bm {z : Int} (h1 : -2147483648 ≤ z) (h2 : z ≤ 2147483647) : Int.bmod z 4294967296 = z := Int.bmod_eq_of_le (by omega) (by omega)
theorem sfl_get {x : gd} {c c' j n : Nat} {v : Int32} : (sfl x c v n).1 c' j = if c' = c ∧ j < n then v else x.1 c' j := by
  show (if c' = c then (fun j => if j < n then v else x.1 c j) else x.1 c') j = _
  by_cases h : c' = c
  · subst h
    rw [if_pos rfl]
    show (if j < n then v else x.1 c' j) = _
    by_cases h2 : j < n
    · rw [if_pos h2, if_pos ⟨rfl, h2⟩]
    · rw [if_neg h2, if_neg (fun q => h2 q.2)]
  · rw [if_neg h, if_neg (fun q => h q.1)]
/-- x' is x but where S says -/
def fm (S : Nat → Nat → Prop) (x x' : gd) : Prop := ∀ c k, ¬ S c k → x'.1 c k = x.1 c k
theorem fm_rf (S : Nat → Nat → Prop) (x : gd) : fm S x x := fun _ _ _ => rfl
theorem fm_tr {S : Nat → Nat → Prop} {x y z : gd} (a : fm S x y) (b : fm S y z) : fm S x z := fun c k h => (b c k h).trans (a c k h)
theorem fm_w {S S' : Nat → Nat → Prop} {x y : gd} (a : fm S x y) (h : ∀ c k, S c k → S' c k) : fm S' x y := fun c k n => a c k (fun q => n (h c k q))
theorem fm_si {S : Nat → Nat → Prop} {x y : gd} {c k : Nat} {v : Int32} (a : fm S x y) (h : S c k) : fm S x (si y c k v) := fun c' k' n => by
  rw [si_get, if_neg (fun q => n (by rw [q.1, q.2]; exact h))]; exact a c' k' n
theorem fm_fl {S : Nat → Nat → Prop} {x y : gd} {c n : Nat} {v : Int32} (a : fm S x y) (h : ∀ k, k < n → S c k) : fm S x (sfl y c v n) := fun c' k' m => by
  rw [sfl_get, if_neg (fun q => m (by rw [q.1]; exact h k' q.2))]; exact a c' k' m
/-- the text's length -/
def kL (x : gd) : Prop := 0 ≤ (x.1 20 1).toInt ∧ (x.1 20 1).toInt ≤ 3000
section KTOK
variable {G : kG} {q : kP} {d : Nat} {x : gd} {F : Int32 → gd → Prop} {Fv : gd → Prop}
/-- the new token's size and, where it is a whole, its value -/
def skO (m c k : Nat) : Prop := (c = 20 ∧ k = 8) ∨ ((c = 26 ∨ c = 27) ∧ k = m)
end KTOK
end
section
/-! the class's tokens are those of the text -/
def cby0 (b : Nat → Int32) (n p : Nat) : Int32 := if p < n then b p else 0
def kby (x : gd) (p : Nat) : Int32 := x.1 21 p &&& 255
def kln (x : gd) : Nat := (x.1 20 1).toNatClampNeg
/-- the class's numbers of kinds, by the model's -/
def kc (s : Int32) : Int32 := if s = 0 then 0 else if s = 1 then 3 else if s = 2 then 1 else if s = 3 then 2 else if 40 ≤ s ∧ s < 80 then s - 30 else if 10 ≤ s ∧ s < 40 then s + 40 else -1
theorem kc_z (s : Int32) : (s.toInt = 0 ∧ (kc s).toInt = 0) ∨ (s.toInt = 1 ∧ (kc s).toInt = 3) ∨ (s.toInt = 2 ∧ (kc s).toInt = 1) ∨ (s.toInt = 3 ∧ (kc s).toInt = 2) ∨ (40 ≤ s.toInt ∧ s.toInt < 80 ∧ (kc s).toInt = s.toInt - 30) ∨ (10 ≤ s.toInt ∧ s.toInt < 40 ∧ (kc s).toInt = s.toInt + 40) ∨ (kc s).toInt = -1 := by
  have k10 : (10 : Int32).toInt = 10 := rfl
  have k30 : (30 : Int32).toInt = 30 := rfl
  have k40 : (40 : Int32).toInt = 40 := rfl
  have k80 : (80 : Int32).toInt = 80 := rfl
  unfold kc
  by_cases c0 : s = 0
  · rw [if_pos c0, c0]; exact Or.inl ⟨rfl, rfl⟩
  rw [if_neg c0]
  by_cases c1 : s = 1
  · rw [if_pos c1, c1]; exact Or.inr (Or.inl ⟨rfl, rfl⟩)
  rw [if_neg c1]
  by_cases c2 : s = 2
  · rw [if_pos c2, c2]; exact Or.inr (Or.inr (Or.inl ⟨rfl, rfl⟩))
  rw [if_neg c2]
  by_cases c3 : s = 3
  · rw [if_pos c3, c3]; exact Or.inr (Or.inr (Or.inr (Or.inl ⟨rfl, rfl⟩)))
  rw [if_neg c3]
  by_cases c4 : 40 ≤ s ∧ s < 80
  · rw [if_pos c4]
    rw [t_le, t_lt, k40, k80] at c4
    refine Or.inr (Or.inr (Or.inr (Or.inr (Or.inl ⟨c4.1, c4.2, ?_⟩))))
    rw [t_sub (by omega) (by omega), k30]
  rw [if_neg c4]
  by_cases c5 : 10 ≤ s ∧ s < 40
  · rw [if_pos c5]
    rw [t_le, t_lt, k40, k10] at c5
    refine Or.inr (Or.inr (Or.inr (Or.inr (Or.inr (Or.inl ⟨c5.1, c5.2, ?_⟩)))))
    rw [t_add (by omega) (by omega), k40]
  rw [if_neg c5]
  exact Or.inr (Or.inr (Or.inr (Or.inr (Or.inr (Or.inr rfl)))))
theorem kc_i {s c : Int32} (h : kc s = kc c) (n : ¬ kc c = -1) : s = c := by
  have a := kc_z s
  have b := kc_z c
  have m1 : (-1 : Int32).toInt = -1 := rfl
  rw [t_eq] at n h
  rw [t_eq]
  omega
theorem kc_i1 {s : Int32} (h : kc s = 3) : s = 1 := kc_i (c := 1) (h.trans (by decide)) (by decide)
/-- a name's number -/
def hsh (b : Nat → Int32) (p : Nat) : Nat → Int32
  | 0 => 0
  | m + 1 => hsh b p m * 31 + b (p + m)
theorem cby0_lt {b : Nat → Int32} {n p : Nat} (h : p < n) : cby0 b n p = b p := if_pos h
theorem cby0_no {b : Nat → Int32} {n p : Nat} (h : ¬ p < n) : cby0 b n p = 0 := if_neg h
theorem k_ch : ∀ w, w < 32 → ∀ i, i < 7 → cch 0 (w * 7 + i) = wch w i := by decide +kernel
theorem wch_32 {w i : Nat} (hw : w < 32) (hi : i < 8) : wch w i = 32 ↔ wln w ≤ i := by
  have a := w_small w hw i hi
  rw [← w_blank w hw i hi]
  have e1 : (Int32.ofNat ((wtab.getD w []).getD i 32)).toInt = ((wtab.getD w []).getD i 32 : Nat) := Int32.toInt_ofNat_of_lt (by omega)
  have k32 : (32 : Int32).toInt = 32 := rfl
  unfold wch
  rw [t_eq, e1, k32]
  omega
theorem isLD_32 {c : Int32} (h : isLD c) : ¬ c = 32 := fun e => by rw [e] at h; exact absurd h (by decide)
theorem sgk_0 {c d : Int32} (h : ¬ d = 61) : sgk c d = sgk c 0 := by
  have a : ¬ (d = 61 ∧ (c = 61 ∨ c = 33 ∨ c = 60 ∨ c = 62)) := fun q => h q.1
  have b : ¬ ((0 : Int32) = 61 ∧ (c = 61 ∨ c = 33 ∨ c = 60 ∨ c = 62)) := fun q => absurd q.1 (by decide)
  unfold sgk
  rw [if_neg a, if_neg b]
theorem sgk_c {b : Nat → Int32} {n p : Nat} {c : Int32} : sgk c (cby0 b n p) = sgk c (cby1 b n p) := by
  by_cases q : p < n
  · rw [cby0_lt q, cby1_lt q]
  · rw [cby0_no q, cby1_no q]
    exact (sgk_0 (by decide)).symm
theorem sg2_c {b : Nat → Int32} {n p : Nat} {c : Int32} : sg2 c (cby0 b n p) ↔ sg2 c (cby1 b n p) := by
  by_cases q : p < n
  · rw [cby0_lt q, cby1_lt q]
  · rw [cby0_no q, cby1_no q]
    exact ⟨fun z => absurd z.1 (by decide), fun z => absurd z.1 (by decide)⟩
section KTF
variable {G : kG} {q : kP} {d : Nat} {x : gd} {F : Int32 → gd → Prop} {Fv : gd → Prop}
theorem kf_isLetter (hq : kV q) (c : Int32) (h : ∀ r, (¬ r = 0 ↔ isL c) → F r x) : KT G q d zk_X9_isLetter 0 [(0, vi c)] [] x (ri F) := by
  have no : ∀ r : Int32, r = 0 → ¬ isL c → F r x := fun r e n => h r ⟨fun z => absurd e z, fun z => absurd z n⟩
  have yes : ∀ r : Int32, r = 1 → isL c → F r x := fun r e n => h r ⟨fun _ => n, fun _ => by rw [e]; decide⟩
  have g : ¬ (97 ≤ c ∧ c ≤ 122) → KT G q d zk_X9_isLetter 12 [(0, vi c)] [] x (ri F) := by
    intro n
    refine kg_X9_isLetter_12 hq _ ⟨fun c1 => ri_i (no _ rfl ?_), fun c1 => ⟨fun c2 => ri_i (no _ rfl ?_), fun c2 => ri_i (yes _ rfl (Or.inr ⟨?_, ?_⟩))⟩⟩
    · rintro (z | ⟨z, _⟩)
      · exact n z
      · rw [t_lt] at c1; rw [t_le] at z; omega
    · rintro (z | ⟨_, z⟩)
      · exact n z
      · rw [t_lt] at c2; rw [t_le] at z; omega
    · rw [t_lt] at c1; rw [t_le]; omega
    · rw [t_lt] at c2; rw [t_le]; omega
  refine kg_X9_isLetter_0 hq _ ⟨fun c1 => g (fun z => ?_), fun c1 => ⟨fun c2 => ri_i (yes _ rfl (Or.inl ⟨?_, c2⟩)), fun c2 => g (fun z => c2 z.2)⟩⟩
  · have z1 := z.1
    rw [t_lt] at c1; rw [t_le] at z1; omega
  · rw [t_lt] at c1; rw [t_le]; omega
theorem kf_isDigit (hq : kV q) (c : Int32) (h : ∀ r, (¬ r = 0 ↔ isD c) → F r x) : KT G q d zk_X9_isDigit 0 [(0, vi c)] [] x (ri F) := by
  have no : ∀ r : Int32, r = 0 → ¬ isD c → F r x := fun r e n => h r ⟨fun z => absurd e z, fun z => absurd z n⟩
  refine kg_X9_isDigit_0 hq _ ⟨fun c1 => ri_i (no _ rfl (fun z => ?_)), fun c1 => ⟨fun c2 => ri_i (no _ rfl (fun z => ?_)), fun c2 => ri_i (h _ ⟨fun _ => ⟨?_, ?_⟩, fun _ => by decide⟩)⟩⟩
  · have z1 := z.1
    rw [t_lt] at c1; rw [t_le] at z1; omega
  · have z1 := z.2
    rw [t_lt] at c2; rw [t_le] at z1; omega
  · rw [t_lt] at c1; rw [t_le]; omega
  · rw [t_lt] at c2; rw [t_le]; omega
theorem kf_byteAt (hq : kV q) (i : Int32) (hl : kL x) (h0 : 0 ≤ i.toInt) (h : F (cby0 (kby x) (kln x) i.toNatClampNeg) x) : KT G q d zk_X9_byteAt 0 [(0, vr 20), (1, vi i)] [] x (ri F) := by
  obtain ⟨l0, l1⟩ := hl
  have u1 := t_cl i
  have u2 : kln x = (x.1 20 1).toInt.toNat := rfl
  refine kg_X9_byteAt_0 hq _ ⟨fun c => ri_i ?_, fun c => ⟨?_, ri_i ?_⟩⟩
  · rw [t_le] at c
    rwa [cby0_no (by omega)] at h
  · rw [t_le] at c
    rw [vp_in_iff]; omega
  · rw [t_le] at c
    rwa [cby0_lt (by omega)] at h
theorem kf_skip (hq : kV q) (hl : kL x) (h0 : 0 ≤ (x.1 20 8).toInt) (h1 : (x.1 20 8).toInt ≤ (x.1 20 1).toInt) (h : ∀ x', fm (fun c k => c = 20 ∧ (k = 8 ∨ k = 9)) x x' → (x.1 20 8).toInt ≤ (x'.1 20 8).toInt → (x'.1 20 8).toInt ≤ (x.1 20 1).toInt → (x'.1 20 8).toNatClampNeg = lx (kby x) (kln x) (x.1 20 8).toNatClampNeg → Fv x') : KT G q (d + 1) zk_X9_skipBlanks 0 [(0, vr 20)] [] x (rv Fv) := by
  obtain ⟨b, eb⟩ : ∃ b, b = kby x := ⟨_, rfl⟩
  obtain ⟨N, eN⟩ : ∃ N, N = kln x := ⟨_, rfl⟩
  rw [← eb, ← eN] at h
  have uN : (N : Int) = (x.1 20 1).toInt := by
    rw [eN]
    show (((x.1 20 1).toNatClampNeg : Nat) : Int) = _
    rw [t_cl]; have := hl.1; omega
  have k1 : (1 : Int32).toInt = 1 := rfl
  have g1 := hl.2
  have loop : ∀ (n : Nat) (l1 : Int32) (r : Bool) (y : gd), (r = true ↔ ¬ l1 = 0) → fm (fun c k => c = 20 ∧ (k = 8 ∨ k = 9)) x y → (x.1 20 8).toInt ≤ (y.1 20 8).toInt → (y.1 20 8).toInt ≤ (x.1 20 1).toInt → (x.1 20 1).toInt - (y.1 20 8).toInt ≤ n → lx b N (x.1 20 8).toNatClampNeg = lxr b N r (y.1 20 8).toNatClampNeg → KT G q (d + 1) zk_X9_skipBlanks 2 [(0, vr 20), (1, vi l1)] [] y (rv Fv) := by
    intro n
    induction n with
    | zero =>
      intro l1 r y hr hf a1 a2 a3 hx
      have el : y.1 20 1 = x.1 20 1 := hf _ _ (by omega)
      have u8 := t_cl (y.1 20 8)
      refine kg_X9_skipBlanks_2 hq _ ⟨fun c => rv_i (h y hf a1 a2 ?_), fun c => ?_⟩
      · rw [hx, lxr_end (by omega)]
      · rw [t_le, el] at c; omega
    | succ n ih =>
      intro l1 r y hr hf a1 a2 a3 hx
      have el : y.1 20 1 = x.1 20 1 := hf _ _ (by omega)
      have hly : kL y := by unfold kL; rw [el]; exact hl
      have u8 := t_cl (y.1 20 8)
      have eby : kby y = b := by rw [eb]; funext p; unfold kby; rw [hf 21 p (by omega)]
      have eln : kln y = N := by rw [eN]; unfold kln; rw [el]
      refine kg_X9_skipBlanks_2 hq _ ⟨fun c => rv_i (h y hf a1 a2 ?_), fun c => ?_⟩
      · rw [t_le, el] at c
        rw [hx, lxr_end (by omega)]
      rw [t_le, el] at c
      have lt : (y.1 20 8).toNatClampNeg < N := by omega
      have e1 : (y.1 20 8 + 1).toInt = (y.1 20 8).toInt + 1 := by rw [t_add (by omega) (by omega), k1]
      have e2 : (y.1 20 8 + 1).toNatClampNeg = (y.1 20 8).toNatClampNeg + 1 := by rw [t_cl]; omega
      have st := lxr_step (b := b) (n := N) (r := r) lt
      have next : ∀ (l2 : Int32) (r2 : Bool) (z : gd), (r2 = true ↔ ¬ l2 = 0) → fm (fun c k => c = 20 ∧ (k = 8 ∨ k = 9)) x z → z.1 20 8 = y.1 20 8 + 1 → lxr b N r (y.1 20 8).toNatClampNeg = lxr b N r2 ((y.1 20 8).toNatClampNeg + 1) → KT G q (d + 1) zk_X9_skipBlanks 2 [(0, vr 20), (1, vi l2)] [] z (rv Fv) := by
        intro l2 r2 z hr2 fz ez hx2
        refine ih l2 r2 z hr2 fz ?_ ?_ ?_ ?_
        · rw [ez, e1]; omega
        · rw [ez, e1]; omega
        · rw [ez, e1]; omega
        · rw [hx, hx2, ez, e2]
      have fm1 : ∀ z, z = si y 20 8 (y.1 20 8 + 1) → fm (fun c k => c = 20 ∧ (k = 8 ∨ k = 9)) x z ∧ z.1 20 8 = y.1 20 8 + 1 := fun z ez => ⟨by rw [ez]; exact fm_si hf ⟨rfl, Or.inl rfl⟩, by rw [ez]; (simp only [si_get, sfl_get, Nat.reduceEqDiff, eq_self, and_false, false_and, and_true, true_and, if_true, if_false, reduceIte, reduceCtorEq])⟩
      have tail : ¬ b (y.1 20 8).toNatClampNeg = 10 → ¬ (b (y.1 20 8).toNatClampNeg = 47 ∧ (if (y.1 20 8).toNatClampNeg + 1 < N then b ((y.1 20 8).toNatClampNeg + 1) else 0) = 47) → KT G q (d + 1) zk_X9_skipBlanks 69 [(0, vr 20), (1, vi l1), (2, vi (b (y.1 20 8).toNatClampNeg))] [] y (rv Fv) := by
        intro n10 n47
        rw [if_neg n10, if_neg n47] at st
        have one : ¬ (r = false ∧ ¬ b (y.1 20 8).toNatClampNeg = 32 ∧ ¬ b (y.1 20 8).toNatClampNeg = 9 ∧ ¬ b (y.1 20 8).toNatClampNeg = 13) → ∀ z, z = si y 20 8 (y.1 20 8 + 1) → KT G q (d + 1) zk_X9_skipBlanks 2 [(0, vr 20), (1, vi l1)] [] z (rv Fv) := by
          intro no z ez
          rw [if_neg no] at st
          exact next l1 r z hr (fm1 z ez).1 (fm1 z ez).2 st
        refine kg_X9_skipBlanks_69 hq _ _ ⟨fun c1 => one (fun z => ?_), fun c1 => ⟨fun c2 => one (fun z => z.2.1 c2), fun c2 => ⟨fun c3 => one (fun z => z.2.2.1 c3), fun c3 => ⟨fun c4 => one (fun z => z.2.2.2 c4), fun c4 => rv_i (h y hf a1 a2 ?_)⟩⟩⟩⟩
        · have := hr.mpr c1
          rw [z.1] at this
          exact absurd this (by decide)
        · have rf : r = false := by
            cases r with
            | false => rfl
            | true => exact absurd c1 (hr.mp rfl)
          rw [if_pos ⟨rf, c2, c3, c4⟩] at st
          rw [hx, st]
      refine kf_byteAt hq _ hly (by omega) ?_
      rw [eby, eln, cby0_lt lt]
      refine ⟨fun n10 => ⟨fun n47 => tail n10 (fun z => n47 z.1), fun c47 => kf_byteAt hq _ hly (by omega) ?_⟩, fun c10 z ez w ew => ?_⟩
      · rw [eby, eln, e2]
        refine ⟨fun n47 => tail n10 (fun z => n47 z.2), fun d47 z ez => ?_⟩
        rw [if_neg n10, if_pos ⟨c47, d47⟩] at st
        exact next 1 true z ⟨fun _ => by decide, fun _ => rfl⟩ (fm1 z ez).1 (fm1 z ez).2 st
      · rw [if_pos c10] at st
        refine next 0 false w ⟨fun z => absurd z (by decide), fun z => absurd rfl z⟩ ?_ ?_ st
        · rw [ew, ez]; exact fm_si (fm_si hf ⟨rfl, Or.inr rfl⟩) ⟨rfl, Or.inl rfl⟩
        · rw [ew, ez]; (simp only [si_get, sfl_get, Nat.reduceEqDiff, eq_self, and_false, false_and, and_true, true_and, if_true, if_false, reduceIte, reduceCtorEq])
  exact kg_X9_skipBlanks_0 hq (loop ((x.1 20 1).toInt - (x.1 20 8).toInt).toNat 0 false x ⟨fun z => absurd z (by decide), fun z => absurd rfl z⟩ (fm_rf _ _) (Int.le_refl _) h1 (by omega) rfl)
theorem kf_passLD (hq : kV q) (hl : kL x) (hm : vp_in (x.1 20 7) 702) (h0 : 0 ≤ (x.1 20 8).toInt) (h1 : (x.1 20 8).toInt ≤ (x.1 20 1).toInt) (h : ∀ x' (m : Nat), fm (fun c k => (c = 20 ∧ k = 8) ∨ (c = 26 ∧ k = (x.1 20 7).toNatClampNeg)) x x' → RUNq isLD (kby x) (kln x) (x.1 20 8).toNatClampNeg m → (x'.1 20 8).toInt = (x.1 20 8).toInt + m → (x'.1 26 (x.1 20 7).toNatClampNeg).toInt = m → Fv x') : KT G q (d + 1) zk_X9_passLettersAndDigits 0 [(0, vr 20)] [] x (rv Fv) := by
  obtain ⟨b, eb⟩ : ∃ b, b = kby x := ⟨_, rfl⟩
  obtain ⟨N, eN⟩ : ∃ N, N = kln x := ⟨_, rfl⟩
  rw [← eb, ← eN] at h
  have uN : (N : Int) = (x.1 20 1).toInt := by
    rw [eN]
    show (((x.1 20 1).toNatClampNeg : Nat) : Int) = _
    rw [t_cl]; have := hl.1; omega
  have u0 := t_cl (x.1 20 8)
  have k1 : (1 : Int32).toInt = 1 := rfl
  have g1 := hl.2
  have last : ∀ (m : Nat) (y z : gd), fm (fun c k => c = 20 ∧ k = 8) x y → (y.1 20 8).toInt = (x.1 20 8).toInt + m → (x.1 20 8).toInt + m ≤ (x.1 20 1).toInt → RUNq isLD b N (x.1 20 8).toNatClampNeg m → z = si y 26 (y.1 20 7).toNatClampNeg (y.1 20 8 - x.1 20 8) → rv Fv none z := by
    intro m y z hf a1 a2 run ez
    have em : y.1 20 7 = x.1 20 7 := hf _ _ (by omega)
    rw [em] at ez
    refine rv_i (h z m ?_ run ?_ ?_)
    · rw [ez]; exact fm_si (fm_w hf (fun c k q => Or.inl q)) (Or.inr ⟨rfl, rfl⟩)
    · have : z.1 20 8 = y.1 20 8 := by rw [ez]; (simp only [si_get, sfl_get, Nat.reduceEqDiff, eq_self, and_false, false_and, and_true, true_and, if_true, if_false, reduceIte, reduceCtorEq])
      rw [this]; exact a1
    · have e6 : z.1 26 (x.1 20 7).toNatClampNeg = y.1 20 8 - x.1 20 8 := by rw [ez]; (simp only [si_get, sfl_get, Nat.reduceEqDiff, eq_self, and_false, false_and, and_true, true_and, if_true, if_false, reduceIte, reduceCtorEq])
      rw [e6, t_sub (by omega) (by omega)]
      omega
  have loop : ∀ (n m : Nat) (y : gd), fm (fun c k => c = 20 ∧ k = 8) x y → (y.1 20 8).toInt = (x.1 20 8).toInt + m → (x.1 20 8).toInt + m ≤ (x.1 20 1).toInt → (x.1 20 1).toInt - (y.1 20 8).toInt ≤ n → (∀ i, i < m → isLD (b ((x.1 20 8).toNatClampNeg + i))) → KT G q (d + 1) zk_X9_passLettersAndDigits 5 [(0, vr 20), (1, vi (x.1 20 8))] [] y (rv Fv) := by
    intro n
    induction n with
    | zero =>
      intro m y hf a1 a2 a3 hr
      have el : y.1 20 1 = x.1 20 1 := hf _ _ (by omega)
      have em : y.1 20 7 = x.1 20 7 := hf _ _ (by omega)
      refine kg_X9_passLettersAndDigits_5 hq _ ⟨fun c => ⟨by rw [em]; exact hm, fun z ez => last m y z hf a1 a2 ⟨by omega, hr, fun z => by omega⟩ ez⟩, fun c => ?_⟩
      rw [t_le, el] at c; omega
    | succ n ih =>
      intro m y hf a1 a2 a3 hr
      have el : y.1 20 1 = x.1 20 1 := hf _ _ (by omega)
      have em : y.1 20 7 = x.1 20 7 := hf _ _ (by omega)
      have hly : kL y := by unfold kL; rw [el]; exact hl
      have eby : kby y = b := by rw [eb]; funext p; unfold kby; rw [hf 21 p (by omega)]
      have eln : kln y = N := by rw [eN]; unfold kln; rw [el]
      have u8 := t_cl (y.1 20 8)
      have ep : (y.1 20 8).toNatClampNeg = (x.1 20 8).toNatClampNeg + m := by omega
      refine kg_X9_passLettersAndDigits_5 hq _ ⟨fun c => ⟨by rw [em]; exact hm, fun z ez => last m y z hf a1 a2 ⟨by omega, hr, fun z => by rw [t_le, el] at c; omega⟩ ez⟩, fun c => ?_⟩
      rw [t_le, el] at c
      have lt : (x.1 20 8).toNatClampNeg + m < N := by omega
      have e1 : (y.1 20 8 + 1).toInt = (y.1 20 8).toInt + 1 := by rw [t_add (by omega) (by omega), k1]
      have next : isLD (b ((x.1 20 8).toNatClampNeg + m)) → ∀ z, z = si y 20 8 (y.1 20 8 + 1) → KT G q (d + 1) zk_X9_passLettersAndDigits 5 [(0, vr 20), (1, vi (x.1 20 8))] [] z (rv Fv) := by
        intro hb z ez
        have e8 : z.1 20 8 = y.1 20 8 + 1 := by rw [ez]; (simp only [si_get, sfl_get, Nat.reduceEqDiff, eq_self, and_false, false_and, and_true, true_and, if_true, if_false, reduceIte, reduceCtorEq])
        refine ih (m + 1) z (by rw [ez]; exact fm_si hf ⟨rfl, rfl⟩) ?_ (by omega) ?_ (fun i hi => ?_)
        · rw [e8, e1]; omega
        · rw [e8, e1]; omega
        · by_cases ci : i = m
          · rw [ci]; exact hb
          · exact hr i (by omega)
      refine kf_byteAt hq _ hly (by omega) ?_
      rw [eby, eln, ep, cby0_lt lt]
      exact kf_isLetter hq _ (fun r7 h7 => ⟨fun c7 z ez => next (Or.inl (h7.mp c7)) z ez, fun c7 => kf_isDigit hq _ (fun r11 h11 => ⟨fun c11 z ez => next (Or.inr (h11.mp c11)) z ez, fun c11 => ⟨by rw [em]; exact hm, fun z ez => last m y z hf a1 a2 ⟨by omega, hr, fun w => w.2.elim (fun w => h7.mpr w c7) (fun w => h11.mpr w c11)⟩ ez⟩⟩)⟩)
  exact kg_X9_passLettersAndDigits_0 hq (loop ((x.1 20 1).toInt - (x.1 20 8).toInt).toNat 0 x (fm_rf _ _) (by omega) (by omega) (by omega) (fun i hi => absurd hi (Nat.not_lt_zero _)))
theorem kf_isWord (hq : kV q) (w f s : Int32) (wn : Nat) (hl : kL x) (ew : w.toInt = wn) (hw2 : wn < 32) (hf : 0 ≤ f.toInt) (hs : 0 ≤ s.toInt) (hfs : f.toInt + s.toInt ≤ (x.1 20 1).toInt) (hb : ∀ i, i < s.toNatClampNeg → ¬ kby x (f.toNatClampNeg + i) = 32) (h : ∀ r, (¬ r = 0 ↔ WD (kby x) f.toNatClampNeg s.toNatClampNeg wn) → F r x) : KT G q (d + 7) zk_X9_isWord 0 [(0, vr 20), (1, vi w), (2, vi f), (3, vi s)] [] x (ri F) := by
  obtain ⟨b, eb⟩ : ∃ b, b = kby x := ⟨_, rfl⟩
  rw [← eb] at h hb
  have uN : (kln x : Int) = (x.1 20 1).toInt := by
    show (((x.1 20 1).toNatClampNeg : Nat) : Int) = _
    rw [t_cl]; have := hl.1; omega
  have g1 := hl.2
  have k1 : (1 : Int32).toInt = 1 := rfl
  have k7 : (7 : Int32).toInt = 7 := rfl
  have uf := t_cl f
  have us := t_cl s
  have w7 := w_seven wn hw2
  obtain ⟨pd, hpd⟩ : ∃ pd : Nat → Int32, ∀ j, pd j = if j < s.toNatClampNeg then b (f.toNatClampNeg + j) else 32 := ⟨_, fun _ => rfl⟩
  have toWD : s.toInt ≤ 7 → ((∀ j, j < 7 → pd j = wch wn j) ↔ WD b f.toNatClampNeg s.toNatClampNeg wn) := by
    intro s7
    refine ⟨fun a => ?_, fun a j hj => ?_⟩
    · have el : wln wn = s.toNatClampNeg := by
        by_cases c1 : wln wn < s.toNatClampNeg
        · have z := a (wln wn) (by omega)
          rw [hpd, if_pos c1, (wch_32 hw2 (by omega)).mpr (Nat.le_refl _)] at z
          exact absurd z (hb _ c1)
        · by_cases c2 : s.toNatClampNeg < wln wn
          · have z := a s.toNatClampNeg (by omega)
            rw [hpd, if_neg (by omega)] at z
            have := (wch_32 hw2 (by omega)).mp z.symm
            omega
          · omega
      refine ⟨el, fun i hi => ?_⟩
      have z := a i (by omega)
      rw [hpd, if_pos hi] at z
      exact z
    · rw [hpd]
      by_cases c1 : j < s.toNatClampNeg
      · rw [if_pos c1]; exact a.2 j c1
      · rw [if_neg c1]
        exact ((wch_32 hw2 (by omega)).mpr (by rw [a.1]; omega)).symm
  have loop : ∀ (n : Nat) (i : Int32), 0 ≤ i.toInt → i.toInt ≤ 7 → 7 - i.toInt ≤ n → s.toInt ≤ 7 → (∀ j, j < i.toNatClampNeg → pd j = wch wn j) → KT G q (d + 7) zk_X9_isWord 11 [(0, vr 20), (1, vi w), (2, vi f), (3, vi s), (4, vi i)] [] x (ri F) := by
    intro n
    induction n with
    | zero =>
      intro i i0 i7 hn s7 ha
      have ui := t_cl i
      refine kg_X9_isWord_11 hq _ _ _ _ ⟨fun _ => ri_i (h _ ⟨fun _ => (toWD s7).mp (fun j hj => ha j (by omega)), fun _ => by decide⟩), fun c => ?_⟩
      rw [t_le, k7] at c; omega
    | succ n ih =>
      intro i i0 i7 hn s7 ha
      have ui := t_cl i
      refine kg_X9_isWord_11 hq _ _ _ _ ⟨fun c => ri_i (h _ ⟨fun _ => (toWD s7).mp (fun j hj => ha j (by rw [t_le, k7] at c; omega)), fun _ => by decide⟩), fun c => ?_⟩
      rw [t_le, k7] at c
      have e1 : (i + 1).toInt = i.toInt + 1 := by rw [t_add (by omega) (by omega), k1]
      have e1c : (i + 1).toNatClampNeg = i.toNatClampNeg + 1 := by rw [t_cl]; omega
      have e2 : (f + i).toInt = f.toInt + i.toInt := t_add (by omega) (by omega)
      have e2c : (f + i).toNatClampNeg = f.toNatClampNeg + i.toNatClampNeg := by rw [t_cl]; omega
      have e3 : (w * 7).toInt = wn * 7 := by rw [t_mul (by rw [k7]; omega) (by rw [k7]; omega), k7]; omega
      have e4 : (w * 7 + i).toInt = wn * 7 + i.toInt := by rw [t_add (by omega) (by omega), e3]
      have e4c : (w * 7 + i).toNatClampNeg = wn * 7 + i.toNatClampNeg := by rw [t_cl]; omega
      have mid : ∀ v : Int32, v = pd i.toNatClampNeg → KT G q (d + 7) zk_X9_isWord 37 [(0, vr 20), (1, vi w), (2, vi f), (3, vi s), (4, vi i)] [vi v] x (ri F) := by
        intro v ev
        have ch := k_ch wn hw2 i.toNatClampNeg (by omega)
        refine kg_X9_isWord_37 hq _ _ _ _ _ ⟨by rw [vp_in_iff]; omega, fun c5 => ih _ (by omega) (by omega) (by omega) s7 (fun j hj => ?_), fun c5 => ri_i (h _ ⟨fun z => absurd rfl z, fun z => ?_⟩)⟩
        · by_cases cj : j = i.toNatClampNeg
          · rw [e4c, ch] at c5
            rw [cj, ← ev, ← c5]
          · exact ha j (by omega)
        · rw [e4c, ch] at c5
          exact absurd ((toWD s7).mpr z i.toNatClampNeg (by omega)).symm (by rw [← ev]; exact c5)
      refine ⟨fun c6 => mid _ ?_, fun c6 => kf_byteAt hq _ hl (by omega) (mid _ ?_)⟩
      · rw [t_le] at c6
        rw [hpd, if_neg (by omega)]
      · rw [t_le] at c6
        rw [hpd, if_pos (by omega), e2c, cby0_lt (by omega), eb]
  refine kg_X9_isWord_0 hq _ _ _ ⟨fun c => loop 7 0 (by decide) (by decide) (by decide) (by rw [t_le, k7] at c; exact c) (fun j hj => absurd hj (Nat.not_lt_zero _)), fun c => ri_i (h _ ⟨fun z => absurd rfl z, fun z => ?_⟩)⟩
  rw [t_le, k7] at c
  have := z.1
  omega
end KTF
end
section
/-! cutting the text: its tokens, one by one -/
theorem kc_w {w : Nat} {l : Int32} (hw : w < 32) (h : l.toInt = w) : kc (40 + l) = Int32.ofNat (10 + w) := by
  have k40 : (40 : Int32).toInt = 40 := rfl
  have k30 : (30 : Int32).toInt = 30 := rfl
  have k80 : (80 : Int32).toInt = 80 := rfl
  have e : (40 + l).toInt = 40 + w := by rw [t_add (by rw [k40]; omega) (by rw [k40]; omega), k40, h]
  have ne : ∀ v : Int32, v.toInt < 40 → ¬ 40 + l = v := fun v hv q => by rw [← q, e] at hv; omega
  unfold kc
  rw [if_neg (ne 0 (by decide)), if_neg (ne 1 (by decide)), if_neg (ne 2 (by decide)), if_neg (ne 3 (by decide)), if_pos ⟨by rw [t_le, e, k40]; omega, by rw [t_lt, e, k80]; omega⟩, t_eq, t_sub (by rw [e, k30]; omega) (by rw [e, k30]; omega), e, k30]
  have e1 : (Int32.ofNat (10 + w)).toInt = ((10 + w : Nat) : Int) := Int32.toInt_ofNat_of_lt (by omega)
  rw [e1]
  omega
theorem wh_up {v c : Int32} : v * 10 + (c - 48) = 10 * v + c - 48 := by
  rw [Int32.mul_comm v 10, Int32.sub_eq_add_neg, Int32.sub_eq_add_neg, Int32.add_assoc]
section KCF
variable {G : kG} {q : kP} {d : Nat} {x : gd} {F : Int32 → gd → Prop} {Fv : gd → Prop}
theorem kf_nameOrWord (hq : kV q) (f : Int32) (m : Nat) (hl : kL x) (hm : vp_in (x.1 20 7) 702) (hf : 0 ≤ f.toInt) (hs : (x.1 26 (x.1 20 7).toNatClampNeg).toInt = m) (hL : isL (kby x f.toNatClampNeg)) (pn : f.toNatClampNeg < kln x) (run : RUNq isLD (kby x) (kln x) f.toNatClampNeg m) (h : ∀ r x', fm (fun c k => c = 27 ∧ k = (x.1 20 7).toNatClampNeg) x x' → TOK (kby x) (kln x) f.toNatClampNeg (kc r) m (x'.1 27 (x.1 20 7).toNatClampNeg) → ¬ r = 0 → ¬ r = 3 → (r = 2 → x'.1 27 (x.1 20 7).toNatClampNeg = hsh (kby x) f.toNatClampNeg m) → F r x') : KT G q (d + 8) zk_X9_nameOrWord 0 [(0, vr 20), (1, vi f)] [] x (ri F) := by
  obtain ⟨b, eb⟩ : ∃ b, b = kby x := ⟨_, rfl⟩
  obtain ⟨N, eN⟩ : ∃ N, N = kln x := ⟨_, rfl⟩
  rw [← eb] at hL run h
  rw [← eN] at run h pn
  have uN : (N : Int) = (x.1 20 1).toInt := by
    rw [eN]
    show (((x.1 20 1).toNatClampNeg : Nat) : Int) = _
    rw [t_cl]; have := hl.1; omega
  have g1 := hl.2
  have k1 : (1 : Int32).toInt = 1 := rfl
  have k12 : (12 : Int32).toInt = 12 := rfl
  have k32 : (32 : Int32).toInt = 32 := rfl
  have uf := t_cl f
  have us := t_cl (x.1 26 (x.1 20 7).toNatClampNeg)
  have r1 := run.1
  have tk : ∀ {k v : Int32}, ((∃ w, w < 32 ∧ WD b f.toNatClampNeg m w ∧ k = Int32.ofNat (10 + w)) ∨ ((∀ w, w < 32 → ¬ WD b f.toNatClampNeg m w) ∧ ((m ≤ 12 ∧ k = 1) ∨ (12 < m ∧ k = 3)))) → TOK b N f.toNatClampNeg k m v := fun z => Or.inr (Or.inl ⟨pn, hL, run, z⟩)
  have l57 : ∀ (n j : Nat) (v i : Int32), i.toInt = j → j + n = m → m ≤ 12 → v = hsh b f.toNatClampNeg j → (∀ w, w < 32 → ¬ WD b f.toNatClampNeg m w) → KT G q (d + 8) zk_X9_nameOrWord 57 [(0, vr 20), (1, vi f), (2, vi v), (3, vi i)] [] x (ri F) := by
    intro n
    induction n with
    | zero =>
      intro j v i ei hj m12 ev no
      refine kg_X9_nameOrWord_57 hq _ _ _ ⟨hm, fun _ => ⟨hm, fun z ez => ?_⟩, fun c => ?_⟩
      · have z7 : z.1 27 (x.1 20 7).toNatClampNeg = v := by rw [ez, si_get, if_pos ⟨rfl, rfl⟩]
        refine ri_i (h _ z (by rw [ez]; exact fm_si (fm_rf _ _) ⟨rfl, rfl⟩) (tk (Or.inr ⟨no, Or.inl ⟨m12, by decide⟩⟩)) (by decide) (by decide) (fun _ => ?_))
        rw [z7, ev, show j = m by omega]
      · rw [t_le] at c; omega
    | succ n ih =>
      intro j v i ei hj m12 ev no
      refine kg_X9_nameOrWord_57 hq _ _ _ ⟨hm, fun c => ?_, fun c => ?_⟩
      · rw [t_le] at c; omega
      have e1 : (i + 1).toInt = ((j + 1 : Nat) : Int) := by rw [t_add (by omega) (by omega), k1, ei]; rfl
      have e2 : (f + i).toInt = f.toInt + j := by rw [t_add (by omega) (by omega), ei]
      have e2c : (f + i).toNatClampNeg = f.toNatClampNeg + j := by rw [t_cl]; omega
      refine kf_byteAt hq _ hl (by omega) ?_
      rw [e2c, ← eb, ← eN, cby0_lt (by omega)]
      exact ih (j + 1) _ _ e1 (by omega) m12 (by rw [ev]; rfl) no
  have l18 : ∀ (n w : Nat) (i : Int32), i.toInt = w → w + n = 32 → m ≤ 12 → (∀ v, v < w → ¬ WD b f.toNatClampNeg m v) → KT G q (d + 8) zk_X9_nameOrWord 18 [(0, vr 20), (1, vi f), (2, vi i)] [] x (ri F) := by
    intro n
    induction n with
    | zero =>
      intro w i ei hw m12 no
      refine kg_X9_nameOrWord_18 hq _ _ ⟨fun _ => l57 m 0 0 0 rfl (by omega) m12 rfl (fun v hv => no v (by omega)), fun c => ?_⟩
      rw [t_le, k32] at c; omega
    | succ n ih =>
      intro w i ei hw m12 no
      refine kg_X9_nameOrWord_18 hq _ _ ⟨fun c => ?_, fun c => ⟨hm, ?_⟩⟩
      · rw [t_le, k32] at c; omega
      have e1 : (i + 1).toInt = ((w + 1 : Nat) : Int) := by rw [t_add (by omega) (by omega), k1, ei]; rfl
      have sm : (x.1 26 (x.1 20 7).toNatClampNeg).toNatClampNeg = m := by omega
      refine kf_isWord hq _ _ _ w hl ei (by omega) hf (by omega) (by omega) (fun j hj => ?_) (fun r hr => ?_)
      · rw [sm] at hj
        rw [← eb]
        exact isLD_32 (run.2.1 j hj)
      · rw [sm, ← eb] at hr
        refine ⟨fun c4 => ih (w + 1) _ e1 (by omega) m12 (fun v hv => ?_), fun c4 => ri_i (h _ x (fm_rf _ _) (tk (Or.inl ⟨w, by omega, hr.mp c4, kc_w (by omega) ei⟩)) ?_ ?_ (fun q2 => ?_))⟩
        · by_cases cv : v = w
          · rw [cv]; exact fun z => hr.mpr z c4
          · exact no v (by omega)
        all_goals
          have k40 : (40 : Int32).toInt = 40 := rfl
          have e4 : (40 + i).toInt = 40 + w := by rw [t_add (by rw [k40]; omega) (by rw [k40]; omega), k40, ei]
        · intro z; rw [z] at e4; have : (0 : Int32).toInt = 0 := rfl; omega
        · intro z; rw [z] at e4; have : (3 : Int32).toInt = 3 := rfl; omega
        · rw [q2] at e4; have : (2 : Int32).toInt = 2 := rfl; omega
  refine kg_X9_nameOrWord_0 hq _ ⟨hm, fun c => l18 32 0 0 rfl rfl ?_ (fun v hv => absurd hv (Nat.not_lt_zero _)), fun c => ri_i (h _ x (fm_rf _ _) (tk (Or.inr ⟨fun w hw z => ?_, Or.inr ⟨?_, by decide⟩⟩)) (by decide) (by decide) (fun q2 => absurd q2 (by decide)))⟩
  · rw [t_le, k12] at c; omega
  · have := w_seven w hw
    have := z.1
    rw [t_le, k12] at c; omega
  · rw [t_le, k12] at c; omega
theorem kf_wholeOrBad (hq : kV q) (f : Int32) (m : Nat) (hl : kL x) (hm : vp_in (x.1 20 7) 702) (hf : 0 ≤ f.toInt) (hs : (x.1 26 (x.1 20 7).toNatClampNeg).toInt = m) (hD : isD (kby x f.toNatClampNeg)) (pn : f.toNatClampNeg < kln x) (run : RUNq isLD (kby x) (kln x) f.toNatClampNeg m) (h : ∀ r x', fm (fun c k => c = 27 ∧ k = (x.1 20 7).toNatClampNeg) x x' → TOK (kby x) (kln x) f.toNatClampNeg (kc r) m (x'.1 27 (x.1 20 7).toNatClampNeg) → ¬ r = 0 → ¬ r = 2 → F r x') : KT G q (d + 1) zk_X9_wholeOrBad 0 [(0, vr 20), (1, vi f)] [] x (ri F) := by
  obtain ⟨b, eb⟩ : ∃ b, b = kby x := ⟨_, rfl⟩
  obtain ⟨N, eN⟩ : ∃ N, N = kln x := ⟨_, rfl⟩
  rw [← eb] at hD run h
  rw [← eN] at run h pn
  have uN : (N : Int) = (x.1 20 1).toInt := by
    rw [eN]
    show (((x.1 20 1).toNatClampNeg : Nat) : Int) = _
    rw [t_cl]; have := hl.1; omega
  have g1 := hl.2
  have k1 : (1 : Int32).toInt = 1 := rfl
  have k9 : (9 : Int32).toInt = 9 := rfl
  have uf := t_cl f
  have r1 := run.1
  have bad : ∀ v : Int32, (9 < m ∨ ∃ i, i < m ∧ ¬ isD (b (f.toNatClampNeg + i))) → TOK b N f.toNatClampNeg 3 m v := fun v z => Or.inr (Or.inr (Or.inl ⟨pn, hD, Or.inr ⟨rfl, m, run, z⟩⟩))
  have loop : ∀ (n j : Nat) (v i : Int32), i.toInt = j → j + n = m → m ≤ 9 → v = whv b f.toNatClampNeg j → (∀ t, t < j → isD (b (f.toNatClampNeg + t))) → KT G q (d + 1) zk_X9_wholeOrBad 20 [(0, vr 20), (1, vi f), (2, vi v), (3, vi i)] [] x (ri F) := by
    intro n
    induction n with
    | zero =>
      intro j v i ei hj m9 ev hd
      refine kg_X9_wholeOrBad_20 hq _ _ _ ⟨hm, fun _ => ⟨hm, fun z ez => ?_⟩, fun c => ?_⟩
      · have z7 : z.1 27 (x.1 20 7).toNatClampNeg = v := by rw [ez, si_get, if_pos ⟨rfl, rfl⟩]
        have jm : j = m := by omega
        refine ri_i (h _ z (by rw [ez]; exact fm_si (fm_rf _ _) ⟨rfl, rfl⟩) ?_ (by decide) (by decide))
        rw [z7]
        exact Or.inr (Or.inr (Or.inl ⟨pn, hD, Or.inl ⟨by decide, run, m9, fun t ht => hd t (by omega), by rw [ev, jm]⟩⟩))
      · rw [t_le] at c; omega
    | succ n ih =>
      intro j v i ei hj m9 ev hd
      refine kg_X9_wholeOrBad_20 hq _ _ _ ⟨hm, fun c => ?_, fun c => ?_⟩
      · rw [t_le] at c; omega
      have e1 : (i + 1).toInt = ((j + 1 : Nat) : Int) := by rw [t_add (by omega) (by omega), k1, ei]; rfl
      have e2 : (f + i).toInt = f.toInt + j := by rw [t_add (by omega) (by omega), ei]
      have e2c : (f + i).toNatClampNeg = f.toNatClampNeg + j := by rw [t_cl]; omega
      refine kf_byteAt hq _ hl (by omega) ?_
      rw [e2c, ← eb, ← eN, cby0_lt (by omega)]
      refine kf_isDigit hq _ (fun r8 h8 => ⟨fun c8 => ih (j + 1) _ _ e1 (by omega) m9 ?_ (fun t ht => ?_), fun c8 => ri_i (h _ x (fm_rf _ _) (bad _ (Or.inr ⟨j, by omega, fun z => h8.mpr z c8⟩)) (by decide) (by decide))⟩)
      · rw [wh_up, ev]; rfl
      · by_cases ct : t = j
        · rw [ct]; exact h8.mp c8
        · exact hd t (by omega)
  refine kg_X9_wholeOrBad_0 hq _ ⟨hm, fun c => loop m 0 0 0 rfl (by omega) ?_ rfl (fun t ht => absurd ht (Nat.not_lt_zero _)), fun c => ri_i (h _ x (fm_rf _ _) (bad _ (Or.inl ?_)) (by decide) (by decide))⟩
  · rw [t_le, k9] at c; omega
  · rw [t_le, k9] at c; omega
theorem kf_singleSign (hq : kV q) (c : Int32) (n61 : ¬ c = 61) (n33 : ¬ c = 33) (n60 : ¬ c = 60) (n62 : ¬ c = 62) (h : ∀ r, kc r = sgk c 0 → ¬ r = 0 → ¬ r = 2 → F r x) : KT G q d zk_X9_singleSign 0 [(0, vi c)] [] x (ri F) := by
  have no : ¬ ((0 : Int32) = 61 ∧ (c = 61 ∨ c = 33 ∨ c = 60 ∨ c = 62)) := fun z => absurd z.1 (by decide)
  refine kg_X9_singleSign_0 hq _ ⟨fun e => ?_, fun e => ?_, fun e => ?_, fun e => ?_, fun e => ?_, fun e => ?_, fun e => ?_, fun e => ?_, fun e => ?_, fun e => ?_, fun e => ?_, fun e => ?_, fun e => ?_⟩
  case' refine_13 =>
    refine ri_i (h _ ?_ (by decide) (by decide))
    unfold sgk
    rw [if_neg no, if_neg n61, if_neg n60, if_neg n62, if_neg (e 43 (by decide)), if_neg (e 45 (by decide)), if_neg (e 42 (by decide)), if_neg (e 47 (by decide)), if_neg (e 40 (by decide)), if_neg (e 41 (by decide)), if_neg (e 123 (by decide)), if_neg (e 125 (by decide)), if_neg (e 91 (by decide)), if_neg (e 93 (by decide)), if_neg (e 59 (by decide)), if_neg (e 44 (by decide))]
    rfl
  all_goals
    refine ri_i (h _ ?_ (by decide) (by decide))
    rw [e]
    decide
theorem kf_sign (hq : kV q) (b0 : Nat → Int32) (N p : Nat) (hl : kL x) (hm : vp_in (x.1 20 7) 702) (eb : b0 = kby x) (eN : N = kln x) (ep : (x.1 20 8).toInt = p) (pn : p < N) (nld : ¬ isLD (b0 p))
    (h : ∀ r x' (m : Nat), fm (skO (x.1 20 7).toNatClampNeg) x x' → TOK b0 N p (kc r) m (x'.1 27 (x.1 20 7).toNatClampNeg) → ¬ r = 0 → ¬ r = 2 → (x'.1 26 (x.1 20 7).toNatClampNeg).toInt = m → (x'.1 20 8).toInt = p + m → p + m ≤ N → F r x') : KT G q (d + 1) zk_X9_sign 0 [(0, vr 20), (1, vi (b0 p)), (2, vi (cby0 b0 N (p + 1)))] [] x (ri F) := by
  have g1 := hl.2
  have uN : (N : Int) = (x.1 20 1).toInt := by
    rw [eN]
    show (((x.1 20 1).toNatClampNeg : Nat) : Int) = _
    rw [t_cl]; have := hl.1; omega
  have k1 : (1 : Int32).toInt = 1 := rfl
  have k2 : (2 : Int32).toInt = 2 := rfl
  obtain ⟨c, ec⟩ : ∃ c, c = b0 p := ⟨_, rfl⟩
  obtain ⟨e, ee⟩ : ∃ e, e = cby0 b0 N (p + 1) := ⟨_, rfl⟩
  rw [← ec, ← ee]
  have two : sg2 c e → p + 2 ≤ N := fun z => by
    have z1 := z.1
    rw [ee] at z1
    by_cases cq : p + 1 < N
    · omega
    · rw [cby0_no cq] at z1; exact absurd z1 (by decide)
  have p53 : ∀ (l3 s : Int32), ((l3 = 0 ∧ s = 1 ∧ ¬ sg2 c e) ∨ (¬ l3 = 0 ∧ s = 2 ∧ sg2 c e)) → KT G q (d + 1) zk_X9_sign 53 [(0, vr 20), (1, vi c), (3, vi l3)] [vi s, vi (x.1 20 7), vr 26] x (ri F) := by
    intro l3 s hs
    refine kg_X9_sign_53 hq _ _ _ _ ⟨hm, fun x2 e2 => ?_⟩
    have m2 : x2.1 20 7 = x.1 20 7 := by rw [e2]; (simp only [si_get, sfl_get, Nat.reduceEqDiff, eq_self, and_false, false_and, and_true, true_and, if_true, if_false, reduceIte, reduceCtorEq])
    refine ⟨by rw [m2]; exact hm, fun x4 e4 => ?_⟩
    have fin : ∀ r : Int32, kc r = sgk c e → ¬ r = 0 → ¬ r = 2 → F r x4 := by
      intro r hr r0 r2
      have s6 : x4.1 26 (x.1 20 7).toNatClampNeg = s := by rw [e4, e2]; (simp only [si_get, sfl_get, Nat.reduceEqDiff, eq_self, and_false, false_and, and_true, true_and, if_true, if_false, reduceIte, reduceCtorEq])
      have s8 : x4.1 20 8 = x.1 20 8 + s := by rw [e4, m2, e2]; (simp only [si_get, sfl_get, Nat.reduceEqDiff, eq_self, and_false, false_and, and_true, true_and, if_true, if_false, reduceIte, reduceCtorEq])
      obtain ⟨m, em, hm2, hN⟩ : ∃ m : Nat, s.toInt = m ∧ ((sg2 c e ∧ m = 2) ∨ (¬ sg2 c e ∧ m = 1)) ∧ p + m ≤ N := by
        rcases hs with ⟨_, rfl, z⟩ | ⟨_, rfl, z⟩
        · exact ⟨1, rfl, Or.inr ⟨z, rfl⟩, by omega⟩
        · exact ⟨2, rfl, Or.inl ⟨z, rfl⟩, two z⟩
      refine h r x4 m ?_ ?_ r0 r2 (by rw [s6]; exact em) (by rw [s8, t_add (by omega) (by omega)]; omega) hN
      · rw [e4, e2]; exact fm_si (fm_si (fm_rf _ _) (Or.inr ⟨Or.inl rfl, rfl⟩)) (Or.inl ⟨rfl, rfl⟩)
      · refine Or.inr (Or.inr (Or.inr ⟨pn, nld, ?_, ?_⟩))
        · rw [hr, ← ec, ee, sgk_c]
        · rw [← ec, ← sg2_c, ← ee]; exact hm2
    have one : ¬ sg2 c e → ∀ v : Int32, sgk c 0 = v → sgk c e = v := fun z v hv => by
      by_cases q61 : e = 61
      · rw [← hv]
        unfold sgk
        unfold sg2 at z
        rw [if_neg z, if_neg (fun w : (0 : Int32) = 61 ∧ _ => absurd w.1 (by decide))]
      · rw [sgk_0 q61]; exact hv
    have sgt : ∀ v w : Int32, sg2 c e → c = w → (if w = 61 then (51 : Int32) else if w = 33 then 52 else if w = 60 then 54 else 56) = v → sgk c e = v := fun v w z hw hv => by
      unfold sgk
      unfold sg2 at z
      rw [if_pos z, hw, hv]
    refine ⟨fun c1 => ⟨fun z => ri_i (fin _ ?_ (by decide) (by decide)), fun z => ri_i (fin _ ?_ (by decide) (by decide))⟩, fun c1 => ⟨fun z => ri_i (fin _ ?_ (by decide) (by decide)), fun z => ri_i (fin _ ?_ (by decide) (by decide))⟩, fun c1 => ⟨fun z => ri_i (fin _ ?_ (by decide) (by decide)), fun z => ri_i (fin _ ?_ (by decide) (by decide))⟩, fun c1 => ⟨fun z => ri_i (fin _ ?_ (by decide) (by decide)), fun z => ri_i (fin _ ?_ (by decide) (by decide))⟩, fun c1 => kf_singleSign hq _ (c1 61 (by decide)) (c1 33 (by decide)) (c1 60 (by decide)) (c1 62 (by decide)) (fun r hr r0 r2 => ri_i (fin r ?_ r0 r2))⟩
    rotate_right
    · have ns : ¬ sg2 c e := fun z => z.2.elim (c1 61 (by decide)) (fun z => z.elim (c1 33 (by decide)) (fun z => z.elim (c1 60 (by decide)) (c1 62 (by decide))))
      rw [hr]
      exact (one ns _ rfl).symm
    all_goals
      rcases hs with ⟨a1, -, a3⟩ | ⟨a1, -, a3⟩
    all_goals first
      | exact absurd a1 z
      | exact absurd z a1
      | (refine (one a3 _ ?_).symm; rw [c1]; decide)
      | (refine (sgt _ _ a3 c1 ?_).symm; decide)
  have p35 : ∀ s : Int32, (s = 0 → ¬ sg2 c e) → (¬ s = 0 → sg2 c e) → KT G q (d + 1) zk_X9_sign 35 [(0, vr 20), (1, vi c)] [vi s] x (ri F) := by
    intro s h0 h1
    exact kg_X9_sign_35 hq _ _ ⟨fun z => p53 _ _ (Or.inl ⟨z, rfl, h0 z⟩), fun z => p53 _ _ (Or.inr ⟨z, rfl, h1 z⟩)⟩
  have p0 : ¬ sg2 c e → KT G q (d + 1) zk_X9_sign 35 [(0, vr 20), (1, vi c)] [vi 0] x (ri F) := fun z => p35 0 (fun _ => z) (fun q => absurd rfl q)
  have p1 : sg2 c e → KT G q (d + 1) zk_X9_sign 35 [(0, vr 20), (1, vi c)] [vi 1] x (ri F) := fun z => p35 1 (fun q => absurd q (by decide)) (fun _ => z)
  exact kg_X9_sign_0 hq _ _ ⟨fun z => p0 (fun w => z w.1), fun z => ⟨fun c1 => p1 ⟨z, Or.inl c1⟩, fun c1 => ⟨fun c2 => p1 ⟨z, Or.inr (Or.inl c2)⟩, fun c2 => ⟨fun c3 => p1 ⟨z, Or.inr (Or.inr (Or.inl c3))⟩, fun c3 => ⟨fun c4 => p0 (fun w => w.2.elim c1 (fun w => w.elim c2 (fun w => w.elim c3 c4))), fun c4 => p1 ⟨z, Or.inr (Or.inr (Or.inr c4))⟩⟩⟩⟩⟩⟩
theorem kf_cutOne (hq : kV q) (b : Nat → Int32) (N p : Nat) (hl : kL x) (hm : vp_in (x.1 20 7) 702) (eb : b = kby x) (eN : N = kln x) (ep : (x.1 20 8).toInt = p) (pn : p < N)
    (h : ∀ r x' (m : Nat), fm (skO (x.1 20 7).toNatClampNeg) x x' → TOK b N p (kc r) m (x'.1 27 (x.1 20 7).toNatClampNeg) → ¬ r = 0 → (r = 2 → x'.1 27 (x.1 20 7).toNatClampNeg = hsh b p m) → (x'.1 26 (x.1 20 7).toNatClampNeg).toInt = m → (x'.1 20 8).toInt = p + m → p + m ≤ N → F r x') : KT G q (d + 9) zk_X9_cutOne 0 [(0, vr 20)] [] x (ri F) := by
  have g1 := hl.2
  have uN : (N : Int) = (x.1 20 1).toInt := by
    rw [eN]
    show (((x.1 20 1).toNatClampNeg : Nat) : Int) = _
    rw [t_cl]; have := hl.1; omega
  have k1 : (1 : Int32).toInt = 1 := rfl
  have cp : (x.1 20 8).toNatClampNeg = p := by rw [t_cl]; omega
  have e1 : (x.1 20 8 + 1).toInt = (x.1 20 8).toInt + 1 := by rw [t_add (by omega) (by omega), k1]
  have e1c : (x.1 20 8 + 1).toNatClampNeg = p + 1 := by rw [t_cl]; omega
  have ld : ∀ {P : gd → Prop}, (∀ y (m : Nat), fm (fun c k => (c = 20 ∧ k = 8) ∨ (c = 26 ∧ k = (x.1 20 7).toNatClampNeg)) x y → RUNq isLD b N p m → (y.1 20 8).toInt = p + m → (y.1 26 (y.1 20 7).toNatClampNeg).toInt = m → kL y → y.1 20 7 = x.1 20 7 → kby y = b → kln y = N → P y) → KT G q (d + 8) zk_X9_passLettersAndDigits 0 [(0, vr 20)] [] x (rv P) := by
    intro P hP
    refine kf_passLD hq hl hm (by omega) (by omega) (fun y m hf run a1 a2 => ?_)
    have em : y.1 20 7 = x.1 20 7 := hf _ _ (by omega)
    have el : y.1 20 1 = x.1 20 1 := hf _ _ (by omega)
    rw [cp, ← eb, ← eN] at run
    refine hP y m hf run (by rw [a1, ep]) (by rw [em]; exact a2) (by unfold kL; rw [el]; exact hl) em ?_ ?_
    · rw [eb]; funext t; unfold kby; rw [hf 21 t (by omega)]
    · rw [eN]; unfold kln; rw [el]
  refine kg_X9_cutOne_0 hq (kf_byteAt hq _ hl (by omega) ?_)
  rw [cp, ← eb, ← eN, cby0_lt pn]
  refine kf_isLetter hq _ (fun r4 h4 => ⟨fun c4 => kf_isDigit hq _ (fun r7 h7 => ⟨fun c7 => kf_byteAt hq _ hl (by omega) ?_, fun c7 => ld (fun y m hf run a1 a2 hly em eby eln => ?_)⟩), fun c4 => ld (fun y m hf run a1 a2 hly em eby eln => ?_)⟩)
  · rw [e1c, ← eb, ← eN]
    exact kf_sign hq b N p hl hm eb eN ep pn (fun z => z.elim (fun z => h4.mpr z c4) (fun z => h7.mpr z c7)) (fun r x' m f1 t1 r0 r2 s0 s1 s2 => ri_i (h r x' m f1 t1 r0 (fun z => absurd z r2) s0 s1 s2))
  · refine kf_wholeOrBad hq _ m hly (by rw [em]; exact hm) (by omega) a2 (by rw [cp, eby]; exact h7.mp c7) (by rw [cp, eln]; exact pn) (by rw [cp, eby, eln]; exact run) (fun r z hz t1 r0 r2 => ri_i ?_)
    rw [em] at hz t1 a2
    rw [cp, eby, eln] at t1
    have z6 : z.1 26 (x.1 20 7).toNatClampNeg = y.1 26 (x.1 20 7).toNatClampNeg := hz _ _ (by omega)
    have z8 : z.1 20 8 = y.1 20 8 := hz _ _ (by omega)
    refine h r z m (fm_tr (fm_w hf (fun c k q => ?_)) (fm_w hz (fun c k q => ?_))) t1 r0 (fun q => absurd q r2) (by rw [z6]; exact a2) (by rw [z8]; exact a1) run.1
    · unfold skO; omega
    · unfold skO; omega
  · refine kf_nameOrWord hq _ m hly (by rw [em]; exact hm) (by omega) a2 (by rw [cp, eby]; exact h4.mp c4) (by rw [cp, eln]; exact pn) (by rw [cp, eby, eln]; exact run) (fun r z hz t1 r0 r3 r2 => ri_i ?_)
    rw [em] at hz t1 a2 r2
    rw [cp, eby] at r2
    rw [cp, eby, eln] at t1
    have z6 : z.1 26 (x.1 20 7).toNatClampNeg = y.1 26 (x.1 20 7).toNatClampNeg := hz _ _ (by omega)
    have z8 : z.1 20 8 = y.1 20 8 := hz _ _ (by omega)
    refine h r z m (fm_tr (fm_w hf (fun c k q => ?_)) (fm_w hz (fun c k q => ?_))) t1 r0 r2 (by rw [z6]; exact a2) (by rw [z8]; exact a1) run.1
    · unfold skO; omega
    · unfold skO; omega
end KCF
end
section
/-! the class: the cut text, names -/
/-- n tokens are well -/
def kTw (x : gd) (n : Nat) : Prop := ∀ j, j < n → (0 ≤ (x.1 24 j).toInt ∧ 0 ≤ (x.1 26 j).toInt ∧ (x.1 24 j).toInt + (x.1 26 j).toInt ≤ 3000) ∧ ¬ x.1 23 j = 0 ∧ (x.1 23 j = 3 → 0 ≤ (x.1 27 j).toInt)
def kT (x : gd) : Prop := kL x ∧ ∃ n : Nat, (x.1 20 7).toInt = n ∧ n ≤ 701 ∧ kTw x n ∧ x.1 23 n = 0
/-- a token of the text -/
def tk (x : gd) (a : Int32) : Prop := 0 ≤ a.toInt ∧ a.toInt < (x.1 20 7).toInt
/-- what cutting changes -/
def skC (c k : Nat) : Prop := (23 ≤ c ∧ c ≤ 27) ∨ (c = 20 ∧ 7 ≤ k)
section KNM
variable {G : kG} {q : kP} {d : Nat} {x : gd} {F : Int32 → gd → Prop} {Fv : gd → Prop}
theorem kT_at (hT : kT x) {a : Int32} (ha : tk x a) : vp_in a 702 ∧ (0 ≤ (x.1 24 a.toNatClampNeg).toInt ∧ 0 ≤ (x.1 26 a.toNatClampNeg).toInt ∧ (x.1 24 a.toNatClampNeg).toInt + (x.1 26 a.toNatClampNeg).toInt ≤ 3000) := by
  obtain ⟨hl, n, en, hn, hw, -⟩ := hT
  obtain ⟨h0, h1⟩ := ha
  exact ⟨by rw [vp_in_iff]; omega, (hw _ (by rw [t_cl]; omega)).1⟩
/-- what was told -/
def NM (x : gd) : Prop := (0 ≤ (x.1 40 6).toInt ∧ (x.1 40 6).toInt ≤ 24) ∧ (0 ≤ (x.1 40 8).toInt ∧ (x.1 40 8).toInt ≤ 6) ∧ (0 ≤ (x.1 40 10).toInt ∧ (x.1 40 10).toInt ≤ 6) ∧ (∀ i : Nat, (i : Int) < (x.1 40 6).toInt → tk x (x.1 44 i) ∧ 0 ≤ (x.1 45 i).toInt ∧ 0 ≤ (x.1 46 i).toInt ∧ (x.1 46 i).toInt ≤ 8 ∧ (x.1 45 i).toInt + 1 ≤ (x.1 60 6).toInt ∧ (x.1 45 i).toInt + (x.1 46 i).toInt ≤ (x.1 60 6).toInt) ∧ (∀ i : Nat, (i : Int) < (x.1 40 8).toInt → tk x (x.1 48 i)) ∧ ∀ i : Nat, (i : Int) < (x.1 40 10).toInt → tk x (x.1 50 i)
theorem kp_isRowSize (hq : kV q) (v : Int32) (h : ∀ r : Int32, (¬ r = 0 → 1 ≤ v.toInt ∧ v.toInt ≤ 8) → F r x) : KT G q d zk_X6_isRowSize 0 [(0, vi v)] [] x (ri F) := by
  refine kg_X6_isRowSize_0 hq _ ⟨fun c1 => ri_i (h _ (fun q => absurd rfl q)), fun c1 => ⟨fun c2 => ri_i (h _ (fun q => absurd rfl q)), fun c2 => ri_i (h _ (fun _ => ?_))⟩⟩
  clear h; constructor <;> ((try simp only [t_lt, t_le, t_eq, t_cl, tm1, vp_in_iff, Int32.toInt_add, Int32.toInt_sub, Int32.toInt_mul, Int32.reduceToInt, Nat.reducePow] at *) <;> (try simp (disch := omega) only [bm] at *) <;> omega)
/-- a token that was judged -/
def JM (x : gd) (j : Nat) : Prop := (x.1 42 j = 0 ∨ x.1 42 j = 1 ∨ x.1 42 j = 4 ∨ x.1 42 j = 5 ∨ x.1 42 j = 6 ∨ x.1 42 j = 7 ∨ x.1 42 j = 11 ∨ x.1 42 j = 12 ∨ x.1 42 j = 13) ∧ (x.1 42 j = 4 → 0 ≤ (x.1 43 j).toInt ∧ (x.1 43 j).toInt < (x.1 40 8).toInt) ∧ (x.1 42 j = 5 → 0 ≤ (x.1 43 j).toInt ∧ (x.1 43 j).toInt < (x.1 40 10).toInt) ∧ (x.1 42 j = 6 ∨ x.1 42 j = 7 → 0 ≤ (x.1 43 j).toInt ∧ (x.1 43 j).toInt < (x.1 40 6).toInt) ∧ (x.1 42 j = 12 → (x.1 27 j).toInt < (x.1 46 (x.1 43 (j - 2)).toNatClampNeg).toInt)
theorem JM_of {j : Nat} {u : Int32} (e : x.1 42 j = u) (h1 : u = 0 ∨ u = 1 ∨ u = 11 ∨ u = 13) : JM x j := by
  unfold JM
  rw [e]
  rcases h1 with rfl | rfl | rfl | rfl <;> refine ⟨by decide, fun q => absurd q (by decide), fun q => absurd q (by decide), fun q => absurd q (by decide), fun q => absurd q (by decide)⟩
end KNM
end
