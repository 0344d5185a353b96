/-! laying: what the small methods answer -/
/-- the slot of the local at a place, as it was told; the mask of those known -/
def slt : gK → Nat → Nat
  | [], _ => 0
  | k :: ks, p => if p = ks.length then k.2 else slt ks p
def kmZ (x : gd) : Nat → Int32
  | 0 => 0
  | n + 1 => kmZ x n ||| (1 <<< ((x.1 46 n) &&& 31))
def kms : gK → Int32
  | [] => 0
  | k :: ks => kms ks ||| (1 <<< (Int32.ofNat k.2 &&& 31))
theorem kfi_lt {sN : Nat → Nat → Bool} {t p : Nat} : ∀ {ks : gK}, kfi sN ks t = some p → p < ks.length := by
  intro ks
  induction ks with
  | nil => intro h; exact absurd h (by simp [kfi])
  | cons k ks ih =>
    intro h
    rw [kfi] at h
    split at h
    · cases Option.some.inj h; exact Nat.lt_succ_self _
    · exact Nat.lt_succ_of_lt (ih h)
theorem i32_of {a : Int32} {n : Nat} (h : a.toInt = n) : a = Int32.ofNat n := by
  have e : Int32.ofInt a.toInt = Int32.ofInt n := by rw [h]
  rw [Int32.ofInt_toInt] at e
  rw [e]
  rfl
def smx (x : gd) (a b : Nat) : Prop := x.1 8 a = x.1 8 b ∧ ∀ i : Nat, i < (x.1 8 a).toNatClampNeg → x.1 2 ((x.1 6 a).toNatClampNeg + i) = x.1 2 ((x.1 6 b).toNatClampNeg + i)
noncomputable def smB (x : gd) (a b : Nat) : Bool := @decide (smx x a b) (Classical.propDecidable _)
theorem smB_is {x : gd} {a b : Nat} : smB x a b = true ↔ smx x a b := by
  unfold smB
  exact @decide_eq_true_iff _ (Classical.propDecidable _)
theorem smB_e {x y : gd} (h2 : y.1 2 = x.1 2) (h6 : y.1 6 = x.1 6) (h8 : y.1 8 = x.1 8) : smB y = smB x := by
  have e : smx y = smx x := by
    funext a b
    unfold smx
    rw [h2, h6, h8]
  funext a b
  unfold smB
  rw [e]
theorem smx_rf (x : gd) (a : Nat) : smx x a a := ⟨rfl, fun _ _ => rfl⟩
theorem smx_sy {x : gd} {a b : Nat} (h : smx x a b) : smx x b a := ⟨h.1.symm, fun i hi => (h.2 i (by rw [h.1]; exact hi)).symm⟩
theorem smx_tr {x : gd} {a b c : Nat} (h : smx x a b) (g : smx x b c) : smx x a c := ⟨h.1.trans g.1, fun i hi => (h.2 i hi).trans (g.2 i (by rw [← h.1]; exact hi))⟩
/-- the lets known: their tokens and slots -/
def KL (x : gd) : gK → Prop
  | [] => True
  | k :: ks => (vp_in (x.1 45 ks.length) 710 ∧ (x.1 45 ks.length).toNatClampNeg = k.1 ∧ (x.1 46 ks.length).toInt = k.2 ∧ k.2 < 8) ∧ KL x ks
def KEn (x : gd) (E : gV) : Prop := (x.1 0 43).toInt = E.1.length ∧ E.1.length ≤ 8 ∧ KL x E.1
/-- what is told -/
def TRd (x : gd) (T : gTd) : Prop := T.length = (x.1 0 28).toNatClampNeg ∧ (∀ j q, T[j]? = some q → tdE x j q) ∧ ∀ j q, T[j]? = some q → (x.1 32 j).toInt = nbT q.2.1 (T.take j)
/-- whether something was found wrong -/
def wr (x : gd) : Prop := ¬ x.1 0 41 = 0
theorem KL_e {x y : gd} (h45 : y.1 45 = x.1 45) (h46 : y.1 46 = x.1 46) : ∀ {k : gK}, KL x k → KL y k := by
  intro k
  induction k with
  | nil => intro _; trivial
  | cons k ks ih =>
    intro h
    refine ⟨?_, ih h.2⟩
    rw [h45, h46]
    exact h.1
theorem KEn_md {L A : List Nat} {x y : gd} {E : gV} (h : md L A x y) (h43 : 43 ∉ L) (h45 : 45 ∉ A) (h46 : 46 ∉ A) (q : KEn x E) : KEn y E :=
  ⟨by rw [h.1 43 h43]; exact q.1, q.2.1, KL_e (h.2.1 45 (by decide) h45) (h.2.1 46 (by decide) h46) q.2.2⟩
theorem all_no' {M L : List Nat} (h : M.all (fun k => !L.elem k) = true) : ∀ k ∈ M, k ∉ L := by
  intro k hk m
  have q := List.all_eq_true.mp h k hk
  rw [List.elem_iff.mpr m] at q
  exact absurd q (by decide)
theorem TRd_md {L A : List Nat} {x y : gd} {T : gTd} (h : md L A x y) (h28 : 28 ∉ L) (hA : [30, 31, 32, 33, 34, 35].all (fun k => !A.elem k) = true) (q : TRd x T) : TRd y T := by
  have g := fun k (h0 : k ≠ 0) hk => h.2.1 k h0 (all_no' hA k hk)
  refine ⟨by rw [h.1 28 h28]; exact q.1, fun j r e => ?_, fun j r e => by rw [g 32 (by decide) (by decide)]; exact q.2.2 j r e⟩
  have d := q.2.1 j r e
  unfold tdE at d ⊢
  rw [g 30 (by decide) (by decide), g 31 (by decide) (by decide), g 33 (by decide) (by decide), g 34 (by decide) (by decide), g 35 (by decide) (by decide)]
  exact d
theorem KL_slt {x : gd} {p : Nat} : ∀ {ks : gK}, KL x ks → p < ks.length → (x.1 46 p).toInt = slt ks p := by
  intro ks
  induction ks with
  | nil => intro _ h; exact absurd h (Nat.not_lt_zero _)
  | cons k ks ih =>
    intro h hp
    rw [slt]
    by_cases c : p = ks.length
    · rw [if_pos c, c]; exact h.1.2.2.1
    · rw [if_neg c]; exact ih h.2 (by have : p < ks.length + 1 := hp; omega)
theorem KL_kms {x : gd} : ∀ {ks : gK}, KL x ks → kmZ x ks.length = kms ks := by
  intro ks
  induction ks with
  | nil => intro _; rfl
  | cons k ks ih =>
    intro h
    show kmZ x ks.length ||| (1 <<< ((x.1 46 ks.length) &&& 31)) = _
    rw [ih h.2, i32_of h.1.2.2.1]
    rfl
theorem KB_KL {x : gd} : ∀ {k : gK}, KL x k → ∀ j : Nat, j < k.length → vp_in (x.1 45 j) 710 ∧ 0 ≤ (x.1 46 j).toInt ∧ (x.1 46 j).toInt < 8 := by
  intro k
  induction k with
  | nil => intro _ j hj; exact absurd hj (Nat.not_lt_zero _)
  | cons k ks ih =>
    intro h j hj
    by_cases c : j = ks.length
    · rw [c]
      have a3 := h.1.2.2.1
      have a4 := h.1.2.2.2
      exact ⟨h.1.1, by omega, by omega⟩
    · exact ih h.2 j (by have : j < ks.length + 1 := hj; omega)
theorem KEn_KB {x : gd} {E : gV} (h : KEn x E) : KB x := by
  obtain ⟨h1, h2, h3⟩ := h
  exact ⟨by omega, by omega, fun j hj => KB_KL h3 j (by omega)⟩
section SFW
variable {G : mG} {d : Nat} {x : gd} {F : Int32 → gd → Prop} {Fv : gd → Prop}
theorem sf_isSameName (a b : Int32) (ha : vp_in a 710) (hb : vp_in b 710) (ht : TK x) (h : ∀ r, (¬ r = 0 ↔ smB x a.toNatClampNeg b.toNatClampNeg = true) → F r x) : MT G d z_isSameName 0 [(0, vr 0), (1, vi a), (2, vi b)] [] x (ri F) := by
  have pa := ht _ (vp_lt ha)
  have pb := ht _ (vp_lt hb)
  obtain ⟨I, hI⟩ : ∃ I : Int32 → Int32 → Prop, ∀ s i, I s i ↔ ((¬ s = 0 ↔ x.1 8 a.toNatClampNeg = x.1 8 b.toNatClampNeg ∧ ∀ k : Nat, (k : Int) < i.toInt → x.1 2 ((x.1 6 a.toNatClampNeg).toNatClampNeg + k) = x.1 2 ((x.1 6 b.toNatClampNeg).toNatClampNeg + k)) ∧ 0 ≤ i.toInt ∧ i.toInt ≤ (x.1 8 a.toNatClampNeg).toInt) := ⟨_, fun _ _ => Iff.rfl⟩
  have fin : ∀ s i, I s i → ((x.1 8 a.toNatClampNeg).toInt ≤ i.toInt ∨ s = 0) → ri F (some (vi s)) x := by
    intro s i hi hc
    obtain ⟨q, i0, i1⟩ := (hI s i).mp hi
    refine ri_i (h _ ?_)
    rw [smB_is, q]
    have u := t_cl (x.1 8 a.toNatClampNeg)
    refine ⟨fun g => ⟨g.1, fun k hk => g.2 k ?_⟩, fun g => ⟨g.1, fun k hk => g.2 k (by omega)⟩⟩
    rcases hc with hc | hc
    · omega
    · exact absurd hc (q.mpr g)
  have loop : ∀ (n : Nat) (s i : Int32), gbool s → I s i → (x.1 8 a.toNatClampNeg).toInt - i.toInt ≤ n → MT G d z_isSameName 24 [(0, vr 0), (1, vi a), (2, vi b), (3, vi s), (4, vi i)] [] x (ri F) := by
    intro n
    induction n with
    | zero =>
      intro s i hs hi hn
      refine sg_isSameName_24 _ _ _ _ ⟨ha, fun c => ⟨hs, fin s i hi (Or.inl (t_le.mp c))⟩, fun c => ?_⟩
      rw [t_le] at c; omega
    | succ n ih =>
      intro s i hs hi hn
      refine sg_isSameName_24 _ _ _ _ ⟨ha, fun c => ⟨hs, fin s i hi (Or.inl (t_le.mp c))⟩, fun c => ⟨fun c2 => ⟨hs, fin s i hi (Or.inr c2)⟩, fun c2 => ?_⟩⟩
      obtain ⟨q, i0, i1⟩ := (hI s i).mp hi
      have e2 := (q.mp c2).1
      have e3 : (x.1 8 b.toNatClampNeg).toInt = (x.1 8 a.toNatClampNeg).toInt := by rw [e2]
      rw [t_le] at c
      have e1 : (i + 1).toInt = i.toInt + 1 := t_add (by show _ ≤ _ + (1 : Int); omega) (by show _ + (1 : Int) ≤ _; omega)
      have e4 := t_add (a := x.1 6 a.toNatClampNeg) (b := i) (by omega) (by omega)
      have e5 := t_add (a := x.1 6 b.toNatClampNeg) (b := i) (by omega) (by omega)
      have f4 : (x.1 6 a.toNatClampNeg + i).toNatClampNeg = (x.1 6 a.toNatClampNeg).toNatClampNeg + i.toNatClampNeg := by have v1 := t_cl (x.1 6 a.toNatClampNeg + i); have v2 := t_cl (x.1 6 a.toNatClampNeg); have v3 := t_cl i; omega
      have f5 : (x.1 6 b.toNatClampNeg + i).toNatClampNeg = (x.1 6 b.toNatClampNeg).toNatClampNeg + i.toNatClampNeg := by have v1 := t_cl (x.1 6 b.toNatClampNeg + i); have v2 := t_cl (x.1 6 b.toNatClampNeg); have v3 := t_cl i; omega
      have ui := t_cl i
      rw [f4, f5]
      refine ⟨ha, by rw [vp_in_iff]; omega, hb, by rw [vp_in_iff]; omega, fun c3 => ?_, fun c3 => ?_⟩
      · refine ih _ _ gbool_0 ((hI _ _).mpr ⟨⟨fun z => absurd rfl z, fun z => ?_⟩, by omega, by omega⟩) (by omega)
        exact absurd (z.2 i.toNatClampNeg (by omega)) c3
      · refine ih _ _ gbool_1 ((hI _ _).mpr ⟨⟨fun _ => ⟨e2, fun k hk => ?_⟩, fun _ => by decide⟩, by omega, by omega⟩) (by omega)
        by_cases ck : k = i.toNatClampNeg
        · rw [ck]; exact c3
        · exact (q.mp c2).2 k (by omega)
  have z0 : (0 : Int32).toInt = 0 := rfl
  refine sg_isSameName_0 _ _ ⟨ha, hb, fun c => ?_, fun c => ?_⟩
  · exact loop ((x.1 8 a.toNatClampNeg).toInt).toNat _ _ gbool_0 ((hI _ _).mpr ⟨⟨fun z => absurd rfl z, fun z => absurd z.1 c⟩, by decide, by rw [z0]; exact pa.2.1⟩) (by show _ - (0 : Int) ≤ _; omega)
  · exact loop ((x.1 8 a.toNatClampNeg).toInt).toNat _ _ gbool_1 ((hI _ _).mpr ⟨⟨fun _ => ⟨c, fun k hk => by rw [z0] at hk; omega⟩, fun _ => by decide⟩, by decide, by rw [z0]; exact pa.2.1⟩) (by show _ - (0 : Int) ≤ _; omega)
theorem sf_wrongAt (n t : Int32) (hn : 0 < n.toInt) (ht : vp_in t 710) (tk : TK x) (wb : WB x) (h : ∀ x', md [41, 42] [] x x' → WB x' → wr x' → Fv x') : MT G d z_wrongAt 0 [(0, vr 0), (1, vi n), (2, vi t)] [] x (rv Fv) := by
  have n0 : ¬ n = 0 := fun q => by rw [q] at hn; exact absurd hn (by decide)
  have key : ∀ y z : gd, y = si x 0 41 n → z = si y 0 42 (y.1 6 t.toNatClampNeg) → rv Fv none z := by
    intro y z e1 e2
    have m1 := md_f x 41 n
    rw [← e1] at m1
    have m2 := md_f y 42 (y.1 6 t.toNatClampNeg)
    rw [← e2] at m2
    have z41 : z.1 0 41 = n := by rw [m2.1 41 (by decide), e1, si_get, if_pos ⟨rfl, rfl⟩]
    refine rv_i (h z (md_tr m1 m2 rfl rfl) ⟨?_, ?_⟩ (by unfold wr; rw [z41]; exact n0))
    · rw [z41]; omega
    · rw [e2, si_get, if_pos ⟨rfl, rfl⟩, m1.2.1 6 (by decide) (by decide)]
      have tv := vp_in_iff.mp ht
      have := t_cl t
      have := tk t.toNatClampNeg (by omega)
      omega
  have same : ¬ x.1 0 41 = 0 → rv Fv none x := fun q => rv_i (h x (md_w (md_rf x) (by decide) (by decide)) wb q)
  exact sg_wrongAt_0 _ _ ⟨fun _ x2 e2 => ⟨ht, fun x4 e4 => key x2 x4 e2 e4⟩, fun c0 => ⟨ht, fun _ x2 e2 => ⟨ht, fun x4 e4 => key x2 x4 e2 e4⟩, fun _ => ⟨ht, fun _ => same c0, fun _ => ⟨fun _ => same c0, fun _ x2 e2 => ⟨ht, fun x4 e4 => key x2 x4 e2 e4⟩⟩⟩⟩⟩
theorem TRd_at {T : gTd} (tr : TRd x T) {i : Int32} (i0 : 0 ≤ i.toInt) (hi : i.toInt < (x.1 0 28).toInt) : ∃ q, T[i.toNatClampNeg]? = some q ∧ tdE x i.toNatClampNeg q := by
  have hl : i.toNatClampNeg < T.length := by rw [tr.1, t_cl, t_cl]; omega
  exact ⟨T[i.toNatClampNeg], List.getElem?_eq_getElem hl, tr.2.1 _ _ (List.getElem?_eq_getElem hl)⟩
theorem sf_meant {T : gTd} (t w : Int32) (wn : Nat) (ew : w.toInt = wn) (ht : vp_in t 710) (lb : LB x) (tr : TRd x T) (h : ∀ r : Int32, (r = -1 → mtP (smB x) T wn t.toNatClampNeg = none) → (¬ r = -1 → (0 ≤ r.toInt ∧ r.toInt < (x.1 0 28).toInt) ∧ x.1 31 r.toNatClampNeg = w ∧ ∃ q, mtP (smB x) T wn t.toNatClampNeg = some q ∧ tdE x r.toNatClampNeg q) → (¬ r = -1 → (x.1 32 r.toNatClampNeg).toInt = nmT (smB x) wn t.toNatClampNeg T) → F r x) : MT G (d + 1) z_meant 0 [(0, vr 0), (1, vi t), (2, vi w)] [] x (ri F) := by
  obtain ⟨tk, gb, te⟩ := lb
  have k1 : (1 : Int32).toInt = 1 := rfl
  have hv := vp_in_iff.mp (GB_v gb)
  have u28 := t_cl (x.1 0 28)
  have loop : ∀ (n : Nat) (i : Int32), 0 ≤ i.toInt → (x.1 0 28).toInt - i.toInt ≤ n → mtP (smB x) T wn t.toNatClampNeg = mtP (smB x) (T.drop i.toNatClampNeg) wn t.toNatClampNeg → nmT (smB x) wn t.toNatClampNeg T = nbT wn (T.take i.toNatClampNeg) + nmT (smB x) wn t.toNatClampNeg (T.drop i.toNatClampNeg) → MT G (d + 1) z_meant 2 [(0, vr 0), (1, vi t), (2, vi w), (3, vi i)] [] x (ri F) := by
    intro n
    induction n with
    | zero =>
      intro i i0 hi e en
      refine sg_meant_2 _ _ _ ⟨fun c => ri_i (h _ (fun _ => ?_) (fun q => absurd rfl q) (fun q => absurd rfl q)), fun c => absurd (t_le.mpr (by omega)) c⟩
      rw [e, List.drop_eq_nil_of_le (by rw [tr.1, t_cl]; rw [t_le] at c; have ui := t_cl i; omega)]
      rfl
    | succ n ih =>
      intro i i0 hi e en
      refine sg_meant_2 _ _ _ ⟨fun c => ri_i (h _ (fun _ => ?_) (fun q => absurd rfl q) (fun q => absurd rfl q)), fun c => ?_⟩
      · rw [e, List.drop_eq_nil_of_le (by rw [tr.1, t_cl]; rw [t_le] at c; have ui := t_cl i; omega)]
        rfl
      rw [t_le] at c
      have hj : ((i.toNatClampNeg : Nat) : Int) < (x.1 0 28).toInt := by rw [t_cl]; omega
      have iv : vp_in i 40 := by rw [vp_in_iff]; omega
      have i1 : (i + 1).toInt = i.toInt + 1 := by rw [t_add (by omega) (by omega), k1]
      have i2 : (i + 1).toNatClampNeg = i.toNatClampNeg + 1 := by rw [t_cl, t_cl]; omega
      obtain ⟨q, hq, hd⟩ := TRd_at tr i0 (by omega)
      have e2 : mtP (smB x) T wn t.toNatClampNeg = if (decide (q.2.1 = wn) && smB x q.1 t.toNatClampNeg) = true then some q else mtP (smB x) (T.drop (i + 1).toNatClampNeg) wn t.toNatClampNeg := by
        rw [e, dr_cons hq, i2]
        unfold mtP
        rw [List.find?_cons]
        cases (decide (q.2.1 = wn) && smB x q.1 t.toNatClampNeg) <;> rfl
      have en2 : nmT (smB x) wn t.toNatClampNeg T = nbT wn (T.take i.toNatClampNeg) + if (decide (q.2.1 = wn) && smB x q.1 t.toNatClampNeg) = true then 0 else (if q.2.1 = wn then max q.2.2.1 1 else 0) + nmT (smB x) wn t.toNatClampNeg (T.drop (i.toNatClampNeg + 1)) := by
        rw [en, dr_cons hq, nmT]
      have et : T.take (i + 1).toNatClampNeg = T.take i.toNatClampNeg ++ [q] := by
        rw [i2, List.take_succ, hq]
        rfl
      have en3 : ¬ (decide (q.2.1 = wn) && smB x q.1 t.toNatClampNeg) = true → nmT (smB x) wn t.toNatClampNeg T = nbT wn (T.take (i + 1).toNatClampNeg) + nmT (smB x) wn t.toNatClampNeg (T.drop (i + 1).toNatClampNeg) := fun z => by
        rw [en2, if_neg z, et, nbT_app, i2, nbT, nbT]
        omega
      refine ⟨iv, fun c2 => ih (i + 1) (by omega) (by omega) ?_ (en3 ?_), fun c2 => ⟨iv, sf_isSameName _ _ (te _ hj).1 ht tk (fun r hr => ⟨fun c3 => ih (i + 1) (by omega) (by omega) ?_ (en3 ?_), fun c3 => ri_i (h _ (fun z => ?_) (fun _ => ⟨⟨i0, by omega⟩, c2, q, ?_, hd⟩) (fun _ => ?_))⟩)⟩⟩
      · rw [e2, if_neg]
        intro z
        rw [Bool.and_eq_true, decide_eq_true_iff] at z
        refine c2 (t_eq.mpr ?_)
        rw [hd.2.2.1, z.1, ew]
      · intro z
        rw [Bool.and_eq_true, decide_eq_true_iff] at z
        refine c2 (t_eq.mpr ?_)
        rw [hd.2.2.1, z.1, ew]
      · rw [hd.2.1] at hr
        rw [e2, if_neg]
        intro z
        rw [Bool.and_eq_true] at z
        exact hr.mpr z.2 c3
      · rw [hd.2.1] at hr
        intro z
        rw [Bool.and_eq_true] at z
        exact hr.mpr z.2 c3
      · rw [z] at i0
        exact absurd i0 (by decide)
      · rw [hd.2.1] at hr
        rw [e2, if_pos]
        rw [Bool.and_eq_true, decide_eq_true_iff]
        refine ⟨?_, hr.mp c3⟩
        have a := hd.2.2.1
        rw [c2, ew] at a
        omega
      · rw [hd.2.1] at hr
        have a := hd.2.2.1
        rw [c2, ew] at a
        have a2 : q.2.1 = wn := by omega
        rw [tr.2.2 _ _ hq, en2, if_pos, a2, Nat.add_zero]
        rw [Bool.and_eq_true, decide_eq_true_iff]
        exact ⟨a2, hr.mp c3⟩
  refine sg_meant_0 _ _ (loop _ 0 (by decide) (Int.self_le_toNat _) rfl ?_)
  show _ = 0 + nmT (smB x) wn t.toNatClampNeg T
  rw [Nat.zero_add]
theorem sf_toldOf {T : gTd} (t : Int32) (ht : vp_in t 710) (lb : LB x) (tr : TRd x T) (h : ∀ r : Int32, (r = -1 → ∀ q ∈ T, ¬ smB x q.1 t.toNatClampNeg = true) → (¬ r = -1 → (0 ≤ r.toInt ∧ r.toInt < (x.1 0 28).toInt) ∧ (∃ q, T[r.toNatClampNeg]? = some q ∧ smB x q.1 t.toNatClampNeg = true) ∧ ∀ j q, j < r.toNatClampNeg → T[j]? = some q → ¬ smB x q.1 t.toNatClampNeg = true) → F r x) : MT G (d + 1) z_toldOf 0 [(0, vr 0), (1, vi t)] [] x (ri F) := by
  obtain ⟨tk, gb, te⟩ := lb
  have k1 : (1 : Int32).toInt = 1 := rfl
  have hv := vp_in_iff.mp (GB_v gb)
  have u28 := t_cl (x.1 0 28)
  have all : ∀ i : Int32, (x.1 0 28).toInt ≤ i.toInt → (∀ j q, j < i.toNatClampNeg → T[j]? = some q → ¬ smB x q.1 t.toNatClampNeg = true) → ∀ q ∈ T, ¬ smB x q.1 t.toNatClampNeg = true := by
    intro i hi g q hq
    obtain ⟨j, hj, e⟩ := List.getElem_of_mem hq
    refine g j q ?_ (by rw [List.getElem?_eq_getElem hj, e])
    rw [tr.1] at hj
    rw [t_cl]
    omega
  have loop : ∀ (n : Nat) (i : Int32), 0 ≤ i.toInt → (x.1 0 28).toInt - i.toInt ≤ n → (∀ j q, j < i.toNatClampNeg → T[j]? = some q → ¬ smB x q.1 t.toNatClampNeg = true) → MT G (d + 1) z_toldOf 2 [(0, vr 0), (1, vi t), (2, vi i)] [] x (ri F) := by
    intro n
    induction n with
    | zero =>
      intro i i0 hi g
      exact sg_toldOf_2 _ _ ⟨fun c => ri_i (h _ (fun _ => all i (t_le.mp c) g) (fun q => absurd rfl q)), fun c => absurd (t_le.mpr (by omega)) c⟩
    | succ n ih =>
      intro i i0 hi g
      refine sg_toldOf_2 _ _ ⟨fun c => ri_i (h _ (fun _ => all i (t_le.mp c) g) (fun q => absurd rfl q)), fun c => ?_⟩
      rw [t_le] at c
      have hj : ((i.toNatClampNeg : Nat) : Int) < (x.1 0 28).toInt := by rw [t_cl]; omega
      obtain ⟨q, hq, hd⟩ := TRd_at tr i0 (by omega)
      have i1 : (i + 1).toInt = i.toInt + 1 := by rw [t_add (by omega) (by omega), k1]
      have i2 : (i + 1).toNatClampNeg = i.toNatClampNeg + 1 := by rw [t_cl, t_cl]; omega
      refine ⟨by rw [vp_in_iff]; omega, sf_isSameName _ _ (te _ hj).1 ht tk (fun r hr => ?_)⟩
      rw [hd.2.1] at hr
      refine ⟨fun c3 => ih (i + 1) (by omega) (by omega) (fun j q' hj' hq' => ?_), fun c3 => ri_i (h _ (fun z => ?_) (fun _ => ⟨⟨i0, by omega⟩, ⟨q, hq, hr.mp c3⟩, g⟩))⟩
      · rw [i2] at hj'
        by_cases cj : j = i.toNatClampNeg
        · rw [cj, hq] at hq'
          rw [← Option.some.inj hq']
          exact fun z => hr.mpr z c3
        · exact g j q' (by omega) hq'
      · rw [z] at i0
        exact absurd i0 (by decide)
  exact sg_toldOf_0 _ (loop _ 0 (by decide) (Int.self_le_toNat _) (fun j q hj _ => absurd hj (Nat.not_lt_zero _)))
theorem sf_slotOf {E : gV} (t : Int32) (ht : vp_in t 710) (tk : TK x) (ke : KEn x E) (h : ∀ r : Int32, (r = -1 ∧ kfi (smB x) E.1 t.toNatClampNeg = none) ∨ ((0 ≤ r.toInt ∧ r.toInt < 8) ∧ ∃ p, kfi (smB x) E.1 t.toNatClampNeg = some p ∧ r = x.1 46 p) → F r x) : MT G (d + 1) z_slotOf 0 [(0, vr 0), (1, vi t)] [] x (ri F) := by
  obtain ⟨b0, b8, kk⟩ := ke
  have k0 : (0 : Int32).toInt = 0 := rfl
  have k1 : (1 : Int32).toInt = 1 := rfl
  have km : (-1 : Int32).toInt = -1 := rfl
  have loop : ∀ (ks : gK) (i : Int32), i.toInt + 1 = ks.length → ks.length ≤ 8 → KL x ks → kfi (smB x) E.1 t.toNatClampNeg = kfi (smB x) ks t.toNatClampNeg → MT G (d + 1) z_slotOf 7 [(0, vr 0), (1, vi t), (2, vi i)] [] x (ri F) := by
    intro ks
    induction ks with
    | nil =>
      intro i hi _ _ e
      have hi : i.toInt + 1 = 0 := hi
      exact sg_slotOf_7 _ _ ⟨fun _ => ri_i (h _ (Or.inl ⟨rfl, e⟩)), fun c => absurd (t_lt.mpr (by omega)) c⟩
    | cons k ks ih =>
      intro i hi h8 kl e
      have hi : i.toInt + 1 = ks.length + 1 := hi
      have h8 : ks.length + 1 ≤ 8 := h8
      have ei : i.toNatClampNeg = ks.length := by rw [t_cl]; omega
      refine sg_slotOf_7 _ _ ⟨fun c => ?_, fun c => ?_⟩
      · rw [t_lt, k0] at c; omega
      have iv : vp_in i 40 := by rw [vp_in_iff]; omega
      have i2 : (i + -1).toInt = i.toInt - 1 := by rw [t_add (by omega) (by omega), km]; omega
      obtain ⟨⟨q1, q2, q3, q4⟩, q5⟩ := kl
      refine ⟨iv, sf_isSameName _ _ (by rw [ei]; exact q1) ht tk (fun r hr => ?_)⟩
      rw [ei, q2] at hr
      refine ⟨fun c3 => ih (i + -1) (by omega) (by omega) q5 ?_, fun c3 => ⟨iv, ri_i (h _ (Or.inr ⟨?_, ks.length, ?_, by rw [ei]⟩))⟩⟩
      · rw [e, kfi, if_neg (fun z => hr.mpr z c3)]
      · rw [ei]; omega
      · rw [e, kfi, if_pos (hr.mp c3)]
  have e : (x.1 0 43 - 1).toInt = (x.1 0 43).toInt - 1 := by rw [t_sub (by omega) (by omega), k1]
  exact sg_slotOf_0 _ (loop E.1 _ (by omega) b8 kk rfl)
/-- a cell's name: what cellOf answers, and whether it was wrong -/
theorem sf_cellOf {T : gTd} (t w : Int32) (hw : w = 0 ∨ w = 1) (ht : vp_in t 710) (lb : LB x) (wb : WB x) (tr : TRd x T) (h : ∀ (r : Int32) (x' : gd), md [41, 42] [] x x' → WB x' → (r = -1 ∨ ((0 ≤ r.toInt ∧ r.toInt < (x.1 0 28).toInt) ∧ x.1 31 r.toNatClampNeg = 0 ∧ x.1 34 r.toNatClampNeg = w)) → (wr x' ↔ wr x ∨ r = -1) → (r = -1 ↔ (w = 0 → ¬ plc (smB x) T t.toNatClampNeg) ∧ (w = 1 → ¬ ∃ n, rwc (smB x) T t.toNatClampNeg n)) → (¬ r = -1 → (x.1 32 r.toNatClampNeg).toInt = nmT (smB x) 0 t.toNatClampNeg T ∧ (w = 1 → (x.1 33 r.toNatClampNeg).toInt = rsT (smB x) T t.toNatClampNeg)) → F r x') : MT G (d + 2) z_cellOf 0 [(0, vr 0), (1, vi t), (2, vi w)] [] x (ri F) := by
  have w10 : ¬ (1 : Int32) = 0 := by decide
  have p22 : ((w = 0 → ¬ plc (smB x) T t.toNatClampNeg) ∧ (w = 1 → ¬ ∃ n, rwc (smB x) T t.toNatClampNeg n)) → MT G (d + 2) z_cellOf 22 [(0, vr 0), (1, vi t)] [] x (ri F) := fun q => sg_cellOf_22 _ (sf_wrongAt _ _ (by decide) ht lb.1 wb (fun x' m w' g => ri_i (h _ x' m w' (Or.inl rfl) ⟨fun _ => Or.inr rfl, fun _ => g⟩ ⟨fun _ => q, fun _ => rfl⟩ (fun z => absurd rfl z))))
  refine sg_cellOf_0 _ _ (sf_meant _ _ 0 rfl ht lb tr (fun r hr0 hr hrn => ⟨fun c => p22 ?_, fun c => ?_⟩))
  · have n := hr0 c
    refine ⟨fun _ ⟨q, e, _⟩ => ?_, fun _ ⟨_, q, e, _⟩ => ?_⟩
    · rw [n] at e; exact absurd e (by simp)
    · rw [n] at e; exact absurd e (by simp)
  obtain ⟨h1, h2, q, e, hd⟩ := hr c
  have hd4 := hd.2.2.2
  refine ⟨LB_v lb h1, fun c2 => ri_i (h _ x (md_w (md_rf x) (by decide) (by decide)) wb (Or.inr ⟨h1, h2, c2⟩) ⟨Or.inl, fun z => z.elim id (fun z => absurd z c)⟩ ⟨fun z => absurd z c, fun z => ?_⟩ (fun _ => ⟨hrn c, fun ew => ?_⟩)), fun c2 => p22 ⟨fun ew ⟨q', e', g⟩ => ?_, fun ew ⟨n, q', e', g, g2⟩ => ?_⟩⟩
  · rcases hd4 with ⟨a1, a2⟩ | ⟨a1, a2, _⟩
    · exact absurd ⟨q, e, a1⟩ (z.1 (c2.symm.trans a2))
    · exact absurd ⟨_, q, e, rfl, a1⟩ (z.2 (c2.symm.trans a2))
  · rcases hd4 with ⟨a1, a2⟩ | ⟨a1, a2, a3, _⟩
    · rw [c2, ew] at a2; exact absurd a2 (by decide)
    · unfold rsT
      rw [e]
      show _ = ((q.2.2.1 : Nat) : Int)
      rw [← a3]
      have := t_cl (x.1 33 r.toNatClampNeg)
      have := (LB_t lb h1).2.1
      rw [h2] at this
      rcases this with g | g | g
      · omega
      · exact absurd g.1 (by decide)
      · exact absurd g.1 (by decide)
  · rw [e] at e'
    cases Option.some.inj e'
    rcases hd4 with ⟨a1, a2⟩ | ⟨a1, a2, _⟩
    · exact c2 (a2.trans ew.symm)
    · omega
  · rw [e] at e'
    cases Option.some.inj e'
    rcases hd4 with ⟨a1, a2⟩ | ⟨a1, a2, _⟩
    · omega
    · exact c2 (a2.trans ew.symm)
theorem sf_numberOf {T : gTd} (t w : Int32) (wn : Nat) (ew : w.toInt = wn) (ht : vp_in t 710) (lb : LB x) (wb : WB x) (tr : TRd x T) (h : ∀ (r : Int32) (x' : gd), md [41, 42] [] x x' → WB x' → (r = 0 ∨ ∃ k : Int32, (0 ≤ k.toInt ∧ k.toInt < (x.1 0 28).toInt) ∧ x.1 31 k.toNatClampNeg = w ∧ r = x.1 32 k.toNatClampNeg) → (wr x' ↔ wr x ∨ mtP (smB x) T wn t.toNatClampNeg = none) → (¬ mtP (smB x) T wn t.toNatClampNeg = none → r.toInt = nmT (smB x) wn t.toNatClampNeg T) → F r x') : MT G (d + 2) z_numberOf 0 [(0, vr 0), (1, vi t), (2, vi w)] [] x (ri F) := by
  refine sg_numberOf_0 _ _ (sf_meant _ _ wn ew ht lb tr (fun r hr0 hr hrn => ⟨fun c => ?_, fun c => sf_wrongAt _ _ (by decide) ht lb.1 wb (fun x' m w' g => ri_i (h _ x' m w' (Or.inl rfl) ⟨fun _ => Or.inr (hr0 c), fun _ => g⟩ (fun z => absurd (hr0 c) z)))⟩))
  obtain ⟨h1, h2, q, e, hd⟩ := hr c
  refine ⟨LB_v lb h1, ri_i (h _ x (md_w (md_rf x) (by decide) (by decide)) wb (Or.inr ⟨r, h1, h2, rfl⟩) ⟨Or.inl, fun z => z.elim id (fun z => ?_)⟩ (fun _ => hrn c))⟩
  rw [e] at z
  exact absurd z (by simp)
theorem sf_isCellName {T : gTd} (t : Int32) (ht : vp_in t 710) (lb : LB x) (tr : TRd x T) (h : ∀ r : Int32, (¬ r = 0 ↔ plc (smB x) T t.toNatClampNeg) → F r x) : MT G (d + 2) z_isCellName 0 [(0, vr 0), (1, vi t)] [] x (ri F) := by
  refine sg_isCellName_0 _ (sf_meant _ _ 0 rfl ht lb tr (fun r hr0 hr _ => ⟨fun c => ri_i (h _ ⟨fun q => absurd rfl q, fun ⟨q, e, _⟩ => ?_⟩), fun c => ?_⟩))
  · rw [hr0 c] at e; exact absurd e (by simp)
  obtain ⟨h1, h2, q, e, hd⟩ := hr c
  have hd4 := hd.2.2.2
  refine ⟨LB_v lb h1, fun c2 => ri_i (h _ ⟨fun z => absurd rfl z, fun ⟨q', e', g⟩ => ?_⟩), fun c2 => ri_i (h _ ⟨fun _ => ?_, fun _ => by decide⟩)⟩
  · rw [e] at e'
    cases Option.some.inj e'
    rcases hd4 with ⟨a1, a2⟩ | ⟨a1, a2, _⟩
    · exact absurd a2 c2
    · omega
  · rcases hd4 with ⟨a1, a2⟩ | ⟨a1, a2, _⟩
    · exact ⟨q, e, a1⟩
    · rw [a2] at c2
      exact absurd c2 (by decide)
theorem sf_knownMask {E : gV} (ke : KEn x E) (h : F (kms E.1) x) : MT G d z_knownMask 0 [(0, vr 0)] [] x (ri F) := by
  obtain ⟨b0, b8, kk⟩ := ke
  have k1 : (1 : Int32).toInt = 1 := rfl
  rw [← KL_kms kk] at h
  have loop : ∀ (n : Nat) (m i : Int32), 0 ≤ i.toInt → i.toInt ≤ (x.1 0 43).toInt → m = kmZ x i.toNatClampNeg → (x.1 0 43).toInt - i.toInt ≤ n → MT G d z_knownMask 4 [(0, vr 0), (1, vi m), (2, vi i)] [] x (ri F) := by
    intro n
    induction n with
    | zero =>
      intro m i i0 i9 em hi
      refine sg_knownMask_4 _ _ ⟨fun _ => ?_, fun c => absurd (t_le.mpr (by omega)) c⟩
      rw [em, show i.toNatClampNeg = E.1.length by rw [t_cl]; omega]
      exact ri_i h
    | succ n ih =>
      intro m i i0 i9 em hi
      refine sg_knownMask_4 _ _ ⟨fun c => ?_, fun c => ?_⟩
      · rw [t_le] at c
        rw [em, show i.toNatClampNeg = E.1.length by rw [t_cl]; omega]
        exact ri_i h
      · rw [t_le] at c
        have i1 : (i + 1).toInt = i.toInt + 1 := by rw [t_add (by omega) (by omega), k1]
        refine ⟨by rw [vp_in_iff]; omega, ih _ (i + 1) (by omega) (by omega) ?_ (by omega)⟩
        rw [show (i + 1).toNatClampNeg = i.toNatClampNeg + 1 by rw [t_cl, t_cl]; omega, kmZ, em]
  exact sg_knownMask_0 (loop _ 0 0 (by decide) (by show (0 : Int) ≤ _; omega) rfl (Int.self_le_toNat _))
theorem sf_isCellAlone {E : gV} (r : Int32) (h1 : vp_in r 3000) (h2 : x.1 15 r.toNatClampNeg = 10 → vp_in (x.1 16 r.toNatClampNeg) 3000 ∧ vp_in (x.1 19 (x.1 16 r.toNatClampNeg).toNatClampNeg) 710) (tk : TK x) (ke : KEn x E) (h0 : ¬ (x.1 15 r.toNatClampNeg = 10 ∧ x.1 15 (x.1 16 r.toNatClampNeg).toNatClampNeg = 3 ∧ kfi (smB x) E.1 (x.1 19 (x.1 16 r.toNatClampNeg).toNatClampNeg).toNatClampNeg = none) → F 0 x) (h : x.1 15 r.toNatClampNeg = 10 → x.1 15 (x.1 16 r.toNatClampNeg).toNatClampNeg = 3 → kfi (smB x) E.1 (x.1 19 (x.1 16 r.toNatClampNeg).toNatClampNeg).toNatClampNeg = none → F 1 x) : MT G (d + 2) z_isCellAlone 0 [(0, vr 0), (1, vi r)] [] x (ri F) := by
  refine sg_isCellAlone_0 _ ⟨h1, fun c => ri_i (h0 (fun z => c z.1)), fun c => ⟨h1, (h2 c).1, fun c2 => ri_i (h0 (fun z => c2 z.2.1)), fun c2 => ⟨h1, (h2 c).1, sf_slotOf _ (h2 c).2 tk ke (fun s hs => ⟨fun c3 => ri_i (h0 (fun z => ?_)), fun c3 => ri_i (h c c2 ?_)⟩)⟩⟩⟩
  · rcases hs with ⟨a, _⟩ | ⟨_, p, e, _⟩
    · exact c3 a
    · rw [z.2.2] at e; exact absurd e (by simp)
  · rcases hs with ⟨_, a⟩ | ⟨a, _⟩
    · exact a
    · rw [c3] at a; exact absurd a.1 (by decide)
end SFW
