section
/-! laying: what the small methods answer -/
/-- the slot of the local at a place, as it was told; the mask of those known -/
def slt : gK → Nat → Nat
  | [], _ => 0
  | k :: ks, p => if p = ks.length then k.2 else slt ks p
def kmZ (x : gd) : Nat → Int32
  | 0 => 0
  | n + 1 => kmZ x n ||| (1 <<< ((x.1 46 n) &&& 31))
def kms : gK → Int32
  | [] => 0
  | k :: ks => kms ks ||| (1 <<< (Int32.ofNat k.2 &&& 31))
theorem kfi_lt {sN : Nat → Nat → Bool} {t p : Nat} : ∀ {ks : gK}, kfi sN ks t = some p → p < ks.length := by
  intro ks
  induction ks with
  | nil => intro h; exact absurd h (by simp [kfi])
  | cons k ks ih =>
    intro h
    rw [kfi] at h
    split at h
    · cases Option.some.inj h; exact Nat.lt_succ_self _
    · exact Nat.lt_succ_of_lt (ih h)
theorem i32_of {a : Int32} {n : Nat} (h : a.toInt = n) : a = Int32.ofNat n := by
  have e : Int32.ofInt a.toInt = Int32.ofInt n := by rw [h]
  rw [Int32.ofInt_toInt] at e
  rw [e]
  rfl
def smx (x : gd) (a b : Nat) : Prop := x.1 8 a = x.1 8 b ∧ ∀ i : Nat, i < (x.1 8 a).toNatClampNeg → x.1 2 ((x.1 6 a).toNatClampNeg + i) = x.1 2 ((x.1 6 b).toNatClampNeg + i)
noncomputable def smB (x : gd) (a b : Nat) : Bool := @decide (smx x a b) (Classical.propDecidable _)
theorem smB_is {x : gd} {a b : Nat} : smB x a b = true ↔ smx x a b := by
  unfold smB
  exact @decide_eq_true_iff _ (Classical.propDecidable _)
theorem smB_e {x y : gd} (h2 : y.1 2 = x.1 2) (h6 : y.1 6 = x.1 6) (h8 : y.1 8 = x.1 8) : smB y = smB x := by
  have e : smx y = smx x := by
    funext a b
    unfold smx
    rw [h2, h6, h8]
  funext a b
  unfold smB
  rw [e]
theorem smx_rf (x : gd) (a : Nat) : smx x a a := ⟨rfl, fun _ _ => rfl⟩
/-- the lets known: their tokens and slots -/
def KL (x : gd) : gK → Prop
  | [] => True
  | k :: ks => (vp_in (x.1 45 ks.length) 710 ∧ (x.1 45 ks.length).toNatClampNeg = k.1 ∧ (x.1 46 ks.length).toInt = k.2 ∧ k.2 < 8) ∧ KL x ks
def KEn (x : gd) (E : gV) : Prop := (x.1 0 43).toInt = E.1.length ∧ E.1.length ≤ 8 ∧ KL x E.1
/-- what is told -/
def TRd (x : gd) (T : gTd) : Prop := T.length = (x.1 0 28).toNatClampNeg ∧ (∀ j q, T[j]? = some q → tdE x j q) ∧ ∀ j q, T[j]? = some q → (x.1 32 j).toInt = nbT q.2.1 (T.take j)
/-- whether something was found wrong -/
def wr (x : gd) : Prop := ¬ x.1 0 41 = 0
theorem KL_e {x y : gd} (h45 : y.1 45 = x.1 45) (h46 : y.1 46 = x.1 46) : ∀ {k : gK}, KL x k → KL y k := by
  intro k
  induction k with
  | nil => intro _; trivial
  | cons k ks ih =>
    intro h
    refine ⟨?_, ih h.2⟩
    rw [h45, h46]
    exact h.1
theorem KEn_md {L A : List Nat} {x y : gd} {E : gV} (h : md L A x y) (h43 : 43 ∉ L) (h45 : 45 ∉ A) (h46 : 46 ∉ A) (q : KEn x E) : KEn y E :=
  ⟨by rw [h.1 43 h43]; exact q.1, q.2.1, KL_e (h.2.1 45 (by decide) h45) (h.2.1 46 (by decide) h46) q.2.2⟩
theorem all_no' {M L : List Nat} (h : M.all (fun k => !L.elem k) = true) : ∀ k ∈ M, k ∉ L := by
  intro k hk m
  have q := List.all_eq_true.mp h k hk
  rw [List.elem_iff.mpr m] at q
  exact absurd q (by decide)
theorem TRd_md {L A : List Nat} {x y : gd} {T : gTd} (h : md L A x y) (h28 : 28 ∉ L) (hA : [30, 31, 32, 33, 34, 35].all (fun k => !A.elem k) = true) (q : TRd x T) : TRd y T := by
  have g := fun k (h0 : k ≠ 0) hk => h.2.1 k h0 (all_no' hA k hk)
  refine ⟨by rw [h.1 28 h28]; exact q.1, fun j r e => ?_, fun j r e => by rw [g 32 (by decide) (by decide)]; exact q.2.2 j r e⟩
  have d := q.2.1 j r e
  unfold tdE at d ⊢
  rw [g 30 (by decide) (by decide), g 31 (by decide) (by decide), g 33 (by decide) (by decide), g 34 (by decide) (by decide), g 35 (by decide) (by decide)]
  exact d
theorem KL_slt {x : gd} {p : Nat} : ∀ {ks : gK}, KL x ks → p < ks.length → (x.1 46 p).toInt = slt ks p := by
  intro ks
  induction ks with
  | nil => intro _ h; exact absurd h (Nat.not_lt_zero _)
  | cons k ks ih =>
    intro h hp
    rw [slt]
    by_cases c : p = ks.length
    · rw [if_pos c, c]; exact h.1.2.2.1
    · rw [if_neg c]; exact ih h.2 (by have : p < ks.length + 1 := hp; omega)
theorem KL_kms {x : gd} : ∀ {ks : gK}, KL x ks → kmZ x ks.length = kms ks := by
  intro ks
  induction ks with
  | nil => intro _; rfl
  | cons k ks ih =>
    intro h
    show kmZ x ks.length ||| (1 <<< ((x.1 46 ks.length) &&& 31)) = _
    rw [ih h.2, i32_of h.1.2.2.1]
    rfl
section SFW
variable {G : mG} {d : Nat} {x : gd} {F : Int32 → gd → Prop} {Fv : gd → Prop}
theorem sf_isSameName (a b : Int32) (ha : vp_in a 710) (hb : vp_in b 710) (ht : TK x) (h : ∀ r, (¬ r = 0 ↔ smB x a.toNatClampNeg b.toNatClampNeg = true) → F r x) : MT G d z_isSameName 0 [(0, vr 0), (1, vi a), (2, vi b)] [] x (ri F) := by
  have pa := ht _ (vp_lt ha)
  have pb := ht _ (vp_lt hb)
  obtain ⟨I, hI⟩ : ∃ I : Int32 → Int32 → Prop, ∀ s i, I s i ↔ ((¬ s = 0 ↔ x.1 8 a.toNatClampNeg = x.1 8 b.toNatClampNeg ∧ ∀ k : Nat, (k : Int) < i.toInt → x.1 2 ((x.1 6 a.toNatClampNeg).toNatClampNeg + k) = x.1 2 ((x.1 6 b.toNatClampNeg).toNatClampNeg + k)) ∧ 0 ≤ i.toInt ∧ i.toInt ≤ (x.1 8 a.toNatClampNeg).toInt) := ⟨_, fun _ _ => Iff.rfl⟩
  have fin : ∀ s i, I s i → ((x.1 8 a.toNatClampNeg).toInt ≤ i.toInt ∨ s = 0) → ri F (some (vi s)) x := by
    intro s i hi hc
    obtain ⟨q, i0, i1⟩ := (hI s i).mp hi
    refine ri_i (h _ ?_)
    rw [smB_is, q]
    have u := t_cl (x.1 8 a.toNatClampNeg)
    refine ⟨fun g => ⟨g.1, fun k hk => g.2 k ?_⟩, fun g => ⟨g.1, fun k hk => g.2 k (by omega)⟩⟩
    rcases hc with hc | hc
    · omega
    · exact absurd hc (q.mpr g)
  have loop : ∀ (n : Nat) (s i : Int32), gbool s → I s i → (x.1 8 a.toNatClampNeg).toInt - i.toInt ≤ n → MT G d z_isSameName 24 [(0, vr 0), (1, vi a), (2, vi b), (3, vi s), (4, vi i)] [] x (ri F) := by
    intro n
    induction n with
    | zero =>
      intro s i hs hi hn
      refine sg_isSameName_24 _ _ _ _ ⟨ha, fun c => ⟨hs, fin s i hi (Or.inl (t_le.mp c))⟩, fun c => ?_⟩
      rw [t_le] at c; omega
    | succ n ih =>
      intro s i hs hi hn
      refine sg_isSameName_24 _ _ _ _ ⟨ha, fun c => ⟨hs, fin s i hi (Or.inl (t_le.mp c))⟩, fun c => ⟨fun c2 => ⟨hs, fin s i hi (Or.inr c2)⟩, fun c2 => ?_⟩⟩
      obtain ⟨q, i0, i1⟩ := (hI s i).mp hi
      have e2 := (q.mp c2).1
      have e3 : (x.1 8 b.toNatClampNeg).toInt = (x.1 8 a.toNatClampNeg).toInt := by rw [e2]
      rw [t_le] at c
      have e1 : (i + 1).toInt = i.toInt + 1 := t_add (by show _ ≤ _ + (1 : Int); omega) (by show _ + (1 : Int) ≤ _; omega)
      have e4 := t_add (a := x.1 6 a.toNatClampNeg) (b := i) (by omega) (by omega)
      have e5 := t_add (a := x.1 6 b.toNatClampNeg) (b := i) (by omega) (by omega)
      have f4 : (x.1 6 a.toNatClampNeg + i).toNatClampNeg = (x.1 6 a.toNatClampNeg).toNatClampNeg + i.toNatClampNeg := by have v1 := t_cl (x.1 6 a.toNatClampNeg + i); have v2 := t_cl (x.1 6 a.toNatClampNeg); have v3 := t_cl i; omega
      have f5 : (x.1 6 b.toNatClampNeg + i).toNatClampNeg = (x.1 6 b.toNatClampNeg).toNatClampNeg + i.toNatClampNeg := by have v1 := t_cl (x.1 6 b.toNatClampNeg + i); have v2 := t_cl (x.1 6 b.toNatClampNeg); have v3 := t_cl i; omega
      have ui := t_cl i
      rw [f4, f5]
      refine ⟨ha, by rw [vp_in_iff]; omega, hb, by rw [vp_in_iff]; omega, fun c3 => ?_, fun c3 => ?_⟩
      · refine ih _ _ gbool_0 ((hI _ _).mpr ⟨⟨fun z => absurd rfl z, fun z => ?_⟩, by omega, by omega⟩) (by omega)
        exact absurd (z.2 i.toNatClampNeg (by omega)) c3
      · refine ih _ _ gbool_1 ((hI _ _).mpr ⟨⟨fun _ => ⟨e2, fun k hk => ?_⟩, fun _ => by decide⟩, by omega, by omega⟩) (by omega)
        by_cases ck : k = i.toNatClampNeg
        · rw [ck]; exact c3
        · exact (q.mp c2).2 k (by omega)
  have z0 : (0 : Int32).toInt = 0 := rfl
  refine sg_isSameName_0 _ _ ⟨ha, hb, fun c => ?_, fun c => ?_⟩
  · exact loop ((x.1 8 a.toNatClampNeg).toInt).toNat _ _ gbool_0 ((hI _ _).mpr ⟨⟨fun z => absurd rfl z, fun z => absurd z.1 c⟩, by decide, by rw [z0]; exact pa.2.1⟩) (by show _ - (0 : Int) ≤ _; omega)
  · exact loop ((x.1 8 a.toNatClampNeg).toInt).toNat _ _ gbool_1 ((hI _ _).mpr ⟨⟨fun _ => ⟨c, fun k hk => by rw [z0] at hk; omega⟩, fun _ => by decide⟩, by decide, by rw [z0]; exact pa.2.1⟩) (by show _ - (0 : Int) ≤ _; omega)
theorem sf_wrongAt (n t : Int32) (hn : 0 < n.toInt) (ht : vp_in t 710) (tk : TK x) (wb : WB x) (h : ∀ x', md [41, 42] [] x x' → WB x' → wr x' → Fv x') : MT G d z_wrongAt 0 [(0, vr 0), (1, vi n), (2, vi t)] [] x (rv Fv) := by
  have n0 : ¬ n = 0 := fun q => by rw [q] at hn; exact absurd hn (by decide)
  have key : ∀ y z : gd, y = si x 0 41 n → z = si y 0 42 (y.1 6 t.toNatClampNeg) → rv Fv none z := by
    intro y z e1 e2
    have m1 := md_f x 41 n
    rw [← e1] at m1
    have m2 := md_f y 42 (y.1 6 t.toNatClampNeg)
    rw [← e2] at m2
    have z41 : z.1 0 41 = n := by rw [m2.1 41 (by decide), e1, si_get, if_pos ⟨rfl, rfl⟩]
    refine rv_i (h z (md_tr m1 m2 rfl rfl) ⟨?_, ?_⟩ (by unfold wr; rw [z41]; exact n0))
    · rw [z41]; omega
    · rw [e2, si_get, if_pos ⟨rfl, rfl⟩, m1.2.1 6 (by decide) (by decide)]
      have tv := vp_in_iff.mp ht
      have := t_cl t
      have := tk t.toNatClampNeg (by omega)
      omega
  have same : ¬ x.1 0 41 = 0 → rv Fv none x := fun q => rv_i (h x (md_w (md_rf x) (by decide) (by decide)) wb q)
  exact sg_wrongAt_0 _ _ ⟨fun _ x2 e2 => ⟨ht, fun x4 e4 => key x2 x4 e2 e4⟩, fun c0 => ⟨ht, fun _ x2 e2 => ⟨ht, fun x4 e4 => key x2 x4 e2 e4⟩, fun _ => ⟨ht, fun _ => same c0, fun _ => ⟨fun _ => same c0, fun _ x2 e2 => ⟨ht, fun x4 e4 => key x2 x4 e2 e4⟩⟩⟩⟩⟩
theorem TRd_at {T : gTd} (tr : TRd x T) {i : Int32} (i0 : 0 ≤ i.toInt) (hi : i.toInt < (x.1 0 28).toInt) : ∃ q, T[i.toNatClampNeg]? = some q ∧ tdE x i.toNatClampNeg q := by
  have hl : i.toNatClampNeg < T.length := by rw [tr.1, t_cl, t_cl]; omega
  exact ⟨T[i.toNatClampNeg], List.getElem?_eq_getElem hl, tr.2.1 _ _ (List.getElem?_eq_getElem hl)⟩
theorem sf_meant {T : gTd} (t w : Int32) (wn : Nat) (ew : w.toInt = wn) (ht : vp_in t 710) (lb : LB x) (tr : TRd x T) (h : ∀ r : Int32, (r = -1 → mtP (smB x) T wn t.toNatClampNeg = none) → (¬ r = -1 → (0 ≤ r.toInt ∧ r.toInt < (x.1 0 28).toInt) ∧ x.1 31 r.toNatClampNeg = w ∧ ∃ q, mtP (smB x) T wn t.toNatClampNeg = some q ∧ tdE x r.toNatClampNeg q) → (¬ r = -1 → (x.1 32 r.toNatClampNeg).toInt = nmT (smB x) wn t.toNatClampNeg T) → F r x) : MT G (d + 1) z_meant 0 [(0, vr 0), (1, vi t), (2, vi w)] [] x (ri F) := by
  obtain ⟨tk, gb, te⟩ := lb
  have k1 : (1 : Int32).toInt = 1 := rfl
  have hv := vp_in_iff.mp (GB_v gb)
  have u28 := t_cl (x.1 0 28)
  have loop : ∀ (n : Nat) (i : Int32), 0 ≤ i.toInt → (x.1 0 28).toInt - i.toInt ≤ n → mtP (smB x) T wn t.toNatClampNeg = mtP (smB x) (T.drop i.toNatClampNeg) wn t.toNatClampNeg → nmT (smB x) wn t.toNatClampNeg T = nbT wn (T.take i.toNatClampNeg) + nmT (smB x) wn t.toNatClampNeg (T.drop i.toNatClampNeg) → MT G (d + 1) z_meant 2 [(0, vr 0), (1, vi t), (2, vi w), (3, vi i)] [] x (ri F) := by
    intro n
    induction n with
    | zero =>
      intro i i0 hi e en
      refine sg_meant_2 _ _ _ ⟨fun c => ri_i (h _ (fun _ => ?_) (fun q => absurd rfl q) (fun q => absurd rfl q)), fun c => absurd (t_le.mpr (by omega)) c⟩
      rw [e, List.drop_eq_nil_of_le (by rw [tr.1, t_cl]; rw [t_le] at c; have ui := t_cl i; omega)]
      rfl
    | succ n ih =>
      intro i i0 hi e en
      refine sg_meant_2 _ _ _ ⟨fun c => ri_i (h _ (fun _ => ?_) (fun q => absurd rfl q) (fun q => absurd rfl q)), fun c => ?_⟩
      · rw [e, List.drop_eq_nil_of_le (by rw [tr.1, t_cl]; rw [t_le] at c; have ui := t_cl i; omega)]
        rfl
      rw [t_le] at c
      have hj : ((i.toNatClampNeg : Nat) : Int) < (x.1 0 28).toInt := by rw [t_cl]; omega
      have iv : vp_in i 40 := by rw [vp_in_iff]; omega
      have i1 : (i + 1).toInt = i.toInt + 1 := by rw [t_add (by omega) (by omega), k1]
      have i2 : (i + 1).toNatClampNeg = i.toNatClampNeg + 1 := by rw [t_cl, t_cl]; omega
      obtain ⟨q, hq, hd⟩ := TRd_at tr i0 (by omega)
      have e2 : mtP (smB x) T wn t.toNatClampNeg = if (decide (q.2.1 = wn) && smB x q.1 t.toNatClampNeg) = true then some q else mtP (smB x) (T.drop (i + 1).toNatClampNeg) wn t.toNatClampNeg := by
        rw [e, dr_cons hq, i2]
        unfold mtP
        rw [List.find?_cons]
        cases (decide (q.2.1 = wn) && smB x q.1 t.toNatClampNeg) <;> rfl
      have en2 : nmT (smB x) wn t.toNatClampNeg T = nbT wn (T.take i.toNatClampNeg) + if (decide (q.2.1 = wn) && smB x q.1 t.toNatClampNeg) = true then 0 else (if q.2.1 = wn then max q.2.2.1 1 else 0) + nmT (smB x) wn t.toNatClampNeg (T.drop (i.toNatClampNeg + 1)) := by
        rw [en, dr_cons hq, nmT]
      have et : T.take (i + 1).toNatClampNeg = T.take i.toNatClampNeg ++ [q] := by
        rw [i2, List.take_succ, hq]
        rfl
      have en3 : ¬ (decide (q.2.1 = wn) && smB x q.1 t.toNatClampNeg) = true → nmT (smB x) wn t.toNatClampNeg T = nbT wn (T.take (i + 1).toNatClampNeg) + nmT (smB x) wn t.toNatClampNeg (T.drop (i + 1).toNatClampNeg) := fun z => by
        rw [en2, if_neg z, et, nbT_app, i2, nbT, nbT]
        omega
      refine ⟨iv, fun c2 => ih (i + 1) (by omega) (by omega) ?_ (en3 ?_), fun c2 => ⟨iv, sf_isSameName _ _ (te _ hj).1 ht tk (fun r hr => ⟨fun c3 => ih (i + 1) (by omega) (by omega) ?_ (en3 ?_), fun c3 => ri_i (h _ (fun z => ?_) (fun _ => ⟨⟨i0, by omega⟩, c2, q, ?_, hd⟩) (fun _ => ?_))⟩)⟩⟩
      · rw [e2, if_neg]
        intro z
        rw [Bool.and_eq_true, decide_eq_true_iff] at z
        refine c2 (t_eq.mpr ?_)
        rw [hd.2.2.1, z.1, ew]
      · intro z
        rw [Bool.and_eq_true, decide_eq_true_iff] at z
        refine c2 (t_eq.mpr ?_)
        rw [hd.2.2.1, z.1, ew]
      · rw [hd.2.1] at hr
        rw [e2, if_neg]
        intro z
        rw [Bool.and_eq_true] at z
        exact hr.mpr z.2 c3
      · rw [hd.2.1] at hr
        intro z
        rw [Bool.and_eq_true] at z
        exact hr.mpr z.2 c3
      · rw [z] at i0
        exact absurd i0 (by decide)
      · rw [hd.2.1] at hr
        rw [e2, if_pos]
        rw [Bool.and_eq_true, decide_eq_true_iff]
        refine ⟨?_, hr.mp c3⟩
        have a := hd.2.2.1
        rw [c2, ew] at a
        omega
      · rw [hd.2.1] at hr
        have a := hd.2.2.1
        rw [c2, ew] at a
        have a2 : q.2.1 = wn := by omega
        rw [tr.2.2 _ _ hq, en2, if_pos, a2, Nat.add_zero]
        rw [Bool.and_eq_true, decide_eq_true_iff]
        exact ⟨a2, hr.mp c3⟩
  refine sg_meant_0 _ _ (loop _ 0 (by decide) (Int.self_le_toNat _) rfl ?_)
  show _ = 0 + nmT (smB x) wn t.toNatClampNeg T
  rw [Nat.zero_add]
theorem sf_toldOf {T : gTd} (t : Int32) (ht : vp_in t 710) (lb : LB x) (tr : TRd x T) (h : ∀ r : Int32, (r = -1 → ∀ q ∈ T, ¬ smB x q.1 t.toNatClampNeg = true) → (¬ r = -1 → (0 ≤ r.toInt ∧ r.toInt < (x.1 0 28).toInt) ∧ (∃ q, T[r.toNatClampNeg]? = some q ∧ smB x q.1 t.toNatClampNeg = true) ∧ ∀ j q, j < r.toNatClampNeg → T[j]? = some q → ¬ smB x q.1 t.toNatClampNeg = true) → F r x) : MT G (d + 1) z_toldOf 0 [(0, vr 0), (1, vi t)] [] x (ri F) := by
  obtain ⟨tk, gb, te⟩ := lb
  have k1 : (1 : Int32).toInt = 1 := rfl
  have hv := vp_in_iff.mp (GB_v gb)
  have u28 := t_cl (x.1 0 28)
  have all : ∀ i : Int32, (x.1 0 28).toInt ≤ i.toInt → (∀ j q, j < i.toNatClampNeg → T[j]? = some q → ¬ smB x q.1 t.toNatClampNeg = true) → ∀ q ∈ T, ¬ smB x q.1 t.toNatClampNeg = true := by
    intro i hi g q hq
    obtain ⟨j, hj, e⟩ := List.getElem_of_mem hq
    refine g j q ?_ (by rw [List.getElem?_eq_getElem hj, e])
    rw [tr.1] at hj
    rw [t_cl]
    omega
  have loop : ∀ (n : Nat) (i : Int32), 0 ≤ i.toInt → (x.1 0 28).toInt - i.toInt ≤ n → (∀ j q, j < i.toNatClampNeg → T[j]? = some q → ¬ smB x q.1 t.toNatClampNeg = true) → MT G (d + 1) z_toldOf 2 [(0, vr 0), (1, vi t), (2, vi i)] [] x (ri F) := by
    intro n
    induction n with
    | zero =>
      intro i i0 hi g
      exact sg_toldOf_2 _ _ ⟨fun c => ri_i (h _ (fun _ => all i (t_le.mp c) g) (fun q => absurd rfl q)), fun c => absurd (t_le.mpr (by omega)) c⟩
    | succ n ih =>
      intro i i0 hi g
      refine sg_toldOf_2 _ _ ⟨fun c => ri_i (h _ (fun _ => all i (t_le.mp c) g) (fun q => absurd rfl q)), fun c => ?_⟩
      rw [t_le] at c
      have hj : ((i.toNatClampNeg : Nat) : Int) < (x.1 0 28).toInt := by rw [t_cl]; omega
      obtain ⟨q, hq, hd⟩ := TRd_at tr i0 (by omega)
      have i1 : (i + 1).toInt = i.toInt + 1 := by rw [t_add (by omega) (by omega), k1]
      have i2 : (i + 1).toNatClampNeg = i.toNatClampNeg + 1 := by rw [t_cl, t_cl]; omega
      refine ⟨by rw [vp_in_iff]; omega, sf_isSameName _ _ (te _ hj).1 ht tk (fun r hr => ?_)⟩
      rw [hd.2.1] at hr
      refine ⟨fun c3 => ih (i + 1) (by omega) (by omega) (fun j q' hj' hq' => ?_), fun c3 => ri_i (h _ (fun z => ?_) (fun _ => ⟨⟨i0, by omega⟩, ⟨q, hq, hr.mp c3⟩, g⟩))⟩
      · rw [i2] at hj'
        by_cases cj : j = i.toNatClampNeg
        · rw [cj, hq] at hq'
          rw [← Option.some.inj hq']
          exact fun z => hr.mpr z c3
        · exact g j q' (by omega) hq'
      · rw [z] at i0
        exact absurd i0 (by decide)
  exact sg_toldOf_0 _ (loop _ 0 (by decide) (Int.self_le_toNat _) (fun j q hj _ => absurd hj (Nat.not_lt_zero _)))
theorem sf_slotOf {E : gV} (t : Int32) (ht : vp_in t 710) (tk : TK x) (ke : KEn x E) (h : ∀ r : Int32, (r = -1 ∧ kfi (smB x) E.1 t.toNatClampNeg = none) ∨ ((0 ≤ r.toInt ∧ r.toInt < 8) ∧ ∃ p, kfi (smB x) E.1 t.toNatClampNeg = some p ∧ r = x.1 46 p) → F r x) : MT G (d + 1) z_slotOf 0 [(0, vr 0), (1, vi t)] [] x (ri F) := by
  obtain ⟨b0, b8, kk⟩ := ke
  have k0 : (0 : Int32).toInt = 0 := rfl
  have k1 : (1 : Int32).toInt = 1 := rfl
  have km : (-1 : Int32).toInt = -1 := rfl
  have loop : ∀ (ks : gK) (i : Int32), i.toInt + 1 = ks.length → ks.length ≤ 8 → KL x ks → kfi (smB x) E.1 t.toNatClampNeg = kfi (smB x) ks t.toNatClampNeg → MT G (d + 1) z_slotOf 7 [(0, vr 0), (1, vi t), (2, vi i)] [] x (ri F) := by
    intro ks
    induction ks with
    | nil =>
      intro i hi _ _ e
      have hi : i.toInt + 1 = 0 := hi
      exact sg_slotOf_7 _ _ ⟨fun _ => ri_i (h _ (Or.inl ⟨rfl, e⟩)), fun c => absurd (t_lt.mpr (by omega)) c⟩
    | cons k ks ih =>
      intro i hi h8 kl e
      have hi : i.toInt + 1 = ks.length + 1 := hi
      have h8 : ks.length + 1 ≤ 8 := h8
      have ei : i.toNatClampNeg = ks.length := by rw [t_cl]; omega
      refine sg_slotOf_7 _ _ ⟨fun c => ?_, fun c => ?_⟩
      · rw [t_lt, k0] at c; omega
      have iv : vp_in i 40 := by rw [vp_in_iff]; omega
      have i2 : (i + -1).toInt = i.toInt - 1 := by rw [t_add (by omega) (by omega), km]; omega
      obtain ⟨⟨q1, q2, q3, q4⟩, q5⟩ := kl
      refine ⟨iv, sf_isSameName _ _ (by rw [ei]; exact q1) ht tk (fun r hr => ?_)⟩
      rw [ei, q2] at hr
      refine ⟨fun c3 => ih (i + -1) (by omega) (by omega) q5 ?_, fun c3 => ⟨iv, ri_i (h _ (Or.inr ⟨?_, ks.length, ?_, by rw [ei]⟩))⟩⟩
      · rw [e, kfi, if_neg (fun z => hr.mpr z c3)]
      · rw [ei]; omega
      · rw [e, kfi, if_pos (hr.mp c3)]
  have e : (x.1 0 43 - 1).toInt = (x.1 0 43).toInt - 1 := by rw [t_sub (by omega) (by omega), k1]
  exact sg_slotOf_0 _ (loop E.1 _ (by omega) b8 kk rfl)
/-- a cell's name: what cellOf answers, and whether it was wrong -/
theorem sf_cellOf {T : gTd} (t w : Int32) (hw : w = 0 ∨ w = 1) (ht : vp_in t 710) (lb : LB x) (wb : WB x) (tr : TRd x T) (h : ∀ (r : Int32) (x' : gd), md [41, 42] [] x x' → WB x' → (r = -1 ∨ ((0 ≤ r.toInt ∧ r.toInt < (x.1 0 28).toInt) ∧ x.1 31 r.toNatClampNeg = 0 ∧ x.1 34 r.toNatClampNeg = w)) → (wr x' ↔ wr x ∨ r = -1) → (r = -1 ↔ (w = 0 → ¬ plc (smB x) T t.toNatClampNeg) ∧ (w = 1 → ¬ ∃ n, rwc (smB x) T t.toNatClampNeg n)) → (¬ r = -1 → (x.1 32 r.toNatClampNeg).toInt = nmT (smB x) 0 t.toNatClampNeg T ∧ (w = 1 → (x.1 33 r.toNatClampNeg).toInt = rsT (smB x) T t.toNatClampNeg)) → F r x') : MT G (d + 2) z_cellOf 0 [(0, vr 0), (1, vi t), (2, vi w)] [] x (ri F) := by
  have w10 : ¬ (1 : Int32) = 0 := by decide
  have p22 : ((w = 0 → ¬ plc (smB x) T t.toNatClampNeg) ∧ (w = 1 → ¬ ∃ n, rwc (smB x) T t.toNatClampNeg n)) → MT G (d + 2) z_cellOf 22 [(0, vr 0), (1, vi t)] [] x (ri F) := fun q => sg_cellOf_22 _ (sf_wrongAt _ _ (by decide) ht lb.1 wb (fun x' m w' g => ri_i (h _ x' m w' (Or.inl rfl) ⟨fun _ => Or.inr rfl, fun _ => g⟩ ⟨fun _ => q, fun _ => rfl⟩ (fun z => absurd rfl z))))
  refine sg_cellOf_0 _ _ (sf_meant _ _ 0 rfl ht lb tr (fun r hr0 hr hrn => ⟨fun c => p22 ?_, fun c => ?_⟩))
  · have n := hr0 c
    refine ⟨fun _ ⟨q, e, _⟩ => ?_, fun _ ⟨_, q, e, _⟩ => ?_⟩
    · rw [n] at e; exact absurd e (by simp)
    · rw [n] at e; exact absurd e (by simp)
  obtain ⟨h1, h2, q, e, hd⟩ := hr c
  have hd4 := hd.2.2.2
  refine ⟨LB_v lb h1, fun c2 => ri_i (h _ x (md_w (md_rf x) (by decide) (by decide)) wb (Or.inr ⟨h1, h2, c2⟩) ⟨Or.inl, fun z => z.elim id (fun z => absurd z c)⟩ ⟨fun z => absurd z c, fun z => ?_⟩ (fun _ => ⟨hrn c, fun ew => ?_⟩)), fun c2 => p22 ⟨fun ew ⟨q', e', g⟩ => ?_, fun ew ⟨n, q', e', g, g2⟩ => ?_⟩⟩
  · rcases hd4 with ⟨a1, a2⟩ | ⟨a1, a2, _⟩
    · exact absurd ⟨q, e, a1⟩ (z.1 (c2.symm.trans a2))
    · exact absurd ⟨_, q, e, rfl, a1⟩ (z.2 (c2.symm.trans a2))
  · rcases hd4 with ⟨a1, a2⟩ | ⟨a1, a2, a3, _⟩
    · rw [c2, ew] at a2; exact absurd a2 (by decide)
    · unfold rsT
      rw [e]
      show _ = ((q.2.2.1 : Nat) : Int)
      rw [← a3]
      have := t_cl (x.1 33 r.toNatClampNeg)
      have := (LB_t lb h1).2.1
      rw [h2] at this
      rcases this with g | g | g
      · omega
      · exact absurd g.1 (by decide)
      · exact absurd g.1 (by decide)
  · rw [e] at e'
    cases Option.some.inj e'
    rcases hd4 with ⟨a1, a2⟩ | ⟨a1, a2, _⟩
    · exact c2 (a2.trans ew.symm)
    · omega
  · rw [e] at e'
    cases Option.some.inj e'
    rcases hd4 with ⟨a1, a2⟩ | ⟨a1, a2, _⟩
    · omega
    · exact c2 (a2.trans ew.symm)
theorem sf_numberOf {T : gTd} (t w : Int32) (wn : Nat) (ew : w.toInt = wn) (ht : vp_in t 710) (lb : LB x) (wb : WB x) (tr : TRd x T) (h : ∀ (r : Int32) (x' : gd), md [41, 42] [] x x' → WB x' → (r = 0 ∨ ∃ k : Int32, (0 ≤ k.toInt ∧ k.toInt < (x.1 0 28).toInt) ∧ x.1 31 k.toNatClampNeg = w ∧ r = x.1 32 k.toNatClampNeg) → (wr x' ↔ wr x ∨ mtP (smB x) T wn t.toNatClampNeg = none) → (¬ mtP (smB x) T wn t.toNatClampNeg = none → r.toInt = nmT (smB x) wn t.toNatClampNeg T) → F r x') : MT G (d + 2) z_numberOf 0 [(0, vr 0), (1, vi t), (2, vi w)] [] x (ri F) := by
  refine sg_numberOf_0 _ _ (sf_meant _ _ wn ew ht lb tr (fun r hr0 hr hrn => ⟨fun c => ?_, fun c => sf_wrongAt _ _ (by decide) ht lb.1 wb (fun x' m w' g => ri_i (h _ x' m w' (Or.inl rfl) ⟨fun _ => Or.inr (hr0 c), fun _ => g⟩ (fun z => absurd (hr0 c) z)))⟩))
  obtain ⟨h1, h2, q, e, hd⟩ := hr c
  refine ⟨LB_v lb h1, ri_i (h _ x (md_w (md_rf x) (by decide) (by decide)) wb (Or.inr ⟨r, h1, h2, rfl⟩) ⟨Or.inl, fun z => z.elim id (fun z => ?_)⟩ (fun _ => hrn c))⟩
  rw [e] at z
  exact absurd z (by simp)
theorem sf_isCellName {T : gTd} (t : Int32) (ht : vp_in t 710) (lb : LB x) (tr : TRd x T) (h : ∀ r : Int32, (¬ r = 0 ↔ plc (smB x) T t.toNatClampNeg) → F r x) : MT G (d + 2) z_isCellName 0 [(0, vr 0), (1, vi t)] [] x (ri F) := by
  refine sg_isCellName_0 _ (sf_meant _ _ 0 rfl ht lb tr (fun r hr0 hr _ => ⟨fun c => ri_i (h _ ⟨fun q => absurd rfl q, fun ⟨q, e, _⟩ => ?_⟩), fun c => ?_⟩))
  · rw [hr0 c] at e; exact absurd e (by simp)
  obtain ⟨h1, h2, q, e, hd⟩ := hr c
  have hd4 := hd.2.2.2
  refine ⟨LB_v lb h1, fun c2 => ri_i (h _ ⟨fun z => absurd rfl z, fun ⟨q', e', g⟩ => ?_⟩), fun c2 => ri_i (h _ ⟨fun _ => ?_, fun _ => by decide⟩)⟩
  · rw [e] at e'
    cases Option.some.inj e'
    rcases hd4 with ⟨a1, a2⟩ | ⟨a1, a2, _⟩
    · exact absurd a2 c2
    · omega
  · rcases hd4 with ⟨a1, a2⟩ | ⟨a1, a2, _⟩
    · exact ⟨q, e, a1⟩
    · rw [a2] at c2
      exact absurd c2 (by decide)
theorem sf_knownMask {E : gV} (ke : KEn x E) (h : F (kms E.1) x) : MT G d z_knownMask 0 [(0, vr 0)] [] x (ri F) := by
  obtain ⟨b0, b8, kk⟩ := ke
  have k1 : (1 : Int32).toInt = 1 := rfl
  rw [← KL_kms kk] at h
  have loop : ∀ (n : Nat) (m i : Int32), 0 ≤ i.toInt → i.toInt ≤ (x.1 0 43).toInt → m = kmZ x i.toNatClampNeg → (x.1 0 43).toInt - i.toInt ≤ n → MT G d z_knownMask 4 [(0, vr 0), (1, vi m), (2, vi i)] [] x (ri F) := by
    intro n
    induction n with
    | zero =>
      intro m i i0 i9 em hi
      refine sg_knownMask_4 _ _ ⟨fun _ => ?_, fun c => absurd (t_le.mpr (by omega)) c⟩
      rw [em, show i.toNatClampNeg = E.1.length by rw [t_cl]; omega]
      exact ri_i h
    | succ n ih =>
      intro m i i0 i9 em hi
      refine sg_knownMask_4 _ _ ⟨fun c => ?_, fun c => ?_⟩
      · rw [t_le] at c
        rw [em, show i.toNatClampNeg = E.1.length by rw [t_cl]; omega]
        exact ri_i h
      · rw [t_le] at c
        have i1 : (i + 1).toInt = i.toInt + 1 := by rw [t_add (by omega) (by omega), k1]
        refine ⟨by rw [vp_in_iff]; omega, ih _ (i + 1) (by omega) (by omega) ?_ (by omega)⟩
        rw [show (i + 1).toNatClampNeg = i.toNatClampNeg + 1 by rw [t_cl, t_cl]; omega, kmZ, em]
  exact sg_knownMask_0 (loop _ 0 0 (by decide) (by show (0 : Int) ≤ _; omega) rfl (Int.self_le_toNat _))
theorem sf_isCellAlone {E : gV} (r : Int32) (h1 : vp_in r 3000) (h2 : x.1 15 r.toNatClampNeg = 10 → vp_in (x.1 16 r.toNatClampNeg) 3000 ∧ vp_in (x.1 19 (x.1 16 r.toNatClampNeg).toNatClampNeg) 710) (tk : TK x) (ke : KEn x E) (h0 : ¬ (x.1 15 r.toNatClampNeg = 10 ∧ x.1 15 (x.1 16 r.toNatClampNeg).toNatClampNeg = 3 ∧ kfi (smB x) E.1 (x.1 19 (x.1 16 r.toNatClampNeg).toNatClampNeg).toNatClampNeg = none) → F 0 x) (h : x.1 15 r.toNatClampNeg = 10 → x.1 15 (x.1 16 r.toNatClampNeg).toNatClampNeg = 3 → kfi (smB x) E.1 (x.1 19 (x.1 16 r.toNatClampNeg).toNatClampNeg).toNatClampNeg = none → F 1 x) : MT G (d + 2) z_isCellAlone 0 [(0, vr 0), (1, vi r)] [] x (ri F) := by
  refine sg_isCellAlone_0 _ ⟨h1, fun c => ri_i (h0 (fun z => c z.1)), fun c => ⟨h1, (h2 c).1, fun c2 => ri_i (h0 (fun z => c2 z.2.1)), fun c2 => ⟨h1, (h2 c).1, sf_slotOf _ (h2 c).2 tk ke (fun s hs => ⟨fun c3 => ri_i (h0 (fun z => ?_)), fun c3 => ri_i (h c c2 ?_)⟩)⟩⟩⟩
  · rcases hs with ⟨a, _⟩ | ⟨_, p, e, _⟩
    · exact c3 a
    · rw [z.2.2] at e; exact absurd e (by simp)
  · rcases hs with ⟨_, a⟩ | ⟨a, _⟩
    · exact a
    · rw [c3] at a; exact absurd a.1 (by decide)
end SFW
end
section
/-- one step laid: steps 52, its rows 54 to 63 -/
def sD (x x' : gd) (w : Int32) : Prop := md [52] [54, 55, 56, 57, 58, 59, 60, 61, 62, 63] x x' ∧ x'.1 0 52 = x.1 0 52 + 1 ∧ (∀ c : Nat, 54 ≤ c → ∀ j : Nat, ¬ j = (x.1 0 52).toNatClampNeg → x'.1 c j = x.1 c j) ∧ x'.1 54 (x.1 0 52).toNatClampNeg = w ∧ x'.1 55 (x.1 0 52).toNatClampNeg = (-1) ∧ x'.1 56 (x.1 0 52).toNatClampNeg = (-1) ∧ x'.1 57 (x.1 0 52).toNatClampNeg = 0 ∧ x'.1 58 (x.1 0 52).toNatClampNeg = (-1) ∧ x'.1 59 (x.1 0 52).toNatClampNeg = (-1) ∧ x'.1 60 (x.1 0 52).toNatClampNeg = (-1) ∧ x'.1 61 (x.1 0 52).toNatClampNeg = (-1)
theorem si_ne {x : gd} {c n : Nat} {v : Int32} (c' j : Nat) (h : ¬ j = n) : (si x c n v).1 c' j = x.1 c' j := by rw [si_get, if_neg (fun q => h q.2)]
end
section
/-- one act laid -/
def aD (x x' : gd) (a b : Int32) : Prop := md [52] [54, 55, 56, 57, 58, 59, 60, 61, 62, 63] x x' ∧ x'.1 0 52 = x.1 0 52 + 1 ∧ (∀ c : Nat, 54 ≤ c → ∀ j : Nat, ¬ j = (x.1 0 52).toNatClampNeg → x'.1 c j = x.1 c j) ∧ x'.1 54 (x.1 0 52).toNatClampNeg = 6 ∧ x'.1 55 (x.1 0 52).toNatClampNeg = a ∧ x'.1 56 (x.1 0 52).toNatClampNeg = b ∧ x'.1 57 (x.1 0 52).toNatClampNeg = 0 ∧ x'.1 58 (x.1 0 52).toNatClampNeg = (-1) ∧ x'.1 59 (x.1 0 52).toNatClampNeg = (-1) ∧ x'.1 60 (x.1 0 52).toNatClampNeg = (-1) ∧ x'.1 61 (x.1 0 52).toNatClampNeg = (-1)
end
section
/-! a step laid, with the mask of what is known -/
theorem sf_layStep {G : mG} {d : Nat} {x : gd} {F : Int32 → gd → Prop} {E : gV} (w s : Int32) (hn : vp_in (x.1 0 52) 1500) (ke : KEn x E) (hs : s = -1 ∨ (vp_in s 3000 ∧ vp_in (x.1 19 s.toNatClampNeg) 710)) (tk : TK x) (h : ∀ x', sD x x' w → x'.1 62 (x.1 0 52).toNatClampNeg = kms E.1 → F (x.1 0 52) x') : MT G (d + 1) z_layStep 0 [(0, vr 0), (1, vi w), (2, vi s)] [] x (ri F) := by
  obtain ⟨n, en⟩ : ∃ n, n = x.1 0 52 := ⟨_, rfl⟩
  refine sg_layStep_0 _ _ ⟨hn, ?_⟩
  intro x2 e2
  have f2 : x2.1 0 52 = n := by rw [e2, si_cell (by decide), en]
  rw [← en] at e2
  refine ⟨by rw [f2, en]; exact hn, ?_⟩
  intro x4 e4
  have f4 : x4.1 0 52 = n := by rw [e4, si_cell (by decide), f2]
  rw [f2] at e4
  refine ⟨by rw [f4, en]; exact hn, ?_⟩
  intro x6 e6
  have f6 : x6.1 0 52 = n := by rw [e6, si_cell (by decide), f4]
  rw [f4] at e6
  refine ⟨by rw [f6, en]; exact hn, ?_⟩
  intro x8 e8
  have f8 : x8.1 0 52 = n := by rw [e8, si_cell (by decide), f6]
  rw [f6] at e8
  refine ⟨by rw [f8, en]; exact hn, ?_⟩
  intro x10 e10
  have f10 : x10.1 0 52 = n := by rw [e10, si_cell (by decide), f8]
  rw [f8] at e10
  refine ⟨by rw [f10, en]; exact hn, ?_⟩
  intro x12 e12
  have f12 : x12.1 0 52 = n := by rw [e12, si_cell (by decide), f10]
  rw [f10] at e12
  refine ⟨by rw [f12, en]; exact hn, ?_⟩
  intro x14 e14
  have f14 : x14.1 0 52 = n := by rw [e14, si_cell (by decide), f12]
  rw [f12] at e14
  refine ⟨by rw [f14, en]; exact hn, ?_⟩
  intro x16 e16
  have f16 : x16.1 0 52 = n := by rw [e16, si_cell (by decide), f14]
  rw [f14] at e16
  have m16 : md [] [54, 55, 56, 57, 58, 59, 60, 61] x x16 := by
    rw [e16]
    refine md_tr (L := []) (A := [54, 55, 56, 57, 58, 59, 60]) ?_ (md_a x14 61 n.toNatClampNeg (-1) (by decide)) rfl rfl
    rw [e14]
    refine md_tr (L := []) (A := [54, 55, 56, 57, 58, 59]) ?_ (md_a x12 60 n.toNatClampNeg (-1) (by decide)) rfl rfl
    rw [e12]
    refine md_tr (L := []) (A := [54, 55, 56, 57, 58]) ?_ (md_a x10 59 n.toNatClampNeg (-1) (by decide)) rfl rfl
    rw [e10]
    refine md_tr (L := []) (A := [54, 55, 56, 57]) ?_ (md_a x8 58 n.toNatClampNeg (-1) (by decide)) rfl rfl
    rw [e8]
    refine md_tr (L := []) (A := [54, 55, 56]) ?_ (md_a x6 57 n.toNatClampNeg 0 (by decide)) rfl rfl
    rw [e6]
    refine md_tr (L := []) (A := [54, 55]) ?_ (md_a x4 56 n.toNatClampNeg (-1) (by decide)) rfl rfl
    rw [e4]
    refine md_tr (L := []) (A := [54]) ?_ (md_a x2 55 n.toNatClampNeg (-1) (by decide)) rfl rfl
    rw [e2]
    exact md_a x 54 n.toNatClampNeg w (by decide)
  have ke16 : KEn x16 E := KEn_md m16 (by decide) (by decide) (by decide) ke
  obtain ⟨r18, e18⟩ : ∃ r, r = kms E.1 := ⟨_, rfl⟩
  refine sf_knownMask ke16 ?_
  rw [← e18]
  refine ⟨by rw [f16, en]; exact hn, ?_⟩
  intro x20 e20
  rw [f16] at e20
  have m20 := md_a x16 62 n.toNatClampNeg r18 (by decide)
  rw [← e20] at m20
  have mx20 : md [] [54, 55, 56, 57, 58, 59, 60, 61, 62] x x20 := md_tr m16 m20 rfl rfl
  have f20 : x20.1 0 52 = n := by rw [m20.1 52 (by decide), f16]
  have p125 : ∀ r : Int32, MT G (d + 1) z_layStep 125 [(0, vr 0)] [vi r, vi (x20.1 0 52), vr 63] x20 (ri F) := by
    intro r
    refine sg_layStep_125 _ _ ⟨by rw [f20, en]; exact hn, fun y ey z ez => ?_⟩
    rw [f20] at ey
    have my := md_a x20 63 n.toNatClampNeg r (by decide)
    rw [← ey] at my
    have fy : y.1 0 52 = n := by rw [my.1 52 (by decide), f20]
    rw [fy] at ez
    have mz := md_f y 52 (n + 1)
    rw [← ez] at mz
    have fz : z.1 0 52 = n + 1 := by rw [ez, si_get, if_pos ⟨rfl, rfl⟩]
    have mxz : md [52] [54, 55, 56, 57, 58, 59, 60, 61, 62, 63] x z := md_tr (md_tr (L3 := []) (A3 := [54, 55, 56, 57, 58, 59, 60, 61, 62, 63]) mx20 my rfl rfl) mz rfl rfl
    have hr : z.1 0 52 - 1 = x.1 0 52 := by
      rw [fz, en]
      have hv := vp_in_iff.mp hn
      have k1 : (1 : Int32).toInt = 1 := rfl
      have q1 := t_add (a := x.1 0 52) (b := 1) (by omega) (by omega)
      have q2 := t_sub (a := x.1 0 52 + 1) (b := 1) (by omega) (by omega)
      exact t_eq.mpr (by omega)
    rw [hr]
    have up : ∀ (c j : Nat), c ≠ 0 → c ≠ 63 → c ≠ 62 → z.1 c j = x16.1 c j := fun c j h0 h1 h2 => by
      rw [ez, si_cell h0, ey, si_cell h1, e20, si_cell h2]
    refine ri_i (h z ⟨mxz, by rw [fz, en], fun c hc j hj => ?_, ?_, ?_, ?_, ?_, ?_, ?_, ?_, ?_⟩ ?_)
    · rw [← en] at hj
      rw [ez, si_cell (by omega), ey, si_ne c j hj, e20, si_ne c j hj, e16, si_ne c j hj, e14, si_ne c j hj, e12, si_ne c j hj, e10, si_ne c j hj, e8, si_ne c j hj, e6, si_ne c j hj, e4, si_ne c j hj, e2, si_ne c j hj]
    · rw [up 54 _ (by decide) (by decide) (by decide), ← en, e16, si_cell (by decide), e14, si_cell (by decide), e12, si_cell (by decide), e10, si_cell (by decide), e8, si_cell (by decide), e6, si_cell (by decide), e4, si_cell (by decide), e2, si_get, if_pos ⟨rfl, rfl⟩]
    · rw [up 55 _ (by decide) (by decide) (by decide), ← en, e16, si_cell (by decide), e14, si_cell (by decide), e12, si_cell (by decide), e10, si_cell (by decide), e8, si_cell (by decide), e6, si_cell (by decide), e4, si_get, if_pos ⟨rfl, rfl⟩]
    · rw [up 56 _ (by decide) (by decide) (by decide), ← en, e16, si_cell (by decide), e14, si_cell (by decide), e12, si_cell (by decide), e10, si_cell (by decide), e8, si_cell (by decide), e6, si_get, if_pos ⟨rfl, rfl⟩]
    · rw [up 57 _ (by decide) (by decide) (by decide), ← en, e16, si_cell (by decide), e14, si_cell (by decide), e12, si_cell (by decide), e10, si_cell (by decide), e8, si_get, if_pos ⟨rfl, rfl⟩]
    · rw [up 58 _ (by decide) (by decide) (by decide), ← en, e16, si_cell (by decide), e14, si_cell (by decide), e12, si_cell (by decide), e10, si_get, if_pos ⟨rfl, rfl⟩]
    · rw [up 59 _ (by decide) (by decide) (by decide), ← en, e16, si_cell (by decide), e14, si_cell (by decide), e12, si_get, if_pos ⟨rfl, rfl⟩]
    · rw [up 60 _ (by decide) (by decide) (by decide), ← en, e16, si_cell (by decide), e14, si_get, if_pos ⟨rfl, rfl⟩]
    · rw [up 61 _ (by decide) (by decide) (by decide), ← en, e16, si_get, if_pos ⟨rfl, rfl⟩]
    · rw [ez, si_cell (by decide), ey, si_cell (by decide), e20, ← en, si_get, if_pos ⟨rfl, rfl⟩, e18]
  refine ⟨fun c => ?_, fun _ => p125 _⟩
  obtain ⟨h1, h2⟩ := hs.resolve_left c
  have g19 : x20.1 19 = x.1 19 := mx20.2.1 19 (by decide) (by decide)
  have g6 : x20.1 6 = x.1 6 := mx20.2.1 6 (by decide) (by decide)
  refine ⟨h1, by rw [g19]; exact h2, sp_lineOf _ ?_ (fun r => p125 r)⟩
  rw [g19, g6]
  have tv := vp_in_iff.mp h2
  have := t_cl (x.1 19 s.toNatClampNeg)
  have := tk (x.1 19 s.toNatClampNeg).toNatClampNeg (by omega)
  omega
theorem sf_layAct {G : mG} {d : Nat} {x : gd} {F : Int32 → gd → Prop} {E : gV} (a b s : Int32) (hn : vp_in (x.1 0 52) 1500) (ke : KEn x E) (hs : s = -1 ∨ (vp_in s 3000 ∧ vp_in (x.1 19 s.toNatClampNeg) 710)) (tk : TK x) (h : ∀ x', aD x x' a b → x'.1 62 (x.1 0 52).toNatClampNeg = kms E.1 → F (x.1 0 52) x') : MT G (d + 2) z_layAct 0 [(0, vr 0), (1, vi a), (2, vi b), (3, vi s)] [] x (ri F) := by
  refine sg_layAct_0 _ _ _ (sf_layStep _ _ hn ke hs tk (fun y hy hym => ⟨hn, fun y4 e4 => ⟨hn, fun y6 e6 => ri_i (h _ ?_ (by rw [e6, si_cell (by decide), e4, si_cell (by decide)]; exact hym))⟩⟩))
  obtain ⟨m, c, k, v54, v55, v56, v57, v58, v59, v60, v61⟩ := hy
  have m4 := md_a y 55 (x.1 0 52).toNatClampNeg a (by decide)
  rw [← e4] at m4
  have m6 := md_a y4 56 (x.1 0 52).toNatClampNeg b (by decide)
  rw [← e6] at m6
  have m46 : md [] [55, 56] y y6 := md_tr m4 m6 rfl rfl
  have o : ∀ (q j : Nat), q ≠ 55 → q ≠ 56 → y6.1 q j = y.1 q j := fun q j h1 h2 => by rw [e6, si_cell h2, e4, si_cell h1]
  refine ⟨md_tr m m46 rfl rfl, by rw [m46.1 52 (by decide), c], fun q hq j hj => ?_, ?_, ?_, ?_, ?_, ?_, ?_, ?_, ?_⟩
  · rw [e6, si_ne q j hj, e4, si_ne q j hj]; exact k q hq j hj
  · rw [o _ _ (by decide) (by decide)]; exact v54
  · rw [e6, si_cell (by decide), e4, si_get, if_pos ⟨rfl, rfl⟩]
  · rw [e6, si_get, if_pos ⟨rfl, rfl⟩]
  · rw [o _ _ (by decide) (by decide)]; exact v57
  · rw [o _ _ (by decide) (by decide)]; exact v58
  · rw [o _ _ (by decide) (by decide)]; exact v59
  · rw [o _ _ (by decide) (by decide)]; exact v60
  · rw [o _ _ (by decide) (by decide)]; exact v61
end
section
/-! the code of expressions: work 51, workA 52, works 49; o: 0 in a thread's own work -/
def c1 (o w a : Int32) (n n1 : Nat) : Prop := ((w = 1 ∨ w = 3 ∨ (w = 2 ∧ o = 0 ∧ 0 ≤ a.toInt ∧ a.toInt < 8) ∨ (w = 4 ∧ 0 ≤ a.toInt ∧ a.toInt < 24)) ∧ n < 60 ∧ n1 = n + 1) ∨ (w = 5 ∧ 1 ≤ n ∧ n1 = n) ∨ (w = 6 ∧ 2 ≤ n ∧ n1 + 1 = n)
def cS (x : gd) (o : Int32) : Nat → Nat → Nat → Nat → Prop
  | 0, _, n, n' => n = n'
  | k + 1, w, n, n' => ∃ n1, c1 o (x.1 51 w) (x.1 52 w) n n1 ∧ cS x o k (w + 1) n1 n'
theorem cS_app {x : gd} {o : Int32} : ∀ (k l w n n1 n2 : Nat), cS x o k w n n1 → cS x o l (w + k) n1 n2 → cS x o (k + l) w n n2 := by
  intro k
  induction k with
  | zero =>
    intro l w n n1 n2 h g
    rw [Nat.zero_add]
    have h : n = n1 := h
    rw [h]
    exact g
  | succ k ih =>
    intro l w n n1 n2 h g
    obtain ⟨m, h1, h2⟩ := h
    rw [show k + 1 + l = k + l + 1 by omega]
    exact ⟨m, h1, ih l (w + 1) m n1 n2 h2 (by rw [show w + 1 + k = w + (k + 1) by omega]; exact g)⟩
theorem cS_keep {x x' : gd} {o : Int32} : ∀ (k w n n' : Nat), (∀ j : Nat, w ≤ j → j < w + k → x'.1 51 j = x.1 51 j ∧ x'.1 52 j = x.1 52 j) → cS x o k w n n' → cS x' o k w n n' := by
  intro k
  induction k with
  | zero => intro w n n' _ h; exact h
  | succ k ih =>
    intro w n n' hk h
    obtain ⟨m, h1, h2⟩ := h
    have q := hk w (by omega) (by omega)
    exact ⟨m, by rw [q.1, q.2]; exact h1, ih (w + 1) m n' (fun j a b => hk j (by omega) (by omega)) h2⟩
/-- what laying an expression leaves -/
def LE (o : Int32) (s h : Nat) (x x' : gd) : Prop := md [41, 42, 49] [51, 52] x x' ∧ WB x' ∧ (∀ j : Nat, (j : Int) < (x.1 0 49).toInt → x'.1 51 j = x.1 51 j ∧ x'.1 52 j = x.1 52 j) ∧ ∃ k : Nat, k ≤ s ∧ (x'.1 0 49).toInt = (x.1 0 49).toInt + k ∧ ∀ p : Nat, p + h ≤ 60 → cS x' o k (x.1 0 49).toNatClampNeg p (p + 1)
theorem all_no {M L : List Nat} (h : M.all (fun k => !L.elem k) = true) : ∀ k ∈ M, k ∉ L := by
  intro k hk m
  have q := List.all_eq_true.mp h k hk
  rw [List.elem_iff.mpr m] at q
  exact absurd q (by decide)
theorem LB_md {L A : List Nat} {x x' : gd} (h : md L A x x') (hL : [23, 24, 25, 26, 27, 28].all (fun k => !L.elem k) = true) (hA : [6, 7, 8, 30, 31, 32, 33, 34, 35].all (fun k => !A.elem k) = true) (q : LB x) : LB x' := by
  have f := fun k hk => h.1 k (all_no hL k hk)
  have g := fun k (h0 : k ≠ 0) hk => h.2.1 k h0 (all_no hA k hk)
  have f23 := f 23 (by decide)
  have f24 := f 24 (by decide)
  have f25 := f 25 (by decide)
  have f26 := f 26 (by decide)
  have f27 := f 27 (by decide)
  have f28 := f 28 (by decide)
  refine ⟨TK_md h (all_no hA 6 (by decide)) (all_no hA 8 (by decide)) (all_no hA 7 (by decide)) q.1, ?_, ?_⟩
  · unfold GB
    rw [f23, f24, f25, f26, f27, f28]
    exact q.2.1
  · intro j hj
    rw [f28] at hj
    have r := q.2.2 j hj
    unfold tE
    rw [f23, f24, f25, g 30 (by decide) (by decide), g 31 (by decide) (by decide), g 32 (by decide) (by decide), g 33 (by decide) (by decide), g 34 (by decide) (by decide), g 35 (by decide) (by decide)]
    exact r
theorem KB_md {L A : List Nat} {x x' : gd} (h : md L A x x') (h43 : 43 ∉ L) (h45 : 45 ∉ A) (h46 : 46 ∉ A) (q : KB x) : KB x' := by
  unfold KB
  rw [h.1 43 h43, h.2.1 45 (by decide) h45, h.2.1 46 (by decide) h46]
  exact q
theorem LE_LB {o : Int32} {s h : Nat} {x x' : gd} (q : LE o s h x x') (l : LB x) : LB x' := LB_md q.1 rfl rfl l
theorem LE_NN {o : Int32} {s h : Nat} {x x' : gd} (q : LE o s h x x') : NN x x' := NN_md q.1 (by decide) (fun c h1 h2 m => by
  rcases List.mem_cons.mp m with m | m
  · omega
  · have := List.mem_singleton.mp m; omega)
/-- one push laid, behind what was said to be wrong -/
theorem LE_push {o w a : Int32} {s h : Nat} {x y z : gd} (m : md [41, 42] [] x y) (wb : WB y) (l : lD y z w a) (h0 : 0 ≤ (x.1 0 49).toInt) (hw : (x.1 0 49).toInt ≤ 5999) (s1 : 1 ≤ s) (h1 : 1 ≤ h) (q : w = 1 ∨ w = 3 ∨ (w = 2 ∧ o = 0 ∧ 0 ≤ a.toInt ∧ a.toInt < 8) ∨ (w = 4 ∧ 0 ≤ a.toInt ∧ a.toInt < 24)) : LE o s h x z := by
  obtain ⟨l1, l2, l3, l4⟩ := l
  have e : y.1 0 49 = x.1 0 49 := m.1 49 (by decide)
  have k1 : (1 : Int32).toInt = 1 := rfl
  have e51 : y.1 51 = x.1 51 := m.2.1 51 (by decide) (by decide)
  have e52 : y.1 52 = x.1 52 := m.2.1 52 (by decide) (by decide)
  refine ⟨md_tr m l1 rfl rfl, ?_, fun j hj => ?_, 1, s1, ?_, fun p hp => ?_⟩
  · unfold WB
    rw [l1.1 41 (by decide), l1.1 42 (by decide)]
    exact wb
  · have ne : ¬ j = (y.1 0 49).toNatClampNeg := by rw [e, t_cl]; omega
    rw [l3, l4, if_neg ne, if_neg ne, e51, e52]
    exact ⟨rfl, rfl⟩
  · rw [l2, e, t_add (by omega) (by omega), k1]; rfl
  · refine ⟨p + 1, Or.inl ⟨?_, by omega, rfl⟩, rfl⟩
    rw [l3, l4, e, if_pos rfl, if_pos rfl]
    exact q
end
section
/-! the code of a text, as the row of its events says it: op, the statement's token, what is known there (and the next slot), local or step it goes to, name or whole, [ ] (or all), sums -/
abbrev gSt := Nat × Nat × (gK × Nat) × Option Nat × Option Nat × Bool × Option gU × Option gU × Option gU
/-- the sum under way, sums, place, whether it is a row, target (none: a let), the statement's token -/
abbrev gRg := gU × List gU × Nat × Bool × Option Nat × Nat
/-- names known; steps; steps of the open statements; the above; threads (first step, idle); claims -/
abbrev gCd := gV × List gSt × List Nat × gRg × List (Nat × Nat) × List (Nat × gU)
abbrev rg0 : gRg := ([], [], 0, false, none, 0)
abbrev st0 : gSt := (0, 0, ([], 0), none, none, false, none, none, none)
abbrev cd0 : gCd := (E0v, [], [], rg0, [], [])
def toL (sN : Nat → Nat → Bool) (ks : gK) : Option Nat → Option Nat
  | none => some ks.length
  | some t => kfi sN ks t
def opW (k : Int32) : Nat := if k = 36 then 5 else if k = 22 then 6 else if k = 38 then 7 else if k = 33 then 9 else if k = 25 then 10 else 8
def opX (k : Int32) : Nat := if k = 35 then 2 else if k = 10 then 3 else 4
def opP (k : Int32) : Nat := if k = 20 then 11 else if k = 31 then 12 else 19
def opS (k : Int32) : Nat := if k = 13 then 18 else 14
abbrev knw (E : gV) : gK × Nat := (E.1, E.2.2)
def cEm (c : gCd) (st : gSt) : gCd := (c.1, c.2.1 ++ [st], c.2.2.1, rg0, c.2.2.2.2)
def cPu (c : gCd) (st : gSt) : gCd := (c.1, c.2.1 ++ [st], c.2.1.length :: c.2.2.1, rg0, c.2.2.2.2)
def stS (st : gSt) (n : Nat) : gSt := (st.1, st.2.1, st.2.2.1, some n, st.2.2.2.2)
def cTo (S : List gSt) (j n : Nat) : List gSt := S.mapIdx (fun i st => if i = j then stS st n else st)
def gtS (S : List gSt) (j : Nat) : gSt := S[j]?.getD st0
def cSe (sN : Nat → Nat → Bool) (c : gCd) (tg : Option Nat) (tk : Nat) (N : gU) : gCd := match toL sN c.1.1 tg with
  | some p => cEm c (16, tk, knw c.1, some p, none, false, none, some N, none)
  | none => cEm c (1, tk, knw c.1, none, tg, false, none, some N, none)
def cAl (sN : Nat → Nat → Bool) (c : gCd) (tg : Option Nat) (tk i : Nat) : gCd := match kfi sN c.1.1 i with
  | some _ => cSe sN c tg tk [(3, i, 0)]
  | none => cEm c (0, tk, knw c.1, toL sN c.1.1 tg, some i, false, none, none, none)
def cXc (sN : Nat → Nat → Bool) (K : Nat → Int32) (c : gCd) (i : Nat) : gCd := if c.2.2.2.1.2.2.2.1 = true then cEm c (opX (K i), c.2.2.2.1.2.2.2.2.2, knw c.1, toL sN c.1.1 c.2.2.2.1.2.2.2.2.1, some c.2.2.2.1.2.2.1, true, some (c.2.2.2.1.2.1.getD 0 []), some (c.2.2.2.1.2.1.getD 1 []), if K i = 16 then some (c.2.2.2.1.2.1.getD 2 []) else none) else cEm c (opX (K i), c.2.2.2.1.2.2.2.2.2, knw c.1, toL sN c.1.1 c.2.2.2.1.2.2.2.2.1, some c.2.2.2.1.2.2.1, false, none, some (c.2.2.2.1.2.1.getD 0 []), if K i = 16 then some (c.2.2.2.1.2.1.getD 1 []) else none)
def cJu (c : gCd) (to : Option Nat) : gSt := (20, 0, knw c.1, to, none, false, none, none, none)
def cCl (c : gCd) (z : Nat) : gCd :=
  if z = 0 then (c.1, c.2.1 ++ [(21, 0, knw c.1, none, none, false, none, none, none)], c.2.2)
  else if z = 1 then (c.1, cTo (c.2.1 ++ [cJu c (some (c.2.2.1.headD 0))]) (c.2.2.1.headD 0) (c.2.1.length + 1), c.2.2.1.tail, c.2.2.2)
  else if z = 2 then (c.1, c.2.1 ++ [(6, (gtS c.2.1 (c.2.2.1.headD 0)).2.1, knw c.1, none, (gtS c.2.1 (c.2.2.1.headD 0)).2.2.2.2.1, false, none, none, none)], c.2.2.1.tail, c.2.2.2)
  else c
def cdV (sN : Nat → Nat → Bool) (K : Nat → Int32) (c : gCd) (v : Nat × Nat × Nat) : gCd :=
  if v.1 = 50 ∨ v.1 = 51 ∨ v.1 = 52 ∨ v.1 = 53 ∨ v.1 = 3 ∨ v.1 = 12 then (c.1, c.2.1, c.2.2.1, (c.2.2.2.1.1 ++ [v], c.2.2.2.1.2), c.2.2.2.2)
  else if v.1 = 6 ∨ v.1 = 7 then (if c.1.2.1 = [] then (c.1, c.2.1, c.2.2.1, (c.2.2.2.1.1 ++ [v], c.2.2.2.1.2), c.2.2.2.2) else (c.1, c.2.1, c.2.2.1, (c.2.2.2.1.1, c.2.2.2.1.2.1, v.2.1, decide (v.1 = 7), c.2.2.2.1.2.2.2.2), c.2.2.2.2))
  else if v.1 = 54 then (if c.1.2.1 = [] then (c.1, c.2.1, c.2.2.1, ([], c.2.2.2.1.2), c.2.2.2.2.1, c.2.2.2.2.2 ++ [(c.2.2.2.1.2.2.1, c.2.2.2.1.1)]) else (c.1, c.2.1, c.2.2.1, ([], c.2.2.2.1.2.1 ++ [c.2.2.2.1.1], c.2.2.2.1.2.2), c.2.2.2.2))
  else if v.1 = 20 then (exV c.1 v, c.2)
  else if v.1 = 21 then cCl (exV c.1 v, c.2) v.2.1
  else if v.1 = 22 then (exV c.1 v, c.2)
  else if v.1 = 23 then (c.1, c.2.1, c.2.2.1, (c.2.2.2.1.1, c.2.2.2.1.2.1, c.2.2.2.1.2.2.1, c.2.2.2.1.2.2.2.1, none, v.2.1 - 1), c.2.2.2.2)
  else if v.1 = 25 ∨ v.1 = 26 then (c.1, c.2.1, c.2.2.1, (c.2.2.2.1.1, c.2.2.2.1.2.1, c.2.2.2.1.2.2.1, c.2.2.2.1.2.2.2.1, some v.2.1, v.2.1), c.2.2.2.2)
  else if v.1 = 24 then cAl sN c c.2.2.2.1.2.2.2.2.1 c.2.2.2.1.2.2.2.2.2 v.2.1
  else if v.1 = 27 then cAl sN c (some v.2.1) v.2.1 v.2.2
  else if v.1 = 76 then cSe sN c c.2.2.2.1.2.2.2.2.1 c.2.2.2.1.2.2.2.2.2 (c.2.2.2.1.2.1.getD 0 [])
  else if v.1 = 75 then cEm c (0, c.2.2.2.1.2.2.2.2.2, knw c.1, toL sN c.1.1 c.2.2.2.1.2.2.2.2.1, some c.2.2.2.1.2.2.1, c.2.2.2.1.2.2.2.1, (if c.2.2.2.1.2.2.2.1 = true then some (c.2.2.2.1.2.1.getD 0 []) else none), none, none)
  else if v.1 = 74 then cXc sN K c v.2.1
  else if v.1 = 78 then cEm c (1, v.2.1, knw c.1, none, some c.2.2.2.1.2.2.1, true, some (c.2.2.2.1.2.1.getD 0 []), some (c.2.2.2.1.2.1.getD 1 []), none)
  else if v.1 = 60 ∨ v.1 = 61 then cPu c (17, v.2.1, knw c.1, none, none, false, none, some (c.2.2.2.1.2.1.getD 0 []), none)
  else if v.1 = 65 then cPu c (5, v.2.1, knw c.1, none, some v.2.2, false, none, none, none)
  else if v.1 = 62 then (c.1, cTo (c.2.1 ++ [cJu c none]) (c.2.2.1.headD 0) (c.2.1.length + 1), c.2.1.length :: c.2.2.1.tail, c.2.2.2)
  else if v.1 = 63 then (c.1, cTo c.2.1 (c.2.2.1.headD 0) c.2.1.length, c.2.2.1.tail, c.2.2.2)
  else if v.1 = 66 ∨ v.1 = 67 then cEm c (opW (K v.2.1), v.2.1, knw c.1, none, some v.2.2, decide (K v.2.1 = 40), none, none, none)
  else if v.1 = 68 then cEm c (opP (K v.2.1), v.2.1, knw c.1, none, none, false, none, none, none)
  else if v.1 = 69 then cEm c (opS (K v.2.1), v.2.1, knw c.1, none, none, false, none, some (c.2.2.2.1.2.1.getD 0 []), none)
  else if v.1 = 70 then cEm c (13, v.2.1, knw c.1, none, some v.2.2, false, none, some (c.2.2.2.1.2.1.getD 0 []), none)
  else if v.1 = 34 then (E0v, c.2.1, c.2.2.1, rg0, c.2.2.2.2.1 ++ [(c.2.1.length, v.2.2)], c.2.2.2.2.2)
  else if v.1 = 35 ∨ v.1 = 36 then (c.1, c.2.1, c.2.2.1, (c.2.2.2.1.1, c.2.2.2.1.2.1, v.1, c.2.2.2.1.2.2.2), c.2.2.2.2)
  else c
def cds (sN : Nat → Nat → Bool) (K : Nat → Int32) (L : gU) (c : gCd) : gCd := L.foldl (cdV sN K) c
/-- events of a sum (in a claim: o) -/
def sEv (o : Bool) (N : gU) : Prop := ∀ v ∈ N, v.1 = 50 ∨ v.1 = 51 ∨ v.1 = 52 ∨ v.1 = 53 ∨ (o = false ∧ v.1 = 3) ∨ (o = true ∧ (v.1 = 6 ∨ v.1 = 7 ∨ v.1 = 12))
section COD
variable {sN : Nat → Nat → Bool} {K : Nat → Int32} {c : gCd} {L M N : gU} {v : Nat × Nat × Nat} {i j n : Nat} {E : gV} {S : List gSt} {k : List Nat} {r : gRg} {w : List (Nat × Nat) × List (Nat × gU)} {cu : gU} {su : List gU} {pl tk : Nat} {ro o : Bool} {tg : Option Nat}
theorem cds_app : cds sN K (L ++ M) c = cds sN K M (cds sN K L c) := List.foldl_append
theorem cds_one : cds sN K [v] c = cdV sN K c v := rfl
theorem cds_cons : cds sN K (v :: L) c = cds sN K L (cdV sN K c v) := rfl
theorem sEv_nil : sEv o [] := fun _ h => by cases h
theorem sEv_app (h : sEv o N) (g : sEv o M) : sEv o (N ++ M) := fun v hv => (List.mem_append.mp hv).elim (h v) (g v)
theorem sEv_one (h : v.1 = 50 ∨ v.1 = 51 ∨ v.1 = 52 ∨ v.1 = 53 ∨ (o = false ∧ v.1 = 3) ∨ (o = true ∧ (v.1 = 6 ∨ v.1 = 7 ∨ v.1 = 12))) : sEv o [v] := fun w hw => by
  rw [List.mem_singleton.mp hw]; exact h
/-- a sum's events -/
theorem cds_sum : ∀ {N : gU} {cu : gU}, sEv o N → (o = true → E.2.1 = []) → cds sN K N (E, S, k, (cu, r.2), w) = (E, S, k, (cu ++ N, r.2), w) := by
  intro N
  induction N with
  | nil => intro cu _ _; rw [List.append_nil]; rfl
  | cons v N ih =>
    intro cu h g
    have e : cdV sN K (E, S, k, (cu, r.2), w) v = (E, S, k, (cu ++ [v], r.2), w) := by
      rcases h v List.mem_cons_self with q | q | q | q | q | q
      · unfold cdV; rw [if_pos (Or.inl q)]
      · unfold cdV; rw [if_pos (Or.inr (Or.inl q))]
      · unfold cdV; rw [if_pos (Or.inr (Or.inr (Or.inl q)))]
      · unfold cdV; rw [if_pos (Or.inr (Or.inr (Or.inr (Or.inl q))))]
      · unfold cdV; rw [if_pos (Or.inr (Or.inr (Or.inr (Or.inr (Or.inl q.2)))))]
      · obtain ⟨a, q | q | q⟩ := q
        · unfold cdV; rw [if_neg (by omega), if_pos (Or.inl q), if_pos (g a)]
        · unfold cdV; rw [if_neg (by omega), if_pos (Or.inr q), if_pos (g a)]
        · unfold cdV; rw [if_pos (Or.inr (Or.inr (Or.inr (Or.inr (Or.inr q)))))]
    rw [cds_cons, e, ih (fun u hu => h u (List.mem_cons_of_mem _ hu)) g, List.append_assoc]
    rfl
/-- a whole sum in a thread -/
theorem cds_x (h : sEv false N) (hE : ¬ E.2.1 = []) : cds sN K (N ++ [(54, 0, 0)]) (E, S, k, ([], su, pl, ro, tg, tk), w) = (E, S, k, ([], su ++ [N], pl, ro, tg, tk), w) := by
  rw [cds_app, cds_sum (r := ([], su, pl, ro, tg, tk)) h (fun q => absurd q (by decide)), cds_one]
  show cdV sN K (E, S, k, ([] ++ N, su, pl, ro, tg, tk), w) (54, 0, 0) = _
  rw [List.nil_append]
  unfold cdV
  rw [if_neg (by decide), if_neg (by decide), if_pos rfl, if_neg hE]
theorem cd_6 (hE : ¬ E.2.1 = []) : cdV sN K (E, S, k, (cu, su, pl, ro, tg, tk), w) (6, i, j) = (E, S, k, (cu, su, i, false, tg, tk), w) := by
  unfold cdV
  rw [if_neg (show ¬ (6 = 50 ∨ 6 = 51 ∨ 6 = 52 ∨ 6 = 53 ∨ 6 = 3 ∨ 6 = 12) by decide), if_pos (Or.inl rfl), if_neg hE]
  rfl
theorem cd_7 (hE : ¬ E.2.1 = []) : cdV sN K (E, S, k, (cu, su, pl, ro, tg, tk), w) (7, i, j) = (E, S, k, (cu, su, i, true, tg, tk), w) := by
  unfold cdV
  rw [if_neg (show ¬ (7 = 50 ∨ 7 = 51 ∨ 7 = 52 ∨ 7 = 53 ∨ 7 = 3 ∨ 7 = 12) by decide), if_pos (Or.inr rfl), if_neg hE]
  rfl
theorem cd_20 : cdV sN K (E, S, k, r, w) (20, i, j) = (exV E (20, i, j), S, k, r, w) := rfl
theorem cd_21 : cdV sN K (E, S, k, r, w) (21, i, j) = cCl (exV E (21, i, j), S, k, r, w) i := rfl
theorem cd_22 : cdV sN K (E, S, k, r, w) (22, i, j) = (exV E (22, i, j), S, k, r, w) := rfl
theorem cd_23 : cdV sN K (E, S, k, (cu, su, pl, ro, tg, tk), w) (23, i, j) = (E, S, k, (cu, su, pl, ro, none, i - 1), w) := rfl
theorem cd_25 : cdV sN K (E, S, k, (cu, su, pl, ro, tg, tk), w) (25, i, j) = (E, S, k, (cu, su, pl, ro, some i, i), w) := rfl
theorem cd_26 : cdV sN K (E, S, k, (cu, su, pl, ro, tg, tk), w) (26, i, j) = (E, S, k, (cu, su, pl, ro, some i, i), w) := rfl
theorem cd_24 : cdV sN K (E, S, k, (cu, su, pl, ro, tg, tk), w) (24, i, j) = cAl sN (E, S, k, (cu, su, pl, ro, tg, tk), w) tg tk i := rfl
theorem cd_27 : cdV sN K c (27, i, j) = cAl sN c (some i) i j := rfl
theorem cd_76 : cdV sN K (E, S, k, (cu, su, pl, ro, tg, tk), w) (76, i, j) = cSe sN (E, S, k, (cu, su, pl, ro, tg, tk), w) tg tk (su.getD 0 []) := rfl
theorem cd_75 : cdV sN K (E, S, k, (cu, su, pl, ro, tg, tk), w) (75, i, j) = (E, S ++ [(0, tk, knw E, toL sN E.1 tg, some pl, ro, (if ro = true then some (su.getD 0 []) else none), none, none)], k, rg0, w) := rfl
theorem cd_74 : cdV sN K c (74, i, j) = cXc sN K c i := rfl
theorem cd_78 : cdV sN K (E, S, k, (cu, su, pl, ro, tg, tk), w) (78, i, j) = (E, S ++ [(1, i, knw E, none, some pl, true, some (su.getD 0 []), some (su.getD 1 []), none)], k, rg0, w) := rfl
theorem cd_60 : cdV sN K (E, S, k, (cu, su, pl, ro, tg, tk), w) (60, i, j) = (E, S ++ [(17, i, knw E, none, none, false, none, some (su.getD 0 []), none)], S.length :: k, rg0, w) := rfl
theorem cd_61 : cdV sN K (E, S, k, (cu, su, pl, ro, tg, tk), w) (61, i, j) = (E, S ++ [(17, i, knw E, none, none, false, none, some (su.getD 0 []), none)], S.length :: k, rg0, w) := rfl
theorem cd_65 : cdV sN K (E, S, k, r, w) (65, i, j) = (E, S ++ [(5, i, knw E, none, some j, false, none, none, none)], S.length :: k, rg0, w) := rfl
theorem cd_62 : cdV sN K (E, S, k, r, w) (62, i, j) = (E, cTo (S ++ [(20, 0, knw E, none, none, false, none, none, none)]) (k.headD 0) (S.length + 1), S.length :: k.tail, r, w) := rfl
theorem cd_63 : cdV sN K (E, S, k, r, w) (63, i, j) = (E, cTo S (k.headD 0) S.length, k.tail, r, w) := rfl
theorem cd_66 : cdV sN K (E, S, k, r, w) (66, i, j) = (E, S ++ [(opW (K i), i, knw E, none, some j, decide (K i = 40), none, none, none)], k, rg0, w) := rfl
theorem cd_67 : cdV sN K (E, S, k, r, w) (67, i, j) = (E, S ++ [(opW (K i), i, knw E, none, some j, decide (K i = 40), none, none, none)], k, rg0, w) := rfl
theorem cd_68 : cdV sN K (E, S, k, r, w) (68, i, j) = (E, S ++ [(opP (K i), i, knw E, none, none, false, none, none, none)], k, rg0, w) := rfl
theorem cd_69 : cdV sN K (E, S, k, (cu, su, pl, ro, tg, tk), w) (69, i, j) = (E, S ++ [(opS (K i), i, knw E, none, none, false, none, some (su.getD 0 []), none)], k, rg0, w) := rfl
theorem cd_70 : cdV sN K (E, S, k, (cu, su, pl, ro, tg, tk), w) (70, i, j) = (E, S ++ [(13, i, knw E, none, some j, false, none, some (su.getD 0 []), none)], k, rg0, w) := rfl
theorem cd_77 : cdV sN K c (77, i, j) = c := rfl
/-- a place: its name, its index -/
def pPl (tp : Nat) (N0 : gU) (ro : Bool) (ix : Option gU) (N1 : gU) : Prop := (ro = false ∧ ix = none ∧ N1 = [(6, tp, 0)]) ∨ (ro = true ∧ ix = some N0 ∧ sEv false N0 ∧ N1 = [(7, tp, 0)] ++ (N0 ++ [(54, 0, 0)]))
theorem cds_pl {tp : Nat} {N0 N1 : gU} {ix : Option gU} (h : pPl tp N0 ro ix N1) (hE : ¬ E.2.1 = []) : cds sN K N1 (E, S, k, ([], [], 0, false, tg, tk), w) = (E, S, k, ([], ix.toList, tp, ro, tg, tk), w) := by
  rcases h with ⟨rfl, rfl, rfl⟩ | ⟨rfl, rfl, h, rfl⟩
  · rw [cds_one, cd_6 hE]; rfl
  · rw [cds_app, cds_one, cd_7 hE, cds_x h hE]; rfl
theorem cds_r75 {tp t : Nat} {N0 N1 : gU} {ix : Option gU} (h : pPl tp N0 ro ix N1) (hE : ¬ E.2.1 = []) : cds sN K (N1 ++ [(75, t, 0)]) (E, S, k, ([], [], 0, false, tg, tk), w) = (E, S ++ [(0, tk, knw E, toL sN E.1 tg, some tp, ro, ix, none, none)], k, rg0, w) := by
  rw [cds_app, cds_pl h hE, cds_one, cd_75]
  rcases h with ⟨rfl, rfl, -⟩ | ⟨rfl, rfl, -⟩ <;> rfl
theorem cds_r74 {tp t : Nat} {N0 N1 N2 : gU} {ix : Option gU} (h : pPl tp N0 ro ix N1) (h2 : sEv false N2) (hE : ¬ E.2.1 = []) (hK : ¬ K t = 16) : cds sN K (N1 ++ ((N2 ++ [(54, 0, 0)]) ++ [(74, t, 0)])) (E, S, k, ([], [], 0, false, tg, tk), w) = (E, S ++ [(opX (K t), tk, knw E, toL sN E.1 tg, some tp, ro, ix, some N2, none)], k, rg0, w) := by
  rw [cds_app, cds_pl h hE, cds_app, cds_x h2 hE, cds_one, cd_74]
  unfold cXc
  rcases h with ⟨rfl, rfl, -⟩ | ⟨rfl, rfl, -⟩
  · rw [if_neg (show ¬ false = true by decide), if_neg hK]; rfl
  · rw [if_pos rfl, if_neg hK]; rfl
theorem cds_r74c {tp t : Nat} {N0 N1 N2 N3 : gU} {ix : Option gU} (h : pPl tp N0 ro ix N1) (h2 : sEv false N2) (h3 : sEv false N3) (hE : ¬ E.2.1 = []) (hK : K t = 16) : cds sN K (N1 ++ ((N2 ++ [(54, 0, 0)]) ++ ((N3 ++ [(54, 0, 0)]) ++ [(74, t, 0)]))) (E, S, k, ([], [], 0, false, tg, tk), w) = (E, S ++ [(4, tk, knw E, toL sN E.1 tg, some tp, ro, ix, some N2, some N3)], k, rg0, w) := by
  rw [cds_app, cds_pl h hE, cds_app, cds_x h2 hE, cds_app, cds_x h3 hE, cds_one, cd_74]
  unfold cXc
  rcases h with ⟨rfl, rfl, -⟩ | ⟨rfl, rfl, -⟩
  · rw [if_neg (show ¬ false = true by decide), if_pos hK, hK]; rfl
  · rw [if_pos rfl, if_pos hK, hK]; rfl
theorem cTo_len : (cTo S i n).length = S.length := by
  unfold cTo
  rw [List.length_mapIdx]
theorem cTo_at : (cTo S i n)[j]? = S[j]?.map (fun st => if j = i then stS st n else st) := by
  unfold cTo
  rw [List.getElem?_mapIdx]
end COD
end
section
/-! the fold: threads and claims are only added to; the whole row, chunk by chunk -/
theorem snoc_ind {α : Type} {P : List α → Prop} (h0 : P []) (hs : ∀ l a, P l → P (l ++ [a])) (l : List α) : P l := by
  have h : ∀ r : List α, P r.reverse := by
    intro r
    induction r with
    | nil => exact h0
    | cons a r ih => rw [List.reverse_cons]; exact hs _ _ ih
  have q := h l.reverse
  rw [List.reverse_reverse] at q
  exact q
/-- c's threads and claims behind others -/
def cW2 (b : List (Nat × Nat)) (l : List (Nat × gU)) (c : gCd) : gCd := (c.1, c.2.1, c.2.2.1, c.2.2.2.1, b ++ c.2.2.2.2.1, l ++ c.2.2.2.2.2)
section CWS
variable {sN : Nat → Nat → Bool} {K V : Nat → Int32} {E : gV} {S : List gSt} {k : List Nat} {r : gRg} {b b' : List (Nat × Nat)} {l l' : List (Nat × gU)} {v : Nat × Nat × Nat} {tg : Option Nat} {tk i : Nat} {N L : gU}
theorem cSe_w : cSe sN (cW2 b l (E, S, k, r, b', l')) tg tk N = cW2 b l (cSe sN (E, S, k, r, b', l') tg tk N) := by
  show (match toL sN E.1 tg with | some p => _ | none => _) = cW2 b l (match toL sN E.1 tg with | some p => _ | none => _)
  cases toL sN E.1 tg <;> rfl
theorem cAl_w : cAl sN (cW2 b l (E, S, k, r, b', l')) tg tk i = cW2 b l (cAl sN (E, S, k, r, b', l') tg tk i) := by
  show (match kfi sN E.1 i with | some _ => cSe sN (cW2 b l (E, S, k, r, b', l')) tg tk [(3, i, 0)] | none => _) = cW2 b l (match kfi sN E.1 i with | some _ => cSe sN (E, S, k, r, b', l') tg tk [(3, i, 0)] | none => _)
  cases kfi sN E.1 i with
  | none => rfl
  | some p => exact cSe_w
theorem cXc_w : cXc sN K (cW2 b l (E, S, k, r, b', l')) i = cW2 b l (cXc sN K (E, S, k, r, b', l') i) := by
  unfold cXc
  by_cases c : r.2.2.2.1 = true
  · rw [if_pos (show (cW2 b l (E, S, k, r, b', l')).2.2.2.1.2.2.2.1 = true from c), if_pos (show (E, S, k, r, b', l').2.2.2.1.2.2.2.1 = true from c)]; rfl
  · rw [if_neg (show ¬ (cW2 b l (E, S, k, r, b', l')).2.2.2.1.2.2.2.1 = true from c), if_neg (show ¬ (E, S, k, r, b', l').2.2.2.1.2.2.2.1 = true from c)]; rfl
theorem cCl_w : cCl (cW2 b l (E, S, k, r, b', l')) i = cW2 b l (cCl (E, S, k, r, b', l') i) := by
  unfold cCl
  by_cases c0 : i = 0
  · rw [if_pos c0, if_pos c0]; rfl
  · rw [if_neg c0, if_neg c0]
    by_cases c1 : i = 1
    · rw [if_pos c1, if_pos c1]; rfl
    · rw [if_neg c1, if_neg c1]
      by_cases c2 : i = 2
      · rw [if_pos c2, if_pos c2]; rfl
      · rw [if_neg c2, if_neg c2]
theorem ite_w {p : Prop} [Decidable p] {a a' : gCd} {d d' : gCd} (h1 : p → a = cW2 b l a') (h2 : ¬ p → d = cW2 b l d') : (if p then a else d) = cW2 b l (if p then a' else d') := by
  by_cases c : p
  · rw [if_pos c, if_pos c]; exact h1 c
  · rw [if_neg c, if_neg c]; exact h2 c
theorem cdV_w : cdV sN K (cW2 b l (E, S, k, r, b', l')) v = cW2 b l (cdV sN K (E, S, k, r, b', l') v) := by
  unfold cdV
  refine ite_w (fun _ => rfl) (fun _ => ?_)
  refine ite_w (fun _ => ite_w (fun _ => rfl) (fun _ => rfl)) (fun _ => ?_)
  refine ite_w (fun _ => ite_w (fun _ => ?_) (fun _ => rfl)) (fun _ => ?_)
  · show (E, S, k, ([], r.2), b ++ b', (l ++ l') ++ [(r.2.2.1, r.1)]) = (E, S, k, ([], r.2), b ++ b', l ++ (l' ++ [(r.2.2.1, r.1)]))
    rw [List.append_assoc]
  refine ite_w (fun _ => rfl) (fun _ => ?_)
  refine ite_w (fun _ => cCl_w) (fun _ => ?_)
  refine ite_w (fun _ => rfl) (fun _ => ?_)
  refine ite_w (fun _ => rfl) (fun _ => ?_)
  refine ite_w (fun _ => rfl) (fun _ => ?_)
  refine ite_w (fun _ => cAl_w) (fun _ => ?_)
  refine ite_w (fun _ => cAl_w) (fun _ => ?_)
  refine ite_w (fun _ => cSe_w) (fun _ => ?_)
  refine ite_w (fun _ => rfl) (fun _ => ?_)
  refine ite_w (fun _ => cXc_w) (fun _ => ?_)
  refine ite_w (fun _ => rfl) (fun _ => ?_)
  refine ite_w (fun _ => rfl) (fun _ => ?_)
  refine ite_w (fun _ => rfl) (fun _ => ?_)
  refine ite_w (fun _ => rfl) (fun _ => ?_)
  refine ite_w (fun _ => rfl) (fun _ => ?_)
  refine ite_w (fun _ => rfl) (fun _ => ?_)
  refine ite_w (fun _ => rfl) (fun _ => ?_)
  refine ite_w (fun _ => rfl) (fun _ => ?_)
  refine ite_w (fun _ => rfl) (fun _ => ?_)
  refine ite_w (fun _ => ?_) (fun _ => ?_)
  · show (E0v, S, k, rg0, (b ++ b') ++ [(S.length, v.2.2)], l ++ l') = (E0v, S, k, rg0, b ++ (b' ++ [(S.length, v.2.2)]), l ++ l')
    rw [List.append_assoc]
  refine ite_w (fun _ => rfl) (fun _ => ?_)
  rfl
theorem cds_w : ∀ {L : gU} {c : gCd}, cds sN K L (cW2 b l c) = cW2 b l (cds sN K L c) := by
  intro L
  induction L with
  | nil => intro c; rfl
  | cons v L ih =>
    intro c
    rw [cds_cons, cds_cons]
    have e : cdV sN K (cW2 b l c) v = cW2 b l (cdV sN K c v) := cdV_w (E := c.1) (S := c.2.1) (k := c.2.2.1) (r := c.2.2.2.1) (b' := c.2.2.2.2.1) (l' := c.2.2.2.2.2)
    rw [e]
    exact ih
/-- a thread's steps behind others -/
def stT (sN : Nat → Nat → Bool) (K : Nat → Int32) (S : List gSt) (N : gU) : List gSt := (cds sN K N (E0v, S, [], rg0, [], [])).2.1
def stTs (sN : Nat → Nat → Bool) (K : Nat → Int32) (Ts : List gU) : List gSt := Ts.foldl (stT sN K) []
theorem stTs_up {Ts : List gU} {n : Nat} (h : Ts[n]? = some N) : stTs sN K (Ts.take (n + 1)) = stT sN K (stTs sN K (Ts.take n)) N := by
  unfold stTs
  rw [List.take_succ, h, List.foldl_append]
  rfl
/-- a thread's block, well read -/
def okT (sN : Nat → Nat → Bool) (K : Nat → Int32) (S : List gSt) (N : gU) : Prop := ∃ E', E'.2.1 = [] ∧ cds sN K N (E0v, S, [], rg0, [], []) = (E', stT sN K S N, [], rg0, [], [])
theorem okT_w (h : okT sN K S N) : ∃ E', E'.2.1 = [] ∧ cds sN K N (E0v, S, [], rg0, b, l) = (E', stT sN K S N, [], rg0, b, l) := by
  obtain ⟨E', h1, h2⟩ := h
  refine ⟨E', h1, ?_⟩
  have e : (E0v, S, ([] : List Nat), rg0, b, l) = cW2 b l (E0v, S, [], rg0, [], []) := by
    show _ = (E0v, S, [], rg0, b ++ [], l ++ [])
    rw [List.append_nil, List.append_nil]
  rw [e, cds_w, h2]
  show (E', stT sN K S N, [], rg0, b ++ [], l ++ []) = _
  rw [List.append_nil, List.append_nil]
/-- events of definitions that add no code -/
theorem cdV_no {c : gCd} (h : v.1 = 31 ∨ v.1 = 32 ∨ v.1 = 33 ∨ 80 ≤ v.1) : cdV sN K c v = c := by
  unfold cdV
  iterate 24 rw [if_neg (by omega)]
theorem cds_no {c : gCd} : ∀ {L : gU}, (∀ v ∈ L, v.1 = 31 ∨ v.1 = 32 ∨ v.1 = 33 ∨ 80 ≤ v.1) → cds sN K L c = c := by
  intro L
  induction L with
  | nil => intro _; rfl
  | cons v L ih =>
    intro h
    rw [cds_cons, cdV_no (h v List.mem_cons_self)]
    exact ih (fun w hw => h w (List.mem_cons_of_mem _ hw))
/-- the text's chunks -/
def chk (M : gU) : Prop := ∃ v N, M = v :: N ∧ (((v.1 = 31 ∨ v.1 = 32 ∨ v.1 = 33) ∧ ∀ w ∈ N, 80 ≤ w.1) ∨ v.1 = 34 ∨ ((v.1 = 35 ∨ v.1 = 36) ∧ ∃ N', sEv true N' ∧ N = N' ++ [(54, 0, 0)]))
def bN2 (u : Nat) : gU → Option gU
  | [] => none
  | v :: M => if v.1 = u then some M else none
def clE : gU → Option (Nat × gU)
  | [] => none
  | v :: M => if v.1 = 35 ∨ v.1 = 36 then some (v.1, M.dropLast) else none
theorem cds_flat : ∀ {Ds : List gU}, (∀ M ∈ Ds, chk M) → (∀ i N, (Ds.filterMap (bN2 34))[i]? = some N → okT sN K (stTs sN K ((Ds.filterMap (bN2 34)).take i)) N) → ∃ E r, E.2.1 = [] ∧ r.1 = [] ∧ cds sN K Ds.flatten cd0 = (E, stTs sN K (Ds.filterMap (bN2 34)), [], r, (cds sN K Ds.flatten cd0).2.2.2.2.1, Ds.filterMap clE) ∧ ((cds sN K Ds.flatten cd0).2.2.2.2.1.length = (Ds.filterMap (bN2 34)).length ∧ ∀ (t : Nat) (q : Nat × Nat), (cds sN K Ds.flatten cd0).2.2.2.2.1[t]? = some q → q.1 = (stTs sN K ((Ds.filterMap (bN2 34)).take t)).length ∧ (Ds.filterMap (fun M => M.head?.bind idE))[t]? = some q.2) := by
  intro Ds
  induction Ds using snoc_ind with
  | h0 => intro _ _; exact ⟨E0v, rg0, rfl, rfl, rfl, rfl, fun t q h => absurd h (by simp [cds])⟩
  | hs Ds M ih =>
    intro hM hT
    have hpre : ∀ i N, (Ds.filterMap (bN2 34))[i]? = some N → okT sN K (stTs sN K ((Ds.filterMap (bN2 34)).take i)) N := fun i N h => by
      have hi := List.getElem?_eq_some_iff.mp h
      obtain ⟨hi, -⟩ := hi
      have := hT i N (by rw [List.filterMap_append, List.getElem?_append_left hi]; exact h)
      rw [List.filterMap_append, List.take_append_of_le_length (by omega)] at this
      exact this
    obtain ⟨E, r, hE, hr, e, hl, hq⟩ := ih (fun M' h => hM M' (List.mem_append_left _ h)) hpre
    obtain ⟨v, N, eM, hv⟩ := hM M (List.mem_append_right _ (List.mem_singleton.mpr rfl))
    have ef : (Ds ++ [M]).flatten = Ds.flatten ++ M := by rw [List.flatten_append]; simp
    rw [ef, cds_app, e]
    obtain ⟨bg, ebg⟩ : ∃ bg, bg = (cds sN K Ds.flatten cd0).2.2.2.2.1 := ⟨_, rfl⟩
    rw [← ebg] at hl hq ⊢
    rcases hv with ⟨h1, h2⟩ | h1 | ⟨h1, N', h2, h3⟩
    · have n34 : bN2 34 M = none := by rw [eM]; exact if_neg (by omega)
      have ncl : clE M = none := by rw [eM]; exact if_neg (by omega)
      have nid : M.head?.bind idE = none := by rw [eM]; exact if_neg (by omega)
      have ec : cds sN K M (E, stTs sN K (Ds.filterMap (bN2 34)), [], r, bg, Ds.filterMap clE) = (E, stTs sN K (Ds.filterMap (bN2 34)), [], r, bg, Ds.filterMap clE) := cds_no (fun w hw => by
        rw [eM] at hw
        rcases List.mem_cons.mp hw with hw | hw
        · rw [hw]; omega
        · have := h2 w hw; omega)
      refine ⟨E, r, hE, hr, ?_, ?_⟩
      · rw [ec, List.filterMap_append, List.filterMap_append]
        simp [n34, ncl]
      · rw [ec, List.filterMap_append, List.filterMap_append]
        simp only [List.filterMap_cons, n34, nid, List.filterMap_nil, List.append_nil]
        exact ⟨hl, hq⟩
    · have n34 : bN2 34 M = some N := by rw [eM]; exact if_pos h1
      have ncl : clE M = none := by rw [eM]; exact if_neg (by omega)
      have nid : M.head?.bind idE = some v.2.2 := by rw [eM]; exact if_pos h1
      have hN := hT (Ds.filterMap (bN2 34)).length N (by rw [List.filterMap_append, List.getElem?_append_right (Nat.le_refl _), Nat.sub_self]; simp [n34])
      rw [List.filterMap_append, List.take_left] at hN
      obtain ⟨E', e1, e2⟩ := okT_w (b := bg ++ [((stTs sN K (Ds.filterMap (bN2 34))).length, v.2.2)]) (l := Ds.filterMap clE) hN
      have ec : cds sN K M (E, stTs sN K (Ds.filterMap (bN2 34)), [], r, bg, Ds.filterMap clE) = (E', stT sN K (stTs sN K (Ds.filterMap (bN2 34))) N, [], rg0, bg ++ [((stTs sN K (Ds.filterMap (bN2 34))).length, v.2.2)], Ds.filterMap clE) := by
        rw [eM, cds_cons, ← e2]
        congr 1
        obtain ⟨v1, v2, v3⟩ := v
        have h1 : v1 = 34 := h1
        subst h1
        rfl
      have es : stTs sN K ((Ds ++ [M]).filterMap (bN2 34)) = stT sN K (stTs sN K (Ds.filterMap (bN2 34))) N := by
        rw [List.filterMap_append]
        unfold stTs
        rw [List.foldl_append]
        simp [n34]
      refine ⟨E', rg0, e1, rfl, ?_, ?_⟩
      · rw [ec, es, List.filterMap_append]
        simp [ncl]
      · rw [ec]
        show (bg ++ [((stTs sN K (Ds.filterMap (bN2 34))).length, v.2.2)]).length = _ ∧ ∀ t q, (bg ++ [((stTs sN K (Ds.filterMap (bN2 34))).length, v.2.2)])[t]? = some q → _
        have hidl : (Ds.filterMap (fun M => M.head?.bind idE)).length = bg.length := by
          rw [hl]
          clear hq hl hN ih e hpre hT ec e2 ebg ef es
          induction Ds with
          | nil => rfl
          | cons D Ds ihd =>
            have hD := hM D (List.mem_append_left _ List.mem_cons_self)
            obtain ⟨u, U, eU, _⟩ := hD
            have ihd := ihd (fun M' h' => by
              rcases List.mem_append.mp h' with h' | h'
              · exact hM M' (List.mem_append_left _ (List.mem_cons_of_mem _ h'))
              · exact hM M' (List.mem_append_right _ h'))
            rw [List.filterMap_cons, List.filterMap_cons, eU]
            by_cases c : u.1 = 34
            · rw [show bN2 34 (u :: U) = some U from if_pos c, show (u :: U).head?.bind idE = some u.2.2 from if_pos c]
              show _ + 1 = _ + 1
              rw [ihd]
            · rw [show bN2 34 (u :: U) = none from if_neg c, show (u :: U).head?.bind idE = none from if_neg c]
              exact ihd
        refine ⟨?_, fun t q ht => ?_⟩
        · rw [List.length_append, List.filterMap_append, List.length_append, hl]
          simp [n34]
        · rw [List.filterMap_append, List.filterMap_append]
          by_cases c : t < bg.length
          · rw [List.getElem?_append_left c] at ht
            have a := hq t q ht
            rw [List.take_append_of_le_length (by omega), List.getElem?_append_left (by omega)]
            exact a
          · have hlt := List.getElem?_eq_some_iff.mp ht
            obtain ⟨hlt, -⟩ := hlt
            rw [List.length_append] at hlt
            have hlt : t < bg.length + 1 := hlt
            have et : t = bg.length := by omega
            rw [et, List.getElem?_append_right (Nat.le_refl _), Nat.sub_self] at ht
            have eq : ((stTs sN K (Ds.filterMap (bN2 34))).length, v.2.2) = q := Option.some.inj ht
            rw [← eq, et]
            refine ⟨?_, ?_⟩
            · rw [hl, List.take_left]
            · rw [← hidl, List.getElem?_append_right (Nat.le_refl _), Nat.sub_self]
              simp [nid]
    · have n34 : bN2 34 M = none := by rw [eM]; exact if_neg (by omega)
      have ncl : clE M = some (v.1, N') := by
        rw [eM, h3]
        show (if v.1 = 35 ∨ v.1 = 36 then some (v.1, (N' ++ [(54, 0, 0)]).dropLast) else none) = _
        rw [if_pos h1, List.dropLast_concat]
      have nid : M.head?.bind idE = none := by rw [eM]; exact if_neg (by omega)
      obtain ⟨cu, r2⟩ := r
      have hr : cu = [] := hr
      subst hr
      obtain ⟨su, pl, r3⟩ := r2
      have ec : cds sN K M (E, stTs sN K (Ds.filterMap (bN2 34)), [], ([], su, pl, r3), bg, Ds.filterMap clE) = (E, stTs sN K (Ds.filterMap (bN2 34)), [], ([], su, v.1, r3), bg, Ds.filterMap clE ++ [(v.1, N')]) := by
        have e0 : cdV sN K (E, stTs sN K (Ds.filterMap (bN2 34)), [], ([], su, pl, r3), bg, Ds.filterMap clE) v = (E, stTs sN K (Ds.filterMap (bN2 34)), [], ([], su, v.1, r3), bg, Ds.filterMap clE) := by
          obtain ⟨v1, v2, v3⟩ := v
          rcases h1 with h1 | h1
          · have h1 : v1 = 35 := h1
            subst h1; rfl
          · have h1 : v1 = 36 := h1
            subst h1; rfl
        rw [eM, cds_cons, e0, h3, cds_app, cds_sum (r := ([], su, v.1, r3)) h2 (fun _ => hE), cds_one]
        show cdV sN K (E, _, [], ([] ++ N', su, v.1, r3), bg, _) (54, 0, 0) = _
        rw [List.nil_append]
        unfold cdV
        rw [if_neg (by decide), if_neg (by decide), if_pos rfl, if_pos hE]
      refine ⟨E, ([], su, v.1, r3), hE, rfl, ?_, ?_⟩
      · rw [ec, List.filterMap_append, List.filterMap_append]
        simp [n34, ncl]
      · rw [ec, List.filterMap_append, List.filterMap_append]
        simp only [List.filterMap_cons, n34, nid, List.filterMap_nil, List.append_nil]
        exact ⟨hl, hq⟩
end CWS
end
section
theorem LE_mono {o : Int32} {s s' h : Nat} {x y : gd} (hs : s ≤ s') (q : LE o s h x y) : LE o s' h x y := by
  obtain ⟨q1, q2, q3, k, q4, q5, q6⟩ := q
  exact ⟨q1, q2, q3, k, by omega, q5, q6⟩
theorem WB_lD {x z : gd} {w a : Int32} (l : lD x z w a) (wb : WB x) : WB z := by
  unfold WB
  rw [l.1.1 41 (by decide), l.1.1 42 (by decide)]
  exact wb
theorem lD_low {x z : gd} {w a : Int32} (l : lD x z w a) (h0 : 0 ≤ (x.1 0 49).toInt) : ∀ j : Nat, (j : Int) < (x.1 0 49).toInt → z.1 51 j = x.1 51 j ∧ z.1 52 j = x.1 52 j := by
  intro j hj
  have ne : ¬ j = (x.1 0 49).toNatClampNeg := by rw [t_cl]; omega
  rw [l.2.2.1, l.2.2.2, if_neg ne, if_neg ne]
  exact ⟨rfl, rfl⟩
theorem lD_up {x z : gd} {w a : Int32} (l : lD x z w a) (h0 : 0 ≤ (x.1 0 49).toInt) (hw : (x.1 0 49).toInt ≤ 5999) : (z.1 0 49).toInt = (x.1 0 49).toInt + 1 := by
  have k1 : (1 : Int32).toInt = 1 := rfl
  rw [l.2.1, t_add (by omega) (by omega), k1]
theorem LE_one {o a : Int32} {s h : Nat} {x y z : gd} (q : LE o s h x y) (l : lD y z 5 a) (h0 : 0 ≤ (x.1 0 49).toInt) (hw : (x.1 0 49).toInt + s ≤ 5990) : LE o (s + 1) h x z := by
  obtain ⟨q1, q2, q3, k, q4, q5, q6⟩ := q
  have u := lD_up l (by omega) (by omega)
  have lo := lD_low l (by omega)
  have e : (y.1 0 49).toNatClampNeg = (x.1 0 49).toNatClampNeg + k := by rw [t_cl, t_cl]; omega
  refine ⟨md_tr q1 l.1 rfl rfl, WB_lD l q2, fun j hj => ?_, k + 1, by omega, by omega, fun p hp => ?_⟩
  · have a1 := lo j (by omega)
    have a2 := q3 j hj
    exact ⟨a1.1.trans a2.1, a1.2.trans a2.2⟩
  · refine cS_app k 1 _ _ (p + 1) _ (cS_keep k _ _ _ (fun j _ b => lo j (by rw [t_cl] at b; omega)) (q6 p hp)) ⟨p + 1, Or.inr (Or.inl ⟨?_, by omega, rfl⟩), rfl⟩
    rw [← e, l.2.2.1, if_pos rfl]
theorem LE_two {o a : Int32} {s1 s2 h : Nat} {x y z w : gd} (q : LE o s1 h x y) (r : LE o s2 (h - 1) y z) (l : lD z w 6 a) (h2 : 2 ≤ h) (h0 : 0 ≤ (x.1 0 49).toInt) (hw : (x.1 0 49).toInt + s1 + s2 ≤ 5990) : LE o (s1 + s2 + 1) h x w := by
  obtain ⟨q1, q2, q3, k, q4, q5, q6⟩ := q
  obtain ⟨r1, r2, r3, m, r4, r5, r6⟩ := r
  have u := lD_up l (by omega) (by omega)
  have lo := lD_low l (by omega)
  have e : (y.1 0 49).toNatClampNeg = (x.1 0 49).toNatClampNeg + k := by rw [t_cl, t_cl]; omega
  have e2 : (z.1 0 49).toNatClampNeg = (x.1 0 49).toNatClampNeg + (k + m) := by rw [t_cl, t_cl]; omega
  refine ⟨md_tr (md_tr (L3 := [41, 42, 49]) (A3 := [51, 52]) q1 r1 rfl rfl) l.1 rfl rfl, WB_lD l r2, fun j hj => ?_, k + m + 1, by omega, by omega, fun p hp => ?_⟩
  · have a0 := lo j (by omega)
    have a1 := r3 j (by omega)
    have a2 := q3 j hj
    exact ⟨(a0.1.trans a1.1).trans a2.1, (a0.2.trans a1.2).trans a2.2⟩
  · have c1' := cS_keep (x' := w) k _ _ _ (fun j _ b => by
      rw [t_cl] at b
      have a0 := lo j (by omega)
      have a1 := r3 j (by omega)
      exact ⟨a0.1.trans a1.1, a0.2.trans a1.2⟩) (q6 p hp)
    have c2' := cS_keep (x' := w) m _ _ _ (fun j _ b => lo j (by rw [t_cl] at b; omega)) (r6 (p + 1) (by omega))
    rw [e] at c2'
    refine cS_app (k + m) 1 _ _ (p + 2) _ (cS_app k m _ _ (p + 1) _ c1' c2') ⟨p + 1, Or.inr (Or.inr ⟨?_, by omega, rfl⟩), rfl⟩
    rw [← e2, l.2.2.1, if_pos rfl]
theorem LB_num {x : gd} (lb : LB x) {r : Int32} (h : 0 ≤ r.toInt ∧ r.toInt < (x.1 0 28).toInt) (h0 : x.1 31 r.toNatClampNeg = 0) : 0 ≤ (x.1 32 r.toNatClampNeg).toInt ∧ 1 ≤ (x.1 33 r.toNatClampNeg).toInt ∧ (x.1 32 r.toNatClampNeg).toInt + (x.1 33 r.toNatClampNeg).toInt ≤ 24 := by
  have t := LB_t lb h
  have g := lb.2.1
  rcases t.2.1 with ⟨_, a, b, c⟩ | ⟨e, _⟩ | ⟨e, _⟩
  · have := g.2.1
    exact ⟨a, b, by omega⟩
  · rw [h0] at e; exact absurd e (by decide)
  · rw [h0] at e; exact absurd e (by decide)
/-- the work of an expression stands at w, below l -/
def cW (x : gd) (o : Int32) (w : Nat) (l : Int) : Prop := ∃ k : Nat, cS x o k w 0 1 ∧ x.1 51 (w + k) = 0 ∧ ((w + k : Nat) : Int) < l
def wo (x : gd) (o r : Int32) : Prop := r = -1 ∨ (0 ≤ r.toInt ∧ cW x o r.toNatClampNeg (x.1 0 49).toInt)
theorem cW_keep {x x' : gd} {o : Int32} {w : Nat} {l l' : Int} (hl : l ≤ l') (h : ∀ j : Nat, (j : Int) < l → x'.1 51 j = x.1 51 j ∧ x'.1 52 j = x.1 52 j) (q : cW x o w l) : cW x' o w l' := by
  obtain ⟨k, q1, q2, q3⟩ := q
  exact ⟨k, cS_keep k _ _ _ (fun j _ b => h j (by omega)) q1, by rw [(h _ q3).1]; exact q2, by omega⟩
theorem wo_keep {x x' : gd} {o r : Int32} (hl : (x.1 0 49).toInt ≤ (x'.1 0 49).toInt) (h : ∀ j : Nat, (j : Int) < (x.1 0 49).toInt → x'.1 51 j = x.1 51 j ∧ x'.1 52 j = x.1 52 j) (q : wo x o r) : wo x' o r := q.imp id (fun q => ⟨q.1, cW_keep hl h q.2⟩)
/-- what workOf leaves: r stands for the work of the expression -/
def LW (o : Int32) (s : Nat) (x : gd) (r : Int32) (x' : gd) : Prop := md [41, 42, 49] [51, 52] x x' ∧ WB x' ∧ (∀ j : Nat, (j : Int) < (x.1 0 49).toInt → x'.1 51 j = x.1 51 j ∧ x'.1 52 j = x.1 52 j) ∧ (x.1 0 49).toInt ≤ (x'.1 0 49).toInt ∧ (x'.1 0 49).toInt ≤ (x.1 0 49).toInt + s + 1 ∧ wo x' o r
end
