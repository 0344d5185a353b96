/-! the model's tokens are those of the text -/
def tby (x : gd) (p : Nat) : Int32 := x.1 2 p &&& 255
def tln (x : gd) : Nat := (x.1 0 2).toNatClampNeg
theorem bAt_is {x : gd} {p : Int32} (h : 0 ≤ p.toInt) (hs : 0 ≤ (x.1 0 2).toInt) : bAt x p = cby1 (tby x) (tln x) p.toNatClampNeg := by
  unfold bAt cby1 tln tby
  have u1 := t_cl p
  have u2 := t_cl (x.1 0 2)
  by_cases c : x.1 0 2 ≤ p
  · rw [if_pos c, if_neg (by rw [t_le] at c; omega)]
  · rw [if_neg c, if_pos (by rw [t_le] at c; omega)]
theorem by_nn (v : Int32) : 0 ≤ (v &&& 255).toInt ∧ (v &&& 255).toInt < 256 := by
  have e : (v &&& 255).toBitVec = v.toBitVec &&& 255#32 := rfl
  have h : (v &&& 255).toBitVec.toNat < 256 := by
    rw [e, BitVec.toNat_and]
    exact Nat.lt_of_le_of_lt Nat.and_le_right (by decide)
  have e2 : (v &&& 255).toInt = ((v &&& 255).toBitVec.toNat : Int) := by
    show (v &&& 255).toBitVec.toInt = _
    rw [BitVec.toInt_eq_toNat_of_lt (by omega)]
  omega
theorem tby_ne {x : gd} {p : Nat} : ¬ tby x p = -1 := fun e => by
  have := (by_nn (x.1 2 p)).1
  unfold tby at e
  rw [e] at this
  exact absurd this (by decide)
theorem cby1_lt {b : Nat → Int32} {n p : Nat} (h : p < n) : cby1 b n p = b p := if_pos h
theorem cby1_no {b : Nat → Int32} {n p : Nat} (h : ¬ p < n) : cby1 b n p = -1 := if_neg h
theorem RUNq_ex {q : Int32 → Prop} {b : Nat → Int32} {n : Nat} : ∀ (k p : Nat), n - p ≤ k → p ≤ n → ∃ m, RUNq q b n p m := by
  intro k
  induction k with
  | zero => intro p h1 h2; exact ⟨0, by omega, fun i hi => absurd hi (Nat.not_lt_zero _), fun z => by omega⟩
  | succ k ih =>
    intro p h1 h2
    by_cases c : p < n ∧ q (b p)
    · obtain ⟨m, g1, g2, g3⟩ := ih (p + 1) (by omega) (by omega)
      refine ⟨m + 1, by omega, fun i hi => ?_, fun z => g3 ?_⟩
      · cases i with
        | zero => exact c.2
        | succ i => have := g2 i (by omega); rw [show p + (i + 1) = p + 1 + i by omega]; exact this
      · rw [show p + 1 + m = p + (m + 1) by omega]; exact z
    · exact ⟨0, by omega, fun i hi => absurd hi (Nat.not_lt_zero _), c⟩
theorem RUNq_ge {q : Int32 → Prop} {b : Nat → Int32} {n p m k : Nat} (h : RUNq q b n p m) (hk : p + k ≤ n) (g : ∀ i, i < k → q (b (p + i))) : k ≤ m := by
  by_cases c : m < k
  · exact absurd ⟨by omega, g m c⟩ h.2.2
  · omega
section SFB
variable {G : mG} {d : Nat} {x : gd} {F : Int32 → gd → Prop} {Fv : gd → Prop}
theorem sf_signOf (c e : Int32) (h : F (sgk c e) x) : MT G d z_signOf 0 [(0, vr 0), (1, vi c), (2, vi e)] [] x (ri F) := by
  have key : ∀ v : Int32, sgk c e = v → F v x := fun v q => by rw [← q]; exact h
  have a66 : ¬ (e = 61 ∧ (c = 61 ∨ c = 33 ∨ c = 60 ∨ c = 62)) → MT G d z_signOf 66 [(0, vr 0), (1, vi c)] [] x (ri F) := by
    intro no
    refine sg_signOf_66 _ ⟨fun q => ?_, fun q => ?_, fun q => ?_, fun q => ?_, fun q => ?_, fun q => ?_, fun q => ?_, fun q => ?_, fun q => ?_, fun q => ?_, fun q => ?_, fun q => ?_, fun q => ?_, fun q => ?_, fun q => ?_, fun q => ?_⟩
    case' refine_16 =>
      refine ri_i (key _ ?_)
      unfold sgk
      rw [if_neg no, if_neg (q 61 (by decide)), if_neg (q 60 (by decide)), if_neg (q 62 (by decide)), if_neg (q 43 (by decide)), if_neg (q 45 (by decide)), if_neg (q 42 (by decide)), if_neg (q 47 (by decide)), if_neg (q 40 (by decide)), if_neg (q 41 (by decide)), if_neg (q 123 (by decide)), if_neg (q 125 (by decide)), if_neg (q 91 (by decide)), if_neg (q 93 (by decide)), if_neg (q 59 (by decide)), if_neg (q 44 (by decide))]
    all_goals
      refine ri_i (key _ ?_)
      unfold sgk
      rw [if_neg no, q]
      rfl
  have a30 : e = 61 → (c = 61 ∨ c = 33 ∨ c = 60 ∨ c = 62) → MT G d z_signOf 30 [(0, vr 0), (1, vi c)] [] x (ri F) := by
    intro he hc
    have yes : e = 61 ∧ (c = 61 ∨ c = 33 ∨ c = 60 ∨ c = 62) := ⟨he, hc⟩
    refine sg_signOf_30 _ ⟨fun c1 => ⟨fun c2 => ⟨fun c3 => ri_i (key _ ?_), fun c3 => ri_i (key _ ?_)⟩, fun c2 => ri_i (key _ ?_)⟩, fun c1 => ri_i (key _ ?_)⟩
    · unfold sgk; rw [if_pos yes, if_neg c1, if_neg c2, if_neg c3]
    · unfold sgk; rw [if_pos yes, if_neg c1, if_neg c2, if_pos c3]
    · unfold sgk; rw [if_pos yes, if_neg c1, if_pos c2]
    · unfold sgk; rw [if_pos yes, if_pos c1]
  exact sg_signOf_0 _ _ ⟨fun c0 => a66 (fun z => c0 z.1), fun c0 => ⟨fun c1 => a30 c0 (Or.inl c1), fun c1 => ⟨fun c2 => a30 c0 (Or.inr (Or.inl c2)), fun c2 => ⟨fun c3 => a30 c0 (Or.inr (Or.inr (Or.inl c3))), fun c3 => ⟨fun c4 => a66 (fun z => z.2.elim c1 (fun z => z.elim c2 (fun z => z.elim c3 c4))), fun c4 => a30 c0 (Or.inr (Or.inr (Or.inr c4)))⟩⟩⟩⟩⟩
/-- the words in the model's list: where they begin -/
def wst (w : Nat) : Nat := ((wtab.take w).map (fun l => l.length + 1)).sum
theorem wst_up : ∀ w, w < 32 → wst (w + 1) = wst w + wln w + 1 := by decide +kernel
theorem wst_32 : wst 32 = 165 := by decide +kernel
theorem wst_le : ∀ w, w < 33 → wst w ≤ 165 := by decide +kernel
theorem wst_ch : ∀ w, w < 32 → ∀ i, i < wln w → cch 1 (wst w + i) = wch w i ∧ ¬ cch 1 (wst w + i) = 32 := by decide +kernel
theorem wst_sp : ∀ w, w < 32 → cch 1 (wst w + wln w) = 32 := by decide +kernel
theorem sf_wordOf (p n : Int32) (h0 : 0 ≤ p.toInt) (h1 : 0 ≤ n.toInt) (hs0 : 0 ≤ (x.1 0 2).toInt) (hs : (x.1 0 2).toInt ≤ 3000) (h2 : p.toInt + n.toInt ≤ (x.1 0 2).toInt) (h : ∀ r, (∃ w, w < 32 ∧ WD (tby x) p.toNatClampNeg n.toNatClampNeg w ∧ r = Int32.ofNat (10 + w)) ∨ (r = 1 ∧ ∀ w, w < 32 → ¬ WD (tby x) p.toNatClampNeg n.toNatClampNeg w) → F r x) : MT G (d + 7) z_wordOf 0 [(0, vr 0), (1, vi p), (2, vi n)] [] x (ri F) := by
  have k0 : (0 : Int32).toInt = 0 := rfl
  have k1 : (1 : Int32).toInt = 1 := rfl
  have k165 : (165 : Int32).toInt = 165 := rfl
  have up := t_cl p
  have un := t_cl n
  have ul : tln x = (x.1 0 2).toInt.toNat := rfl
  have p11 : ∀ (m w : Nat) (k i : Int32), w + m = 32 → k = Int32.ofNat (10 + w) → i.toInt = wst w → (∀ v, v < w → ¬ WD (tby x) p.toNatClampNeg n.toNatClampNeg v) → MT G (d + 7) z_wordOf 11 [(0, vr 0), (1, vi p), (2, vi n), (3, vr 901), (4, vi k), (5, vi i)] [] x (ri F) := by
    intro m
    induction m with
    | zero =>
      intro w k i hw ek hi no
      have hw : w = 32 := hw
      subst hw
      rw [wst_32] at hi
      exact sg_wordOf_11 _ _ _ _ ⟨fun _ => ri_i (h _ (Or.inr ⟨rfl, no⟩)), fun c => absurd (t_le.mpr (by rw [k165]; omega)) c⟩
    | succ m ih =>
      intro w k i hw ek hi no
      have w32 : w < 32 := by omega
      have wu := wst_up w w32
      have wl := wst_le (w + 1) (by omega)
      refine sg_wordOf_11 _ _ _ _ ⟨fun c => ?_, fun c => ?_⟩
      · rw [t_le, k165] at c; omega
      have p24 : ∀ (m2 : Nat) (j : Int32), wst w ≤ j.toInt → j.toInt + m2 = wst w + wln w → MT G (d + 7) z_wordOf 24 [(0, vr 0), (1, vi p), (2, vi n), (3, vr 901), (4, vi k), (5, vi i), (6, vi j)] [] x (ri F) := by
        intro m2
        induction m2 with
        | zero =>
          intro j j0 j1
          have j1 : j.toInt = wst w + wln w := by omega
          have cj : j.toNatClampNeg = wst w + wln w := by rw [t_cl]; omega
          have jj : (j + 1).toInt = j.toInt + 1 := by rw [t_add (by omega) (by omega), k1]
          have ji : (j - i).toInt = wln w := by rw [t_sub (by omega) (by omega)]; omega
          have ek1 : k + 1 = Int32.ofNat (10 + (w + 1)) := by
            rw [ek, t_eq]
            have e1 : (Int32.ofNat (10 + w)).toInt = ((10 + w : Nat) : Int) := Int32.toInt_ofNat_of_lt (by omega)
            have e2 : (Int32.ofNat (10 + (w + 1))).toInt = ((10 + (w + 1) : Nat) : Int) := Int32.toInt_ofNat_of_lt (by omega)
            rw [t_add (by omega) (by omega), e1, e2, k1]
            omega
          have p104 : ∀ s : Int32, (¬ s = 0 → WD (tby x) p.toNatClampNeg n.toNatClampNeg w) → (s = 0 → ¬ WD (tby x) p.toNatClampNeg n.toNatClampNeg w) → MT G (d + 7) z_wordOf 104 [(0, vr 0), (1, vi p), (2, vi n), (3, vr 901), (4, vi k), (6, vi j), (7, vi s)] [] x (ri F) := fun s s1 s0 => sg_wordOf_104 _ _ _ _ _ ⟨fun c => ih (w + 1) (k + 1) (j + 1) (by omega) ek1 (by omega) (fun v hv => by
            by_cases cv : v = w
            · rw [cv]; exact s0 c
            · exact no v (by omega)), fun c => ri_i (h _ (Or.inl ⟨w, w32, s1 c, ek⟩))⟩
          have p60 : ∀ (m3 : Nat) (s q : Int32), 0 ≤ q.toInt → q.toInt ≤ n.toInt → n.toInt - q.toInt ≤ m3 → (¬ s = 0 ↔ wln w = n.toNatClampNeg ∧ ∀ t, t < q.toNatClampNeg → tby x (p.toNatClampNeg + t) = wch w t) → MT G (d + 7) z_wordOf 60 [(0, vr 0), (1, vi p), (2, vi n), (3, vr 901), (4, vi k), (5, vi i), (6, vi j), (7, vi s), (8, vi q)] [] x (ri F) := by
            have stop : ∀ (s q : Int32), q.toInt ≤ n.toInt → (n.toInt ≤ q.toInt ∨ s = 0) → (¬ s = 0 ↔ wln w = n.toNatClampNeg ∧ ∀ t, t < q.toNatClampNeg → tby x (p.toNatClampNeg + t) = wch w t) → MT G (d + 7) z_wordOf 104 [(0, vr 0), (1, vi p), (2, vi n), (3, vr 901), (4, vi k), (6, vi j), (7, vi s)] [] x (ri F) := by
              intro s q q1 hq hs'
              have uq := t_cl q
              refine p104 s (fun c => ?_) (fun c z => ?_)
              · have a := hs'.mp c
                have b := hq.resolve_right c
                exact ⟨a.1, fun t ht => a.2 t (by omega)⟩
              · exact hs'.mpr ⟨z.1, fun t ht => z.2 t (by omega)⟩ c
            intro m3
            induction m3 with
            | zero =>
              intro s q q0 q1 hm3 hs'
              exact sg_wordOf_60 _ _ _ _ _ _ _ ⟨fun c => stop s q q1 (Or.inl (t_le.mp c)) hs', fun c => absurd (t_le.mpr (by omega)) c⟩
            | succ m3 ih3 =>
              intro s q q0 q1 hm3 hs'
              refine sg_wordOf_60 _ _ _ _ _ _ _ ⟨fun c => stop s q q1 (Or.inl (t_le.mp c)) hs', fun c2 => ⟨fun c => stop s q q1 (Or.inr c) hs', fun ns => ?_⟩⟩
              rw [t_le] at c2
              have e := (hs'.mp ns).1
              have uq := t_cl q
              have qq : (q + 1).toInt = q.toInt + 1 := by rw [t_add (by omega) (by omega), k1]
              have qq2 : (q + 1).toNatClampNeg = q.toNatClampNeg + 1 := by rw [t_cl]; omega
              have pq : (p + q).toInt = p.toInt + q.toInt := t_add (by omega) (by omega)
              have pq2 : (p + q).toNatClampNeg = p.toNatClampNeg + q.toNatClampNeg := by rw [t_cl]; omega
              have iq : (i + q).toInt = i.toInt + q.toInt := t_add (by omega) (by omega)
              have iq2 : (i + q).toNatClampNeg = wst w + q.toNatClampNeg := by rw [t_cl]; omega
              have ch := (wst_ch w w32 q.toNatClampNeg (by omega)).1
              refine sp_byteAt _ (by omega) hs ?_
              rw [bAt_is (by omega) hs0, pq2, cby1_lt (by omega), iq2, ch]
              refine ⟨by rw [vp_in_iff]; omega, fun c3 => ih3 0 (q + 1) (by omega) (by omega) (by omega) ⟨fun z => absurd rfl z, fun z => ?_⟩, fun c3 => ih3 1 (q + 1) (by omega) (by omega) (by omega) ⟨fun _ => ⟨e, fun t ht => ?_⟩, fun _ => by decide⟩⟩
              · exact absurd (z.2 q.toNatClampNeg (by omega)) c3
              · by_cases ct : t = q.toNatClampNeg
                · rw [ct]; exact c3
                · exact (hs'.mp ns).2 t (by omega)
          refine sg_wordOf_24 _ _ _ _ _ ⟨by rw [vp_in_iff]; omega, fun _ => ⟨fun c3 => p60 n.toInt.toNat 0 0 (by decide) (by rw [k0]; omega) (by rw [k0]; omega) ⟨fun z => absurd rfl z, fun z => ?_⟩, fun c3 => p60 n.toInt.toNat 1 0 (by decide) (by rw [k0]; omega) (by rw [k0]; omega) ⟨fun _ => ⟨?_, fun t ht => ?_⟩, fun _ => by decide⟩⟩, fun z => absurd ?_ z⟩
          · exact absurd (t_eq.mpr (by omega)) c3
          · have e9 := t_eq.mp c3
            omega
          · have : (0 : Int32).toNatClampNeg = 0 := rfl
            omega
          · rw [cj]; exact wst_sp w w32
        | succ m2 ih2 =>
          intro j j0 j1
          have cj : j.toNatClampNeg = wst w + (j.toNatClampNeg - wst w) := by rw [t_cl]; omega
          have uj := t_cl j
          have nc := (wst_ch w w32 (j.toNatClampNeg - wst w) (by omega)).2
          rw [← cj] at nc
          have jj : (j + 1).toInt = j.toInt + 1 := by rw [t_add (by omega) (by omega), k1]
          exact sg_wordOf_24 _ _ _ _ _ ⟨by rw [vp_in_iff]; omega, fun z => absurd z nc, fun _ => ih2 (j + 1) (by omega) (by omega)⟩
      exact p24 (wln w) i (by omega) (by omega)
  exact sg_wordOf_0 _ _ (p11 32 0 10 0 rfl rfl rfl (fun v hv => absurd hv (Nat.not_lt_zero _)))
/-- one token more -/
theorem sf_put (w p n v : Int32) (ht : TK x) (hi : vp_in (x.1 0 3) 710) (h0 : 0 ≤ p.toInt) (h1 : 0 ≤ n.toInt) (h2 : p.toInt + n.toInt ≤ 3000) (h3 : 0 ≤ v.toInt) (h : ∀ x', TK x' → md [3] [5, 6, 7, 8] x x' → x'.1 0 3 = x.1 0 3 + 1 → (∀ j, x'.1 5 j = if j = (x.1 0 3).toNatClampNeg then w else x.1 5 j) → (∀ j, x'.1 6 j = if j = (x.1 0 3).toNatClampNeg then p else x.1 6 j) → (∀ j, x'.1 8 j = if j = (x.1 0 3).toNatClampNeg then n else x.1 8 j) → (∀ j, x'.1 7 j = if j = (x.1 0 3).toNatClampNeg then v else x.1 7 j) → Fv x') : MT G d z_put 0 [(0, vr 0), (1, vi w), (2, vi p), (3, vi n), (4, vi v)] [] x (rv Fv) := by
  refine sg_put_0 _ _ _ _ ⟨hi, ?_⟩
  intro x2 e2
  have f2 : x2.1 0 3 = x.1 0 3 := by rw [e2, si_cell (by decide)]
  refine ⟨by rw [f2]; exact hi, ?_⟩
  intro x4 e4
  have f4 : x4.1 0 3 = x.1 0 3 := by rw [e4, si_cell (by decide), f2]
  refine ⟨by rw [f4]; exact hi, ?_⟩
  intro x6 e6
  have f6 : x6.1 0 3 = x.1 0 3 := by rw [e6, si_cell (by decide), f4]
  refine ⟨by rw [f6]; exact hi, ?_⟩
  intro x8 e8
  have f8 : x8.1 0 3 = x.1 0 3 := by rw [e8, si_cell (by decide), f6]
  intro x9 e9
  have m2 := md_a x 5 (x.1 0 3).toNatClampNeg w (by decide)
  rw [← e2] at m2
  have m4 := md_a x2 6 (x2.1 0 3).toNatClampNeg p (by decide)
  rw [← e4] at m4
  have m6 := md_a x4 8 (x4.1 0 3).toNatClampNeg n (by decide)
  rw [← e6] at m6
  have m8 := md_a x6 7 (x6.1 0 3).toNatClampNeg v (by decide)
  rw [← e8] at m8
  have m9 := md_f x8 3 (x8.1 0 3 + 1)
  rw [← e9] at m9
  have mm : md [3] [5, 6, 7, 8] x x9 := md_tr (md_tr (md_tr (md_tr m2 m4 (L3 := []) (A3 := [5, 6]) rfl rfl) m6 (L3 := []) (A3 := [5, 6, 8]) rfl rfl) m8 (L3 := []) (A3 := [5, 6, 8, 7]) rfl rfl) m9 rfl rfl
  have g5 : ∀ j, x9.1 5 j = if j = (x.1 0 3).toNatClampNeg then w else x.1 5 j := fun j => by
    rw [e9, si_cell (by decide), e8, si_cell (by decide), e6, si_cell (by decide), e4, si_cell (by decide), e2, si_get]
    by_cases q : j = (x.1 0 3).toNatClampNeg
    · rw [if_pos ⟨rfl, q⟩, if_pos q]
    · rw [if_neg (fun z => q z.2), if_neg q]
  have g6 : ∀ j, x9.1 6 j = if j = (x.1 0 3).toNatClampNeg then p else x.1 6 j := fun j => by
    rw [e9, si_cell (by decide), e8, si_cell (by decide), e6, si_cell (by decide), e4, si_get, f2]
    by_cases q : j = (x.1 0 3).toNatClampNeg
    · rw [if_pos ⟨rfl, q⟩, if_pos q]
    · rw [if_neg (fun z => q z.2), if_neg q, e2, si_cell (by decide)]
  have g8 : ∀ j, x9.1 8 j = if j = (x.1 0 3).toNatClampNeg then n else x.1 8 j := fun j => by
    rw [e9, si_cell (by decide), e8, si_cell (by decide), e6, si_get, f4]
    by_cases q : j = (x.1 0 3).toNatClampNeg
    · rw [if_pos ⟨rfl, q⟩, if_pos q]
    · rw [if_neg (fun z => q z.2), if_neg q, e4, si_cell (by decide), e2, si_cell (by decide)]
  have g7 : ∀ j, x9.1 7 j = if j = (x.1 0 3).toNatClampNeg then v else x.1 7 j := fun j => by
    rw [e9, si_cell (by decide), e8, si_get, f6]
    by_cases q : j = (x.1 0 3).toNatClampNeg
    · rw [if_pos ⟨rfl, q⟩, if_pos q]
    · rw [if_neg (fun z => q z.2), if_neg q, e6, si_cell (by decide), e4, si_cell (by decide), e2, si_cell (by decide)]
  refine rv_i (h x9 ?_ mm ?_ g5 g6 g8 g7)
  · intro j hj
    rw [g6, g7, g8]
    by_cases q : j = (x.1 0 3).toNatClampNeg
    · rw [if_pos q, if_pos q, if_pos q]; exact ⟨h0, h1, h2, h3⟩
    · rw [if_neg q, if_neg q, if_neg q]; exact ht j hj
  · rw [e9, si_get, if_pos ⟨rfl, rfl⟩, f8]
end SFB
/-- the tokens read so far: c of them, all good; the next one from p on -/
def TC (b : Nat → Int32) (n c p : Nat) (K : Nat → Int32) (P Z : Nat → Nat) (V : Nat → Int32) : Prop := (c = 0 → p = 0) ∧ (0 < c → P 0 = lx b n 0 ∧ p = P (c - 1) + Z (c - 1)) ∧ (∀ j, j + 1 < c → P (j + 1) = lx b n (P j + Z j)) ∧ ∀ j, j < c → TOK b n (P j) (K j) (Z j) (V j) ∧ ¬ K j = 0 ∧ ¬ K j = 3
abbrev tP (x : gd) : Nat → Nat := fun j => (x.1 6 j).toNatClampNeg
abbrev tZ (x : gd) : Nat → Nat := fun j => (x.1 8 j).toNatClampNeg
theorem TC_up {b : Nat → Int32} {n c p q m : Nat} {k v : Int32} {K K' V V' : Nat → Int32} {P P' Z Z' : Nat → Nat} (h : TC b n c p K P Z V) (hK : ∀ j, K' j = if j = c then k else K j) (hP : ∀ j, P' j = if j = c then q else P j) (hZ : ∀ j, Z' j = if j = c then m else Z j) (hV : ∀ j, V' j = if j = c then v else V j) (hq : q = lx b n p) (ht : TOK b n q k m v) : (∀ j, j < c → TOK b n (P' j) (K' j) (Z' j) (V' j) ∧ ¬ K' j = 0 ∧ ¬ K' j = 3) ∧ P' 0 = lx b n 0 ∧ (∀ j, j < c → P' (j + 1) = lx b n (P' j + Z' j)) ∧ TOK b n (P' c) (K' c) (Z' c) (V' c) ∧ P' c = q ∧ Z' c = m ∧ K' c = k := by
  obtain ⟨h1, h2, h3, h4⟩ := h
  have lo : ∀ j, j < c → P' j = P j ∧ K' j = K j ∧ Z' j = Z j ∧ V' j = V j := fun j hj => by
    have ne : ¬ j = c := by omega
    rw [hK, hP, hZ, hV, if_neg ne, if_neg ne, if_neg ne, if_neg ne]
    exact ⟨rfl, rfl, rfl, rfl⟩
  have eP : P' c = q := by rw [hP, if_pos rfl]
  refine ⟨fun j hj => ?_, ?_, fun j hj => ?_, ?_, eP, by rw [hZ, if_pos rfl], by rw [hK, if_pos rfl]⟩
  · obtain ⟨a1, a2, a3, a4⟩ := lo j hj
    rw [a1, a2, a3, a4]
    exact h4 j hj
  · by_cases c0 : c = 0
    · rw [c0] at eP
      rw [eP, hq, h1 c0]
    · rw [(lo 0 (by omega)).1]
      exact (h2 (by omega)).1
  · obtain ⟨a1, a2, a3, a4⟩ := lo j hj
    by_cases cj : j + 1 = c
    · rw [cj, eP, hq, (h2 (by omega)).2, a1, a3, show c - 1 = j by omega]
    · rw [(lo (j + 1) (by omega)).1, a1, a3]
      exact h3 j (by omega)
  · rw [hP, hK, hZ, hV, if_pos rfl, if_pos rfl, if_pos rfl, if_pos rfl]
    exact ht
