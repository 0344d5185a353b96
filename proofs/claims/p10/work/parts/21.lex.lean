section SPA
variable {G : mG} {d : Nat} {x : gd} {F : Int32 → gd → Prop} {Fv : gd → Prop}
theorem sp_in (v a b : Int32) (h : F (bi (a ≤ v ∧ v ≤ b)) x) : MT G d z_in 0 [(0, vi v), (1, vi a), (2, vi b)] [] x (ri F) := by
  refine sg_in_0 _ _ _ ⟨fun c => ri_i ?_, fun c => ⟨fun c2 => ri_i ?_, fun c2 => ri_i ?_⟩⟩
  · rwa [bi_f (by rw [t_le, t_le]; rw [t_lt] at c; omega)] at h
  · rwa [bi_f (by rw [t_le, t_le]; rw [t_lt] at c2; omega)] at h
  · rwa [bi_t (by rw [t_le, t_le]; rw [t_lt] at c c2; omega)] at h
abbrev isL (c : Int32) : Prop := (97 ≤ c ∧ c ≤ 122) ∨ (65 ≤ c ∧ c ≤ 90)
abbrev isD (c : Int32) : Prop := 48 ≤ c ∧ c ≤ 57
theorem sp_isLetter (c : Int32) (h : F (bi (isL c)) x) : MT G (d + 1) z_isLetter 0 [(0, vi c)] [] x (ri F) := by
  refine sg_isLetter_0 _ (sp_in _ _ _ ⟨fun c1 => ri_i ?_, fun c1 => sp_in _ _ _ ⟨fun c2 => ri_i ?_, fun c2 => ri_i ?_⟩⟩)
  · rwa [bi_t (Or.inl (bi_ne.mp c1))] at h
  · rwa [bi_f (fun q => q.elim (bi_eq.mp c1) (bi_eq.mp c2))] at h
  · rwa [bi_t (Or.inr (bi_ne.mp c2))] at h
theorem sp_isDigit (c : Int32) (h : F (bi (isD c)) x) : MT G (d + 1) z_isDigit 0 [(0, vi c)] [] x (ri F) :=
  sg_isDigit_0 _ (sp_in _ _ _ ⟨bi_b, ri_i h⟩)
def bAt (x : gd) (p : Int32) : Int32 := if x.1 0 2 ≤ p then -1 else x.1 2 p.toNatClampNeg &&& 255
theorem sp_byteAt (p : Int32) (h0 : 0 ≤ p.toInt) (hs : (x.1 0 2).toInt ≤ 3000) (h : F (bAt x p) x) : MT G d z_byteAt 0 [(0, vr 0), (1, vi p)] [] x (ri F) := by
  refine sg_byteAt_0 _ ⟨fun c => ri_i ?_, fun c => ⟨?_, ri_i ?_⟩⟩
  · rwa [bAt, if_pos c] at h
  · rw [t_le] at c
    rw [vp_in_iff]; omega
  · rwa [bAt, if_neg c] at h
/-- refuses: nothing was thrown before; an answer 0 says that nothing is bad, and nothing has changed -/
theorem sp_refuses (b k : Int32) (ht : x.1 0 0 = 0) (hk : 0 < k.toInt) (h0 : b = 0 → F 0 x) (h1 : ¬ b = 0 → F 1 (si x 0 0 k)) : MT G d z_refuses 0 [(0, vr 0), (1, vi b), (2, vi k)] [] x (ri F) := by
  refine sg_refuses_0 _ _ ⟨fun c => absurd ht c, fun _ => ⟨fun c => sg_refuses_16 ⟨fun _ => ri_i (h0 c), fun c2 => ?_⟩, fun c x3 e3 => sg_refuses_16 ⟨fun c2 => ?_, fun _ => ri_i ?_⟩⟩⟩
  · exfalso; rw [ht] at c2; exact c2 (by decide)
  · exfalso
    rw [e3, si_get, if_pos ⟨rfl, rfl⟩, t_le] at c2
    have : (0 : Int32).toInt = 0 := rfl
    omega
  · rw [e3]; exact h1 c
/-- tokens lie in the text -/
def TK (x : gd) : Prop := ∀ j : Nat, j < 710 → 0 ≤ (x.1 6 j).toInt ∧ 0 ≤ (x.1 8 j).toInt ∧ (x.1 6 j).toInt + (x.1 8 j).toInt ≤ 3000 ∧ 0 ≤ (x.1 7 j).toInt
theorem sp_lineOf (p : Int32) (hp : p.toInt ≤ 3000) (h : ∀ r, F r x) : MT G d z_lineOf 0 [(0, vr 0), (1, vi p)] [] x (ri F) := by
  have loop : ∀ (n : Nat) (a i : Int32), 0 ≤ i.toInt → p.toInt - i.toInt ≤ n → MT G d z_lineOf 4 [(0, vr 0), (1, vi p), (2, vi a), (3, vi i)] [] x (ri F) := by
    intro n
    induction n with
    | zero =>
      intro a i h0 hn
      refine sg_lineOf_4 _ _ _ ⟨fun _ => ri_i (h _), fun c => ?_⟩
      rw [t_le] at c; omega
    | succ n ih =>
      intro a i h0 hn
      refine sg_lineOf_4 _ _ _ ⟨fun _ => ri_i (h _), fun c => ⟨?_, ?_, ?_⟩⟩
      · rw [t_le] at c; rw [vp_in_iff]; omega
      all_goals
        intro _
        rw [t_le] at c
        have e1 : (i + 1).toInt = i.toInt + 1 := t_add (by show _ ≤ _ + (1 : Int); omega) (by show _ + (1 : Int) ≤ _; omega)
        exact ih _ _ (by omega) (by omega)
  exact sg_lineOf_0 _ (loop (p.toInt).toNat _ _ (by decide) (by show p.toInt - 0 ≤ _; omega))
theorem sp_isSameName (a b : Int32) (ha : vp_in a 710) (hb : vp_in b 710) (ht : TK x) (h : ∀ r, gbool r → F r x) : MT G d z_isSameName 0 [(0, vr 0), (1, vi a), (2, vi b)] [] x (ri F) := by
  have pa := ht _ (vp_lt ha)
  have pb := ht _ (vp_lt hb)
  have loop : ∀ (n : Nat) (s i : Int32), gbool s → (¬ s = 0 → x.1 8 a.toNatClampNeg = x.1 8 b.toNatClampNeg) → 0 ≤ i.toInt → (x.1 8 a.toNatClampNeg).toInt - i.toInt ≤ n → MT G d z_isSameName 24 [(0, vr 0), (1, vi a), (2, vi b), (3, vi s), (4, vi i)] [] x (ri F) := by
    intro n
    induction n with
    | zero =>
      intro s i hs hq h0 hn
      refine sg_isSameName_24 _ _ _ _ ⟨ha, fun _ => ⟨hs, ri_i (h _ hs)⟩, fun c => ?_⟩
      rw [t_le] at c; omega
    | succ n ih =>
      intro s i hs hq h0 hn
      refine sg_isSameName_24 _ _ _ _ ⟨ha, fun _ => ⟨hs, ri_i (h _ hs)⟩, fun c => ⟨fun _ => ⟨hs, ri_i (h _ hs)⟩, fun c2 => ?_⟩⟩
      have e2 := hq c2
      have e3 : (x.1 8 b.toNatClampNeg).toInt = (x.1 8 a.toNatClampNeg).toInt := by rw [e2]
      rw [t_le] at c
      have e1 : (i + 1).toInt = i.toInt + 1 := t_add (by show _ ≤ _ + (1 : Int); omega) (by show _ + (1 : Int) ≤ _; omega)
      have e4 := t_add (a := x.1 6 a.toNatClampNeg) (b := i) (by omega) (by omega)
      have e5 := t_add (a := x.1 6 b.toNatClampNeg) (b := i) (by omega) (by omega)
      refine ⟨ha, by rw [vp_in_iff]; omega, hb, by rw [vp_in_iff]; omega, fun _ => ?_, fun _ => ?_⟩
      · exact ih _ _ gbool_0 (fun q => absurd rfl q) (by omega) (by omega)
      · exact ih _ _ gbool_1 (fun _ => e2) (by omega) (by omega)
  refine sg_isSameName_0 _ _ ⟨ha, hb, fun _ => ?_, fun c => ?_⟩
  · exact loop ((x.1 8 a.toNatClampNeg).toInt).toNat _ _ gbool_0 (fun q => absurd rfl q) (by decide) (by show _ - (0 : Int) ≤ _; omega)
  · exact loop ((x.1 8 a.toNatClampNeg).toInt).toNat _ _ gbool_1 (fun _ => c) (by decide) (by show _ - (0 : Int) ≤ _; omega)
/-- put: a token more, which lies in the text -/
theorem sp_put (w p n v : Int32) (ht : TK x) (hi : vp_in (x.1 0 3) 710) (h0 : 0 ≤ p.toInt) (h1 : 0 ≤ n.toInt) (h2 : p.toInt + n.toInt ≤ 3000) (h3 : 0 ≤ v.toInt) (h : ∀ x', TK x' → md [3] [5, 6, 7, 8] x x' → x'.1 0 3 = x.1 0 3 + 1 → Fv x') : MT G d z_put 0 [(0, vr 0), (1, vi w), (2, vi p), (3, vi n), (4, vi v)] [] x (rv Fv) := by
  refine sg_put_0 _ _ _ _ ⟨hi, ?_⟩
  intro x2 e2
  have f2 : x2.1 0 3 = x.1 0 3 := by rw [e2, si_cell (by decide)]
  refine ⟨by rw [f2]; exact hi, ?_⟩
  intro x4 e4
  have f4 : x4.1 0 3 = x.1 0 3 := by rw [e4, si_cell (by decide), f2]
  refine ⟨by rw [f4]; exact hi, ?_⟩
  intro x6 e6
  have f6 : x6.1 0 3 = x.1 0 3 := by rw [e6, si_cell (by decide), f4]
  refine ⟨by rw [f6]; exact hi, ?_⟩
  intro x8 e8
  have f8 : x8.1 0 3 = x.1 0 3 := by rw [e8, si_cell (by decide), f6]
  intro x9 e9
  have m2 := md_a x 5 (x.1 0 3).toNatClampNeg w (by decide)
  rw [← e2] at m2
  have m4 := md_a x2 6 (x2.1 0 3).toNatClampNeg p (by decide)
  rw [← e4] at m4
  have m6 := md_a x4 8 (x4.1 0 3).toNatClampNeg n (by decide)
  rw [← e6] at m6
  have m8 := md_a x6 7 (x6.1 0 3).toNatClampNeg v (by decide)
  rw [← e8] at m8
  have m9 := md_f x8 3 (x8.1 0 3 + 1)
  rw [← e9] at m9
  have mm : md [3] [5, 6, 7, 8] x x9 := md_tr (md_tr (md_tr (md_tr m2 m4 (L3 := []) (A3 := [5, 6]) rfl rfl) m6 (L3 := []) (A3 := [5, 6, 8]) rfl rfl) m8 (L3 := []) (A3 := [5, 6, 8, 7]) rfl rfl) m9 rfl rfl
  refine rv_i (h x9 ?_ mm ?_)
  · intro j hj
    have g6 : x9.1 6 j = if j = (x.1 0 3).toNatClampNeg then p else x.1 6 j := by
      rw [e9, si_cell (by decide), e8, si_cell (by decide), e6, si_cell (by decide), e4, si_get, f2]
      by_cases q : j = (x.1 0 3).toNatClampNeg
      · rw [if_pos ⟨rfl, q⟩, if_pos q]
      · rw [if_neg (fun z => q z.2), if_neg q, e2, si_cell (by decide)]
    have g8 : x9.1 8 j = if j = (x.1 0 3).toNatClampNeg then n else x.1 8 j := by
      rw [e9, si_cell (by decide), e8, si_cell (by decide), e6, si_get, f4]
      by_cases q : j = (x.1 0 3).toNatClampNeg
      · rw [if_pos ⟨rfl, q⟩, if_pos q]
      · rw [if_neg (fun z => q z.2), if_neg q, e4, si_cell (by decide), e2, si_cell (by decide)]
    have g7 : x9.1 7 j = if j = (x.1 0 3).toNatClampNeg then v else x.1 7 j := by
      rw [e9, si_cell (by decide), e8, si_get, f6]
      by_cases q : j = (x.1 0 3).toNatClampNeg
      · rw [if_pos ⟨rfl, q⟩, if_pos q]
      · rw [if_neg (fun z => q z.2), if_neg q, e6, si_cell (by decide), e4, si_cell (by decide), e2, si_cell (by decide)]
    rw [g6, g7, g8]
    by_cases q : j = (x.1 0 3).toNatClampNeg
    · rw [if_pos q, if_pos q, if_pos q]; exact ⟨h0, h1, h2, h3⟩
    · rw [if_neg q, if_neg q, if_neg q]; exact ht j hj
  · rw [e9, si_get, if_pos ⟨rfl, rfl⟩, f8]
end SPA
