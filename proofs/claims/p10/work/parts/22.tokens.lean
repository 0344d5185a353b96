section SPB
variable {G : mG} {d : Nat} {x : gd} {F : Int32 → gd → Prop} {Fv : gd → Prop}
theorem bAt_lt {x : gd} {p : Int32} (h : ¬ bAt x p = -1) : p.toInt < (x.1 0 2).toInt := by
  by_cases c : x.1 0 2 ≤ p
  · exact absurd (by rw [bAt, if_pos c]) h
  · rw [t_le] at c; omega
theorem isL_ne {c : Int32} (h : isL c) : ¬ c = -1 := by
  intro e
  rw [e] at h
  exact absurd h (by decide)
theorem isD_ne {c : Int32} (h : isD c) : ¬ c = -1 := by
  intro e
  rw [e] at h
  exact absurd h (by decide)
/-- what a whole of n digits stays below -/
def g10 : Nat → Int
  | 0 => 1
  | n + 1 => 10 * g10 n
theorem g10_le : ∀ n : Nat, n < 9 → g10 n ≤ 100000000 := by decide
/-- a whole read so far: n digits, at most nine of them counted -/
def vW (n v : Int32) : Prop := 0 ≤ v.toInt ∧ (n.toInt < 9 → v.toInt < g10 n.toInt.toNat)
theorem vW_0 : vW 0 0 := ⟨by decide, fun _ => by decide⟩
theorem vW_keep {n v : Int32} (h0 : 0 ≤ n.toInt) (h9 : (9 : Int32) ≤ n) (e : (n + 1).toInt = n.toInt + 1) (h : vW n v) : vW (n + 1) v := by
  have k9 : (9 : Int32).toInt = 9 := rfl
  rw [t_le, k9] at h9
  exact ⟨h.1, fun q => by omega⟩
theorem vW_up {n v b : Int32} (h0 : 0 ≤ n.toInt) (h9 : ¬ (9 : Int32) ≤ n) (e : (n + 1).toInt = n.toInt + 1) (hb : isD b) (h : vW n v) : vW (n + 1) (10 * v + b - 48) := by
  have k9 : (9 : Int32).toInt = 9 := rfl
  have k10 : (10 : Int32).toInt = 10 := rfl
  have k48 : (48 : Int32).toInt = 48 := rfl
  have k57 : (57 : Int32).toInt = 57 := rfl
  rw [t_le, k9] at h9
  obtain ⟨b1, b2⟩ := hb
  rw [t_le] at b1 b2
  rw [k48] at b1
  rw [k57] at b2
  obtain ⟨v0, v1⟩ := h
  have v2 := v1 (by omega)
  have g := g10_le n.toInt.toNat (by omega)
  have e1 : (10 * v).toInt = 10 * v.toInt := by rw [t_mul (by rw [k10]; omega) (by rw [k10]; omega), k10]
  have e2 : (10 * v + b).toInt = 10 * v.toInt + b.toInt := by rw [t_add (by rw [e1]; omega) (by rw [e1]; omega), e1]
  have e3 : (10 * v + b - 48).toInt = 10 * v.toInt + b.toInt - 48 := by rw [t_sub (by rw [e2, k48]; omega) (by rw [e2, k48]; omega), e2, k48]
  have e4 : (n + 1).toInt.toNat = n.toInt.toNat + 1 := by omega
  refine ⟨by omega, fun _ => ?_⟩
  rw [e4, e3]
  show _ < 10 * g10 n.toInt.toNat
  omega
theorem sp_signOf (c e : Int32) (h : ∀ r : Int32, ((r = 51 ∨ r = 52 ∨ r = 54 ∨ r = 56) → e = 61) → F r x) : MT G d z_signOf 0 [(0, vr 0), (1, vi c), (2, vi e)] [] x (ri F) := by
  have a66 : MT G d z_signOf 66 [(0, vr 0), (1, vi c)] [] x (ri F) := by
    refine sg_signOf_66 _ ?_
    (repeat' (first | apply And.intro | with_reducible intro _))
    all_goals exact ri_i (h _ (fun q => absurd q (by decide)))
  have a30 : e = 61 → MT G d z_signOf 30 [(0, vr 0), (1, vi c)] [] x (ri F) := by
    intro he
    refine sg_signOf_30 _ ?_
    (repeat' (first | apply And.intro | with_reducible intro _))
    all_goals exact ri_i (h _ (fun _ => he))
  refine sg_signOf_0 _ _ ⟨fun _ => a66, fun he => ?_⟩
  (repeat' (first | apply And.intro | with_reducible intro _))
  all_goals first | exact a66 | exact a30 he
theorem sp_wordOf (p n : Int32) (h0 : 0 ≤ p.toInt) (h1 : 0 ≤ n.toInt) (hs : (x.1 0 2).toInt ≤ 3000) (h2 : p.toInt + n.toInt ≤ (x.1 0 2).toInt) (h : ∀ r, F r x) : MT G (d + 7) z_wordOf 0 [(0, vr 0), (1, vi p), (2, vi n)] [] x (ri F) := by
  have k0 : (0 : Int32).toInt = 0 := rfl
  have k1 : (1 : Int32).toInt = 1 := rfl
  have k165 : (165 : Int32).toInt = 165 := rfl
  have c164 : cch 1 164 = 32 := by decide +kernel
  have p11 : ∀ (m : Nat) (k i : Int32), 0 ≤ i.toInt → i.toInt ≤ 165 → 165 - i.toInt ≤ m → MT G (d + 7) z_wordOf 11 [(0, vr 0), (1, vi p), (2, vi n), (3, vr 901), (4, vi k), (5, vi i)] [] x (ri F) := by
    intro m
    induction m with
    | zero =>
      intro k i i0 i1 hm
      exact sg_wordOf_11 _ _ _ _ ⟨fun _ => ri_i (h _), fun c => absurd (t_le.mpr (by rw [k165]; omega)) c⟩
    | succ m ih =>
      intro k i i0 i1 hm
      refine sg_wordOf_11 _ _ _ _ ⟨fun _ => ri_i (h _), fun c => ?_⟩
      rw [t_le, k165] at c
      have p24 : ∀ (m2 : Nat) (j : Int32), i.toInt ≤ j.toInt → j.toInt ≤ 164 → 164 - j.toInt ≤ m2 → MT G (d + 7) z_wordOf 24 [(0, vr 0), (1, vi p), (2, vi n), (3, vr 901), (4, vi k), (5, vi i), (6, vi j)] [] x (ri F) := by
        have stop : ∀ j : Int32, i.toInt ≤ j.toInt → j.toInt ≤ 164 → ((¬ ((j - i) = n) → MT G (d + 7) z_wordOf 60 [(0, vr 0), (1, vi p), (2, vi n), (3, vr 901), (4, vi k), (5, vi i), (6, vi j), (7, vi 0), (8, vi 0)] [] x (ri F)) ∧ ((j - i) = n → MT G (d + 7) z_wordOf 60 [(0, vr 0), (1, vi p), (2, vi n), (3, vr 901), (4, vi k), (5, vi i), (6, vi j), (7, vi 1), (8, vi 0)] [] x (ri F))) := by
          intro j j0 j1
          have jj : (j + 1).toInt = j.toInt + 1 := by rw [t_add (by omega) (by omega), k1]
          have ji : (j - i).toInt = j.toInt - i.toInt := t_sub (by omega) (by omega)
          have p104 : ∀ s : Int32, MT G (d + 7) z_wordOf 104 [(0, vr 0), (1, vi p), (2, vi n), (3, vr 901), (4, vi k), (6, vi j), (7, vi s)] [] x (ri F) := fun s => sg_wordOf_104 _ _ _ _ _ ⟨fun _ => ih (k + 1) (j + 1) (by omega) (by omega) (by omega), fun _ => ri_i (h _)⟩
          have p60 : ∀ (m3 : Nat) (s q : Int32), (¬ s = 0 → n.toInt = j.toInt - i.toInt) → 0 ≤ q.toInt → n.toInt - q.toInt ≤ m3 → MT G (d + 7) z_wordOf 60 [(0, vr 0), (1, vi p), (2, vi n), (3, vr 901), (4, vi k), (5, vi i), (6, vi j), (7, vi s), (8, vi q)] [] x (ri F) := by
            intro m3
            induction m3 with
            | zero =>
              intro s q hq q0 hm3
              exact sg_wordOf_60 _ _ _ _ _ _ _ ⟨fun _ => p104 s, fun c => absurd (t_le.mpr (by omega)) c⟩
            | succ m3 ih3 =>
              intro s q hq q0 hm3
              refine sg_wordOf_60 _ _ _ _ _ _ _ ⟨fun _ => p104 s, fun c2 => ⟨fun _ => p104 s, fun ns => ?_⟩⟩
              rw [t_le] at c2
              have e := hq ns
              have qq : (q + 1).toInt = q.toInt + 1 := by rw [t_add (by omega) (by omega), k1]
              have pq : (p + q).toInt = p.toInt + q.toInt := t_add (by omega) (by omega)
              have iq : (i + q).toInt = i.toInt + q.toInt := t_add (by omega) (by omega)
              exact sp_byteAt _ (by omega) hs ⟨by rw [vp_in_iff]; omega, fun _ => ih3 0 (q + 1) (fun z => absurd rfl z) (by omega) (by omega), fun _ => ih3 1 (q + 1) (fun _ => e) (by omega) (by omega)⟩
          refine ⟨fun _ => p60 _ 0 0 (fun z => absurd rfl z) (by decide) (Int.self_le_toNat _), fun e => p60 _ 1 0 (fun _ => ?_) (by decide) (Int.self_le_toNat _)⟩
          rw [← e, ji]
        intro m2
        induction m2 with
        | zero =>
          intro j j0 j1 hm2
          have cj : j.toNatClampNeg = 164 := by rw [t_cl]; omega
          refine sg_wordOf_24 _ _ _ _ _ ⟨by rw [vp_in_iff]; omega, fun _ => stop j j0 j1, fun z => absurd ?_ z⟩
          rw [cj]; exact c164
        | succ m2 ih2 =>
          intro j j0 j1 hm2
          refine sg_wordOf_24 _ _ _ _ _ ⟨by rw [vp_in_iff]; omega, fun _ => stop j j0 j1, fun z => ?_⟩
          have jj : (j + 1).toInt = j.toInt + 1 := by rw [t_add (by omega) (by omega), k1]
          have ne : ¬ j.toInt = 164 := fun e => by
            have cj : j.toNatClampNeg = 164 := by rw [t_cl]; omega
            rw [cj] at z
            exact z c164
          exact ih2 (j + 1) (by omega) (by omega) (by omega)
      exact p24 164 i (Int.le_refl _) (by omega) (by omega)
  exact sg_wordOf_0 _ _ (p11 165 10 0 (by decide) (by decide) (by decide))
/-- readTokens: tokens that lie in the text -/
theorem sp_readTokens (ht : TK x) (hs0 : 0 ≤ (x.1 0 2).toInt) (hs : (x.1 0 2).toInt ≤ 3000) (h : ∀ x', TK x' → md [3] [5, 6, 7, 8] x x' → Fv x') : MT G (d + 8) z_readTokens 0 [(0, vr 0)] [] x (rv Fv) := by
  have loop : ∀ (n : Nat) (z : gd) (p : Int32), TK z → md [3] [5, 6, 7, 8] x z → 0 ≤ (z.1 0 3).toInt → 701 - (z.1 0 3).toInt ≤ n → 0 ≤ p.toInt → p.toInt ≤ (z.1 0 2).toInt → MT G (d + 8) z_readTokens 7 [(0, vr 0), (1, vi p)] [] z (rv Fv) := by
    intro n
    induction n with
    | zero =>
      intro z p tz mz h0 hn hp hps
      refine sg_readTokens_7 _ ⟨fun _ => rv_i (h z tz mz), fun c => ?_⟩
      rw [t_lt] at c
      have : (700 : Int32).toInt = 700 := rfl
      omega
    | succ n ih =>
      intro z p tz mz h0 hn hp hps
      have e2 : z.1 0 2 = x.1 0 2 := mz.1 2 (by decide)
      have zs : (z.1 0 2).toInt ≤ 3000 := by rw [e2]; exact hs
      refine sg_readTokens_7 _ ⟨fun _ => rv_i (h z tz mz), fun c => ?_⟩
      rw [t_lt] at c
      have k700 : (700 : Int32).toInt = 700 := rfl
      have hi : vp_in (z.1 0 3) 710 := by rw [vp_in_iff]; omega
      have c350 : ∀ (p n v w : Int32), 0 ≤ p.toInt → 0 ≤ n.toInt → p.toInt + n.toInt ≤ (z.1 0 2).toInt → 0 ≤ v.toInt → MT G (d + 8) z_readTokens 350 [(0, vr 0), (1, vi p), (4, vi n), (5, vi v), (6, vi w)] [] z (rv Fv) := by
        intro p n v w q0 q1 q2 qv
        refine sg_readTokens_350 _ _ _ _ (sp_put _ _ _ _ tz hi q0 q1 (by omega) qv (fun x1 t1 m1 e1 => ?_))
        have m2 : md [3] [5, 6, 7, 8] x x1 := md_tr mz m1 rfl rfl
        refine ⟨fun _ => rv_i (h x1 t1 m2), fun _ => ⟨fun _ => ?_, fun _ => rv_i (h x1 t1 m2)⟩⟩
        have e3 : (x1.1 0 3).toInt = (z.1 0 3).toInt + 1 := by rw [e1]; exact t_add (by show _ ≤ _ + (1 : Int); omega) (by show _ + (1 : Int) ≤ _; omega)
        have e4 : x1.1 0 2 = z.1 0 2 := m1.1 2 (by decide)
        have e5 : (p + n).toInt = p.toInt + n.toInt := t_add (by omega) (by omega)
        exact ih x1 _ t1 m2 (by omega) (by omega) (by omega) (by rw [e4]; omega)
      have c140 : ∀ (k : Nat) (p n v : Int32), 0 ≤ p.toInt → 0 ≤ n.toInt → p.toInt + n.toInt ≤ (z.1 0 2).toInt → (z.1 0 2).toInt - (p.toInt + n.toInt) ≤ k → 0 ≤ v.toInt → MT G (d + 8) z_readTokens 140 [(0, vr 0), (1, vi p), (4, vi n), (5, vi v)] [] z (rv Fv) := by
        intro k
        induction k with
        | zero =>
          intro p n v q0 q1 q2 q3 qv
          have e5 : (p + n).toInt = p.toInt + n.toInt := t_add (by omega) (by omega)
          have no : bAt z (p + n) = -1 := Classical.byContradiction (fun q => by have := bAt_lt q; omega)
          refine sg_readTokens_140 _ _ _ (sp_byteAt _ (by omega) zs (sp_isLetter _ ⟨fun c1 => ?_, fun c1 => sp_byteAt _ (by omega) zs (sp_isDigit _ ⟨fun c2 => sp_wordOf _ _ q0 q1 zs q2 (fun r => ⟨fun _ => c350 _ _ _ _ q0 q1 q2 qv, fun _ => ⟨fun _ => c350 _ _ _ _ q0 q1 q2 qv, fun _ => c350 _ _ _ _ q0 q1 q2 qv⟩⟩), fun c2 => ?_⟩)⟩))
          · exact absurd no (isL_ne (bi_ne.mp c1))
          · exact absurd no (isD_ne (bi_ne.mp c2))
        | succ k ih2 =>
          intro p n v q0 q1 q2 q3 qv
          have e5 : (p + n).toInt = p.toInt + n.toInt := t_add (by omega) (by omega)
          have go : ¬ bAt z (p + n) = -1 → MT G (d + 8) z_readTokens 140 [(0, vr 0), (1, vi p), (4, vi (n + 1)), (5, vi v)] [] z (rv Fv) := by
            intro q
            have q4 := bAt_lt q
            have e6 : (n + 1).toInt = n.toInt + 1 := t_add (by show _ ≤ _ + (1 : Int); omega) (by show _ + (1 : Int) ≤ _; omega)
            exact ih2 _ _ _ q0 (by omega) (by omega) (by omega) qv
          exact sg_readTokens_140 _ _ _ (sp_byteAt _ (by omega) zs (sp_isLetter _ ⟨fun c1 => go (isL_ne (bi_ne.mp c1)), fun c1 => sp_byteAt _ (by omega) zs (sp_isDigit _ ⟨fun c2 => sp_wordOf _ _ q0 q1 zs q2 (fun r => ⟨fun _ => c350 _ _ _ _ q0 q1 q2 qv, fun _ => ⟨fun _ => c350 _ _ _ _ q0 q1 q2 qv, fun _ => c350 _ _ _ _ q0 q1 q2 qv⟩⟩), fun c2 => go (isD_ne (bi_ne.mp c2))⟩)⟩))
      have c214 : ∀ (k : Nat) (p n v : Int32), 0 ≤ p.toInt → 0 ≤ n.toInt → p.toInt + n.toInt ≤ (z.1 0 2).toInt → (z.1 0 2).toInt - (p.toInt + n.toInt) ≤ k → vW n v → MT G (d + 8) z_readTokens 214 [(0, vr 0), (1, vi p), (4, vi n), (5, vi v)] [] z (rv Fv) := by
        intro k
        induction k with
        | zero =>
          intro p n v q0 q1 q2 q3 qv
          have e5 : (p + n).toInt = p.toInt + n.toInt := t_add (by omega) (by omega)
          have no : bAt z (p + n) = -1 := Classical.byContradiction (fun q => by have := bAt_lt q; omega)
          refine sg_readTokens_214 _ _ _ (sp_byteAt _ (by omega) zs (sp_isDigit _ ⟨fun c1 => ⟨fun _ => c350 _ _ _ _ q0 q1 q2 qv.1, fun _ => sp_byteAt _ (by omega) zs (sp_isLetter _ ⟨fun _ => c350 _ _ _ _ q0 q1 q2 qv.1, fun _ => c350 _ _ _ _ q0 q1 q2 qv.1⟩)⟩, fun c1 => ?_⟩))
          exact absurd no (isD_ne (bi_ne.mp c1))
        | succ k ih2 =>
          intro p n v q0 q1 q2 q3 qv
          have e5 : (p + n).toInt = p.toInt + n.toInt := t_add (by omega) (by omega)
          have go : ¬ bAt z (p + n) = -1 → ∀ v, ((n + 1).toInt = n.toInt + 1 → vW (n + 1) v) → MT G (d + 8) z_readTokens 214 [(0, vr 0), (1, vi p), (4, vi (n + 1)), (5, vi v)] [] z (rv Fv) := by
            intro q v qv2
            have q4 := bAt_lt q
            have e6 : (n + 1).toInt = n.toInt + 1 := t_add (by show _ ≤ _ + (1 : Int); omega) (by show _ + (1 : Int) ≤ _; omega)
            exact ih2 _ _ _ q0 (by omega) (by omega) (by omega) (qv2 e6)
          exact sg_readTokens_214 _ _ _ (sp_byteAt _ (by omega) zs (sp_isDigit _ ⟨fun c1 => ⟨fun _ => c350 _ _ _ _ q0 q1 q2 qv.1, fun _ => sp_byteAt _ (by omega) zs (sp_isLetter _ ⟨fun _ => c350 _ _ _ _ q0 q1 q2 qv.1, fun _ => c350 _ _ _ _ q0 q1 q2 qv.1⟩)⟩, fun c1 => ⟨fun c9 => go (isD_ne (bi_ne.mp c1)) _ (fun e => vW_keep q1 c9 e qv), fun c9 => sp_byteAt _ (by omega) zs (go (isD_ne (bi_ne.mp c1)) _ (fun e => vW_up q1 c9 e (bi_ne.mp c1) qv))⟩⟩))
      have k0 : (0 : Int32).toInt = 0 := rfl
      have k1 : (1 : Int32).toInt = 1 := rfl
      have k2 : (2 : Int32).toInt = 2 := rfl
      have c19 : ∀ (k : Nat) (p m : Int32), 0 ≤ p.toInt → p.toInt ≤ (z.1 0 2).toInt → (z.1 0 2).toInt - p.toInt ≤ k → MT G (d + 8) z_readTokens 19 [(0, vr 0), (1, vi p), (2, vi m)] [] z (rv Fv) := by
        have disp : ∀ (p m : Int32), 0 ≤ p.toInt → p.toInt ≤ (z.1 0 2).toInt → m = 0 → MT G (d + 8) z_readTokens 19 [(0, vr 0), (1, vi p), (2, vi m)] [] z (rv Fv) := by
          intro p m q0 q1 hm
          refine sg_readTokens_19 _ _ ⟨fun _ => ?_, fun c1 => absurd hm c1⟩
          refine sp_byteAt _ q0 zs (sp_isLetter _ ⟨fun c1 => sp_isDigit _ ⟨fun c2 => ⟨fun c3 => c350 _ _ _ _ q0 (by decide) (by rw [k0]; omega) (by decide), fun c3 => ?_⟩, fun c2 => c214 _ _ _ _ q0 (by decide) (by rw [k0]; omega) (Int.self_le_toNat _) vW_0⟩, fun c1 => c140 _ _ _ _ q0 (by decide) (by rw [k0]; omega) (Int.self_le_toNat _) (by decide)⟩)
          have q3 := bAt_lt c3
          have e6 : (p + 1).toInt = p.toInt + 1 := t_add (by rw [k1]; omega) (by rw [k1]; omega)
          refine sp_byteAt _ (by omega) zs (sp_signOf _ _ (fun r hr => ?_))
          have two : (r = 51 ∨ r = 52 ∨ r = 54 ∨ r = 56) → p.toInt + (2 : Int32).toInt ≤ (z.1 0 2).toInt := by
            intro q
            have q4 := bAt_lt (x := z) (p := p + 1) (by rw [hr q]; decide)
            rw [k2]; omega
          have one : p.toInt + (1 : Int32).toInt ≤ (z.1 0 2).toInt := by rw [k1]; omega
          exact ⟨fun q => c350 _ _ _ _ q0 (by decide) (two (Or.inl q)) (by decide), fun _ => ⟨fun q => c350 _ _ _ _ q0 (by decide) (two (Or.inr (Or.inl q))) (by decide), fun _ => ⟨fun q => c350 _ _ _ _ q0 (by decide) (two (Or.inr (Or.inr (Or.inl q)))) (by decide), fun _ => ⟨fun _ => c350 _ _ _ _ q0 (by decide) one (by decide), fun q => c350 _ _ _ _ q0 (by decide) (two (Or.inr (Or.inr (Or.inr q)))) (by decide)⟩⟩⟩⟩
        intro k
        induction k with
        | zero =>
          intro p m q0 q1 q2
          by_cases hm : m = 0
          · exact disp p m q0 q1 hm
          refine sg_readTokens_19 _ _ ⟨fun c1 => absurd c1 hm, fun _ => ?_⟩
          have no : bAt z p = -1 := Classical.byContradiction (fun q => by have := bAt_lt q; omega)
          refine sp_byteAt _ q0 zs ?_
          rw [no]
          have fin : MT G (d + 8) z_readTokens 58 [(0, vr 0), (1, vi p), (3, vi (-1))] [vi 0] z (rv Fv) := by
            refine sg_readTokens_58 _ _ _ ⟨fun _ => sg_readTokens_69 _ _ _ _ ⟨fun _ => ?_, fun q => absurd q (by decide)⟩, fun q => absurd rfl q⟩
            have e6 : (p + 0).toInt = p.toInt := by rw [t_add (by rw [k0]; omega) (by rw [k0]; omega), k0]; omega
            exact disp _ _ (by omega) (by omega) rfl
          exact ⟨fun q => absurd q (by decide), fun _ => ⟨fun q => absurd q (by decide), fun _ => ⟨fun q => absurd q (by decide), fun _ => ⟨fun _ => fin, fun q => absurd q (by decide)⟩⟩⟩⟩
        | succ k ih2 =>
          intro p m q0 q1 q2
          by_cases hm : m = 0
          · exact disp p m q0 q1 hm
          refine sg_readTokens_19 _ _ ⟨fun c1 => absurd c1 hm, fun _ => ?_⟩
          refine sp_byteAt _ q0 zs ?_
          have e6 : (p + 0).toInt = p.toInt := by rw [t_add (by rw [k0]; omega) (by rw [k0]; omega), k0]; omega
          have e7 : p.toInt < (z.1 0 2).toInt → (p + 1).toInt = p.toInt + 1 := fun q => t_add (by rw [k1]; omega) (by rw [k1]; omega)
          have c91 : ∀ (n : Nat) (p m : Int32), 0 ≤ p.toInt → p.toInt ≤ (z.1 0 2).toInt → (z.1 0 2).toInt - p.toInt ≤ n → (z.1 0 2).toInt - p.toInt ≤ k → MT G (d + 8) z_readTokens 91 [(0, vr 0), (1, vi p), (2, vi m)] [] z (rv Fv) := by
            intro n
            induction n with
            | zero =>
              intro p m q0 q1 q2 q3
              refine sg_readTokens_91 _ _ ⟨fun _ => ih2 _ _ q0 q1 q3, fun c1 => ?_⟩
              rw [t_le] at c1; omega
            | succ n ih3 =>
              intro p m q0 q1 q2 q3
              refine sg_readTokens_91 _ _ ⟨fun _ => ih2 _ _ q0 q1 q3, fun c1 => sp_byteAt _ q0 zs ⟨fun _ => ih2 _ _ q0 q1 q3, fun _ => ?_⟩⟩
              rw [t_le] at c1
              have e8 : (p + 1).toInt = p.toInt + 1 := t_add (by rw [k1]; omega) (by rw [k1]; omega)
              exact ih3 _ _ (by omega) (by omega) (by omega) (by omega)
          have blank : ¬ bAt z p = -1 → ¬ bAt z p = 47 → MT G (d + 8) z_readTokens 58 [(0, vr 0), (1, vi p), (3, vi (bAt z p))] [vi 1] z (rv Fv) := by
            intro q q9
            have q3 := bAt_lt q
            have e8 := e7 q3
            refine sg_readTokens_58 _ _ _ ⟨fun z9 => absurd z9 (by decide), fun _ => sg_readTokens_69 _ _ _ _ ⟨fun _ => ih2 _ _ (by omega) (by omega) (by omega), fun z9 => absurd z9 q9⟩⟩
          have other : MT G (d + 8) z_readTokens 58 [(0, vr 0), (1, vi p), (3, vi (bAt z p))] [vi 0] z (rv Fv) := by
            refine sg_readTokens_58 _ _ _ ⟨fun _ => sg_readTokens_69 _ _ _ _ ⟨fun _ => disp _ _ (by omega) (by omega) rfl, fun c47 => ?_⟩, fun q => absurd rfl q⟩
            have q3 := bAt_lt (x := z) (p := p) (by rw [c47]; decide)
            have e9 : (p + 0 + 1).toInt = p.toInt + 1 := by rw [t_add (by rw [e6, k1]; omega) (by rw [e6, k1]; omega), e6, k1]
            refine sp_byteAt _ (by omega) zs ⟨fun _ => disp _ _ (by omega) (by omega) rfl, fun _ => ?_⟩
            have ep : p + 0 = p := t_eq.mpr e6
            rw [ep]
            refine sg_readTokens_91 _ _ ⟨fun c1 => ?_, fun c1 => sp_byteAt _ q0 zs ⟨fun c2 => ?_, fun _ => ?_⟩⟩
            · rw [t_le] at c1; omega
            · rw [c47] at c2; exact absurd c2 (by decide)
            · have e8 := e7 q3
              exact c91 _ _ _ (by omega) (by omega) (Int.self_le_toNat _) (by omega)
          have b32 : bAt z p = 32 → ¬ bAt z p = -1 ∧ ¬ bAt z p = 47 := fun q => by rw [q]; decide
          have b9 : bAt z p = 9 → ¬ bAt z p = -1 ∧ ¬ bAt z p = 47 := fun q => by rw [q]; decide
          have b13 : bAt z p = 13 → ¬ bAt z p = -1 ∧ ¬ bAt z p = 47 := fun q => by rw [q]; decide
          have b10 : bAt z p = 10 → ¬ bAt z p = -1 ∧ ¬ bAt z p = 47 := fun q => by rw [q]; decide
          exact ⟨fun q => blank (b32 q).1 (b32 q).2, fun _ => ⟨fun q => blank (b9 q).1 (b9 q).2, fun _ => ⟨fun q => blank (b13 q).1 (b13 q).2, fun _ => ⟨fun _ => other, fun q => blank (b10 q).1 (b10 q).2⟩⟩⟩⟩
      exact c19 _ p 1 hp hps (Int.self_le_toNat _)
  refine sg_readTokens_0 (fun x1 e1 => ?_)
  have m1 := md_f x 3 0
  rw [← e1] at m1
  have e2 : x1.1 0 2 = x.1 0 2 := m1.1 2 (by decide)
  have e3 : x1.1 0 3 = 0 := by rw [e1, si_get, if_pos ⟨rfl, rfl⟩]
  have k0 : (0 : Int32).toInt = 0 := rfl
  have t1 : TK x1 := by
    intro j hj
    rw [e1, si_cell (by decide), si_cell (by decide), si_cell (by decide)]
    exact ht j hj
  exact loop 701 x1 0 t1 (md_w m1 (by decide) (by decide)) (by rw [e3]; decide) (by rw [e3, k0]; omega) (by decide) (by rw [e2, k0]; exact hs0)
end SPB
