/-! cutting the text: its tokens, one by one -/
theorem kc_w {w : Nat} {l : Int32} (hw : w < 32) (h : l.toInt = w) : kc (40 + l) = Int32.ofNat (10 + w) := by
  have k40 : (40 : Int32).toInt = 40 := rfl
  have k30 : (30 : Int32).toInt = 30 := rfl
  have k80 : (80 : Int32).toInt = 80 := rfl
  have e : (40 + l).toInt = 40 + w := by rw [t_add (by rw [k40]; omega) (by rw [k40]; omega), k40, h]
  have ne : ∀ v : Int32, v.toInt < 40 → ¬ 40 + l = v := fun v hv q => by rw [← q, e] at hv; omega
  unfold kc
  rw [if_neg (ne 0 (by decide)), if_neg (ne 1 (by decide)), if_neg (ne 2 (by decide)), if_neg (ne 3 (by decide)), if_pos ⟨by rw [t_le, e, k40]; omega, by rw [t_lt, e, k80]; omega⟩, t_eq, t_sub (by rw [e, k30]; omega) (by rw [e, k30]; omega), e, k30]
  have e1 : (Int32.ofNat (10 + w)).toInt = ((10 + w : Nat) : Int) := Int32.toInt_ofNat_of_lt (by omega)
  rw [e1]
  omega
theorem wh_up {v c : Int32} : v * 10 + (c - 48) = 10 * v + c - 48 := by
  rw [Int32.mul_comm v 10, Int32.sub_eq_add_neg, Int32.sub_eq_add_neg, Int32.add_assoc]
section KCF
variable {G : kG} {q : kP} {d : Nat} {x : gd} {F : Int32 → gd → Prop} {Fv : gd → Prop}
theorem kf_nameOrWord (hq : kV q) (f : Int32) (m : Nat) (hl : kL x) (hm : vp_in (x.1 20 7) 702) (hf : 0 ≤ f.toInt) (hs : (x.1 26 (x.1 20 7).toNatClampNeg).toInt = m) (hL : isL (kby x f.toNatClampNeg)) (pn : f.toNatClampNeg < kln x) (run : RUNq isLD (kby x) (kln x) f.toNatClampNeg m) (h : ∀ r x', fm (fun c k => c = 27 ∧ k = (x.1 20 7).toNatClampNeg) x x' → TOK (kby x) (kln x) f.toNatClampNeg (kc r) m (x'.1 27 (x.1 20 7).toNatClampNeg) → ¬ r = 0 → ¬ r = 3 → (r = 2 → x'.1 27 (x.1 20 7).toNatClampNeg = hsh (kby x) f.toNatClampNeg m) → F r x') : KT G q (d + 8) zk_X9_nameOrWord 0 [(0, vr 20), (1, vi f)] [] x (ri F) := by
  obtain ⟨b, eb⟩ : ∃ b, b = kby x := ⟨_, rfl⟩
  obtain ⟨N, eN⟩ : ∃ N, N = kln x := ⟨_, rfl⟩
  rw [← eb] at hL run h
  rw [← eN] at run h pn
  have uN : (N : Int) = (x.1 20 1).toInt := by
    rw [eN]
    show (((x.1 20 1).toNatClampNeg : Nat) : Int) = _
    rw [t_cl]; have := hl.1; omega
  have g1 := hl.2
  have k1 : (1 : Int32).toInt = 1 := rfl
  have k12 : (12 : Int32).toInt = 12 := rfl
  have k32 : (32 : Int32).toInt = 32 := rfl
  have uf := t_cl f
  have us := t_cl (x.1 26 (x.1 20 7).toNatClampNeg)
  have r1 := run.1
  have tk : ∀ {k v : Int32}, ((∃ w, w < 32 ∧ WD b f.toNatClampNeg m w ∧ k = Int32.ofNat (10 + w)) ∨ ((∀ w, w < 32 → ¬ WD b f.toNatClampNeg m w) ∧ ((m ≤ 12 ∧ k = 1) ∨ (12 < m ∧ k = 3)))) → TOK b N f.toNatClampNeg k m v := fun z => Or.inr (Or.inl ⟨pn, hL, run, z⟩)
  have l57 : ∀ (n j : Nat) (v i : Int32), i.toInt = j → j + n = m → m ≤ 12 → v = hsh b f.toNatClampNeg j → (∀ w, w < 32 → ¬ WD b f.toNatClampNeg m w) → KT G q (d + 8) zk_X9_nameOrWord 57 [(0, vr 20), (1, vi f), (2, vi v), (3, vi i)] [] x (ri F) := by
    intro n
    induction n with
    | zero =>
      intro j v i ei hj m12 ev no
      refine kg_X9_nameOrWord_57 hq _ _ _ ⟨hm, fun _ => ⟨hm, fun z ez => ?_⟩, fun c => ?_⟩
      · have z7 : z.1 27 (x.1 20 7).toNatClampNeg = v := by rw [ez, si_get, if_pos ⟨rfl, rfl⟩]
        refine ri_i (h _ z (by rw [ez]; exact fm_si (fm_rf _ _) ⟨rfl, rfl⟩) (tk (Or.inr ⟨no, Or.inl ⟨m12, by decide⟩⟩)) (by decide) (by decide) (fun _ => ?_))
        rw [z7, ev, show j = m by omega]
      · rw [t_le] at c; omega
    | succ n ih =>
      intro j v i ei hj m12 ev no
      refine kg_X9_nameOrWord_57 hq _ _ _ ⟨hm, fun c => ?_, fun c => ?_⟩
      · rw [t_le] at c; omega
      have e1 : (i + 1).toInt = ((j + 1 : Nat) : Int) := by rw [t_add (by omega) (by omega), k1, ei]; rfl
      have e2 : (f + i).toInt = f.toInt + j := by rw [t_add (by omega) (by omega), ei]
      have e2c : (f + i).toNatClampNeg = f.toNatClampNeg + j := by rw [t_cl]; omega
      refine kf_byteAt hq _ hl (by omega) ?_
      rw [e2c, ← eb, ← eN, cby0_lt (by omega)]
      exact ih (j + 1) _ _ e1 (by omega) m12 (by rw [ev]; rfl) no
  have l18 : ∀ (n w : Nat) (i : Int32), i.toInt = w → w + n = 32 → m ≤ 12 → (∀ v, v < w → ¬ WD b f.toNatClampNeg m v) → KT G q (d + 8) zk_X9_nameOrWord 18 [(0, vr 20), (1, vi f), (2, vi i)] [] x (ri F) := by
    intro n
    induction n with
    | zero =>
      intro w i ei hw m12 no
      refine kg_X9_nameOrWord_18 hq _ _ ⟨fun _ => l57 m 0 0 0 rfl (by omega) m12 rfl (fun v hv => no v (by omega)), fun c => ?_⟩
      rw [t_le, k32] at c; omega
    | succ n ih =>
      intro w i ei hw m12 no
      refine kg_X9_nameOrWord_18 hq _ _ ⟨fun c => ?_, fun c => ⟨hm, ?_⟩⟩
      · rw [t_le, k32] at c; omega
      have e1 : (i + 1).toInt = ((w + 1 : Nat) : Int) := by rw [t_add (by omega) (by omega), k1, ei]; rfl
      have sm : (x.1 26 (x.1 20 7).toNatClampNeg).toNatClampNeg = m := by omega
      refine kf_isWord hq _ _ _ w hl ei (by omega) hf (by omega) (by omega) (fun j hj => ?_) (fun r hr => ?_)
      · rw [sm] at hj
        rw [← eb]
        exact isLD_32 (run.2.1 j hj)
      · rw [sm, ← eb] at hr
        refine ⟨fun c4 => ih (w + 1) _ e1 (by omega) m12 (fun v hv => ?_), fun c4 => ri_i (h _ x (fm_rf _ _) (tk (Or.inl ⟨w, by omega, hr.mp c4, kc_w (by omega) ei⟩)) ?_ ?_ (fun q2 => ?_))⟩
        · by_cases cv : v = w
          · rw [cv]; exact fun z => hr.mpr z c4
          · exact no v (by omega)
        all_goals
          have k40 : (40 : Int32).toInt = 40 := rfl
          have e4 : (40 + i).toInt = 40 + w := by rw [t_add (by rw [k40]; omega) (by rw [k40]; omega), k40, ei]
        · intro z; rw [z] at e4; have : (0 : Int32).toInt = 0 := rfl; omega
        · intro z; rw [z] at e4; have : (3 : Int32).toInt = 3 := rfl; omega
        · rw [q2] at e4; have : (2 : Int32).toInt = 2 := rfl; omega
  refine kg_X9_nameOrWord_0 hq _ ⟨hm, fun c => l18 32 0 0 rfl rfl ?_ (fun v hv => absurd hv (Nat.not_lt_zero _)), fun c => ri_i (h _ x (fm_rf _ _) (tk (Or.inr ⟨fun w hw z => ?_, Or.inr ⟨?_, by decide⟩⟩)) (by decide) (by decide) (fun q2 => absurd q2 (by decide)))⟩
  · rw [t_le, k12] at c; omega
  · have := w_seven w hw
    have := z.1
    rw [t_le, k12] at c; omega
  · rw [t_le, k12] at c; omega
theorem kf_wholeOrBad (hq : kV q) (f : Int32) (m : Nat) (hl : kL x) (hm : vp_in (x.1 20 7) 702) (hf : 0 ≤ f.toInt) (hs : (x.1 26 (x.1 20 7).toNatClampNeg).toInt = m) (hD : isD (kby x f.toNatClampNeg)) (pn : f.toNatClampNeg < kln x) (run : RUNq isLD (kby x) (kln x) f.toNatClampNeg m) (h : ∀ r x', fm (fun c k => c = 27 ∧ k = (x.1 20 7).toNatClampNeg) x x' → TOK (kby x) (kln x) f.toNatClampNeg (kc r) m (x'.1 27 (x.1 20 7).toNatClampNeg) → ¬ r = 0 → ¬ r = 2 → F r x') : KT G q (d + 1) zk_X9_wholeOrBad 0 [(0, vr 20), (1, vi f)] [] x (ri F) := by
  obtain ⟨b, eb⟩ : ∃ b, b = kby x := ⟨_, rfl⟩
  obtain ⟨N, eN⟩ : ∃ N, N = kln x := ⟨_, rfl⟩
  rw [← eb] at hD run h
  rw [← eN] at run h pn
  have uN : (N : Int) = (x.1 20 1).toInt := by
    rw [eN]
    show (((x.1 20 1).toNatClampNeg : Nat) : Int) = _
    rw [t_cl]; have := hl.1; omega
  have g1 := hl.2
  have k1 : (1 : Int32).toInt = 1 := rfl
  have k9 : (9 : Int32).toInt = 9 := rfl
  have uf := t_cl f
  have r1 := run.1
  have bad : ∀ v : Int32, (9 < m ∨ ∃ i, i < m ∧ ¬ isD (b (f.toNatClampNeg + i))) → TOK b N f.toNatClampNeg 3 m v := fun v z => Or.inr (Or.inr (Or.inl ⟨pn, hD, Or.inr ⟨rfl, m, run, z⟩⟩))
  have loop : ∀ (n j : Nat) (v i : Int32), i.toInt = j → j + n = m → m ≤ 9 → v = whv b f.toNatClampNeg j → (∀ t, t < j → isD (b (f.toNatClampNeg + t))) → KT G q (d + 1) zk_X9_wholeOrBad 20 [(0, vr 20), (1, vi f), (2, vi v), (3, vi i)] [] x (ri F) := by
    intro n
    induction n with
    | zero =>
      intro j v i ei hj m9 ev hd
      refine kg_X9_wholeOrBad_20 hq _ _ _ ⟨hm, fun _ => ⟨hm, fun z ez => ?_⟩, fun c => ?_⟩
      · have z7 : z.1 27 (x.1 20 7).toNatClampNeg = v := by rw [ez, si_get, if_pos ⟨rfl, rfl⟩]
        have jm : j = m := by omega
        refine ri_i (h _ z (by rw [ez]; exact fm_si (fm_rf _ _) ⟨rfl, rfl⟩) ?_ (by decide) (by decide))
        rw [z7]
        exact Or.inr (Or.inr (Or.inl ⟨pn, hD, Or.inl ⟨by decide, run, m9, fun t ht => hd t (by omega), by rw [ev, jm]⟩⟩))
      · rw [t_le] at c; omega
    | succ n ih =>
      intro j v i ei hj m9 ev hd
      refine kg_X9_wholeOrBad_20 hq _ _ _ ⟨hm, fun c => ?_, fun c => ?_⟩
      · rw [t_le] at c; omega
      have e1 : (i + 1).toInt = ((j + 1 : Nat) : Int) := by rw [t_add (by omega) (by omega), k1, ei]; rfl
      have e2 : (f + i).toInt = f.toInt + j := by rw [t_add (by omega) (by omega), ei]
      have e2c : (f + i).toNatClampNeg = f.toNatClampNeg + j := by rw [t_cl]; omega
      refine kf_byteAt hq _ hl (by omega) ?_
      rw [e2c, ← eb, ← eN, cby0_lt (by omega)]
      refine kf_isDigit hq _ (fun r8 h8 => ⟨fun c8 => ih (j + 1) _ _ e1 (by omega) m9 ?_ (fun t ht => ?_), fun c8 => ri_i (h _ x (fm_rf _ _) (bad _ (Or.inr ⟨j, by omega, fun z => h8.mpr z c8⟩)) (by decide) (by decide))⟩)
      · rw [wh_up, ev]; rfl
      · by_cases ct : t = j
        · rw [ct]; exact h8.mp c8
        · exact hd t (by omega)
  refine kg_X9_wholeOrBad_0 hq _ ⟨hm, fun c => loop m 0 0 0 rfl (by omega) ?_ rfl (fun t ht => absurd ht (Nat.not_lt_zero _)), fun c => ri_i (h _ x (fm_rf _ _) (bad _ (Or.inl ?_)) (by decide) (by decide))⟩
  · rw [t_le, k9] at c; omega
  · rw [t_le, k9] at c; omega
theorem kf_singleSign (hq : kV q) (c : Int32) (n61 : ¬ c = 61) (n33 : ¬ c = 33) (n60 : ¬ c = 60) (n62 : ¬ c = 62) (h : ∀ r, kc r = sgk c 0 → ¬ r = 0 → ¬ r = 2 → F r x) : KT G q d zk_X9_singleSign 0 [(0, vi c)] [] x (ri F) := by
  have no : ¬ ((0 : Int32) = 61 ∧ (c = 61 ∨ c = 33 ∨ c = 60 ∨ c = 62)) := fun z => absurd z.1 (by decide)
  refine kg_X9_singleSign_0 hq _ ⟨fun e => ?_, fun e => ?_, fun e => ?_, fun e => ?_, fun e => ?_, fun e => ?_, fun e => ?_, fun e => ?_, fun e => ?_, fun e => ?_, fun e => ?_, fun e => ?_, fun e => ?_⟩
  case' refine_13 =>
    refine ri_i (h _ ?_ (by decide) (by decide))
    unfold sgk
    rw [if_neg no, if_neg n61, if_neg n60, if_neg n62, if_neg (e 43 (by decide)), if_neg (e 45 (by decide)), if_neg (e 42 (by decide)), if_neg (e 47 (by decide)), if_neg (e 40 (by decide)), if_neg (e 41 (by decide)), if_neg (e 123 (by decide)), if_neg (e 125 (by decide)), if_neg (e 91 (by decide)), if_neg (e 93 (by decide)), if_neg (e 59 (by decide)), if_neg (e 44 (by decide))]
    rfl
  all_goals
    refine ri_i (h _ ?_ (by decide) (by decide))
    rw [e]
    decide
theorem kf_sign (hq : kV q) (b0 : Nat → Int32) (N p : Nat) (hl : kL x) (hm : vp_in (x.1 20 7) 702) (eb : b0 = kby x) (eN : N = kln x) (ep : (x.1 20 8).toInt = p) (pn : p < N) (nld : ¬ isLD (b0 p))
    (h : ∀ r x' (m : Nat), fm (skO (x.1 20 7).toNatClampNeg) x x' → TOK b0 N p (kc r) m (x'.1 27 (x.1 20 7).toNatClampNeg) → ¬ r = 0 → ¬ r = 2 → (x'.1 26 (x.1 20 7).toNatClampNeg).toInt = m → (x'.1 20 8).toInt = p + m → p + m ≤ N → F r x') : KT G q (d + 1) zk_X9_sign 0 [(0, vr 20), (1, vi (b0 p)), (2, vi (cby0 b0 N (p + 1)))] [] x (ri F) := by
  have g1 := hl.2
  have uN : (N : Int) = (x.1 20 1).toInt := by
    rw [eN]
    show (((x.1 20 1).toNatClampNeg : Nat) : Int) = _
    rw [t_cl]; have := hl.1; omega
  have k1 : (1 : Int32).toInt = 1 := rfl
  have k2 : (2 : Int32).toInt = 2 := rfl
  obtain ⟨c, ec⟩ : ∃ c, c = b0 p := ⟨_, rfl⟩
  obtain ⟨e, ee⟩ : ∃ e, e = cby0 b0 N (p + 1) := ⟨_, rfl⟩
  rw [← ec, ← ee]
  have two : sg2 c e → p + 2 ≤ N := fun z => by
    have z1 := z.1
    rw [ee] at z1
    by_cases cq : p + 1 < N
    · omega
    · rw [cby0_no cq] at z1; exact absurd z1 (by decide)
  have p53 : ∀ (l3 s : Int32), ((l3 = 0 ∧ s = 1 ∧ ¬ sg2 c e) ∨ (¬ l3 = 0 ∧ s = 2 ∧ sg2 c e)) → KT G q (d + 1) zk_X9_sign 53 [(0, vr 20), (1, vi c), (3, vi l3)] [vi s, vi (x.1 20 7), vr 26] x (ri F) := by
    intro l3 s hs
    refine kg_X9_sign_53 hq _ _ _ _ ⟨hm, fun x2 e2 => ?_⟩
    have m2 : x2.1 20 7 = x.1 20 7 := by rw [e2]; (simp only [si_get, sfl_get, Nat.reduceEqDiff, eq_self, and_false, false_and, and_true, true_and, if_true, if_false, reduceIte, reduceCtorEq])
    refine ⟨by rw [m2]; exact hm, fun x4 e4 => ?_⟩
    have fin : ∀ r : Int32, kc r = sgk c e → ¬ r = 0 → ¬ r = 2 → F r x4 := by
      intro r hr r0 r2
      have s6 : x4.1 26 (x.1 20 7).toNatClampNeg = s := by rw [e4, e2]; (simp only [si_get, sfl_get, Nat.reduceEqDiff, eq_self, and_false, false_and, and_true, true_and, if_true, if_false, reduceIte, reduceCtorEq])
      have s8 : x4.1 20 8 = x.1 20 8 + s := by rw [e4, m2, e2]; (simp only [si_get, sfl_get, Nat.reduceEqDiff, eq_self, and_false, false_and, and_true, true_and, if_true, if_false, reduceIte, reduceCtorEq])
      obtain ⟨m, em, hm2, hN⟩ : ∃ m : Nat, s.toInt = m ∧ ((sg2 c e ∧ m = 2) ∨ (¬ sg2 c e ∧ m = 1)) ∧ p + m ≤ N := by
        rcases hs with ⟨_, rfl, z⟩ | ⟨_, rfl, z⟩
        · exact ⟨1, rfl, Or.inr ⟨z, rfl⟩, by omega⟩
        · exact ⟨2, rfl, Or.inl ⟨z, rfl⟩, two z⟩
      refine h r x4 m ?_ ?_ r0 r2 (by rw [s6]; exact em) (by rw [s8, t_add (by omega) (by omega)]; omega) hN
      · rw [e4, e2]; exact fm_si (fm_si (fm_rf _ _) (Or.inr ⟨Or.inl rfl, rfl⟩)) (Or.inl ⟨rfl, rfl⟩)
      · refine Or.inr (Or.inr (Or.inr ⟨pn, nld, ?_, ?_⟩))
        · rw [hr, ← ec, ee, sgk_c]
        · rw [← ec, ← sg2_c, ← ee]; exact hm2
    have one : ¬ sg2 c e → ∀ v : Int32, sgk c 0 = v → sgk c e = v := fun z v hv => by
      by_cases q61 : e = 61
      · rw [← hv]
        unfold sgk
        unfold sg2 at z
        rw [if_neg z, if_neg (fun w : (0 : Int32) = 61 ∧ _ => absurd w.1 (by decide))]
      · rw [sgk_0 q61]; exact hv
    have sgt : ∀ v w : Int32, sg2 c e → c = w → (if w = 61 then (51 : Int32) else if w = 33 then 52 else if w = 60 then 54 else 56) = v → sgk c e = v := fun v w z hw hv => by
      unfold sgk
      unfold sg2 at z
      rw [if_pos z, hw, hv]
    refine ⟨fun c1 => ⟨fun z => ri_i (fin _ ?_ (by decide) (by decide)), fun z => ri_i (fin _ ?_ (by decide) (by decide))⟩, fun c1 => ⟨fun z => ri_i (fin _ ?_ (by decide) (by decide)), fun z => ri_i (fin _ ?_ (by decide) (by decide))⟩, fun c1 => ⟨fun z => ri_i (fin _ ?_ (by decide) (by decide)), fun z => ri_i (fin _ ?_ (by decide) (by decide))⟩, fun c1 => ⟨fun z => ri_i (fin _ ?_ (by decide) (by decide)), fun z => ri_i (fin _ ?_ (by decide) (by decide))⟩, fun c1 => kf_singleSign hq _ (c1 61 (by decide)) (c1 33 (by decide)) (c1 60 (by decide)) (c1 62 (by decide)) (fun r hr r0 r2 => ri_i (fin r ?_ r0 r2))⟩
    rotate_right
    · have ns : ¬ sg2 c e := fun z => z.2.elim (c1 61 (by decide)) (fun z => z.elim (c1 33 (by decide)) (fun z => z.elim (c1 60 (by decide)) (c1 62 (by decide))))
      rw [hr]
      exact (one ns _ rfl).symm
    all_goals
      rcases hs with ⟨a1, -, a3⟩ | ⟨a1, -, a3⟩
    all_goals first
      | exact absurd a1 z
      | exact absurd z a1
      | (refine (one a3 _ ?_).symm; rw [c1]; decide)
      | (refine (sgt _ _ a3 c1 ?_).symm; decide)
  have p35 : ∀ s : Int32, (s = 0 → ¬ sg2 c e) → (¬ s = 0 → sg2 c e) → KT G q (d + 1) zk_X9_sign 35 [(0, vr 20), (1, vi c)] [vi s] x (ri F) := by
    intro s h0 h1
    exact kg_X9_sign_35 hq _ _ ⟨fun z => p53 _ _ (Or.inl ⟨z, rfl, h0 z⟩), fun z => p53 _ _ (Or.inr ⟨z, rfl, h1 z⟩)⟩
  have p0 : ¬ sg2 c e → KT G q (d + 1) zk_X9_sign 35 [(0, vr 20), (1, vi c)] [vi 0] x (ri F) := fun z => p35 0 (fun _ => z) (fun q => absurd rfl q)
  have p1 : sg2 c e → KT G q (d + 1) zk_X9_sign 35 [(0, vr 20), (1, vi c)] [vi 1] x (ri F) := fun z => p35 1 (fun q => absurd q (by decide)) (fun _ => z)
  exact kg_X9_sign_0 hq _ _ ⟨fun z => p0 (fun w => z w.1), fun z => ⟨fun c1 => p1 ⟨z, Or.inl c1⟩, fun c1 => ⟨fun c2 => p1 ⟨z, Or.inr (Or.inl c2)⟩, fun c2 => ⟨fun c3 => p1 ⟨z, Or.inr (Or.inr (Or.inl c3))⟩, fun c3 => ⟨fun c4 => p0 (fun w => w.2.elim c1 (fun w => w.elim c2 (fun w => w.elim c3 c4))), fun c4 => p1 ⟨z, Or.inr (Or.inr (Or.inr c4))⟩⟩⟩⟩⟩⟩
theorem kf_cutOne (hq : kV q) (b : Nat → Int32) (N p : Nat) (hl : kL x) (hm : vp_in (x.1 20 7) 702) (eb : b = kby x) (eN : N = kln x) (ep : (x.1 20 8).toInt = p) (pn : p < N)
    (h : ∀ r x' (m : Nat), fm (skO (x.1 20 7).toNatClampNeg) x x' → TOK b N p (kc r) m (x'.1 27 (x.1 20 7).toNatClampNeg) → ¬ r = 0 → (r = 2 → x'.1 27 (x.1 20 7).toNatClampNeg = hsh b p m) → (x'.1 26 (x.1 20 7).toNatClampNeg).toInt = m → (x'.1 20 8).toInt = p + m → p + m ≤ N → F r x') : KT G q (d + 9) zk_X9_cutOne 0 [(0, vr 20)] [] x (ri F) := by
  have g1 := hl.2
  have uN : (N : Int) = (x.1 20 1).toInt := by
    rw [eN]
    show (((x.1 20 1).toNatClampNeg : Nat) : Int) = _
    rw [t_cl]; have := hl.1; omega
  have k1 : (1 : Int32).toInt = 1 := rfl
  have cp : (x.1 20 8).toNatClampNeg = p := by rw [t_cl]; omega
  have e1 : (x.1 20 8 + 1).toInt = (x.1 20 8).toInt + 1 := by rw [t_add (by omega) (by omega), k1]
  have e1c : (x.1 20 8 + 1).toNatClampNeg = p + 1 := by rw [t_cl]; omega
  have ld : ∀ {P : gd → Prop}, (∀ y (m : Nat), fm (fun c k => (c = 20 ∧ k = 8) ∨ (c = 26 ∧ k = (x.1 20 7).toNatClampNeg)) x y → RUNq isLD b N p m → (y.1 20 8).toInt = p + m → (y.1 26 (y.1 20 7).toNatClampNeg).toInt = m → kL y → y.1 20 7 = x.1 20 7 → kby y = b → kln y = N → P y) → KT G q (d + 8) zk_X9_passLettersAndDigits 0 [(0, vr 20)] [] x (rv P) := by
    intro P hP
    refine kf_passLD hq hl hm (by omega) (by omega) (fun y m hf run a1 a2 => ?_)
    have em : y.1 20 7 = x.1 20 7 := hf _ _ (by omega)
    have el : y.1 20 1 = x.1 20 1 := hf _ _ (by omega)
    rw [cp, ← eb, ← eN] at run
    refine hP y m hf run (by rw [a1, ep]) (by rw [em]; exact a2) (by unfold kL; rw [el]; exact hl) em ?_ ?_
    · rw [eb]; funext t; unfold kby; rw [hf 21 t (by omega)]
    · rw [eN]; unfold kln; rw [el]
  refine kg_X9_cutOne_0 hq (kf_byteAt hq _ hl (by omega) ?_)
  rw [cp, ← eb, ← eN, cby0_lt pn]
  refine kf_isLetter hq _ (fun r4 h4 => ⟨fun c4 => kf_isDigit hq _ (fun r7 h7 => ⟨fun c7 => kf_byteAt hq _ hl (by omega) ?_, fun c7 => ld (fun y m hf run a1 a2 hly em eby eln => ?_)⟩), fun c4 => ld (fun y m hf run a1 a2 hly em eby eln => ?_)⟩)
  · rw [e1c, ← eb, ← eN]
    exact kf_sign hq b N p hl hm eb eN ep pn (fun z => z.elim (fun z => h4.mpr z c4) (fun z => h7.mpr z c7)) (fun r x' m f1 t1 r0 r2 s0 s1 s2 => ri_i (h r x' m f1 t1 r0 (fun z => absurd z r2) s0 s1 s2))
  · refine kf_wholeOrBad hq _ m hly (by rw [em]; exact hm) (by omega) a2 (by rw [cp, eby]; exact h7.mp c7) (by rw [cp, eln]; exact pn) (by rw [cp, eby, eln]; exact run) (fun r z hz t1 r0 r2 => ri_i ?_)
    rw [em] at hz t1 a2
    rw [cp, eby, eln] at t1
    have z6 : z.1 26 (x.1 20 7).toNatClampNeg = y.1 26 (x.1 20 7).toNatClampNeg := hz _ _ (by omega)
    have z8 : z.1 20 8 = y.1 20 8 := hz _ _ (by omega)
    refine h r z m (fm_tr (fm_w hf (fun c k q => ?_)) (fm_w hz (fun c k q => ?_))) t1 r0 (fun q => absurd q r2) (by rw [z6]; exact a2) (by rw [z8]; exact a1) run.1
    · unfold skO; omega
    · unfold skO; omega
  · refine kf_nameOrWord hq _ m hly (by rw [em]; exact hm) (by omega) a2 (by rw [cp, eby]; exact h4.mp c4) (by rw [cp, eln]; exact pn) (by rw [cp, eby, eln]; exact run) (fun r z hz t1 r0 r3 r2 => ri_i ?_)
    rw [em] at hz t1 a2 r2
    rw [cp, eby] at r2
    rw [cp, eby, eln] at t1
    have z6 : z.1 26 (x.1 20 7).toNatClampNeg = y.1 26 (x.1 20 7).toNatClampNeg := hz _ _ (by omega)
    have z8 : z.1 20 8 = y.1 20 8 := hz _ _ (by omega)
    refine h r z m (fm_tr (fm_w hf (fun c k q => ?_)) (fm_w hz (fun c k q => ?_))) t1 r0 r2 (by rw [z6]; exact a2) (by rw [z8]; exact a1) run.1
    · unfold skO; omega
    · unfold skO; omega
end KCF
