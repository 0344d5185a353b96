/-- readTokens: the tokens are those of the text -/
theorem sf_readTokens {G : mG} {d : Nat} {x : gd} {Fv : gd → Prop} (ht : TK x) (hs0 : 0 ≤ (x.1 0 2).toInt) (hs : (x.1 0 2).toInt ≤ 3000) (h : ∀ x', TK x' → md [3] [5, 6, 7, 8] x x' → (∃ e, TSq (tby x) (tln x) e (x'.1 5) (tP x') (tZ x') (x'.1 7)) → Fv x') : MT G (d + 8) z_readTokens 0 [(0, vr 0)] [] x (rv Fv) := by
  obtain ⟨b, eb⟩ : ∃ b, b = tby x := ⟨_, rfl⟩
  obtain ⟨N, eN⟩ : ∃ N, N = tln x := ⟨_, rfl⟩
  rw [← eb, ← eN] at h
  have uN : (N : Int) = (x.1 0 2).toInt := by rw [eN]; show (((x.1 0 2).toNatClampNeg : Nat) : Int) = _; rw [t_cl]; omega
  have k0 : (0 : Int32).toInt = 0 := rfl
  have k1 : (1 : Int32).toInt = 1 := rfl
  have k2 : (2 : Int32).toInt = 2 := rfl
  have k9 : (9 : Int32).toInt = 9 := rfl
  have k12 : (12 : Int32).toInt = 12 := rfl
  have k700 : (700 : Int32).toInt = 700 := rfl
  have zb : ∀ {z : gd}, md [3] [5, 6, 7, 8] x z → tby z = b ∧ tln z = N ∧ z.1 0 2 = x.1 0 2 := fun m => by
    have e2 := m.1 2 (by decide)
    have a2 := m.2.1 2 (by decide) (by decide)
    refine ⟨?_, ?_, e2⟩
    · rw [eb]; funext p; unfold tby; rw [a2]
    · rw [eN]; unfold tln; rw [e2]
  have loop : ∀ (n : Nat) (z : gd) (p : Int32) (c : Nat), TK z → md [3] [5, 6, 7, 8] x z → (z.1 0 3).toInt = c → 701 - (c : Int) ≤ n → c ≤ 701 → 0 ≤ p.toInt → p.toInt ≤ (z.1 0 2).toInt → TC b N c p.toNatClampNeg (z.1 5) (tP z) (tZ z) (z.1 7) → MT G (d + 8) z_readTokens 7 [(0, vr 0), (1, vi p)] [] z (rv Fv) := by
    intro n
    have done : ∀ (z : gd) (p : Int32) (c : Nat), TK z → md [3] [5, 6, 7, 8] x z → c = 701 → TC b N c p.toNatClampNeg (z.1 5) (tP z) (tZ z) (z.1 7) → rv Fv none z := by
      intro z p c tz mz hc tc
      obtain ⟨t1, t2, t3, t4⟩ := tc
      subst hc
      exact rv_i (h z tz mz ⟨700, Nat.le_refl _, (t2 (by omega)).1, fun j hj => t3 j (by omega), fun j hj => (t4 j (by omega)).1, fun j hj => (t4 j (by omega)).2, Or.inr (Or.inr rfl)⟩)
    induction n with
    | zero =>
      intro z p c tz mz hc hn c7 hp hps tc
      refine sg_readTokens_7 _ ⟨fun _ => done z p c tz mz (by omega) tc, fun q => ?_⟩
      rw [t_lt] at q
      omega
    | succ n ih =>
      intro z p0 c tz mz hc hn c7 hp hps tc
      obtain ⟨b1, b2, e2⟩ := zb mz
      have zs : (z.1 0 2).toInt ≤ 3000 := by rw [e2]; exact hs
      have zs0 : 0 ≤ (z.1 0 2).toInt := by rw [e2]; exact hs0
      have uz : (N : Int) = (z.1 0 2).toInt := by rw [e2]; exact uN
      have bt : ∀ q : Int32, 0 ≤ q.toInt → bAt z q = cby1 b N q.toNatClampNeg := fun q hq => by rw [bAt_is hq zs0, b1, b2]
      refine sg_readTokens_7 _ ⟨fun q => done z p0 c tz mz (by rw [t_lt] at q; omega) tc, fun q7 => ?_⟩
      rw [t_lt] at q7
      have hi : vp_in (z.1 0 3) 710 := by rw [vp_in_iff]; omega
      have cc : (z.1 0 3).toNatClampNeg = c := by rw [t_cl]; omega
      have c350 : ∀ (p n v w : Int32), 0 ≤ p.toInt → 0 ≤ n.toInt → p.toInt + n.toInt ≤ (z.1 0 2).toInt → 0 ≤ v.toInt → p.toNatClampNeg = lx b N p0.toNatClampNeg → TOK b N p.toNatClampNeg w n.toNatClampNeg v → MT G (d + 8) z_readTokens 350 [(0, vr 0), (1, vi p), (4, vi n), (5, vi v), (6, vi w)] [] z (rv Fv) := by
        intro p n v w q0 q1 q2 qv hlx htk
        refine sg_readTokens_350 _ _ _ _ (sf_put _ _ _ _ tz hi q0 q1 (by omega) qv (fun x1 t1 m1 e1 f5 f6 f8 f7 => ?_))
        rw [cc] at f5 f6 f8 f7
        have m2 : md [3] [5, 6, 7, 8] x x1 := md_tr mz m1 rfl rfl
        have tu := TC_up (K' := x1.1 5) (P' := tP x1) (Z' := tZ x1) (V' := x1.1 7) (q := p.toNatClampNeg) (m := n.toNatClampNeg) tc f5 (fun j => by show (x1.1 6 j).toNatClampNeg = if j = c then _ else (z.1 6 j).toNatClampNeg; rw [f6]; split <;> rfl) (fun j => by show (x1.1 8 j).toNatClampNeg = if j = c then _ else (z.1 8 j).toNatClampNeg; rw [f8]; split <;> rfl) f7 hlx htk
        obtain ⟨u1, u2, u3, u4, u5, u6, u7⟩ := tu
        have fin : (w = 0 ∨ w = 3) → rv Fv none x1 := fun q => rv_i (h x1 t1 m2 ⟨c, by omega, u2, u3, fun j hj => by
          by_cases cj : j = c
          · rw [cj]; exact u4
          · exact (u1 j (by omega)).1, fun j hj => (u1 j hj).2, by rw [u7]; exact q.elim Or.inl (fun q => Or.inr (Or.inl q))⟩)
        refine ⟨fun q => fin (Or.inl q), fun q => ⟨fun q3 => ?_, fun q3 => fin (Or.inr q3)⟩⟩
        have e3 : (x1.1 0 3).toInt = (z.1 0 3).toInt + 1 := by rw [e1]; exact t_add (by show _ ≤ _ + (1 : Int); omega) (by show _ + (1 : Int) ≤ _; omega)
        have e4 : x1.1 0 2 = z.1 0 2 := m1.1 2 (by decide)
        have e5 : (p + n).toInt = p.toInt + n.toInt := t_add (by omega) (by omega)
        have e6 : (p + n).toNatClampNeg = p.toNatClampNeg + n.toNatClampNeg := by rw [t_cl, t_cl, t_cl]; omega
        refine ih x1 _ (c + 1) t1 m2 (by omega) (by omega) (by omega) (by omega) (by rw [e4]; omega) ⟨fun z => by omega, fun _ => ⟨u2, by rw [e6]; show _ = tP x1 (c + 1 - 1) + tZ x1 (c + 1 - 1); rw [Nat.add_sub_cancel, u5, u6]⟩, fun j hj => u3 j (by omega), fun j hj => ?_⟩
        by_cases cj : j = c
        · rw [cj]
          exact ⟨u4, by rw [u7]; exact q, by rw [u7]; exact q3⟩
        · exact u1 j (by omega)
      -- letters and digits
      have c140 : ∀ (k : Nat) (p n : Int32), 0 ≤ p.toInt → 0 ≤ n.toInt → p.toInt + n.toInt ≤ (z.1 0 2).toInt → (z.1 0 2).toInt - (p.toInt + n.toInt) ≤ k → p.toNatClampNeg = lx b N p0.toNatClampNeg → p.toInt < (z.1 0 2).toInt → isL (b p.toNatClampNeg) → (∀ i, i < n.toNatClampNeg → isLD (b (p.toNatClampNeg + i))) → MT G (d + 8) z_readTokens 140 [(0, vr 0), (1, vi p), (4, vi n), (5, vi 0)] [] z (rv Fv) := by
        intro k
        have stop : ∀ (p n : Int32), 0 ≤ p.toInt → 0 ≤ n.toInt → p.toInt + n.toInt ≤ (z.1 0 2).toInt → p.toNatClampNeg = lx b N p0.toNatClampNeg → p.toInt < (z.1 0 2).toInt → isL (b p.toNatClampNeg) → (∀ i, i < n.toNatClampNeg → isLD (b (p.toNatClampNeg + i))) → ¬ isLD (cby1 b N (p.toNatClampNeg + n.toNatClampNeg)) → MT G (d + 7) z_wordOf 0 [(0, vr 0), (1, vi p), (2, vi n)] [] z (ri (fun r12 x11 => ((¬ (r12 = (1 : Int32)) → MT G (d + 8) z_readTokens 350 [(0, vr 0), (1, vi p), (4, vi n), (5, vi 0), (6, vi r12)] [] x11 (rv Fv)) ∧ (r12 = (1 : Int32) → ((n ≤ (12 : Int32) → MT G (d + 8) z_readTokens 350 [(0, vr 0), (1, vi p), (4, vi n), (5, vi 0), (6, vi r12)] [] x11 (rv Fv)) ∧ (¬ (n ≤ (12 : Int32)) → MT G (d + 8) z_readTokens 350 [(0, vr 0), (1, vi p), (4, vi n), (5, vi 0), (6, vi 3)] [] x11 (rv Fv))))))) := by
          intro p n q0 q1 q2 hlx hpl hl hr hno
          have up := t_cl p
          have un := t_cl n
          have run : RUNq isLD b N p.toNatClampNeg n.toNatClampNeg := ⟨by omega, hr, fun q => hno (by rw [cby1_lt q.1]; exact q.2)⟩
          refine sf_wordOf p n q0 q1 zs0 zs q2 (fun r hr2 => ?_)
          rw [b1] at hr2
          rcases hr2 with ⟨w, hw, hd, er⟩ | ⟨er, hd⟩
          · have n1 : ¬ r = 1 := fun q => by
              rw [er] at q
              have := ofN_inj (b := 1) (by omega) (by omega) q
              omega
            exact ⟨fun _ => c350 _ _ _ _ q0 q1 q2 (by decide) hlx (Or.inr (Or.inl ⟨by omega, hl, run, Or.inl ⟨w, hw, hd, er⟩⟩)), fun q => absurd q n1⟩
          · refine ⟨fun q => absurd er q, fun _ => ⟨fun q => c350 _ _ _ _ q0 q1 q2 (by decide) hlx (Or.inr (Or.inl ⟨by omega, hl, run, Or.inr ⟨hd, Or.inl ⟨?_, er⟩⟩⟩)), fun q => c350 _ _ _ _ q0 q1 q2 (by decide) hlx (Or.inr (Or.inl ⟨by omega, hl, run, Or.inr ⟨hd, Or.inr ⟨?_, rfl⟩⟩⟩))⟩⟩
            · rw [t_le, k12] at q; omega
            · rw [t_le, k12] at q; omega
        induction k with
        | zero =>
          intro p n q0 q1 q2 q3 hlx hpl hl hr
          have up := t_cl p
          have un := t_cl n
          have e5 : (p + n).toInt = p.toInt + n.toInt := t_add (by omega) (by omega)
          have e6 : (p + n).toNatClampNeg = p.toNatClampNeg + n.toNatClampNeg := by rw [t_cl]; omega
          have no : cby1 b N (p.toNatClampNeg + n.toNatClampNeg) = -1 := cby1_no (by omega)
          have hno : ¬ isLD (cby1 b N (p.toNatClampNeg + n.toNatClampNeg)) := by rw [no]; decide
          have bp := bt (p + n) (by omega)
          rw [e6] at bp
          refine sg_readTokens_140 _ _ _ (sp_byteAt _ (by omega) zs (sp_isLetter _ ⟨fun c1 => ?_, fun c1 => sp_byteAt _ (by omega) zs (sp_isDigit _ ⟨fun c2 => stop p n q0 q1 q2 hlx hpl hl hr hno, fun c2 => ?_⟩)⟩))
          · rw [bp] at c1
            exact absurd (Or.inl (bi_ne.mp c1)) hno
          · rw [bp] at c2
            exact absurd (Or.inr (bi_ne.mp c2)) hno
        | succ k ih2 =>
          intro p n q0 q1 q2 q3 hlx hpl hl hr
          have up := t_cl p
          have un := t_cl n
          have e5 : (p + n).toInt = p.toInt + n.toInt := t_add (by omega) (by omega)
          have e6 : (p + n).toNatClampNeg = p.toNatClampNeg + n.toNatClampNeg := by rw [t_cl]; omega
          have bp := bt (p + n) (by omega)
          rw [e6] at bp
          have go : isLD (cby1 b N (p.toNatClampNeg + n.toNatClampNeg)) → MT G (d + 8) z_readTokens 140 [(0, vr 0), (1, vi p), (4, vi (n + 1)), (5, vi 0)] [] z (rv Fv) := by
            intro q
            have q4 : p.toNatClampNeg + n.toNatClampNeg < N := by
              by_cases cq : p.toNatClampNeg + n.toNatClampNeg < N
              · exact cq
              · rw [cby1_no cq] at q; exact absurd q (by decide)
            rw [cby1_lt q4] at q
            have e7 : (n + 1).toInt = n.toInt + 1 := t_add (by show _ ≤ _ + (1 : Int); omega) (by show _ + (1 : Int) ≤ _; omega)
            have e8 : (n + 1).toNatClampNeg = n.toNatClampNeg + 1 := by rw [t_cl]; omega
            refine ih2 _ _ q0 (by omega) (by omega) (by omega) hlx hpl hl (fun i hi => ?_)
            rw [e8] at hi
            by_cases ci : i = n.toNatClampNeg
            · rw [ci]; exact q
            · exact hr i (by omega)
          refine sg_readTokens_140 _ _ _ (sp_byteAt _ (by omega) zs (sp_isLetter _ ⟨fun c1 => go ?_, fun c1 => sp_byteAt _ (by omega) zs (sp_isDigit _ ⟨fun c2 => stop p n q0 q1 q2 hlx hpl hl hr ?_, fun c2 => go ?_⟩)⟩))
          · rw [bp] at c1; exact Or.inl (bi_ne.mp c1)
          · rw [bp] at c1 c2; exact fun z => z.elim (bi_eq.mp c1) (bi_eq.mp c2)
          · rw [bp] at c2; exact Or.inr (bi_ne.mp c2)
      -- digits
      have c214 : ∀ (k : Nat) (p n v : Int32), 0 ≤ p.toInt → 0 ≤ n.toInt → p.toInt + n.toInt ≤ (z.1 0 2).toInt → (z.1 0 2).toInt - (p.toInt + n.toInt) ≤ k → vW n v → p.toNatClampNeg = lx b N p0.toNatClampNeg → p.toInt < (z.1 0 2).toInt → isD (b p.toNatClampNeg) → (∀ i, i < n.toNatClampNeg → isD (b (p.toNatClampNeg + i))) → (n.toNatClampNeg ≤ 9 → v = whv b p.toNatClampNeg n.toNatClampNeg) → MT G (d + 8) z_readTokens 214 [(0, vr 0), (1, vi p), (4, vi n), (5, vi v)] [] z (rv Fv) := by
        intro k
        have stop : ∀ (p n v : Int32), 0 ≤ p.toInt → 0 ≤ n.toInt → p.toInt + n.toInt ≤ (z.1 0 2).toInt → vW n v → p.toNatClampNeg = lx b N p0.toNatClampNeg → p.toInt < (z.1 0 2).toInt → isD (b p.toNatClampNeg) → (∀ i, i < n.toNatClampNeg → isD (b (p.toNatClampNeg + i))) → (n.toNatClampNeg ≤ 9 → v = whv b p.toNatClampNeg n.toNatClampNeg) → ¬ isD (cby1 b N (p.toNatClampNeg + n.toNatClampNeg)) → (((9 : Int32) < n → MT G (d + 8) z_readTokens 350 [(0, vr 0), (1, vi p), (4, vi n), (5, vi v), (6, vi 3)] [] z (rv Fv)) ∧ (¬ ((9 : Int32) < n) → MT G (d + 7) z_byteAt 0 [(0, vr 0), (1, vi (p + n))] [] z (ri (fun r8 x7 => MT G (d + 7) z_isLetter 0 [(0, vi r8)] [] x7 (ri (fun r10 x9 => ((r10 = (0 : Int32) → MT G (d + 8) z_readTokens 350 [(0, vr 0), (1, vi p), (4, vi n), (5, vi v), (6, vi 2)] [] x9 (rv Fv)) ∧ (¬ (r10 = (0 : Int32)) → MT G (d + 8) z_readTokens 350 [(0, vr 0), (1, vi p), (4, vi n), (5, vi v), (6, vi 3)] [] x9 (rv Fv))))))))) := by
          intro p n v q0 q1 q2 qv hlx hpl hd hr hv hno
          have up := t_cl p
          have un := t_cl n
          have e5 : (p + n).toInt = p.toInt + n.toInt := t_add (by omega) (by omega)
          have e6 : (p + n).toNatClampNeg = p.toNatClampNeg + n.toNatClampNeg := by rw [t_cl]; omega
          have bp := bt (p + n) (by omega)
          rw [e6] at bp
          obtain ⟨q, hq⟩ : ∃ q, RUNq isLD b N p.toNatClampNeg q := RUNq_ex (N - p.toNatClampNeg) _ (Nat.le_refl _) (by omega)
          have hqn : n.toNatClampNeg ≤ q := RUNq_ge hq (by omega) (fun i hi => Or.inr (hr i hi))
          refine ⟨fun c9 => c350 _ _ _ _ q0 q1 q2 qv.1 hlx (Or.inr (Or.inr (Or.inl ⟨by omega, hd, Or.inr ⟨rfl, q, hq, Or.inl ?_⟩⟩))), fun c9 => sp_byteAt _ (by omega) zs (sp_isLetter _ ⟨fun c1 => c350 _ _ _ _ q0 q1 q2 qv.1 hlx (Or.inr (Or.inr (Or.inl ⟨by omega, hd, Or.inl ⟨rfl, ⟨by omega, fun i hi => Or.inr (hr i hi), fun z => ?_⟩, ?_, hr, hv ?_⟩⟩))), fun c1 => c350 _ _ _ _ q0 q1 q2 qv.1 hlx (Or.inr (Or.inr (Or.inl ⟨by omega, hd, Or.inr ⟨rfl, q, hq, Or.inr ⟨n.toNatClampNeg, ?_, ?_⟩⟩⟩)))⟩)⟩
          · rw [t_lt, k9] at c9; omega
          · rw [bp, cby1_lt z.1] at c1
            rw [cby1_lt z.1] at hno
            exact z.2.elim (bi_eq.mp c1) hno
          · rw [t_lt, k9] at c9; omega
          · rw [t_lt, k9] at c9; omega
          · have l1 := bi_ne.mp c1
            rw [bp] at l1
            have q4 : p.toNatClampNeg + n.toNatClampNeg < N := by
              by_cases cq : p.toNatClampNeg + n.toNatClampNeg < N
              · exact cq
              · rw [cby1_no cq] at l1; exact absurd l1 (by decide)
            rw [cby1_lt q4] at l1
            have := RUNq_ge hq (k := n.toNatClampNeg + 1) (by omega) (fun i hi => by
              by_cases ci : i = n.toNatClampNeg
              · rw [ci]; exact Or.inl l1
              · exact Or.inr (hr i (by omega)))
            omega
          · have l1 := bi_ne.mp c1
            rw [bp] at l1
            have q4 : p.toNatClampNeg + n.toNatClampNeg < N := by
              by_cases cq : p.toNatClampNeg + n.toNatClampNeg < N
              · exact cq
              · rw [cby1_no cq] at l1; exact absurd l1 (by decide)
            rw [cby1_lt q4] at hno
            exact hno
        induction k with
        | zero =>
          intro p n v q0 q1 q2 q3 qv hlx hpl hd hr hv
          have up := t_cl p
          have un := t_cl n
          have e5 : (p + n).toInt = p.toInt + n.toInt := t_add (by omega) (by omega)
          have e6 : (p + n).toNatClampNeg = p.toNatClampNeg + n.toNatClampNeg := by rw [t_cl]; omega
          have no : cby1 b N (p.toNatClampNeg + n.toNatClampNeg) = -1 := cby1_no (by omega)
          have hno : ¬ isD (cby1 b N (p.toNatClampNeg + n.toNatClampNeg)) := by rw [no]; decide
          have bp := bt (p + n) (by omega)
          rw [e6] at bp
          refine sg_readTokens_214 _ _ _ (sp_byteAt _ (by omega) zs (sp_isDigit _ ⟨fun c1 => stop p n v q0 q1 q2 qv hlx hpl hd hr hv hno, fun c1 => ?_⟩))
          rw [bp] at c1
          exact absurd (bi_ne.mp c1) hno
        | succ k ih2 =>
          intro p n v q0 q1 q2 q3 qv hlx hpl hd hr hv
          have up := t_cl p
          have un := t_cl n
          have e5 : (p + n).toInt = p.toInt + n.toInt := t_add (by omega) (by omega)
          have e6 : (p + n).toNatClampNeg = p.toNatClampNeg + n.toNatClampNeg := by rw [t_cl]; omega
          have bp := bt (p + n) (by omega)
          rw [e6] at bp
          have go : isD (cby1 b N (p.toNatClampNeg + n.toNatClampNeg)) → ∀ v, ((n + 1).toInt = n.toInt + 1 → vW (n + 1) v) → (n.toNatClampNeg + 1 ≤ 9 → v = whv b p.toNatClampNeg (n.toNatClampNeg + 1)) → MT G (d + 8) z_readTokens 214 [(0, vr 0), (1, vi p), (4, vi (n + 1)), (5, vi v)] [] z (rv Fv) := by
            intro q v qv2 hv2
            have q4 : p.toNatClampNeg + n.toNatClampNeg < N := by
              by_cases cq : p.toNatClampNeg + n.toNatClampNeg < N
              · exact cq
              · rw [cby1_no cq] at q; exact absurd q (by decide)
            rw [cby1_lt q4] at q
            have e7 : (n + 1).toInt = n.toInt + 1 := t_add (by show _ ≤ _ + (1 : Int); omega) (by show _ + (1 : Int) ≤ _; omega)
            have e8 : (n + 1).toNatClampNeg = n.toNatClampNeg + 1 := by rw [t_cl]; omega
            refine ih2 _ _ _ q0 (by omega) (by omega) (by omega) (qv2 e7) hlx hpl hd (fun i hi => ?_) (by rw [e8]; exact hv2)
            rw [e8] at hi
            by_cases ci : i = n.toNatClampNeg
            · rw [ci]; exact q
            · exact hr i (by omega)
          refine sg_readTokens_214 _ _ _ (sp_byteAt _ (by omega) zs (sp_isDigit _ ⟨fun c1 => stop p n v q0 q1 q2 qv hlx hpl hd hr hv (by rw [bp] at c1; exact bi_eq.mp c1), fun c1 => ⟨fun c9 => go (by rw [bp] at c1; exact bi_ne.mp c1) _ (fun e => vW_keep q1 c9 e qv) (fun z => ?_), fun c9 => sp_byteAt _ (by omega) zs (go (by rw [bp] at c1; exact bi_ne.mp c1) _ (fun e => vW_up q1 c9 e (bi_ne.mp c1) qv) (fun z => ?_))⟩⟩))
          · rw [t_le, k9] at c9; omega
          · have q := bi_ne.mp c1
            rw [bp] at q
            have q4 : p.toNatClampNeg + n.toNatClampNeg < N := by
              by_cases cq : p.toNatClampNeg + n.toNatClampNeg < N
              · exact cq
              · rw [cby1_no cq] at q; exact absurd q (by decide)
            rw [bp, cby1_lt q4, hv (by omega)]
            rfl
      -- what begins at p
      have disp : ∀ (p m : Int32), 0 ≤ p.toInt → p.toInt ≤ (z.1 0 2).toInt → m = 0 → p.toNatClampNeg = lx b N p0.toNatClampNeg → MT G (d + 8) z_readTokens 19 [(0, vr 0), (1, vi p), (2, vi m)] [] z (rv Fv) := by
        intro p m q0 q1 hm hlx
        have up := t_cl p
        have bp := bt p q0
        refine sg_readTokens_19 _ _ ⟨fun _ => ?_, fun c1 => absurd hm c1⟩
        have lt : ¬ bAt z p = -1 → p.toNatClampNeg < N := fun q => by
          by_cases cq : p.toNatClampNeg < N
          · exact cq
          · rw [bp, cby1_no cq] at q; exact absurd rfl q
        refine sp_byteAt _ q0 zs (sp_isLetter _ ⟨fun c1 => sp_isDigit _ ⟨fun c2 => ⟨fun c3 => c350 _ _ _ _ q0 (by decide) (by rw [k0]; omega) (by decide) hlx (Or.inl ⟨?_, rfl⟩), fun c3 => ?_⟩, fun c2 => ?_⟩, fun c1 => ?_⟩)
        · by_cases cq : p.toNatClampNeg < N
          · rw [bp, cby1_lt cq, ← b1] at c3; exact absurd c3 tby_ne
          · omega
        · have q3 := lt c3
          have e6 : (p + 1).toInt = p.toInt + 1 := t_add (by rw [k1]; omega) (by rw [k1]; omega)
          have e7 : (p + 1).toNatClampNeg = p.toNatClampNeg + 1 := by rw [t_cl]; omega
          have bp1 := bt (p + 1) (by omega)
          rw [e7] at bp1
          rw [bp, cby1_lt q3] at c1 c2
          have nld : ¬ isLD (b p.toNatClampNeg) := fun q => q.elim (bi_eq.mp c1) (bi_eq.mp c2)
          rw [bp, cby1_lt q3]
          refine sp_byteAt _ (by omega) zs (sf_signOf _ _ ?_)
          rw [bp1]
          have two : sg2 (b p.toNatClampNeg) (cby1 b N (p.toNatClampNeg + 1)) → MT G (d + 8) z_readTokens 350 [(0, vr 0), (1, vi p), (4, vi 2), (5, vi 0), (6, vi (sgk (b p.toNatClampNeg) (cby1 b N (p.toNatClampNeg + 1))))] [] z (rv Fv) := by
            intro q
            have q4 : p.toNatClampNeg + 1 < N := by
              by_cases cq : p.toNatClampNeg + 1 < N
              · exact cq
              · have q1 := q.1
                rw [cby1_no cq] at q1; exact absurd q1 (by decide)
            exact c350 _ _ _ _ q0 (by decide) (by rw [k2]; omega) (by decide) hlx (Or.inr (Or.inr (Or.inr ⟨q3, nld, rfl, Or.inl ⟨q, rfl⟩⟩)))
          have iff2 : ∀ v : Int32, (v = 51 ∨ v = 52 ∨ v = 54 ∨ v = 56) → sgk (b p.toNatClampNeg) (cby1 b N (p.toNatClampNeg + 1)) = v → sg2 (b p.toNatClampNeg) (cby1 b N (p.toNatClampNeg + 1)) := by
            intro v hv e
            by_cases cs : sg2 (b p.toNatClampNeg) (cby1 b N (p.toNatClampNeg + 1))
            · exact cs
            · unfold sgk at e
              unfold sg2 at cs
              rw [if_neg cs] at e
              rcases hv with rfl | rfl | rfl | rfl
              all_goals
                refine absurd e ?_
                repeat' (first | apply ite_n | decide)
          have sg2i : sg2 (b p.toNatClampNeg) (cby1 b N (p.toNatClampNeg + 1)) → sgk (b p.toNatClampNeg) (cby1 b N (p.toNatClampNeg + 1)) = 51 ∨ sgk (b p.toNatClampNeg) (cby1 b N (p.toNatClampNeg + 1)) = 52 ∨ sgk (b p.toNatClampNeg) (cby1 b N (p.toNatClampNeg + 1)) = 54 ∨ sgk (b p.toNatClampNeg) (cby1 b N (p.toNatClampNeg + 1)) = 56 := by
            intro cs
            unfold sgk
            unfold sg2 at cs
            rw [if_pos cs]
            by_cases a1 : b p.toNatClampNeg = 61
            · rw [if_pos a1]; exact Or.inl rfl
            · rw [if_neg a1]
              by_cases a2 : b p.toNatClampNeg = 33
              · rw [if_pos a2]; exact Or.inr (Or.inl rfl)
              · rw [if_neg a2]
                by_cases a3 : b p.toNatClampNeg = 60
                · rw [if_pos a3]; exact Or.inr (Or.inr (Or.inl rfl))
                · rw [if_neg a3]; exact Or.inr (Or.inr (Or.inr rfl))
          exact ⟨fun q => two (iff2 51 (Or.inl rfl) q), fun n1 => ⟨fun q => two (iff2 52 (Or.inr (Or.inl rfl)) q), fun n2 => ⟨fun q => two (iff2 54 (Or.inr (Or.inr (Or.inl rfl))) q), fun n3 => ⟨fun n4 => c350 _ _ _ _ q0 (by decide) (by rw [k1]; omega) (by decide) hlx (Or.inr (Or.inr (Or.inr ⟨q3, nld, rfl, Or.inr ⟨fun w => (sg2i w).elim n1 (fun w => w.elim n2 (fun w => w.elim n3 n4)), rfl⟩⟩))), fun q => two (iff2 56 (Or.inr (Or.inr (Or.inr rfl))) q)⟩⟩⟩⟩
        · have dd := bi_ne.mp c2
          have q3 := lt (isD_ne dd)
          rw [bp, cby1_lt q3] at dd
          exact c214 _ _ _ _ q0 (by decide) (by rw [k0]; omega) (Int.self_le_toNat _) vW_0 hlx (by omega) dd (fun i hi => absurd hi (Nat.not_lt_zero _)) (fun _ => rfl)
        · have dd := bi_ne.mp c1
          have q3 := lt (isL_ne dd)
          rw [bp, cby1_lt q3] at dd
          exact c140 _ _ _ q0 (by decide) (by rw [k0]; omega) (Int.self_le_toNat _) hlx (by omega) dd (fun i hi => absurd hi (Nat.not_lt_zero _))
      -- blanks and remarks
      have c19 : ∀ (k : Nat) (p : Int32), 0 ≤ p.toInt → p.toInt ≤ (z.1 0 2).toInt → (z.1 0 2).toInt - p.toInt ≤ k → lx b N p0.toNatClampNeg = lxr b N false p.toNatClampNeg → MT G (d + 8) z_readTokens 19 [(0, vr 0), (1, vi p), (2, vi 1)] [] z (rv Fv) := by
        intro k
        induction k with
        | zero =>
          intro p q0 q1 q2 hlx
          have up := t_cl p
          rw [lxr_end (by omega)] at hlx
          refine sg_readTokens_19 _ _ ⟨fun c1 => absurd c1 (by decide), fun _ => ?_⟩
          have no : bAt z p = -1 := by rw [bt p q0, cby1_no (by omega)]
          refine sp_byteAt _ q0 zs ?_
          rw [no]
          have fin : MT G (d + 8) z_readTokens 58 [(0, vr 0), (1, vi p), (3, vi (-1))] [vi 0] z (rv Fv) := by
            refine sg_readTokens_58 _ _ _ ⟨fun _ => sg_readTokens_69 _ _ _ _ ⟨fun _ => ?_, fun q => absurd q (by decide)⟩, fun q => absurd rfl q⟩
            have e6 : (p + 0).toInt = p.toInt := by rw [t_add (by rw [k0]; omega) (by rw [k0]; omega), k0]; omega
            have ep : p + 0 = p := t_eq.mpr e6
            rw [ep]
            exact disp _ _ q0 q1 rfl hlx.symm
          exact ⟨fun q => absurd q (by decide), fun _ => ⟨fun q => absurd q (by decide), fun _ => ⟨fun q => absurd q (by decide), fun _ => ⟨fun _ => fin, fun q => absurd q (by decide)⟩⟩⟩⟩
        | succ k ih2 =>
          intro p q0 q1 q2 hlx
          have up := t_cl p
          have bp := bt p q0
          refine sg_readTokens_19 _ _ ⟨fun c1 => absurd c1 (by decide), fun _ => ?_⟩
          refine sp_byteAt _ q0 zs ?_
          have e6 : (p + 0).toInt = p.toInt := by rw [t_add (by rw [k0]; omega) (by rw [k0]; omega), k0]; omega
          have ep : p + 0 = p := t_eq.mpr e6
          have e7 : p.toInt < (z.1 0 2).toInt → (p + 1).toInt = p.toInt + 1 := fun q => t_add (by rw [k1]; omega) (by rw [k1]; omega)
          have e8 : p.toInt < (z.1 0 2).toInt → (p + 1).toNatClampNeg = p.toNatClampNeg + 1 := fun q => by rw [t_cl, e7 q]; omega
          have lt : ¬ bAt z p = -1 → p.toNatClampNeg < N := fun q => by
            by_cases cq : p.toNatClampNeg < N
            · exact cq
            · rw [bp, cby1_no cq] at q; exact absurd rfl q
          -- a remark
          have c91 : ∀ (n : Nat) (p : Int32), 0 ≤ p.toInt → p.toInt ≤ (z.1 0 2).toInt → (z.1 0 2).toInt - p.toInt ≤ n → (z.1 0 2).toInt - p.toInt ≤ k → lx b N p0.toNatClampNeg = lxr b N true p.toNatClampNeg → MT G (d + 8) z_readTokens 91 [(0, vr 0), (1, vi p), (2, vi 1)] [] z (rv Fv) := by
            intro n
            induction n with
            | zero =>
              intro p q0 q1 q2 q3 hl
              have up := t_cl p
              refine sg_readTokens_91 _ _ ⟨fun _ => ih2 _ q0 q1 q3 ?_, fun c1 => ?_⟩
              · rw [hl, lxr_end (by omega), lxr_end (by omega)]
              · rw [t_le] at c1; omega
            | succ n ih3 =>
              intro p q0 q1 q2 q3 hl
              have up := t_cl p
              have bp := bt p q0
              refine sg_readTokens_91 _ _ ⟨fun c1 => ih2 _ q0 q1 q3 ?_, fun c1 => sp_byteAt _ q0 zs ⟨fun c2 => ih2 _ q0 q1 q3 ?_, fun c2 => ?_⟩⟩
              · rw [t_le] at c1
                rw [hl, lxr_end (by omega), lxr_end (by omega)]
              · rw [t_le] at c1
                rw [bp, cby1_lt (by omega)] at c2
                have lt9 : p.toNatClampNeg < N := by omega
                rw [hl, lxr_step (r := true) lt9, lxr_step (r := false) lt9, if_pos c2, if_pos c2]
              · rw [t_le] at c1
                have e8 : (p + 1).toInt = p.toInt + 1 := t_add (by rw [k1]; omega) (by rw [k1]; omega)
                have e9 : (p + 1).toNatClampNeg = p.toNatClampNeg + 1 := by rw [t_cl]; omega
                refine ih3 _ (by omega) (by omega) (by omega) (by omega) ?_
                rw [bp, cby1_lt (by omega)] at c2
                have lt9 : p.toNatClampNeg < N := by omega
                rw [hl, e9, lxr_step lt9, if_neg c2]
                by_cases c3 : b p.toNatClampNeg = 47 ∧ (if p.toNatClampNeg + 1 < N then b (p.toNatClampNeg + 1) else 0) = 47
                · rw [if_pos c3]
                · rw [if_neg c3, if_neg (fun q => absurd q.1 (by decide))]
          have blank : ¬ bAt z p = -1 → (bAt z p = 32 ∨ bAt z p = 9 ∨ bAt z p = 13 ∨ bAt z p = 10) → MT G (d + 8) z_readTokens 58 [(0, vr 0), (1, vi p), (3, vi (bAt z p))] [vi 1] z (rv Fv) := by
            intro q q9
            have q3 := lt q
            have n47 : ¬ bAt z p = 47 := fun e => by rw [e] at q9; exact absurd q9 (by decide)
            refine sg_readTokens_58 _ _ _ ⟨fun z9 => absurd z9 (by decide), fun _ => sg_readTokens_69 _ _ _ _ ⟨fun _ => ih2 _ (by rw [e7 (by omega)]; omega) (by rw [e7 (by omega)]; omega) (by rw [e7 (by omega)]; omega) ?_, fun z9 => absurd z9 n47⟩⟩
            rw [bp, cby1_lt q3] at q9 n47
            rw [hlx, e8 (by omega), lxr_step q3]
            by_cases c10 : b p.toNatClampNeg = 10
            · rw [if_pos c10]
            · rw [if_neg c10, if_neg (fun w => n47 w.1), if_neg]
              intro w
              rcases q9 with q9 | q9 | q9 | q9
              · exact w.2.1 q9
              · exact w.2.2.1 q9
              · exact w.2.2.2 q9
              · exact c10 q9
          have other : ¬ bAt z p = 32 → ¬ bAt z p = 9 → ¬ bAt z p = 13 → ¬ bAt z p = 10 → MT G (d + 8) z_readTokens 58 [(0, vr 0), (1, vi p), (3, vi (bAt z p))] [vi 0] z (rv Fv) := by
            intro n32 n9 n13 n10
            have here : ¬ (bAt z p = 47 ∧ bAt z (p + 0 + 1) = 47) → p.toNatClampNeg = lx b N p0.toNatClampNeg := by
              intro no
              rw [hlx]
              by_cases q3 : p.toNatClampNeg < N
              · rw [bp, cby1_lt q3] at n32 n9 n13 n10 no
                have e9 : (p + 0 + 1).toInt = p.toInt + 1 := by rw [ep]; exact e7 (by omega)
                have b9 := bt (p + 0 + 1) (by omega)
                have e10 : (p + 0 + 1).toNatClampNeg = p.toNatClampNeg + 1 := by rw [t_cl, e9]; omega
                rw [e10] at b9
                rw [lxr_step q3, if_neg n10, if_neg, if_pos ⟨rfl, n32, n9, n13⟩]
                intro w
                refine no ⟨w.1, ?_⟩
                rw [b9]
                by_cases q4 : p.toNatClampNeg + 1 < N
                · rw [cby1_lt q4]
                  have := w.2
                  rw [if_pos q4] at this
                  exact this
                · have := w.2
                  rw [if_neg q4] at this
                  exact absurd this (by decide)
              · rw [lxr_end (by omega)]
            refine sg_readTokens_58 _ _ _ ⟨fun _ => sg_readTokens_69 _ _ _ _ ⟨fun n47 => ?_, fun c47 => ?_⟩, fun q => absurd rfl q⟩
            · rw [ep]
              exact disp _ _ q0 q1 rfl (here (fun w => n47 w.1))
            have q3 := lt (by rw [c47]; decide)
            have e9 : (p + 0 + 1).toInt = p.toInt + 1 := by rw [ep]; exact e7 (by omega)
            refine sp_byteAt _ (by omega) zs ⟨fun n47 => ?_, fun d47 => ?_⟩
            · rw [ep]
              exact disp _ _ q0 q1 rfl (here (fun w => n47 w.2))
            rw [ep] at d47 ⊢
            refine sg_readTokens_91 _ _ ⟨fun c1 => ?_, fun c1 => sp_byteAt _ q0 zs ⟨fun c2 => ?_, fun _ => ?_⟩⟩
            · rw [t_le] at c1; omega
            · rw [c47] at c2; exact absurd c2 (by decide)
            · have e10 := e7 (by omega)
              refine c91 _ _ (by omega) (by omega) (Int.self_le_toNat _) (by omega) ?_
              have b9 := bt (p + 1) (by omega)
              rw [e8 (by omega)] at b9
              have q4 : p.toNatClampNeg + 1 < N := by
                by_cases cq : p.toNatClampNeg + 1 < N
                · exact cq
                · rw [b9, cby1_no cq] at d47; exact absurd d47 (by decide)
              rw [b9, cby1_lt q4] at d47
              rw [bp, cby1_lt q3] at c47
              rw [hlx, e8 (by omega), lxr_step q3, if_neg (by rw [c47]; decide), if_pos ⟨c47, by rw [if_pos q4]; exact d47⟩]
          refine ⟨fun q => blank (by rw [q]; decide) (Or.inl q), fun n32 => ⟨fun q => blank (by rw [q]; decide) (Or.inr (Or.inl q)), fun n9 => ⟨fun q => blank (by rw [q]; decide) (Or.inr (Or.inr (Or.inl q))), fun n13 => ⟨fun n10 => other n32 n9 n13 n10, fun q => blank (by rw [q]; decide) (Or.inr (Or.inr (Or.inr q)))⟩⟩⟩⟩
      exact c19 _ p0 hp hps (Int.self_le_toNat _) rfl
  refine sg_readTokens_0 (fun x1 e1 => ?_)
  have m1 := md_f x 3 0
  rw [← e1] at m1
  have e2 : x1.1 0 2 = x.1 0 2 := m1.1 2 (by decide)
  have e3 : x1.1 0 3 = 0 := by rw [e1, si_get, if_pos ⟨rfl, rfl⟩]
  have t1 : TK x1 := by
    intro j hj
    rw [e1, si_cell (by decide), si_cell (by decide), si_cell (by decide)]
    exact ht j hj
  exact loop 701 x1 0 0 t1 (md_w m1 (by decide) (by decide)) (by rw [e3]; rfl) (by omega) (by omega) (by decide) (by rw [e2, k0]; exact hs0) ⟨fun _ => rfl, fun q => absurd q (by decide), fun j hj => absurd hj (Nat.not_lt_zero _), fun j hj => absurd hj (Nat.not_lt_zero _)⟩
