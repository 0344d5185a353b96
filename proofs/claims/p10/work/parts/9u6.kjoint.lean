/-! class and model: the same text is compiled alike -/
section JNT
variable {b b' : Nat → Int32} {n e : Nat} {K V : Nat → Int32} {P Z : Nat → Nat} {x y z w m w' : gd}
theorem sgk_n1 (c d : Int32) : ¬ sgk c d = 1 := by
  unfold sgk
  repeat' (first | apply ite_n | decide)
theorem lxs_c (h : ∀ p, p < n → b p = b' p) : ∀ (f : Nat) (r : Bool) (p : Nat), lxs b n f r p = lxs b' n f r p := by
  intro f
  induction f with
  | zero => intro r p; rfl
  | succ f ih =>
    intro r p
    rw [lxs, lxs]
    by_cases c : n ≤ p
    · rw [if_pos c, if_pos c]
    · have e2 : (if p + 1 < n then b (p + 1) else 0) = (if p + 1 < n then b' (p + 1) else 0) := by
        by_cases d : p + 1 < n
        · rw [if_pos d, if_pos d, h _ d]
        · rw [if_neg d, if_neg d]
      rw [if_neg c, if_neg c, h p (by omega), e2, ih, ih, ih]
theorem RUNq_c (h : ∀ p, p < n → b p = b' p) {q : Int32 → Prop} {p k : Nat} (g : RUNq q b n p k) : RUNq q b' n p k := by
  obtain ⟨g1, g2, g3⟩ := g
  exact ⟨g1, fun i hi => by rw [← h _ (by omega)]; exact g2 i hi, fun z => g3 ⟨z.1, by rw [h _ z.1]; exact z.2⟩⟩
theorem WD_c (h : ∀ p, p < n → b p = b' p) {p k v : Nat} (hp : p + k ≤ n) : WD b p k v ↔ WD b' p k v := by
  unfold WD
  refine and_congr_right (fun _ => ⟨fun g i hi => by rw [← h _ (by omega)]; exact g i hi, fun g i hi => by rw [h _ (by omega)]; exact g i hi⟩)
theorem whv_c (h : ∀ p, p < n → b p = b' p) {p : Nat} : ∀ {k : Nat}, p + k ≤ n → whv b p k = whv b' p k := by
  intro k
  induction k with
  | zero => intro _; rfl
  | succ k ih =>
    intro hk
    rw [whv, whv, ih (by omega), h _ (by omega)]
theorem TOK_c (h : ∀ p, p < n → b p = b' p) {p k : Nat} {c v : Int32} (g : TOK b n p c k v) : TOK b' n p c k v := by
  have cb : cby1 b n (p + 1) = cby1 b' n (p + 1) := by
    unfold cby1
    by_cases d : p + 1 < n
    · rw [if_pos d, if_pos d, h _ d]
    · rw [if_neg d, if_neg d]
  rcases g with g | ⟨g1, g2, g3, g4⟩ | ⟨g1, g2, g3⟩ | ⟨g1, g2, g3, g4⟩
  · exact Or.inl g
  · refine Or.inr (Or.inl ⟨g1, by rw [← h p g1]; exact g2, RUNq_c h g3, ?_⟩)
    rcases g4 with ⟨v, g5, g6, g7⟩ | ⟨g5, g6⟩
    · exact Or.inl ⟨v, g5, (WD_c h g3.1).mp g6, g7⟩
    · exact Or.inr ⟨fun v hv z => g5 v hv ((WD_c h g3.1).mpr z), g6⟩
  · refine Or.inr (Or.inr (Or.inl ⟨g1, by rw [← h p g1]; exact g2, ?_⟩))
    rcases g3 with ⟨g4, g5, g6, g7, g8⟩ | ⟨g4, q, g5, g6⟩
    · have := g5.1
      exact Or.inl ⟨g4, RUNq_c h g5, g6, fun i hi => by rw [← h _ (by omega)]; exact g7 i hi, by rw [g8, whv_c h g5.1]⟩
    · have := g5.1
      refine Or.inr ⟨g4, q, RUNq_c h g5, g6.imp id (fun ⟨i, hi, z⟩ => ⟨i, hi, by rw [← h _ (by omega)]; exact z⟩)⟩
  · rw [cb, h p g1] at g3 g4
    exact Or.inr (Or.inr (Or.inr ⟨g1, by rw [← h p g1]; exact g2, g3, g4⟩))
theorem TSq_c (h : ∀ p, p < n → b p = b' p) (g : TSq b n e K P Z V) : TSq b' n e K P Z V := by
  have el : lx b n = lx b' n := by funext p; unfold lx; exact lxs_c h _ _ _
  obtain ⟨g1, g2, g3, g4, g5, g6⟩ := g
  rw [el] at g2
  refine ⟨g1, g2, fun j hj => ?_, fun j hj => TOK_c h (g4 j hj), g5, g6⟩
  rw [← el]; exact g3 j hj
theorem TOK_1 {p k : Nat} {v : Int32} (g : TOK b n p 1 k v) : p + k ≤ n := by
  rcases g with ⟨-, g⟩ | ⟨-, -, g, -⟩ | ⟨-, -, ⟨g, -⟩ | ⟨g, -⟩⟩ | ⟨-, -, g, -⟩
  · exact absurd g (by decide)
  · exact g.1
  · exact absurd g (by decide)
  · exact absurd g (by decide)
  · exfalso
    have := sgk_n1 (b p) (cby1 b n (p + 1))
    exact this g.symm
theorem hsh_c {p p' : Nat} : ∀ {k : Nat}, (∀ i, i < k → b (p + i) = b (p' + i)) → hsh b p k = hsh b p' k := by
  intro k
  induction k with
  | zero => intro _; rfl
  | succ k ih =>
    intro h
    rw [hsh, hsh, ih (fun i hi => h i (by omega)), h k (by omega)]
/-- the same text -/
def TXs (x w : gd) : Prop := x.1 20 1 = w.1 0 2 ∧ ∀ p, p < (x.1 20 1).toNatClampNeg → x.1 21 p = w.1 2 p
/-- what every compiled code is like -/
def gdC (C : gCo) : Prop := NC C ∧ NX2 C ∧ NX3 C ∧ NCu C
/-- what the law's loop keeps: the same text, compiled alike, the same counts -/
def JR (x w : gd) : Prop := TXs x w ∧ ((x.1 0 9 = 0 ∧ w.1 0 66 = 0 ∧ z5 w) ∨ (¬ x.1 0 9 = 0 ∧ w.1 0 66 = 1 ∧ x.1 60 6 = w.1 0 23 ∧ x.1 60 9 = w.1 0 24 ∧ x.1 60 10 = w.1 0 25 ∧ x.1 60 14 = w.1 0 26 ∧ x.1 60 16 = w.1 0 27 ∧ ∃ C, CK x C ∧ MK w C ∧ gdC C))
theorem JR_keep (h : JR x w) (k : KF x y) (p : PM w w') : JR y w' := by
  obtain ⟨⟨h1, h2⟩, h3⟩ := h
  obtain ⟨k1, k2, k3, k4⟩ := k
  obtain ⟨-, p1, p2, p3⟩ := p
  refine ⟨⟨by rw [k1, p1]; exact h1, fun q hq => by rw [k3, p3 2 (by decide)]; exact h2 q (by rw [← k1]; exact hq)⟩, ?_⟩
  unfold z5 at h3 ⊢
  rw [k2, k4 60 6 (by omega), k4 60 9 (by omega), k4 60 10 (by omega), k4 60 14 (by omega), k4 60 16 (by omega), p2 23 (by decide), p2 24 (by decide), p2 25 (by decide), p2 26 (by decide), p2 27 (by decide), p2 66 (by decide)]
  rcases h3 with h3 | ⟨a1, a2, a3, a4, a5, a6, a7, C, c1, c2, c3⟩
  · exact Or.inl h3
  · exact Or.inr ⟨a1, a2, a3, a4, a5, a6, a7, C, CK_f c1 k4, MK_f c2 p2 p3, c3⟩
/-- the code, if there is one -/
theorem JR_C (h : JR x w) : ∃ C : gCo, (¬ x.1 0 9 = 0 → CK x C ∧ NC C) ∧ (¬ x.1 0 9 = 0 → MK w C) := by
  obtain ⟨-, h | ⟨-, -, -, -, -, -, -, C, c1, c2, c3⟩⟩ := h
  · exact ⟨([], [], [], [], []), fun z => absurd h.1 z, fun z => absurd h.1 z⟩
  · exact ⟨C, fun _ => ⟨c1, c3.1⟩, fun _ => c2⟩
theorem JR_9 (h : JR x w) : x.1 0 9 = 0 ↔ w.1 0 66 = 0 := by
  obtain ⟨-, h | h⟩ := h
  · exact ⟨fun _ => h.2.1, fun _ => h.1⟩
  · exact ⟨fun z => absurd z h.1, fun z => absurd (z.symm.trans h.2.1) (by decide)⟩
/-- a start names a thread that there is -/
theorem hob_of {C : gCo} (hC : CO x) (hK : CK x C) (hN : NC C) : ∀ (s : Nat) (st : gNs), C.1[s]? = some st → st.1 = 10 → st.2.2.2.2.1.toNatClampNeg < C.2.1.length := by
  intro s st hs h10
  have n22 := (hN.1 s st hs).1.1
  obtain ⟨k81, -, -, -, k85, -⟩ := hK.1.2 s st hs
  have l : (s : Int) < ssm x := by
    have := gt_lt hs
    have e : (x.1 80 9).toInt = C.1.length := hK.1.1
    show (s : Int) < (x.1 80 9).toInt
    omega
  have so : sop x s = 10 := by
    show (x.1 81 s).toInt = 10
    rw [k81, h10]; rfl
  have a := (hC.2.2.2.1 s l).1.2.2 (by omega) (by omega)
  rw [← k85 (by omega)]
  have nT : (x.1 60 10).toInt = C.2.1.length := hK.2.1.1
  rw [t_cl]
  omega
/-- class and model answer alike how many choices there are at first -/
theorem bgR_eq {C : gCo} {r r' : Int32} (hob : ∀ (s : Nat) (st : gNs), C.1[s]? = some st → st.1 = 10 → st.2.2.2.2.1.toNatClampNeg < C.2.1.length) (h : bgR C r) (g : bgM C r') : r = r' := by
  obtain ⟨f, f1, f2⟩ := h
  obtain ⟨f', g1, g2⟩ := g
  rw [t_eq, f2, g2, chN_det f1 g1 hob _ (Nat.le_refl _)]
theorem JR_cnt (h : JR x w) {l r r' : Int32} (hr : cntK x l r) (hr' : cntM w l r') : r = r' := by
  obtain ⟨-, h | ⟨h, -, h0, h1, h2, h3, h4, -⟩⟩ := h
  · obtain ⟨h9, -, z0, z1, z2, z3, z4⟩ := h
    rcases hr with ⟨-, hr⟩ | ⟨c, -⟩
    · rw [hr]
      rcases hr' with ⟨-, g⟩ | ⟨-, g⟩ | ⟨-, g⟩ | ⟨-, g⟩ | ⟨-, g⟩
      · rw [g, z0]
      · rw [g, z1]
      · rw [g, z2]
      · rw [g, z3]
      · rw [g, z4]
    · exact absurd h9 c
  · rcases hr with ⟨c, -⟩ | ⟨-, hr⟩
    · exact absurd c h
    · rcases hr with ⟨e, hr⟩ | ⟨e, hr⟩ | ⟨e, hr⟩ | ⟨e, hr⟩ | ⟨e, hr⟩ <;> rcases hr' with ⟨e', g⟩ | ⟨e', g⟩ | ⟨e', g⟩ | ⟨e', g⟩ | ⟨e', g⟩ <;> first | (rw [hr, g]; assumption) | (rw [e] at e'; exact absurd e' (by decide))
theorem clq {a c : Int32} {k : Nat} (h : a.toInt = (k : Nat)) (g : c.toNatClampNeg = k) (h0 : 0 ≤ c.toInt) : a = c := by
  have u := t_cl c
  rw [t_eq]
  omega
theorem JR_comp (hT : TXs x w) (hC : CCf x y) (e20 : y.1 20 1 = x.1 20 1) (hM : MCf w w') (e02 : w'.1 0 2 = w.1 0 2) (hcp : ¬ w'.1 0 66 = 0 → CP w') : JR y w' := by
  obtain ⟨z, e, hK, z21, y21, hc⟩ := hC
  obtain ⟨m, e', ts, m2, w2, htk, hm⟩ := hM
  obtain ⟨t1, t2⟩ := hT
  have en : kln x = tln w := by unfold kln tln; rw [t1]
  have eb : ∀ p, p < tln w → kby x p = tby w p := fun p hp => by
    unfold kby tby
    rw [t2 p (by rw [← en] at hp; exact hp)]
  obtain ⟨hts, hmany, hhash, hkT⟩ := hK
  have hts0 := hts
  rw [en] at hts
  obtain ⟨ee, hu⟩ := TSq_u (TSq_c eb hts) ts
  rw [← ee] at ts
  obtain ⟨-, -, -, q4, q5, q6⟩ := hts
  have e700 := ts.1
  have ck : ∀ j, j ≤ e → ctK z e j = kc (z.1 23 j) := fun j hj => by unfold ctK; rw [if_pos hj]
  have kk : ∀ j, j ≤ e → m.1 5 j = ctK z e j := fun j hj => by rw [ck j hj]; exact (hu j hj).2.1.symm
  have aGG : aG (m.1 5) (ctK z e) e := by
    refine ⟨kk, fun j hj h7 h0 h3 => ?_⟩
    by_cases c : j = e
    · rw [c, kk e (Nat.le_refl _), ck e (Nat.le_refl _)] at h0 h3
      rcases q6 with g | g | g
      · exact absurd g h0
      · exact absurd g h3
      · omega
    · omega
  have hV : ∀ j, j ≤ e → m.1 5 j = 2 → m.1 7 j = ctV z e j := fun j hj k2 => by
    have k2' : kc (z.1 23 j) = 2 := by rw [← ck j hj, ← kk j hj]; exact k2
    unfold ctV
    rw [if_pos ⟨hj, k2'⟩]
    exact ((hu j hj).2.2.2 k2').symm
  have epA := (pAl_c aGG hV 701 (0, 0, 0, 0, 0) 0 [] (Nat.zero_le _)).1
  have le1 : ∀ j, ctK z e j = 1 ∨ ctK z e j = 2 → j ≤ e := fun j hj => by
    by_cases c : j ≤ e
    · exact c
    · unfold ctK at hj
      rw [if_neg c] at hj
      rcases hj with g | g <;> exact absurd g (by decide)
  -- names alike
  have hs : ∀ a c, gdN (ctK z e) a → gdN (ctK z e) c → smB m a c = smkB z a c := by
    intro a c ha hc9
    have ha : ctK z e a = 1 := ha
    have hc9 : ctK z e c = 1 := hc9
    have la := le1 a (Or.inl ha)
    have lc := le1 c (Or.inl hc9)
    have ka : kc (z.1 23 a) = 1 := by rw [← ck a la]; exact ha
    have kc' : kc (z.1 23 c) = 1 := by rw [← ck c lc]; exact hc9
    obtain ⟨pa, -, za, -⟩ := hu a la
    obtain ⟨pc, -, zc, -⟩ := hu c lc
    have za := za (by show ¬ kc (z.1 23 a) = 3; rw [ka]; decide) (by show ¬ kc (z.1 23 a) = 0; rw [ka]; decide)
    have zc := zc (by show ¬ kc (z.1 23 c) = 3; rw [kc']; decide) (by show ¬ kc (z.1 23 c) = 0; rw [kc']; decide)
    have ba := q4 a la
    have bc := q4 c lc
    have ba : TOK (kby x) (tln w) (kP' z a) (kc (z.1 23 a)) (kZ' z a) (z.1 27 a) := ba
    have bc : TOK (kby x) (tln w) (kP' z c) (kc (z.1 23 c)) (kZ' z c) (z.1 27 c) := bc
    rw [ka] at ba
    rw [kc'] at bc
    have ba := TOK_1 ba
    have bc := TOK_1 bc
    have na : z.1 23 a = 2 := kc_i (c := 2) (by rw [ka]; decide) (by decide)
    have nc : z.1 23 c = 2 := kc_i (c := 2) (by rw [kc']; decide) (by decide)
    have many : ∀ j, j ≤ e → z.1 23 j = 2 → (j : Int) < (z.1 20 7).toInt := fun j hj h2 => by
      rcases hmany with ⟨g1, g2⟩ | ⟨g1, g2⟩
      · by_cases c : j = e
        · rw [c, g1] at h2
          exact absurd h2 (by decide)
        · omega
      · omega
    obtain ⟨-, N, eN, hN, hw, -⟩ := hkT
    have wa := (hw a (by have := many a la na; omega)).1
    have wc := (hw c (by have := many c lc nc; omega)).1
    have ta := htk a (by omega)
    have tc := htk c (by omega)
    have ua := t_cl (z.1 26 a)
    have uc := t_cl (z.1 26 c)
    have va := t_cl (m.1 8 a)
    have vc := t_cl (m.1 8 c)
    have za : (z.1 26 a).toNatClampNeg = (m.1 8 a).toNatClampNeg := za
    have zc : (z.1 26 c).toNatClampNeg = (m.1 8 c).toNatClampNeg := zc
    have pa : (z.1 24 a).toNatClampNeg = (m.1 6 a).toNatClampNeg := pa
    have pc : (z.1 24 c).toNatClampNeg = (m.1 6 c).toNatClampNeg := pc
    have ba : (z.1 24 a).toNatClampNeg + (z.1 26 a).toNatClampNeg ≤ tln w := ba
    have bc : (z.1 24 c).toNatClampNeg + (z.1 26 c).toNatClampNeg ≤ tln w := bc
    have sz : z.1 26 a = z.1 26 c ↔ m.1 8 a = m.1 8 c := by
      rw [t_eq, t_eq]; omega
    have by' : ∀ p, p < tln w → z.1 21 p = m.1 2 p := fun p hp => by rw [z21, m2]; exact t2 p (by rw [← en] at hp; exact hp)
    have key : smx m a c ↔ smk z a c := by
      unfold smx smk
      constructor
      · rintro ⟨g1, g2⟩
        have s1 := sz.mpr g1
        have g2' : ∀ i, i < (z.1 26 a).toNatClampNeg → z.1 21 ((z.1 24 a).toNatClampNeg + i) = z.1 21 ((z.1 24 c).toNatClampNeg + i) := fun i hi => by
          rw [by' _ (by omega), by' _ (by rw [s1] at hi; omega), pa, pc]
          exact g2 i (by omega)
        refine ⟨?_, s1, g2'⟩
        rw [hhash a la na, hhash c lc nc]
        have ez : kZ' z a = kZ' z c := by show (z.1 26 a).toNatClampNeg = (z.1 26 c).toNatClampNeg; rw [s1]
        rw [← ez]
        exact hsh_c (fun i hi => by unfold kby; rw [← z21, ← z21]; exact congrArg (· &&& 255) (g2' i hi))
      · rintro ⟨-, g1, g2⟩
        refine ⟨sz.mp g1, fun i hi => ?_⟩
        rw [← pa, ← pc, ← by' _ (by omega), ← by' _ (by rw [g1] at za; omega)]
        exact g2 i (by omega)
    have kb : smB m a c = true ↔ smkB z a c = true := by rw [smB_is, smkB_is]; exact key
    cases h1 : smB m a c <;> cases h2 : smkB z a c
    · rfl
    · exact absurd (kb.mpr h2) (by rw [h1]; decide)
    · exact absurd (kb.mp h1) (by rw [h2]; decide)
    · rfl
  have hjf : ∀ n j L, pAl (ctK z e) (ctV z e) 701 (0, 0, 0, 0, 0) 0 [] = some (n, j, L) → (jFl (smB m) (m.1 5) (m.1 7) L ↔ jFl (smkB z) (ctK z e) (ctV z e) L) := fun n j L hp => by
    obtain ⟨N, eN, hN⟩ := pAl_oZ 701 _ _ _ _ hp
    have eN : L = N := eN
    rw [← eN] at hN
    exact jFl_c (fun j hj => kk j (le1 j hj)) hs (fun j hj => hV j (le1 j (Or.inr hj)) (by rw [kk j (le1 j (Or.inr hj))]; exact hj)) hN
  have htx : TXs y w' := ⟨by rw [e20, e02]; exact t1, fun p hp => by rw [y21, w2]; exact t2 p (by rw [← e20]; exact hp)⟩
  refine ⟨htx, ?_⟩
  rw [epA] at hm
  rcases hc with ⟨n, j, L, c1, c2, c3, c4, c5⟩ | ⟨c1, c2⟩
  · rcases hm with ⟨n', j', L', m1, m3, m4, m5, m6⟩ | ⟨m1, -⟩
    · rw [c1] at m1
      have en' : n = n' := congrArg (fun q : gN × Nat × gU => q.1) (Option.some.inj m1)
      have eL' : L = L' := congrArg (fun q : gN × Nat × gU => q.2.2) (Option.some.inj m1)
      rw [← eL'] at m6
      have hw := cod_ok c1 c2
      have ec : codN (smB m) (m.1 7) (m.1 5) L = codN (smkB z) (ctV z e) (ctK z e) L := by
        obtain ⟨N, eN, hN⟩ := pAl_oZ 701 _ _ _ _ c1
        have eN : L = N := eN
        rw [← eN] at hN
        obtain ⟨N2, eN2, hN2⟩ := pAl_oY 701 _ _ _ _ c1
        have eN2 : L = N2 := eN2
        rw [← eN2] at hN2
        refine codN_c hs (fun j hj => ?_) (fun j hj => ?_) (fun v hv => ⟨hN v hv, hN2 v hv⟩) hw
        · by_cases cj : j ≤ e
          · exact kk j cj
          · unfold ctK at hj
            rw [if_neg cj] at hj
            exact absurd rfl hj
        · have lj := le1 j (Or.inr hj)
          exact hV j lj (by rw [kk j lj]; exact hj)
      have mk := MCo_MK m6
      rw [ec] at mk
      obtain ⟨⟨g1, g1', g2, -, g3, -, g4, -, g5, -⟩, -⟩ := hcp (by rw [m4]; decide)
      have l24 : (cel (ctK z e) (ctV z e) L).length ≤ 24 := by
        have e9 : (w'.1 0 23).toInt = ((cel (ctK z e) (ctV z e) L).length : Nat) := mk.2.2.1.1
        omega
      obtain ⟨n1, n2, n3, n4, n5⟩ := c4
      rw [← en'] at m5
      refine Or.inr ⟨c3, m4, clq n1 (congrArg (fun q : gN => q.1) m5) g1, clq n2 (congrArg (fun q : gN => q.2.1) m5) g2, clq n3 (congrArg (fun q : gN => q.2.2.1) m5) g3, clq n4 (congrArg (fun q : gN => q.2.2.2.1) m5) g4, clq n5 (congrArg (fun q : gN => q.2.2.2.2) m5) g5, _, c5, mk, NC_of hw, NX2_of hw, NX3_of (pAl_cP 701 _ _ _ _ celP_0 c1) l24 hw, NCu_of c1 c2 l24⟩
    · exact absurd ((hjf n j L c1).mp (m1 n j L c1)) c2
  · rcases hm with ⟨n', j', L', m1, m3, m4, m5, -⟩ | ⟨-, m4, m5⟩
    · exact absurd ((hjf n' j' L' m1).mpr (c1 n' j' L' m1)) m3
    · exact Or.inl ⟨c2, m4, m5⟩
end JNT
