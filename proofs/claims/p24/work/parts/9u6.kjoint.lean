section
/-! class and model: the same text is compiled alike -/
section JNT
variable {b b' : Nat → Int32} {n e : Nat} {K V : Nat → Int32} {P Z : Nat → Nat} {x y z w m w' : gd}
theorem sgk_n1 (c d : Int32) : ¬ sgk c d = 1 := by
  unfold sgk
  repeat' (first | apply ite_n | decide)
theorem lxs_c (h : ∀ p, p < n → b p = b' p) : ∀ (f : Nat) (r : Bool) (p : Nat), lxs b n f r p = lxs b' n f r p := by
  intro f
  induction f with
  | zero => intro r p; rfl
  | succ f ih =>
    intro r p
    rw [lxs, lxs]
    by_cases c : n ≤ p
    · rw [if_pos c, if_pos c]
    · have e2 : (if p + 1 < n then b (p + 1) else 0) = (if p + 1 < n then b' (p + 1) else 0) := by
        by_cases d : p + 1 < n
        · rw [if_pos d, if_pos d, h _ d]
        · rw [if_neg d, if_neg d]
      rw [if_neg c, if_neg c, h p (by omega), e2, ih, ih, ih]
theorem RUNq_c (h : ∀ p, p < n → b p = b' p) {q : Int32 → Prop} {p k : Nat} (g : RUNq q b n p k) : RUNq q b' n p k := by
  obtain ⟨g1, g2, g3⟩ := g
  exact ⟨g1, fun i hi => by rw [← h _ (by omega)]; exact g2 i hi, fun z => g3 ⟨z.1, by rw [h _ z.1]; exact z.2⟩⟩
theorem WD_c (h : ∀ p, p < n → b p = b' p) {p k v : Nat} (hp : p + k ≤ n) : WD b p k v ↔ WD b' p k v := by
  unfold WD
  refine and_congr_right (fun _ => ⟨fun g i hi => by rw [← h _ (by omega)]; exact g i hi, fun g i hi => by rw [h _ (by omega)]; exact g i hi⟩)
theorem whv_c (h : ∀ p, p < n → b p = b' p) {p : Nat} : ∀ {k : Nat}, p + k ≤ n → whv b p k = whv b' p k := by
  intro k
  induction k with
  | zero => intro _; rfl
  | succ k ih =>
    intro hk
    rw [whv, whv, ih (by omega), h _ (by omega)]
theorem TOK_c (h : ∀ p, p < n → b p = b' p) {p k : Nat} {c v : Int32} (g : TOK b n p c k v) : TOK b' n p c k v := by
  have cb : cby1 b n (p + 1) = cby1 b' n (p + 1) := by
    unfold cby1
    by_cases d : p + 1 < n
    · rw [if_pos d, if_pos d, h _ d]
    · rw [if_neg d, if_neg d]
  rcases g with g | ⟨g1, g2, g3, g4⟩ | ⟨g1, g2, g3⟩ | ⟨g1, g2, g3, g4⟩
  · exact Or.inl g
  · refine Or.inr (Or.inl ⟨g1, by rw [← h p g1]; exact g2, RUNq_c h g3, ?_⟩)
    rcases g4 with ⟨v, g5, g6, g7⟩ | ⟨g5, g6⟩
    · exact Or.inl ⟨v, g5, (WD_c h g3.1).mp g6, g7⟩
    · exact Or.inr ⟨fun v hv z => g5 v hv ((WD_c h g3.1).mpr z), g6⟩
  · refine Or.inr (Or.inr (Or.inl ⟨g1, by rw [← h p g1]; exact g2, ?_⟩))
    rcases g3 with ⟨g4, g5, g6, g7, g8⟩ | ⟨g4, q, g5, g6⟩
    · have := g5.1
      exact Or.inl ⟨g4, RUNq_c h g5, g6, fun i hi => by rw [← h _ (by omega)]; exact g7 i hi, by rw [g8, whv_c h g5.1]⟩
    · have := g5.1
      refine Or.inr ⟨g4, q, RUNq_c h g5, g6.imp id (fun ⟨i, hi, z⟩ => ⟨i, hi, by rw [← h _ (by omega)]; exact z⟩)⟩
  · rw [cb, h p g1] at g3 g4
    exact Or.inr (Or.inr (Or.inr ⟨g1, by rw [← h p g1]; exact g2, g3, g4⟩))
theorem TSq_c (h : ∀ p, p < n → b p = b' p) (g : TSq b n e K P Z V) : TSq b' n e K P Z V := by
  have el : lx b n = lx b' n := by funext p; unfold lx; exact lxs_c h _ _ _
  obtain ⟨g1, g2, g3, g4, g5, g6⟩ := g
  rw [el] at g2
  refine ⟨g1, g2, fun j hj => ?_, fun j hj => TOK_c h (g4 j hj), g5, g6⟩
  rw [← el]; exact g3 j hj
theorem TOK_1 {p k : Nat} {v : Int32} (g : TOK b n p 1 k v) : p + k ≤ n := by
  rcases g with ⟨-, g⟩ | ⟨-, -, g, -⟩ | ⟨-, -, ⟨g, -⟩ | ⟨g, -⟩⟩ | ⟨-, -, g, -⟩
  · exact absurd g (by decide)
  · exact g.1
  · exact absurd g (by decide)
  · exact absurd g (by decide)
  · exfalso
    have := sgk_n1 (b p) (cby1 b n (p + 1))
    exact this g.symm
theorem hsh_c {p p' : Nat} : ∀ {k : Nat}, (∀ i, i < k → b (p + i) = b (p' + i)) → hsh b p k = hsh b p' k := by
  intro k
  induction k with
  | zero => intro _; rfl
  | succ k ih =>
    intro h
    rw [hsh, hsh, ih (fun i hi => h i (by omega)), h k (by omega)]
/-- the same text -/
def TXs (x w : gd) : Prop := x.1 20 1 = w.1 0 2 ∧ ∀ p, p < (x.1 20 1).toNatClampNeg → x.1 21 p = w.1 2 p
/-- what every compiled code is like -/
def gdC (C : gCo) : Prop := NC C ∧ NX2 C ∧ NX3 C ∧ NCu C
/-- what the law's loop keeps: the same text, compiled alike, the same counts -/
def JR (x w : gd) : Prop := TXs x w ∧ ((x.1 0 9 = 0 ∧ w.1 0 66 = 0 ∧ z5 w) ∨ (¬ x.1 0 9 = 0 ∧ w.1 0 66 = 1 ∧ x.1 60 6 = w.1 0 23 ∧ x.1 60 9 = w.1 0 24 ∧ x.1 60 10 = w.1 0 25 ∧ x.1 60 14 = w.1 0 26 ∧ x.1 60 16 = w.1 0 27 ∧ ∃ C, CK x C ∧ MK w C ∧ gdC C))
theorem clq {a c : Int32} {k : Nat} (h : a.toInt = (k : Nat)) (g : c.toNatClampNeg = k) (h0 : 0 ≤ c.toInt) : a = c := by
  have u := t_cl c
  rw [t_eq]
  omega
theorem JR_comp (hT : TXs x w) (hC : CCf x y) (e20 : y.1 20 1 = x.1 20 1) (hM : MCf w w') (e02 : w'.1 0 2 = w.1 0 2) (hcp : ¬ w'.1 0 66 = 0 → CP w') : JR y w' := by
  obtain ⟨z, e, hK, z21, y21, hc⟩ := hC
  obtain ⟨m, e', ts, m2, w2, htk, hm⟩ := hM
  obtain ⟨t1, t2⟩ := hT
  have en : kln x = tln w := by unfold kln tln; rw [t1]
  have eb : ∀ p, p < tln w → kby x p = tby w p := fun p hp => by
    unfold kby tby
    rw [t2 p (by rw [← en] at hp; exact hp)]
  obtain ⟨hts, hmany, hhash, hkT⟩ := hK
  have hts0 := hts
  rw [en] at hts
  obtain ⟨ee, hu⟩ := TSq_u (TSq_c eb hts) ts
  rw [← ee] at ts
  obtain ⟨-, -, -, q4, q5, q6⟩ := hts
  have e700 := ts.1
  have ck : ∀ j, j ≤ e → ctK z e j = kc (z.1 23 j) := fun j hj => by unfold ctK; rw [if_pos hj]
  have kk : ∀ j, j ≤ e → m.1 5 j = ctK z e j := fun j hj => by rw [ck j hj]; exact (hu j hj).2.1.symm
  have aGG : aG (m.1 5) (ctK z e) e := by
    refine ⟨kk, fun j hj h7 h0 h3 => ?_⟩
    by_cases c : j = e
    · rw [c, kk e (Nat.le_refl _), ck e (Nat.le_refl _)] at h0 h3
      rcases q6 with g | g | g
      · exact absurd g h0
      · exact absurd g h3
      · omega
    · omega
  have hV : ∀ j, j ≤ e → m.1 5 j = 2 → m.1 7 j = ctV z e j := fun j hj k2 => by
    have k2' : kc (z.1 23 j) = 2 := by rw [← ck j hj, ← kk j hj]; exact k2
    unfold ctV
    rw [if_pos ⟨hj, k2'⟩]
    exact ((hu j hj).2.2.2 k2').symm
  have epA := (pAl_c aGG hV 701 (0, 0, 0, 0, 0) 0 [] (Nat.zero_le _)).1
  have le1 : ∀ j, ctK z e j = 1 ∨ ctK z e j = 2 → j ≤ e := fun j hj => by
    by_cases c : j ≤ e
    · exact c
    · unfold ctK at hj
      rw [if_neg c] at hj
      rcases hj with g | g <;> exact absurd g (by decide)
  -- names alike
  have hs : ∀ a c, gdN (ctK z e) a → gdN (ctK z e) c → smB m a c = smkB z a c := by
    intro a c ha hc9
    have ha : ctK z e a = 1 := ha
    have hc9 : ctK z e c = 1 := hc9
    have la := le1 a (Or.inl ha)
    have lc := le1 c (Or.inl hc9)
    have ka : kc (z.1 23 a) = 1 := by rw [← ck a la]; exact ha
    have kc' : kc (z.1 23 c) = 1 := by rw [← ck c lc]; exact hc9
    obtain ⟨pa, -, za, -⟩ := hu a la
    obtain ⟨pc, -, zc, -⟩ := hu c lc
    have za := za (by show ¬ kc (z.1 23 a) = 3; rw [ka]; decide) (by show ¬ kc (z.1 23 a) = 0; rw [ka]; decide)
    have zc := zc (by show ¬ kc (z.1 23 c) = 3; rw [kc']; decide) (by show ¬ kc (z.1 23 c) = 0; rw [kc']; decide)
    have ba := q4 a la
    have bc := q4 c lc
    have ba : TOK (kby x) (tln w) (kP' z a) (kc (z.1 23 a)) (kZ' z a) (z.1 27 a) := ba
    have bc : TOK (kby x) (tln w) (kP' z c) (kc (z.1 23 c)) (kZ' z c) (z.1 27 c) := bc
    rw [ka] at ba
    rw [kc'] at bc
    have ba := TOK_1 ba
    have bc := TOK_1 bc
    have na : z.1 23 a = 2 := kc_i (c := 2) (by rw [ka]; decide) (by decide)
    have nc : z.1 23 c = 2 := kc_i (c := 2) (by rw [kc']; decide) (by decide)
    have many : ∀ j, j ≤ e → z.1 23 j = 2 → (j : Int) < (z.1 20 7).toInt := fun j hj h2 => by
      rcases hmany with ⟨g1, g2⟩ | ⟨g1, g2⟩
      · by_cases c : j = e
        · rw [c, g1] at h2
          exact absurd h2 (by decide)
        · omega
      · omega
    obtain ⟨-, N, eN, hN, hw, -⟩ := hkT
    have wa := (hw a (by have := many a la na; omega)).1
    have wc := (hw c (by have := many c lc nc; omega)).1
    have ta := htk a (by omega)
    have tc := htk c (by omega)
    have ua := t_cl (z.1 26 a)
    have uc := t_cl (z.1 26 c)
    have va := t_cl (m.1 8 a)
    have vc := t_cl (m.1 8 c)
    have za : (z.1 26 a).toNatClampNeg = (m.1 8 a).toNatClampNeg := za
    have zc : (z.1 26 c).toNatClampNeg = (m.1 8 c).toNatClampNeg := zc
    have pa : (z.1 24 a).toNatClampNeg = (m.1 6 a).toNatClampNeg := pa
    have pc : (z.1 24 c).toNatClampNeg = (m.1 6 c).toNatClampNeg := pc
    have ba : (z.1 24 a).toNatClampNeg + (z.1 26 a).toNatClampNeg ≤ tln w := ba
    have bc : (z.1 24 c).toNatClampNeg + (z.1 26 c).toNatClampNeg ≤ tln w := bc
    have sz : z.1 26 a = z.1 26 c ↔ m.1 8 a = m.1 8 c := by
      rw [t_eq, t_eq]; omega
    have by' : ∀ p, p < tln w → z.1 21 p = m.1 2 p := fun p hp => by rw [z21, m2]; exact t2 p (by rw [← en] at hp; exact hp)
    have key : smx m a c ↔ smk z a c := by
      unfold smx smk
      constructor
      · rintro ⟨g1, g2⟩
        have s1 := sz.mpr g1
        have g2' : ∀ i, i < (z.1 26 a).toNatClampNeg → z.1 21 ((z.1 24 a).toNatClampNeg + i) = z.1 21 ((z.1 24 c).toNatClampNeg + i) := fun i hi => by
          rw [by' _ (by omega), by' _ (by rw [s1] at hi; omega), pa, pc]
          exact g2 i (by omega)
        refine ⟨?_, s1, g2'⟩
        rw [hhash a la na, hhash c lc nc]
        have ez : kZ' z a = kZ' z c := by show (z.1 26 a).toNatClampNeg = (z.1 26 c).toNatClampNeg; rw [s1]
        rw [← ez]
        exact hsh_c (fun i hi => by unfold kby; rw [← z21, ← z21]; exact congrArg (· &&& 255) (g2' i hi))
      · rintro ⟨-, g1, g2⟩
        refine ⟨sz.mp g1, fun i hi => ?_⟩
        rw [← pa, ← pc, ← by' _ (by omega), ← by' _ (by rw [g1] at za; omega)]
        exact g2 i (by omega)
    have kb : smB m a c = true ↔ smkB z a c = true := by rw [smB_is, smkB_is]; exact key
    cases h1 : smB m a c <;> cases h2 : smkB z a c
    · rfl
    · exact absurd (kb.mpr h2) (by rw [h1]; decide)
    · exact absurd (kb.mp h1) (by rw [h2]; decide)
    · rfl
  have hjf : ∀ n j L, pAl (ctK z e) (ctV z e) 701 (0, 0, 0, 0, 0) 0 [] = some (n, j, L) → (jFl (smB m) (m.1 5) (m.1 7) L ↔ jFl (smkB z) (ctK z e) (ctV z e) L) := fun n j L hp => by
    obtain ⟨N, eN, hN⟩ := pAl_oZ 701 _ _ _ _ hp
    have eN : L = N := eN
    rw [← eN] at hN
    exact jFl_c (fun j hj => kk j (le1 j hj)) hs (fun j hj => hV j (le1 j (Or.inr hj)) (by rw [kk j (le1 j (Or.inr hj))]; exact hj)) hN
  have htx : TXs y w' := ⟨by rw [e20, e02]; exact t1, fun p hp => by rw [y21, w2]; exact t2 p (by rw [← e20]; exact hp)⟩
  refine ⟨htx, ?_⟩
  rw [epA] at hm
  rcases hc with ⟨n, j, L, c1, c2, c3, c4, c5⟩ | ⟨c1, c2⟩
  · rcases hm with ⟨n', j', L', m1, m3, m4, m5, m6⟩ | ⟨m1, -⟩
    · rw [c1] at m1
      have en' : n = n' := congrArg (fun q : gN × Nat × gU => q.1) (Option.some.inj m1)
      have eL' : L = L' := congrArg (fun q : gN × Nat × gU => q.2.2) (Option.some.inj m1)
      rw [← eL'] at m6
      have hw := cod_ok c1 c2
      have ec : codN (smB m) (m.1 7) (m.1 5) L = codN (smkB z) (ctV z e) (ctK z e) L := by
        obtain ⟨N, eN, hN⟩ := pAl_oZ 701 _ _ _ _ c1
        have eN : L = N := eN
        rw [← eN] at hN
        obtain ⟨N2, eN2, hN2⟩ := pAl_oY 701 _ _ _ _ c1
        have eN2 : L = N2 := eN2
        rw [← eN2] at hN2
        refine codN_c hs (fun j hj => ?_) (fun j hj => ?_) (fun v hv => ⟨hN v hv, hN2 v hv⟩) hw
        · by_cases cj : j ≤ e
          · exact kk j cj
          · unfold ctK at hj
            rw [if_neg cj] at hj
            exact absurd rfl hj
        · have lj := le1 j (Or.inr hj)
          exact hV j lj (by rw [kk j lj]; exact hj)
      have mk := MCo_MK m6
      rw [ec] at mk
      obtain ⟨⟨g1, g1', g2, -, g3, -, g4, -, g5, -⟩, -⟩ := hcp (by rw [m4]; decide)
      have l24 : (cel (ctK z e) (ctV z e) L).length ≤ 24 := by
        have e9 : (w'.1 0 23).toInt = ((cel (ctK z e) (ctV z e) L).length : Nat) := mk.2.2.1.1
        omega
      obtain ⟨n1, n2, n3, n4, n5⟩ := c4
      rw [← en'] at m5
      refine Or.inr ⟨c3, m4, clq n1 (congrArg (fun q : gN => q.1) m5) g1, clq n2 (congrArg (fun q : gN => q.2.1) m5) g2, clq n3 (congrArg (fun q : gN => q.2.2.1) m5) g3, clq n4 (congrArg (fun q : gN => q.2.2.2.1) m5) g4, clq n5 (congrArg (fun q : gN => q.2.2.2.2) m5) g5, _, c5, mk, NC_of hw, NX2_of hw, NX3_of (pAl_cP 701 _ _ _ _ celP_0 c1) l24 hw, NCu_of c1 c2 l24⟩
    · exact absurd ((hjf n j L c1).mp (m1 n j L c1)) c2
  · rcases hm with ⟨n', j', L', m1, m3, m4, m5, -⟩ | ⟨-, m4, m5⟩
    · exact absurd ((hjf n' j' L' m1).mpr (c1 n' j' L' m1)) m3
    · exact Or.inl ⟨c2, m4, m5⟩
end JNT
end
section
/-! the bytes that feed adds are the same on both sides -/
section BYT
variable {x y w w' : gd}
theorem bv8 (l : BitVec 64) (s : Nat) (hs : s ≤ 56) : (l >>> s).setWidth 8 = (l.sshiftRight s).setWidth 8 := by
  apply BitVec.eq_of_getLsbD_eq
  intro i hi
  rw [BitVec.getLsbD_setWidth, BitVec.getLsbD_setWidth, BitVec.getLsbD_ushiftRight, BitVec.getLsbD_sshiftRight]
  have h1 : ¬ 64 ≤ i := by omega
  have h2 : s + i < 64 := by omega
  simp [h1, h2]
theorem nar8 (a : Int64) : a.toInt32.toInt8.toBitVec = a.toBitVec.setWidth 8 := by
  apply BitVec.eq_of_getLsbD_eq
  intro i hi
  have e : a.toInt32.toInt8.toBitVec = (a.toBitVec.signExtend 32).signExtend 8 := rfl
  rw [e, BitVec.getLsbD_signExtend, BitVec.getLsbD_signExtend, BitVec.getLsbD_setWidth]
  have h1 : i < 32 := by omega
  have h2 : i < 64 := by omega
  simp [hi, h1, h2]
theorem FB_same {l : Int64} {j : Nat} (hj : j < 8) : FBk l j = FBw l j := by
  have key : ∀ (s : Nat) (hs : s ≤ 56) (u : UInt64) (v : Int64), (l.toUInt64 >>> u).toBitVec = l.toBitVec >>> s → (l >>> v).toBitVec = l.toBitVec.sshiftRight s → ((l.toUInt64 >>> u).toInt64).toInt32.toInt8 = (l >>> v).toInt32.toInt8 := by
    intro s hs u v h1 h2
    apply Int8.toBitVec_inj.mp
    rw [nar8, nar8]
    show (l.toUInt64 >>> u).toBitVec.setWidth 8 = _
    rw [h1, h2]
    exact bv8 _ s hs
  unfold FBk FBw
  have c : j = 0 ∨ j = 1 ∨ j = 2 ∨ j = 3 ∨ j = 4 ∨ j = 5 ∨ j = 6 ∨ j = 7 := by omega
  rcases c with rfl | rfl | rfl | rfl | rfl | rfl | rfl | rfl
  · refine congrArg (fun a : Int8 => vp_nar .byte a.toInt32) (key 0 (by omega) _ _ ?_ ?_)
    · rfl
    · rfl
  · refine congrArg (fun a : Int8 => vp_nar .byte a.toInt32) (key 8 (by omega) _ _ ?_ ?_)
    · rfl
    · rfl
  · refine congrArg (fun a : Int8 => vp_nar .byte a.toInt32) (key 16 (by omega) _ _ ?_ ?_)
    · rfl
    · rfl
  · refine congrArg (fun a : Int8 => vp_nar .byte a.toInt32) (key 24 (by omega) _ _ ?_ ?_)
    · rfl
    · rfl
  · refine congrArg (fun a : Int8 => vp_nar .byte a.toInt32) (key 32 (by omega) _ _ ?_ ?_)
    · rfl
    · rfl
  · refine congrArg (fun a : Int8 => vp_nar .byte a.toInt32) (key 40 (by omega) _ _ ?_ ?_)
    · rfl
    · rfl
  · refine congrArg (fun a : Int8 => vp_nar .byte a.toInt32) (key 48 (by omega) _ _ ?_ ?_)
    · rfl
    · rfl
  · refine congrArg (fun a : Int8 => vp_nar .byte a.toInt32) (key 56 (by omega) _ _ ?_ ?_)
    · rfl
    · rfl
theorem JR_feed (h : JR x w) {n : Int32} {l : Int64} (hn : 1 ≤ n.toInt ∧ n.toInt ≤ 8 ∧ (x.1 20 1).toInt + n.toInt ≤ 3000) (hL : 0 ≤ (x.1 20 1).toInt) (e1 : (y.1 20 1).toInt = (x.1 20 1).toInt + n.toInt) (e9 : y.1 0 9 = 0) (fb : FBc x l n.toInt.toNat y) (e2 : w'.1 0 2 = w.1 0 2 + n) (fm' : FBm w l n.toNatClampNeg w') (e66 : w'.1 0 66 = 0) (hz : z5 w') : JR y w' := by
  obtain ⟨⟨t1, t2⟩, -⟩ := h
  have u1 := t_cl (x.1 20 1)
  have u2 := t_cl (y.1 20 1)
  have u3 := t_cl n
  refine ⟨⟨?_, fun p hp => ?_⟩, Or.inl ⟨e9, e66, hz⟩⟩
  · rw [t_eq, e1, e2, ← t1, t_add (by omega) (by omega)]
  · have t1' : (x.1 20 1).toNatClampNeg = (w.1 0 2).toNatClampNeg := by rw [t1]
    by_cases c : p < (x.1 20 1).toNatClampNeg
    · rw [fb.1 p c, fm'.1 p (by omega)]
      exact t2 p c
    · obtain ⟨j, ej⟩ : ∃ j, p = (x.1 20 1).toNatClampNeg + j := ⟨p - (x.1 20 1).toNatClampNeg, by omega⟩
      have hj : j < n.toInt.toNat := by omega
      rw [ej, fb.2 j hj, t1', fm'.2 j (by omega)]
      exact FB_same (by omega)
theorem JR_wipe (e1 : y.1 20 1 = 0) (e9 : y.1 0 9 = 0) (e2 : w'.1 0 2 = 0) (e66 : w'.1 0 66 = 0) (hz : z5 w') : JR y w' := by
  refine ⟨⟨by rw [e1, e2], fun p hp => ?_⟩, Or.inl ⟨e9, e66, hz⟩⟩
  rw [e1] at hp
  exact absurd hp (Nat.not_lt_zero _)
end BYT
end
section
/-! the class: calls that only look, calls that forget -/
def sRd (c k : Nat) : Prop := (c = 120 ∧ k = 14) ∨ (180 ≤ c ∧ c < 260) ∨ 300 ≤ c ∨ (c = 60 ∧ k = 5) ∨ c = 65
def KRd (x y : gd) : Prop := fm sRd x y
def ZR (y : gd) : Prop := y.1 0 10 = 0 ∧ ∀ o, (o = 260 ∨ o = 280) → y.1 o 0 = 0
section KRX
variable {x y z : gd} {q : kP} {C : gCo} {w n o : Nat} {c : Nat → Nat} {T : gTy}
theorem KR_rf : KRd x x := fm_rf _ _
theorem KR_KF (f : KRd x y) : KF x y := KF_fm f (fun c k q => by unfold sRd at q; omega)
theorem ZR_of (h10 : y.1 0 10 = 0) (hz : ∀ o, kiT q o → y.1 o 0 = 0) (hh : HOI y q) : ZR y := ⟨h10, fun o hO => by
  by_cases k : kiT q o
  · exact hz o k
  · exact (hh.2.2.2 o hO).2 k⟩
theorem KRun_rd (f : KRd x y) (hK : CK x C) (hR : RUN y) (r : KRun C w n c x) : KRun C w n c y := by
  obtain ⟨r1, ⟨r2, r3, r4⟩, ⟨r5, r6⟩, r7, r8⟩ := r
  have g : ∀ c k, ¬ sRd c k → y.1 c k = x.1 c k := f
  refine ⟨hR, ⟨KMm_ag (Or.inl rfl) r1.1 hK (g _ _ (by unfold sRd; omega)) (g _ _ (by unfold sRd; omega)) (g _ _ (by unfold sRd; omega)) (fun k hk => g _ _ (by unfold sRd; omega)) (fun k => g _ _ (by unfold sRd; omega)) r2, r3, kchL_ag (g _ _ (by unfold sRd; omega)) (fun c k h => g _ _ (by unfold sRd; omega)) r4⟩, ⟨r5, by rw [g _ _ (by unfold sRd; omega)]; exact r6⟩, by rw [g _ _ (by unfold sRd; omega)]; exact r7, fun k hk => by rw [g 162 k (by unfold sRd; omega)]; exact r8 k hk⟩
theorem TR3_rd (hO : o = 260 ∨ o = 280) (f : KRd x y) (h : TR3 C w x o T) : TR3 C w y o T := by
  have g : ∀ c k, ¬ sRd c k → y.1 c k = x.1 c k := f
  exact TR3_f (g _ _ (by unfold sRd; omega)) (fun c k hc => g _ _ (by unfold sRd; omega)) h
end KRX
section KFR8
variable {G : kG} {q q0 q1 : kP} {d : Nat} {x x0 y z : gd} {o : Nat} {F : Int32 → gd → Prop} {Fv : gd → Prop} {P : Option gv → gd → Prop} {X : String → gd → Prop}
theorem kr_fault (hq : kV q) (hH : HOI x q) (l : Int32) (hO : X iOE x) (hP : ∀ r y, HOI y q → KRd x y → P (some (vi r)) y) : KE G q (d + 6) zk_X11_fault 0 [(0, vr 0), (1, vi l)] [] x P X := by
  have p19 : KE G q (d + 6) zk_X11_fault 19 [(0, vr 0), (1, vi l)] [] x P X := kg_X11_fault_19 hq l ⟨fun _ => hP _ x hH KR_rf, fun _ => hP _ x hH KR_rf⟩
  exact kg_X11_fault_0 hq l ⟨fun _ => p19, fun _ => ⟨fun _ => p19, fun _ => hO⟩⟩
theorem kr_runq (hq : kV q) (hH : HOI x q) (l : Int32) (hS : X iSE x) (hO : X iOE x) (hP : ∀ r y, HOI y q → KRd x y → P (some (vi r)) y) : KE G q (d + 7) zk_X11_run 0 [(0, vr 0), (1, vi l)] [] x P X := by
  have here : ∀ r, P (some (vi r)) x := fun r => hP r x hH KR_rf
  have hm : kiM q 120 := Or.inl rfl
  exact kg_X11_run_0 hq l (kz_run hq hH hS (fun hR => kz_what hq l 8 hO ⟨fun _ => here _, fun _ => here _, fun _ => here _, fun _ => ⟨fun _ => here _, fun _ => here _⟩, fun _ => km_isStuck hq hm hR.1 (fun r => ⟨fun _ => here _, fun _ => here _⟩), fun _ => kj_races hq hR.2.2 (fun r => here r), fun _ => here _, fun _ => km_allLate hq hm hR.1 (fun r => here r)⟩))
theorem kr_lock (hq : kV q) (hH : HOI x q) (l1 l2 : Int32) (hS : X iSE x) (hO : X iOE x) (hP : ∀ r y, HOI y q → KRd x y → P (some (vi r)) y) : KE G q (d + 7) zk_X11_lock 0 [(0, vr 0), (1, vi l1), (2, vi l2)] [] x P X := by
  have hm : kiM q 120 := Or.inl rfl
  exact kg_X11_lock_0 hq l1 l2 (kz_run hq hH hS (fun hR => kz_ix hq l1 _ hO (fun h0 h1 => kz_what hq l2 3 hO ⟨fun _ => kp_holder hq hm hR.1.1 hR.1.2.1 l1 h0 h1 (fun r => hP r x hH KR_rf), fun _ => kp_often hq hm hR.1.1 hR.1.2.1 l1 h0 h1 (fun r => hP r x hH KR_rf), fun _ => kp_waiters hq hm hR.1.1 hR.1.2.1 l1 (fun r r14 => hP r14 x hH KR_rf)⟩)))
theorem kr_thread (hq : kV q) (hH : HOI x q) (l1 l2 : Int32) (hS : X iSE x) (hO : X iOE x) (hP : ∀ r y, HOI y q → KRd x y → P (some (vi r)) y) : KE G q (d + 7) zk_X11_thread 0 [(0, vr 0), (1, vi l1), (2, vi l2)] [] x P X := by
  have hm : kiM q 120 := Or.inl rfl
  refine kg_X11_thread_0 hq l1 l2 (kz_run hq hH hS (fun hR => kz_ix hq l1 _ hO (fun h0 h1 => kz_what hq l2 5 hO ?_)))
  have hT : ((l1.toInt.toNat : Nat) : Int) < (x.1 60 10).toInt := by omega
  have eT : l1.toInt = ((l1.toInt.toNat : Nat) : Int) := by omega
  have hT6 := MM_6 hR.1.1 hT
  have hA := (hR.1.2.2 _ hT).1
  exact ⟨fun _ => kp_get hq hm hR.1.1 hR.1.2.1 l1 0 (K := 0) eT rfl hT6 (by omega) (hP _ x hH KR_rf), fun _ => kp_get hq hm hR.1.1 hR.1.2.1 l1 1 (K := 1) eT rfl hT6 (by omega) (hP _ x hH KR_rf), fun _ => kp_get hq hm hR.1.1 hR.1.2.1 l1 7 (K := 7) eT rfl hT6 (by omega) (hP _ x hH KR_rf), fun _ => kp_known hq hm hR.1.1 hR.1.2.1 l1 eT hT6 hA (fun r _ _ => hP r x hH KR_rf), fun _ => kp_lineOf hq hm hR.1.1 hR.1.2.1 l1 eT hT6 hA (fun r => hP r x hH KR_rf)⟩
theorem kr_act (hq : kV q) (hH : HOI x q) (l1 l2 : Int32) (hS : X iSE x) (hO : X iOE x) (hP : ∀ r y, HOI y q → KRd x y → P (some (vi r)) y) : KE G q (d + 7) zk_X11_act 0 [(0, vr 0), (1, vi l1), (2, vi l2)] [] x P X := by
  have here : ∀ r, P (some (vi r)) x := fun r => hP r x hH KR_rf
  refine kg_X11_act_0 hq l1 l2 (kz_run hq hH hS (fun hR => kz_ix hq l1 _ hO (fun h0 h1 => kz_what hq l2 5 hO ?_)))
  have v : vp_in l1 400 := by have := hR.2.2.1; rw [vp_in_iff]; omega
  exact ⟨fun _ => ⟨v, here _⟩, fun _ => ⟨v, here _⟩, fun _ => ⟨v, here _⟩, fun _ => ⟨v, here _⟩, fun _ => ⟨v, here _⟩⟩
theorem kr_before (hq : kV q) (hH : HOI x q) (l1 l2 : Int32) (hS : X iSE x) (hO : X iOE x) (hP : ∀ r y, gbool r → HOI y q → KRd x y → P (some (vi r)) y) : KE G q (d + 7) zk_X11_before 0 [(0, vr 0), (1, vi l1), (2, vi l2)] [] x P X := by
  exact kg_X11_before_0 hq l1 l2 (kz_run hq hH hS (fun hR => kz_ix hq l1 _ hO (fun h0 h1 => kz_ix hq l2 _ hO (fun g0 g1 => kj_isBefore hq hR.2.2 l1 l2 (A := l1.toInt.toNat) (B := l2.toInt.toNat) (by omega) (by omega) (by omega) (by omega) (fun r gr => ⟨gr, hP r x gr hH KR_rf⟩)))))
theorem kr_race (hq : kV q) (hH : HOI x q) (l1 l2 : Int32) (hS : X iSE x) (hO : X iOE x) (hP : ∀ r y, HOI y q → KRd x y → P (some (vi r)) y) : KE G q (d + 7) zk_X11_race 0 [(0, vr 0), (1, vi l1), (2, vi l2)] [] x P X :=
  kg_X11_race_0 hq l1 l2 (kz_run hq hH hS (fun hR => kj_races hq hR.2.2 (fun r => kz_ix hq l1 _ hO (fun h0 h1 => kz_what hq l2 2 hO (kj_laterOfRace hq hR.2.2 l1 (fun r7 hr7 => ⟨fun _ => kj_earlierOfRace hq hR.2.2 l1 r7 hr7 (fun r => hP r x hH KR_rf), fun _ => hP _ x hH KR_rf⟩))))))
theorem kr_outcome (hq : kV q) (hH : HOI x q) (l1 l2 l3 : Int32) (hA : X iAE x) (hO : X iOE x) (hP : ∀ r y, HOI y q → KRd x y → P (some (vi r)) y) : KE G q (d + 7) zk_X11_outcome 0 [(0, vr 0), (1, vi l1), (2, vi l2), (3, vi l3)] [] x P X := by
  have here : ∀ r, P (some (vi r)) x := fun r => hP r x hH KR_rf
  have k0 : (0 : Int32).toInt = 0 := rfl
  refine kg_X11_outcome_0 hq l1 l2 l3 (kz_way hq l1 hA (fun hw => kz_was hq hH l1 hw ⟨fun _ => kg_X11_outcome_26 hq l1 l2 l3 _ _ (kz_ix hq l2 0 hO (fun h0 h1 => ?_)), fun c => absurd rfl c⟩ (fun o e7 ho hz ht hC hp => ⟨fun c => absurd c (by decide), fun _ => ⟨way_in hw, fun u6 e6 => ⟨o, by rw [e6, e7], ho, kg_X11_outcome_26 hq l1 l2 l3 _ _ (kz_ix hq l2 _ hO (fun h0 h1 => kz_ix hq l3 _ hO (fun g0 g1 => ⟨way_in hw, fun u4 e4 => ⟨o, by rw [e4, e7], ho, kt_valueOf hq ho l2 l3 ht ⟨h0, h1⟩ (by have := hC.1.1; omega) (fun r => here r)⟩⟩)))⟩⟩⟩)))
  rw [k0] at h1; omega
theorem kr_alike (hq : kV q) (hH : HOI x q) (hP : ∀ r y, HOI y q → KRd x y → P (some (vi r)) y) : KT G q (d + 2) zk_X11_alike 0 [(0, vr 0)] [] x P := by
  have here : ∀ r, P (some (vi r)) x := fun r => hP r x hH KR_rf
  refine kg_X11_alike_0 hq (kz_was hq hH 0 (Or.inl rfl) ⟨fun _ => here _, fun c => absurd rfl c⟩ (fun o e0 ho hz ht hC hp => ⟨fun c => absurd c (by decide), fun _ => kz_was hq hH 1 (Or.inr rfl) ⟨fun _ => here _, fun c => absurd rfl c⟩ (fun o2 e1 ho2 hz2 ht2 hC2 hp2 => ⟨fun c => absurd c (by decide), fun _ => ⟨way_in (Or.inl rfl), fun u8 e8 => ⟨o, by rw [e8, e0], ho, fun _ => here _, fun _ => ⟨way_in (Or.inr rfl), fun u13 e13 => ⟨o2, by rw [e13, e1], ho2, fun _ => ⟨way_in (Or.inl rfl), fun u18 e18 => ⟨way_in (Or.inr rfl), fun u20 e20 => ⟨o2, by rw [e20, e1], ho2, o, by rw [e18, e0], ho, ?_⟩⟩⟩, fun _ => here _⟩⟩⟩⟩⟩)⟩))
  exact kt_same hq ho ho2 _ hC.1.1.2 ht ht2 (fun r _ => ⟨fun _ => here _, fun _ => here _⟩)
theorem kr_wipe (hq : kV q) (hH : HOI x q) (hP : ∀ y, HOI y q → (y.1 20 1 = 0 ∧ y.1 0 9 = 0) ∧ ZR y → P (some (vi (x.1 20 1))) y) : KT G q (d + 1) zk_X11_wipe 0 [(0, vr 0)] [] x P := by
  refine kg_X11_wipe_0 hq (fun x1 e1 => kz_forget hq (fun y f h9 h10 hz hf => ?_))
  have hh : HOI y q := by
    have f1 : fm sCm x x1 := by rw [e1]; exact fm_si (fm_rf _ _) (by unfold sCm; omega)
    have e20 : y.1 20 1 = 0 := by rw [f 20 1 (by unfold sFo; omega), e1, si_get, if_pos ⟨rfl, rfl⟩]
    refine HOI_z (fm_tr f1 (fm_w f (fun c k => fo_cm))) ?_ (fun e => absurd h9 e) h10 hz hH (fun o hO hn => ?_)
    · unfold kL; rw [e20]; decide
    · rw [hf o hO hn, e1, si_get, if_neg (by omega)]
  · exact hP y hh ⟨⟨by rw [f 20 1 (by unfold sFo; omega), e1, si_get, if_pos ⟨rfl, rfl⟩], h9⟩, ZR_of h10 hz hh⟩
theorem kr_feed (hq : kV q) (hH : HOI x q) (l1 : Int32) (l2 : Int64) (hA : ¬ (1 ≤ l1.toInt ∧ l1.toInt ≤ 8 ∧ (x.1 20 1).toInt + l1.toInt ≤ 3000) → X iAE x) (hP : (1 ≤ l1.toInt ∧ l1.toInt ≤ 8 ∧ (x.1 20 1).toInt + l1.toInt ≤ 3000) → ∀ y, HOI y q → ((y.1 20 1).toInt = (x.1 20 1).toInt + l1.toInt ∧ y.1 0 9 = 0 ∧ FBc x l2 l1.toInt.toNat y) ∧ ZR y → P (some (vi (y.1 20 1))) y) : KE G q (d + 7) zk_X11_feed 0 [(0, vr 0), (1, vi l1), (2, vl l2)] [] x P X := by
  have k1 : (1 : Int32).toInt = 1 := rfl
  have k8 : (8 : Int32).toInt = 8 := rfl
  have k3 : (3000 : Int32).toInt = 3000 := rfl
  have bL := hH.1
  unfold kL at bL
  refine kg_X11_feed_0 hq l1 l2 ⟨fun c => kg_X11_feed_11 hq (hA ?_), fun c1 => ⟨fun c8 => ⟨fun c3 => ?_, fun c3 => hA ?_⟩, fun c8 => kg_X11_feed_11 hq (hA ?_)⟩⟩
  · rw [t_lt, k1] at c; omega
  · rw [t_lt, k1] at c1
    rw [t_le, k8] at c8
    rw [t_le, k3, t_add (by omega) (by omega)] at c3
    have hok : 1 ≤ l1.toInt ∧ l1.toInt ≤ 8 ∧ (x.1 20 1).toInt + l1.toInt ≤ 3000 := by omega
    have loop : ∀ (n k : Nat) (i : Int32) (y : gd), i.toInt = k → (k : Int) ≤ l1.toInt → l1.toInt - k ≤ n → fm (fun c k => c = 21 ∨ (c = 20 ∧ k = 1)) x y → kL y → (y.1 20 1).toInt = (x.1 20 1).toInt + k ∧ FBc x l2 k y → KE G q (d + 7) zk_X11_feed 49 [(0, vr 0), (1, vi l1), (2, vl l2), (4, vi i)] [] y P X := by
      intro n
      have fin : ∀ (k : Nat) (y : gd), (k : Int) = l1.toInt → fm (fun c k => c = 21 ∨ (c = 20 ∧ k = 1)) x y → kL y → (y.1 20 1).toInt = (x.1 20 1).toInt + k ∧ FBc x l2 k y → KT G q (d + 6) zk_X11_forgetAll 0 [(0, vr 0)] [] y (rv (fun x2 => P (some (vi (x2.1 20 1))) x2)) := by
        intro k y ek fy hL el
        refine kz_forget hq (fun z f h9 h10 hz hf => ?_)
        have hh : HOI z q := by
          have f1 : fm sCm x y := fm_w fy (fun c k q => by unfold sCm; omega)
          refine HOI_z (fm_tr f1 (fm_w f (fun c k => fo_cm))) ?_ (fun e => absurd h9 e) h10 hz hH (fun o hO hn => ?_)
          · unfold kL at hL ⊢; rw [f 20 1 (by unfold sFo; omega)]; exact hL
          · rw [hf o hO hn, fy o 0 (by omega)]
        · refine hP hok z hh ⟨⟨by rw [f 20 1 (by unfold sFo; omega), el.1, ek], h9, ?_⟩, ZR_of h10 hz hh⟩
          have ekn : l1.toInt.toNat = k := by omega
          rw [ekn]
          exact ⟨fun p hp => by rw [f 21 p (by unfold sFo; omega)]; exact el.2.1 p hp, fun j hj => by rw [f 21 _ (by unfold sFo; omega)]; exact el.2.2 j hj⟩
      induction n with
      | zero =>
        intro k i y ei hk hn fy hL el
        refine kg_X11_feed_49 hq l1 l2 i ⟨fun c => fin k y (by omega) fy hL el, fun c => ?_⟩
        rw [t_le] at c; omega
      | succ n ih =>
        intro k i y ei hk hn fy hL el
        refine kg_X11_feed_49 hq l1 l2 i ⟨fun c => fin k y (by rw [t_le] at c; omega) fy hL el, fun c => ?_⟩
        rw [t_le] at c
        have k3' : (3000 : Int32).toInt = 3000 := rfl
        have hL0 := hL
        unfold kL at hL0
        have e1 := el.1
        have ub := t_cl (x.1 20 1)
        have uy := t_cl (y.1 20 1)
        refine kg_X9_addByte_0 hq _ ⟨fun c2 => ?_, fun c2 => ⟨by rw [vp_in_iff]; omega, fun x3 e3 x4 e4 => rv_i (ih (k + 1) _ x4 (by rw [t_add (by rw [k1]; omega) (by rw [k1]; omega), k1, ei]; rfl) (by push_cast; omega) (by push_cast; omega) (fm_tr fy ?_) ?_ ⟨?_, fun p hp => ?_, fun j hj => ?_⟩)⟩⟩
        · exfalso; rw [t_le, k3'] at c2; omega
        · rw [e4, e3]; exact fm_si (fm_si (fm_rf _ _) (Or.inl rfl)) (Or.inr ⟨rfl, rfl⟩)
        · have e : x4.1 20 1 = y.1 20 1 + 1 := by rw [e4, e3]; (simp only [si_get, sfl_get, Nat.reduceEqDiff, eq_self, and_false, false_and, and_true, true_and, if_true, if_false, reduceIte, reduceCtorEq])
          unfold kL
          rw [e, t_add (by rw [k1]; omega) (by rw [k1]; omega), k1]
          omega
        · have e : x4.1 20 1 = y.1 20 1 + 1 := by rw [e4, e3]; (simp only [si_get, sfl_get, Nat.reduceEqDiff, eq_self, and_false, false_and, and_true, true_and, if_true, if_false, reduceIte, reduceCtorEq])
          rw [e, t_add (by rw [k1]; omega) (by rw [k1]; omega), k1]
          push_cast; omega
        · rw [e4, si_cell (by decide), e3, si_get, if_neg (fun z => ?_)]
          · exact el.2.1 p hp
          · have := z.2
            omega
        · have ey : (y.1 20 1).toNatClampNeg = (x.1 20 1).toNatClampNeg + k := by omega
          rw [e4, si_cell (by decide), e3, si_get, ey]
          by_cases cj : j = k
          · rw [if_pos ⟨rfl, by rw [cj]⟩]
            have ek : i = Int32.ofNat j := by
              rw [t_eq, ei, cj]
              have : (k : Int) < 8 := by omega
              exact (Int32.toInt_ofNat_of_lt (by omega)).symm
            rw [ek]
            rfl
          · rw [if_neg (fun z => cj (by have := z.2; omega))]
            exact el.2.2 j (by omega)
    exact loop 8 0 _ x rfl (by omega) (by omega) (fm_rf _ _) hH.1 ⟨by push_cast; omega, fun p hp => rfl, fun j hj => absurd hj (Nat.not_lt_zero _)⟩
  · rw [t_lt, k1] at c1
    rw [t_le, k8] at c8
    rw [t_le, k3, t_add (by omega) (by omega)] at c3
    omega
  · rw [t_le, k8] at c8; omega
end KFR8
section KFR9
variable {G : kG} {q q0 q1 : kP} {d : Nat} {x x0 y z : gd} {o : Nat} {P : Option gv → gd → kP → Prop} {X : String → gd → kP → Prop}
theorem kr_linear (hu : kU q) (hH : HOI x q) (l : Int32) (hS : X iSE x q) (hA : X iAE x q) (hP : ∀ r y q1, kU q1 → kle q q1 → HOI y q1 → KRd x y → P (some (vi r)) y q1) : KM G q (d + 18) zk_X11_linear 0 [(0, vr 0), (1, vi l)] [] x P X := by
  have p56 : ∀ (q1 : kP) (y : gd), kU q1 → kle q q1 → HOI y q1 → JN y → q1.hi = true → KRd x y → KM G q1 (d + 18) zk_X11_linear 56 [(0, vr 0), (1, vi l)] [] y P X := by
    intro q1 y hu1 hl1 hH1 hJ hh el
    refine kg_X11_linear_56 (d := d + 11) hu1 l (fun u1 e1 => ⟨by rw [e1, k08_t hh], hh, kh_take (d := d + 16) hu1.1 hh hJ (fun z fz hc u3 e3 => ⟨by rw [e3, k08_t hh], hh, kh_fewest hu1.1 hh l hc.1 (fun r w fw => ?_)⟩)⟩)
    have f : fm sNw y w := fm_tr (fm_w fz (fun c k q => by unfold sHi at q; unfold sNw; omega)) (fm_w fw (fun c k q => by unfold sHl at q; unfold sNw; omega))
    have hw := HOI_mk (kle_rf q1) hu1 f hH1
    have e20 : KRd x w := fm_tr el (fm_w f (fun c k q => by unfold sNw at q; unfold sRd; omega))
    exact ⟨fun _ => hP _ w q1 hu1 hl1 hw e20, fun _ => hP _ w q1 hu1 hl1 hw e20⟩
  refine kg_X11_linear_0 (d := d + 11) hu l (kz_run hu.1 hH hS (fun hR => ⟨fun _ => kg_X11_linear_13 hu hA, fun _ => ⟨fun _ => ⟨fun _ u5 e5 => ⟨fun hn => ⟨k08_n (by rw [← e5, hn]), fun q8 x9 e8 e9 hu8 hl8 => ?_⟩, fun c7 h7 => p56 q x hu (kle_rf q) hH hR.2.2 (k08_s (e5.symm.trans h7)) KR_rf⟩, fun _ => hP _ x q hu (kle_rf q) hH KR_rf⟩, fun _ => kg_X11_linear_13 hu hA⟩⟩))
  have f9 : fm sNw x x9 := by
    rw [e9]
    refine fm_new (fun c hc k => ?_)
    have := (by decide +kernel : ∀ c ∈ 180 :: ops_180.flatMap xtch, (180 ≤ c ∧ c < 260) ∨ 300 ≤ c) c hc
    exact this
  exact p56 q8 x9 hu8 hl8 (HOI_mk hl8 hu8 f9 hH) (JN_o (fun c k a b => f9 c k (by unfold sNw; omega)) hR.2.2) (by rw [e8]; rfl) (fm_w f9 (fun c k q => by unfold sNw at q; unfold sRd; omega))
theorem kr_compile (hu : kU q) (hH : HOI x q) (hP : ∀ r y q1, (q1 = q ∨ q1 = kTh q) → kU q1 → HOI y q1 → y.1 20 1 = x.1 20 1 → CCf x y → ZR y → P (some (vi r)) y q1) : KM G q (d + 14) zk_X11_compile 0 [(0, vr 0)] [] x P X := by
  have hfin : ∀ (r : Int32) (y : gd) (q1 : kP), (q1 = q ∨ q1 = kTh q) → Bs x q y → (¬ y.1 0 9 = 0 → CO y) → CCf x y → P (some (vi r)) y q1 := by
    intro r y q1 h1 hB hC hcf
    obtain ⟨b1, b2, b3, ⟨b4, b5⟩, b6⟩ := hB
    have hh : HOI y q := HOI_z b1 b2 hC b3 b4 hH b5
    rcases h1 with e | e
    · subst e; exact hP r y _ (Or.inl rfl) hu hh b6 hcf (ZR_of b3 b4 hh)
    · subst e; exact hP r y _ (Or.inr rfl) (kTh_U hu) (HOI_th hh) b6 hcf (ZR_of b3 b4 hh)
  have p116 : ∀ (q1 : kP) (y : gd) (l1 s0 : Int32), (q1 = q ∨ q1 = kTh q) → kU q1 → Bs x q y → (¬ y.1 0 9 = 0 → LPre y) → CCz x y → KM G q1 (d + 14) zk_X11_compile 116 [(0, vr 0), (1, vi l1)] [vi s0, vr 0] y P X := by
    intro q1 y l1 s0 h1 hu1 hB hL hZ
    refine kg_X11_compile_116 (d := d + 13) hu1 l1 s0 (fun x1 e1 => ?_)
    have f1 : fm (fun c k => c = 0 ∧ k = 12) y x1 := by rw [e1]; exact fm_si (fm_rf _ _) ⟨rfl, rfl⟩
    have hB1 : Bs x q x1 := Bs_st (fm_w f1 (fun c k q => by omega)) hB
    have e9 : x1.1 0 9 = y.1 0 9 := f1 _ _ (by omega)
    refine ⟨fun c => ?_, fun c => hfin _ x1 q1 h1 hB1 (fun e => absurd c e) (CCz_f (CCz_st (fm_w f1 (fun c k q => by omega)) hZ) c)⟩
    have c9 := c
    rw [e9] at c
    obtain ⟨a, b, o1, o2, o3⟩ := LPre_0 (fm_w f1 (fun c k q => q.1)) (hL c)
    refine kf_link hu1.1 (OT_j o2 o1) o3 (fun w hC fw lk1 lk2 => ?_)
    exact hfin _ w q1 h1 (Bs_st (fm_w fw (fun c k q => by omega)) hB1) (fun _ => hC) (CCz_lk (CCz_st (fm_w f1 (fun c k q => by omega)) hZ) c9 fw lk1 lk2)
  have p92 : ∀ (q1 : kP) (y : gd) (l1 l2 s0 : Int32), (q1 = q ∨ q1 = kTh q) → kU q1 → Bs x q y → (¬ y.1 0 9 = 0 → LPre y) → (y.1 0 9 = 0 → vp_in l2 702) → CCz x y → KM G q1 (d + 14) zk_X11_compile 92 [(0, vr 0), (1, vi l1), (2, vi l2)] [vi s0, vr 0] y P X := by
    intro q1 y l1 l2 s0 h1 hu1 hB hL hv hZ
    refine kg_X11_compile_92 (d := d + 13) hu1 l1 l2 s0 (fun x1 e1 => ?_)
    have f1 : fm (fun c k => c = 0 ∧ k = 11) y x1 := by rw [e1]; exact fm_si (fm_rf _ _) ⟨rfl, rfl⟩
    have hB1 : Bs x q x1 := Bs_st (fm_w f1 (fun c k q => by omega)) hB
    have e9 : x1.1 0 9 = y.1 0 9 := f1 _ _ (by omega)
    have hL1 : ¬ x1.1 0 9 = 0 → LPre x1 := fun c => LPre_0 (fm_w f1 (fun c k q => q.1)) (hL (by rw [← e9]; exact c))
    have hZ1 := CCz_st (fm_w f1 (fun c k q => by omega)) hZ
    exact ⟨fun c => ⟨hv (by rw [← e9]; exact c), p116 q1 x1 l1 _ h1 hu1 hB1 hL1 hZ1⟩, fun c => p116 q1 x1 l1 _ h1 hu1 hB1 hL1 hZ1⟩
  have p58 : ∀ (q1 : kP) (y : gd) (l1 l2 : Int32), (q1 = q ∨ q1 = kTh q) → kU q1 → Bs x q y → (l1 = 0 → LPre y) → (¬ l1 = 0 → vp_in l2 702) → CCv x y l1 → KM G q1 (d + 14) zk_X11_compile 58 [(0, vr 0), (1, vi l1), (2, vi l2)] [] y P X := by
    intro q1 y l1 l2 h1 hu1 hB hL hv hZ
    have p68 : ∀ s0 : Int32, gbool s0 → (s0 = 0 ↔ ¬ l1 = 0) → (¬ s0 = 0 → LPre y) → (s0 = 0 → vp_in l2 702) → KM G q1 (d + 14) zk_X11_compile 68 [(0, vr 0), (1, vi l1), (2, vi l2)] [vi s0, vr 0] y P X := by
      intro s0 g hs9 hL0 hv0
      refine kg_X11_compile_68 (d := d + 13) hu1 l1 l2 s0 ⟨g, fun x1 e1 => ?_⟩
      have f1 : fm (fun c k => c = 0 ∧ k = 9) y x1 := by rw [e1]; exact fm_si (fm_rf _ _) ⟨rfl, rfl⟩
      have hB1 : Bs x q x1 := Bs_st (fm_w f1 (fun c k q => by omega)) hB
      have e9 : x1.1 0 9 = s0 := by rw [e1, si_get, if_pos ⟨rfl, rfl⟩]
      have hL1 : ¬ x1.1 0 9 = 0 → LPre x1 := fun c => LPre_0 (fm_w f1 (fun c k q => q.1)) (hL0 (by rw [← e9]; exact c))
      have hv1 : x1.1 0 9 = 0 → vp_in l2 702 := fun c => hv0 (by rw [← e9]; exact c)
      have hZ1 : CCz x x1 := CCv_z f1 (by rw [e9]; exact hs9) hZ
      exact ⟨fun c => ⟨hv1 c, p92 q1 x1 l1 l2 _ h1 hu1 hB1 hL1 hv1 hZ1⟩, fun c => p92 q1 x1 l1 l2 _ h1 hu1 hB1 hL1 hv1 hZ1⟩
    refine kg_X11_compile_58 (d := d + 13) hu1 l1 l2 ⟨fun c => p68 0 gbool_0 ⟨fun _ => c, fun _ => rfl⟩ (fun e => absurd rfl e) (fun _ => hv c), fun c => p68 1 gbool_1 ⟨fun e => absurd e (by decide), fun e => absurd c e⟩ (fun _ => hL c) (fun e => absurd e (by decide))⟩
  refine kg_X11_compile_0 (d := d + 13) hu (kz_forget hu.1 (fun x1 f1 e9 e10 hz hf => ?_))
  have hB1 : Bs x q x1 := by
    have e20 : x1.1 20 1 = x.1 20 1 := f1 _ _ (by unfold sFo; omega)
    refine ⟨fm_w f1 (fun c k => fo_cm), ?_, e10, ⟨hz, hf⟩, e20⟩
    have := hH.1
    unfold kL at this ⊢; rw [e20]; exact this
  have e21 : ∀ k, x1.1 21 k = x.1 21 k := fun k => f1 _ _ (by unfold sFo; omega)
  have eb : kby x1 = kby x := by funext p; unfold kby; rw [e21]
  have el1 : kln x1 = kln x := by unfold kln; rw [hB1.2.2.2.2]
  refine kf_cut (d := d + 3) hu.1 hB1.2.1 (fun x2 e f2 hK => ?_)
  rw [eb, el1] at hK
  have hT2 : kT x2 := hK.2.2.2
  have hB2 : Bs x q x2 := Bs_st (fm_w f2 (fun c k q => by unfold skC at q; omega)) hB1
  have z21 : ∀ k, x2.1 21 k = x.1 21 k := fun k => by rw [f2 21 k (by unfold skC; omega)]; exact e21 k
  have hKA := KA_ct hK
  obtain ⟨W, eW⟩ : ∃ W, W = pAl (ctK x2 e) (ctV x2 e) 701 (0, 0, 0, 0, 0) 0 [] := ⟨_, rfl⟩
  refine kh_readAll (d := d) hu.1 hT2 hKA (fun no y fy vy hn => ⟨rfl, ?_⟩) eW (fun y n L hOT hW hk0 hAy hny hHA hHB hTb hCn hCc => ?_)
  · have hBy : Bs x q y := Bs_st (fm_w fy (fun c k q => by unfold sR at q; omega)) hB2
    refine kg_X11_compile_42 (d := d + 13) (kTh_U hu) (kg_X7_tokenHere_0 (kTh_U hu).1 (ri_i ?_))
    refine p58 (kTh q) y _ _ (Or.inr rfl) (kTh_U hu) hBy (fun e => absurd e hn) (fun _ => vy) ⟨x2, e, hK, z21, fun k => by rw [fy 21 k (by unfold sR; omega)]; exact z21 k, Or.inr ⟨fun n j L e2 => ?_, hn⟩⟩
    rw [← eW, no] at e2
    exact absurd e2 (by simp)
  · have hBy : Bs x q y := Bs_st (fm_w hOT.2.2.2.2.2.1 (fun c k q => by unfold sR at q; omega)) hB2
    have hkT : kT y := hOT.1.1.1
    have hnx : 0 ≤ nx y := hOT.1.1.2.1
    have hnm : nx y ≤ mt y := hOT.1.1.2.2.2
    have hUS : US y := hOT.1.2.1
    have hFR := hOT.2.1
    have cy := nn_is hnx
    have hmt : (y.1 20 7).toInt ≤ 701 := by
      obtain ⟨-, n, hn, hn2, -⟩ := hkT
      omega
    have y21 : ∀ k, y.1 21 k = x.1 21 k := fun k => by rw [hOT.2.2.2.2.2.1 21 k (by unfold sR; omega)]; exact z21 k
    rw [eW] at hW
    obtain ⟨N9, eN, hok, srt, hbd, -⟩ := pAl_dT 701 _ _ _ _ hW
    have eN : L = N9 := eN
    rw [← eN] at hok srt hbd
    have hT1 : ∀ q ∈ L.filterMap (te1 (ctK x2 e) (ctV x2 e)), ctK x2 e q.1 = 1 ∧ q.1 < nn y := fun q hq => by
      obtain ⟨v, hv, ev⟩ := te_mem hq
      obtain ⟨g1, g2, -⟩ := te_is ev
      refine ⟨?_, (hbd q hq).2⟩
      rw [g2]
      exact (hok v hv).1 (by rcases g1 with g | g | g | g <;> rw [g] <;> decide)
    have hcf := CF_is (sN := smkB x2) (R := smk y) (Vx := y.1 27) (U := y.1 42) (fun a b z => smkB_is.mpr (smk_s (smkB_is.mp z))) (fun a b c z1 z2 => smkB_is.mpr (smk_t (smkB_is.mp z1) (smkB_is.mp z2))) rfl srt hok hT1 (fun a b ha hb ka kb => hAy.2.2.1 a b (by omega) (by omega) ka kb) (fun j hj k2 => hAy.2.1 j (by omega) k2) hHA hHB
    have lt9 : ∀ j : Nat, (j : Int) < (y.1 20 7).toInt → ¬ y.1 42 j = 0 → j < nn y := fun j hj h0 => by
      by_cases c : (j : Int) < nx y
      · omega
      · by_cases heq : (j : Int) = nx y
        · unfold FR at hFR
          have ej : (y.1 100 4).toNatClampNeg = j := by rw [t_cl]; show (nx y).toNat = j; omega
          rw [ej] at hFR
          exact absurd hFR h0
        · exact absurd (hUS.1 j (by omega) (by omega)) h0
    have hmy : mt y = (y.1 20 7).toInt := rfl
    refine kf_judge (d := d + 9) hu.1 hkT hOT.2.2.1.2.1 hTb (fun q hq => ?_) (fun j hj h0 => ?_) (fun j hj h12 => ?_) (fun r z fz hr0 hr1 hr2 hr3 => ?_)
    · obtain ⟨v, -, ev⟩ := te_mem hq
      exact te_srt ev
    · obtain ⟨v, E', hb⟩ := HBs_ex (hHB j (lt9 j hj h0) h0)
      exact HB_u hb
    · have hlt := lt9 j hj (by rw [h12]; decide)
      exact hUS.2 j (by omega) h12
    · have hBz : Bs x q z := Bs_st (fm_w fz (fun c k q => by omega)) hBy
      have emt : mt z = mt y := by unfold mt; rw [fz 20 7 (by omega)]
      have key : r = 0 ↔ ¬ jFl (smkB x2) (ctK x2 e) (ctV x2 e) L := by
        rw [hr2, ← hcf]
        refine ⟨fun g ⟨j, h1, h2⟩ => g ⟨j, by omega, h2⟩, fun g ⟨j, h1, h2⟩ => g ⟨j, lt9 j h1 (CF_n0 h2), h2⟩⟩
      refine p58 q z r _ (Or.inl rfl) hu hBz (fun e => ⟨x2, y, hOT, fm_w fz (fun c k q => by omega), fun j hj => hr0 e j (by rw [emt] at hj; exact hj)⟩) (fun e => ?_) ⟨x2, e, hK, z21, fun k => by rw [fz 21 k (by omega)]; exact y21 k, ?_⟩
      · have ht := hr1 e
        unfold tk at ht
        obtain ⟨-, n, hn, hn2, -⟩ := hkT
        rw [vp_in_iff]; omega
      · by_cases c0 : r = 0
        · refine Or.inl ⟨n, nn y, L, hW, key.mp c0, c0, CNk_k hCn (fun k hk => fz _ _ (by omega)), CCp_eq (fun c k q => fz c k (by unfold ccS at q; omega)) hCc, TBk_j hTb fz, fun j hj => ?_, fun j hj => ?_, ⟨nn y, ?_, ?_⟩, ?_, by rw [emt]; exact hmt⟩
          · have e42 : z.1 42 = y.1 42 := by funext k; exact fz 42 k (by omega)
            have hj' : (j : Int) < (y.1 20 7).toInt := by rw [emt] at hj; exact hj
            refine ⟨?_, fun z9 => ?_⟩
            · have sm : smk y = smk x2 := smk_e (fun c k q1 q2 => hOT.2.2.2.2.2.1 c k (by unfold sR; omega))
              have er : (fun a b => smkB x2 a b = true) = smk y := by
                funext a b
                rw [sm]
                exact propext smkB_is
              rw [er, e42]
              exact hr3 c0 j hj'
            · have := (hr0 c0 j hj').1
              rw [z9] at this
              revert this
              decide
          · have le : j ≤ e := by
              by_cases cc : j ≤ e
              · exact cc
              · unfold ctK at hj
                rw [if_neg cc] at hj
                exact absurd hj (by decide)
            rw [fz 27 j (by omega)]
            exact hAy.2.1 j le hj
          · have e42 : z.1 42 = y.1 42 := by funext k; exact fz 42 k (by omega)
            rw [e42]; exact hHA
          · rw [emt]; omega
          · have a := tPs_800 (sN := smkB x2) (E := E0v) hW
            have b := hAy.2.2.2.1
            omega
        · refine Or.inr ⟨fun n' j' L' e2 => ?_, c0⟩
          rw [hW] at e2
          have e3 : L = L' := congrArg (fun q : gN × Nat × gU => q.2.2) (Option.some.inj e2)
          rw [← e3]
          exact Classical.byContradiction (fun z => c0 (key.mpr z))
end KFR9
end
