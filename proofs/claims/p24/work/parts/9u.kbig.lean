section
/-! the class: calls that make something; the compiling -/
/-- cells whose data the ops touch -/
def xtch (o : gop) : List Nat := match o with
  | .inl a => [a.1]
  | .inr (.inl _) => []
  | .inr (.inr (.inl a)) => [a.1]
  | .inr (.inr (.inr _)) => (List.range 14).map gcl
theorem xops_same {l : List gop} {x : gd} {c : Nat} (h : c ∉ l.flatMap xtch) : (xops x l).1 c = x.1 c := by
  induction l generalizing x with
  | nil => rfl
  | cons o r ih =>
    rw [List.flatMap_cons] at h
    show (xops (xop x o) r).1 c = _
    rw [ih (fun q => h (List.mem_append_right _ q))]
    have h0 : c ∉ xtch o := fun q => h (List.mem_append_left _ q)
    rcases o with a | a | a | a
    · exact if_neg (fun e => h0 (List.mem_singleton.mpr e))
    · rfl
    · funext k
      show (si x a.1 a.2.1 a.2.2).1 c k = _
      rw [si_get, if_neg (fun e => h0 (List.mem_singleton.mpr e.1))]
    · exact if_neg (fun e => h0 (isG_m e))
theorem fm_new {S : Nat → Nat → Prop} {x : gd} {b : Nat} {l : List gop} (h : ∀ c ∈ b :: l.flatMap xtch, ∀ k, S c k) : fm S x (xops (znew x b) l) := by
  intro c k hc
  rw [xops_same (fun z => hc (h c (List.mem_cons_of_mem _ z) k)), zn_get, if_neg]
  intro e
  exact hc (h c (by rw [e]; exact List.mem_cons_self) k)
section KBG
variable {G : kG} {q q0 q1 : kP} {d : Nat} {x x0 y z : gd} {o : Nat} {P : Option gv → gd → kP → Prop} {X : String → gd → kP → Prop}
theorem k08_n (h : (kf q).1 0 8 = none) : q.hi = false := by
  have h : (if q.hi = true then some 180 else none) = (none : Option Nat) := h
  by_cases e : q.hi = true
  · rw [if_pos e] at h; cases h
  · cases hh : q.hi
    · rfl
    · exact absurd hh e
theorem k08_s {c : Nat} (h : (kf q).1 0 8 = some c) : q.hi = true := by
  have h : (if q.hi = true then some 180 else none) = some c := h
  by_cases e : q.hi = true
  · exact e
  · rw [if_neg e] at h; cases h
theorem k08_t (h : q.hi = true) : (kf q).1 0 8 = some 180 := by
  show (if q.hi = true then some 180 else none) = _
  rw [if_pos h]
theorem k07_n (h : (kf q).1 0 7 = none) : q.ex = false := by
  have h : (if q.ex = true then some 200 else none) = (none : Option Nat) := h
  by_cases e : q.ex = true
  · rw [if_pos e] at h; cases h
  · cases hh : q.ex
    · rfl
    · exact absurd hh e
theorem k07_s {c : Nat} (h : (kf q).1 0 7 = some c) : q.ex = true := by
  have h : (if q.ex = true then some 200 else none) = some c := h
  by_cases e : q.ex = true
  · exact e
  · rw [if_neg e] at h; cases h
theorem k07_t (h : q.ex = true) : (kf q).1 0 7 = some 200 := by
  show (if q.ex = true then some 200 else none) = _
  rw [if_pos h]
theorem k7_n0 (h : (kf q).1 7 0 = none) : q.t0 = false := by
  have h : (if q.t0 = true then some 260 else none) = (none : Option Nat) := h
  by_cases e : q.t0 = true
  · rw [if_pos e] at h; cases h
  · cases hh : q.t0
    · rfl
    · exact absurd hh e
theorem k7_n1 (h : (kf q).1 7 1 = none) : q.t1 = false := by
  have h : (if q.t1 = true then some 280 else none) = (none : Option Nat) := h
  by_cases e : q.t1 = true
  · rw [if_pos e] at h; cases h
  · cases hh : q.t1
    · rfl
    · exact absurd hh e
theorem k7_le {n : Nat} (hl : kle q q1) (h : (kf q).1 7 n = some o) : (kf q1).1 7 n = some o := by
  have h : kR q 7 n = some o := h
  show kR q1 7 n = some o
  unfold kR at h ⊢
  rw [if_neg (by omega), if_neg (by omega), if_pos rfl] at h ⊢
  by_cases e0 : n = 0
  · rw [if_pos e0] at h ⊢
    by_cases e : q.t0 = true
    · rw [if_pos e] at h; rw [if_pos (hl.2.1.2.2.1 e)]; exact h
    · rw [if_neg e] at h; cases h
  · rw [if_neg e0] at h ⊢
    by_cases e1 : n = 1
    · rw [if_pos e1] at h ⊢
      by_cases e : q.t1 = true
      · rw [if_pos e] at h; rw [if_pos (hl.2.1.2.2.2 e)]; exact h
      · rw [if_neg e] at h; cases h
    · rw [if_neg e1] at h; cases h
theorem HOI_Tn (hO : o = 260 ∨ o = 280) (f : fm (fun c k => o ≤ c ∧ c ≤ o + 14) x y) (z0 : y.1 o 0 = 0) (z3 : y.1 o 3 = 0) (hl : kle q q1) (hu1 : kU q1) (h : HOI x q) : HOI y q1 := by
  obtain ⟨h1, h2, h3, h4⟩ := h
  have hc : agC x y := fun c k hc => f c k (by omega)
  refine ⟨?_, fun h9 => ?_, fun h10 => ?_, fun p hp => ?_⟩
  · unfold kL at h1 ⊢; rw [f 20 1 (by omega)]; exact h1
  · rw [f 0 9 (by omega)] at h9; exact CO_fm (h2 h9) hc
  · rw [f 0 10 (by omega)] at h10
    exact RUN_o hc (fun c k a b => f c k (by omega)) (h3 h10)
  · by_cases e : p = o
    · subst e
      refine ⟨⟨?_, Or.inl z0⟩, fun _ => z0⟩
      unfold TO
      rw [z3]
      have k0 : (0 : Int32).toInt = 0 := rfl
      rw [k0]
      exact ⟨⟨by omega, by omega, oN_U hu1 p⟩, fun i hi => by omega⟩
    · obtain ⟨⟨t1, t2⟩, t3⟩ := h4 p hp
      have g0 : ∀ k, y.1 p k = x.1 p k := fun k => f p k (by omega)
      have ff : fm (fun c k => ¬ (p ≤ c ∧ c ≤ p + 14)) x y := fun c k hk => f c k (by omega)
      refine ⟨⟨TO_le hu1 hl (TO_fm ff (by omega) (fun k => by omega) t1), ?_⟩, fun hn => ?_⟩
      · rw [g0]
        rcases t2 with e2 | ⟨a, b⟩
        · exact Or.inl e2
        · exact Or.inr ⟨TZ_fm ff (by omega) (fun c k hc => by omega) a, CO_fm b hc⟩
      · rw [g0]; exact t3 (fun e3 => hn (kle_T hl e3))
/-- what the judging and the answer leave alone -/
theorem OT_j (f : fm (fun c k => c = 43 ∨ (c = 40 ∧ k = 11) ∨ c = 0) x y) (h : OT x0 x) : OT y y := by
  have e : ∀ c, c ≠ 43 → c ≠ 40 → c ≠ 0 → y.1 c = x.1 c := fun c a b c0 => funext fun k => f c k (by omega)
  have e6 : y.1 40 6 = x.1 40 6 := f _ _ (by omega)
  have e8 : y.1 40 8 = x.1 40 8 := f _ _ (by omega)
  have e10 : y.1 40 10 = x.1 40 10 := f _ _ (by omega)
  obtain ⟨h1, h2, h3, h4, h5, -, h7⟩ := h
  have E20 := e 20 (by omega) (by omega) (by omega)
  have E23 := e 23 (by omega) (by omega) (by omega)
  have E24 := e 24 (by omega) (by omega) (by omega)
  have E26 := e 26 (by omega) (by omega) (by omega)
  have E27 := e 27 (by omega) (by omega) (by omega)
  have E42 := e 42 (by omega) (by omega) (by omega)
  have E44 := e 44 (by omega) (by omega) (by omega)
  have E45 := e 45 (by omega) (by omega) (by omega)
  have E46 := e 46 (by omega) (by omega) (by omega)
  have E48 := e 48 (by omega) (by omega) (by omega)
  have E50 := e 50 (by omega) (by omega) (by omega)
  have E60 := e 60 (by omega) (by omega) (by omega)
  have E62 := e 62 (by omega) (by omega) (by omega)
  have E63 := e 63 (by omega) (by omega) (by omega)
  have E72 := e 72 (by omega) (by omega) (by omega)
  have E80 := e 80 (by omega) (by omega) (by omega)
  have E81 := e 81 (by omega) (by omega) (by omega)
  have E83 := e 83 (by omega) (by omega) (by omega)
  have E84 := e 84 (by omega) (by omega) (by omega)
  have E85 := e 85 (by omega) (by omega) (by omega)
  have E100 := e 100 (by omega) (by omega) (by omega)
  have E109 := e 109 (by omega) (by omega) (by omega)
  have E111 := e 111 (by omega) (by omega) (by omega)
  have E112 := e 112 (by omega) (by omega) (by omega)
  have E113 := e 113 (by omega) (by omega) (by omega)
  refine ⟨?_, ?_, ?_, ?_, ?_, fm_rf _ _, ?_⟩
  · unfold SU SV RB kT kL kTw US PQ BU nx mt at h1 ⊢
    simp only [E20, E23, E24, E26, E27, E42, E60, E62, E63, E100] at h1 ⊢
    exact h1
  · unfold FR at h2 ⊢
    simp only [E42, E100]
    exact h2
  · unfold RI0 KN OPs OP1 NM CD SA TS BU tk nx om ssm sop stg at h3 ⊢
    simp only [E20, E23, E24, E26, E27, E42, E44, E45, E46, E48, E50, E60, E62, E63, E72, E80, E81, E83, E84, E85, E100, E109, E111, E112, E113, e6, e8, e10] at h3 ⊢
    exact h3
  · unfold SCs SC sop stg ssm om at h4 ⊢
    simp only [E80, E81, E84, E100, E112] at h4 ⊢
    exact h4
  · rw [E100]; exact h5
  · show 2 * (y.1 80 9).toInt ≤ (y.1 100 4).toInt
    rw [E80, E100]; exact h7
theorem JM_j {j : Nat} (f : fm (fun c k => c = 0) x y) (h : JM x j) : JM y j := by
  unfold JM at h ⊢
  rw [f 42 j (by omega), f 43 j (by omega), f 40 8 (by omega), f 40 10 (by omega), f 40 6 (by omega), f 27 j (by omega), f 43 (j - 2) (by omega), f 46 _ (by omega)]
  exact h
/-- while a text is compiled -/
def Bs (x : gd) (q : kP) (y : gd) : Prop := fm sCm x y ∧ kL y ∧ y.1 0 10 = 0 ∧ ((∀ o, kiT q o → y.1 o 0 = 0) ∧ ∀ o, (o = 260 ∨ o = 280) → ¬ kiT q o → y.1 o 0 = x.1 o 0) ∧ y.1 20 1 = x.1 20 1
theorem Bs_st (f : fm (fun c k => ((20 ≤ c ∧ c < 120) ∧ ¬ (c = 20 ∧ k = 1)) ∨ (c = 0 ∧ ¬ k = 10)) y z) (h : Bs x q y) : Bs x q z := by
  obtain ⟨h1, h2, h3, ⟨h4, h5⟩, h6⟩ := h
  refine ⟨fm_tr h1 (fm_w f (fun c k q => by unfold sCm; omega)), ?_, ?_, ⟨fun o ho => ?_, fun o hO hn => ?_⟩, ?_⟩
  · unfold kL at h2 ⊢; rw [f 20 1 (by omega)]; exact h2
  · rw [f 0 10 (by omega)]; exact h3
  · have := iT_O ho
    rw [f o 0 (by omega)]; exact h4 o ho
  · rw [f o 0 (by omega)]; exact h5 o hO hn
  · rw [f 20 1 (by omega)]; exact h6
/-- what the linking asks for -/
def LPre (z : gd) : Prop := ∃ x0 y0, OT x0 y0 ∧ fm (fun c k => c = 43 ∨ (c = 40 ∧ k = 11) ∨ c = 0) y0 z ∧ ∀ j : Nat, (j : Int) < mt z → JM z j
theorem LPre_0 (f : fm (fun c k => c = 0) y z) (h : LPre y) : LPre z := by
  obtain ⟨a, b, h1, h2, h3⟩ := h
  refine ⟨a, b, h1, fm_tr h2 (fm_w f (fun c k q => Or.inr (Or.inr q))), fun j hj => JM_j f (h3 j ?_)⟩
  have e : mt z = mt y := by unfold mt; rw [f 20 7 (by omega)]
  rw [← e]; exact hj
/-! what compile makes of a text -/
def ctK (x : gd) (e j : Nat) : Int32 := if j ≤ e then kc (x.1 23 j) else 0
def ctV (x : gd) (e j : Nat) : Int32 := if j ≤ e ∧ kc (x.1 23 j) = 2 then x.1 27 j else 0
noncomputable def smkB (x : gd) (a b : Nat) : Bool := @decide (smk x a b) (Classical.propDecidable _)
theorem smkB_is {a b : Nat} : smkB x a b = true ↔ smk x a b := by
  unfold smkB
  exact @decide_eq_true_iff _ (Classical.propDecidable _)
theorem smk_s {a b : Nat} (h : smk x a b) : smk x b a := ⟨h.1.symm, h.2.1.symm, fun i hi => (h.2.2 i (by rw [h.2.1]; exact hi)).symm⟩
theorem smk_t {a b c : Nat} (h : smk x a b) (g : smk x b c) : smk x a c := ⟨h.1.trans g.1, h.2.1.trans g.2.1, fun i hi => (h.2.2 i hi).trans (g.2.2 i (by rw [← h.2.1]; exact hi))⟩
theorem KA_ct {b : Nat → Int32} {N e : Nat} (h : KCUT b N x e) : KA (ctK x e) (ctV x e) (smkB x) e x := by
  obtain ⟨⟨t0, t1, t2, t3, t4, t5⟩, -⟩ := h
  have ck : ∀ j, j ≤ e → ctK x e j = kc (x.1 23 j) := fun j hj => by unfold ctK; rw [if_pos hj]
  refine ⟨fun j hj => (ck j hj).symm, fun j hj k2 => ?_, fun a b _ _ _ _ => smkB_is.symm, t0, ?_⟩
  · rw [ck j hj] at k2
    unfold ctV
    rw [if_pos ⟨hj, k2⟩]
  · rw [ck e (Nat.le_refl _)]; exact t5
/-- compiled, and how many of each, and the code in numbers: as the text says -/
def CCf (x y : gd) : Prop := ∃ (z : gd) (e : Nat), KCUT (kby x) (kln x) z e ∧ (∀ k, z.1 21 k = x.1 21 k) ∧ (∀ k, y.1 21 k = x.1 21 k) ∧ ((∃ n j L, pAl (ctK z e) (ctV z e) 701 (0, 0, 0, 0, 0) 0 [] = some (n, j, L) ∧ ¬ jFl (smkB z) (ctK z e) (ctV z e) L ∧ ¬ y.1 0 9 = 0 ∧ CNk y n ∧ CK y (codN (smkB z) (ctV z e) (ctK z e) L)) ∨ ((∀ n j L, pAl (ctK z e) (ctV z e) 701 (0, 0, 0, 0, 0) 0 [] = some (n, j, L) → jFl (smkB z) (ctK z e) (ctV z e) L) ∧ y.1 0 9 = 0))
theorem LPk_f {sN : Nat → Nat → Bool} {V K : Nat → Int32} {L : gU} (f : fm (fun c _ => c = 0) y z) (h : LPk sN V K L y) : LPk sN V K L z := by
  obtain ⟨h1, h2, h3, h4, ⟨n, h5, h6⟩, h7, h8⟩ := h
  have e42 : z.1 42 = y.1 42 := by funext k; exact f 42 k (by omega)
  have e43 : z.1 43 = y.1 43 := by funext k; exact f 43 k (by omega)
  have em : mt z = mt y := by unfold mt; rw [f 20 7 (by omega)]
  refine ⟨CCp_eq (fun c k q => f c k (by unfold ccS at q; omega)) h1, TBk_f h2 (fun c k q => f c k (by omega)), fun j hj => ?_, fun j hj => by rw [f 27 j (by omega)]; exact h4 j hj, ⟨n, by rw [e42]; exact h5, by rw [em]; exact h6⟩, h7, by rw [em]; exact h8⟩
  rw [e42, e43]
  exact h3 j (by rw [← em]; exact hj)
theorem TBk_j {T : gTd} (h : TBk x T) (g : fm (fun c k => c = 43 ∨ (c = 40 ∧ k = 11)) x y) : TBk y T := by
  unfold TBk at h ⊢
  rw [g 40 6 (by omega), g 40 8 (by omega), g 40 10 (by omega), g 60 6 (by omega)]
  obtain ⟨⟨a1, a2, a3⟩, ⟨b1, b2⟩, c1, c2⟩ := h
  exact ⟨⟨a1, a2, fun i q hq => by rw [g 44 _ (by omega), g 46 _ (by omega), g 45 _ (by omega)]; exact a3 i q hq⟩, ⟨b1, fun i q hq => by rw [g 48 _ (by omega)]; exact b2 i q hq⟩, c1, fun i q hq => by rw [g 50 _ (by omega)]; exact c2 i q hq⟩
theorem te_srt {K V : Nat → Int32} {v : Nat × Nat × Nat} {q : Nat × Nat × Nat × Nat} (h : te1 K V v = some q) : q.2.1 = 0 ∨ q.2.1 = 1 ∨ q.2.1 = 2 := by
  unfold te1 at h
  split at h
  · cases Option.some.inj h; exact Or.inl rfl
  · split at h
    · cases Option.some.inj h; exact Or.inl rfl
    · split at h
      · cases Option.some.inj h; exact Or.inr (Or.inl rfl)
      · split at h
        · cases Option.some.inj h; exact Or.inr (Or.inr rfl)
        · exact absurd h (by simp)
theorem HBs_ex {sN : Nat → Nat → Bool} {j : Nat} {w : Int32} : ∀ {L : gU} {E : gV}, HBs sN L E j w → ∃ v E', HB sN E' v j w := by
  intro L
  induction L with
  | nil => intro E h; exact h.elim
  | cons v L ih =>
    intro E h
    rcases h with h | h
    · exact ⟨v, E, h⟩
    · exact ih h
theorem HB_u {sN : Nat → Nat → Bool} {v : Nat × Nat × Nat} {E : gV} {j : Nat} {w : Int32} (h : HB sN E v j w) : w = 1 ∨ w = 2 ∨ w = 3 ∨ w = 4 ∨ w = 5 ∨ w = 6 ∨ w = 7 ∨ w = 8 ∨ w = 9 ∨ w = 10 ∨ w = 11 ∨ w = 12 ∨ w = 13 := by
  unfold HB at h
  rcases h with ⟨-, h, -⟩ | ⟨-, h, -⟩ | ⟨-, h, -⟩ | ⟨-, h, -⟩ | ⟨-, h, -⟩ | ⟨-, h, -⟩ | ⟨-, -, h⟩ | ⟨-, h, -⟩ | ⟨-, h, -⟩ | ⟨-, h, -⟩ | ⟨-, h, -⟩ | ⟨-, h, -⟩ | ⟨-, h, -⟩ | ⟨-, h, -⟩ | ⟨-, h, -⟩
  · rw [h]; decide
  · rw [h]; decide
  · rw [h]; decide
  · rw [h]; decide
  · rw [h]; decide
  · rw [h]; decide
  · rcases h with h | h | h <;> rw [h] <;> decide
  · rw [h]; decide
  · rw [h]; decide
  · rw [h]; decide
  · rw [h]; decide
  · rw [h]; decide
  · rw [h]; decide
  · rw [h]; decide
  · rw [h]; decide
theorem CNk_k {n : gN} (h : CNk x n) (g : ∀ k, (k = 6 ∨ k = 9 ∨ k = 10 ∨ k = 14 ∨ k = 16) → y.1 60 k = x.1 60 k) : CNk y n := by
  unfold CNk at h ⊢
  rw [g 6 (by omega), g 9 (by omega), g 10 (by omega), g 14 (by omega), g 16 (by omega)]
  exact h
/-- while compiled is not yet said, l telling the fault; when it is said -/
def CCv (x y : gd) (l : Int32) : Prop := ∃ (z : gd) (e : Nat), KCUT (kby x) (kln x) z e ∧ (∀ k, z.1 21 k = x.1 21 k) ∧ (∀ k, y.1 21 k = x.1 21 k) ∧ ((∃ n j L, pAl (ctK z e) (ctV z e) 701 (0, 0, 0, 0, 0) 0 [] = some (n, j, L) ∧ ¬ jFl (smkB z) (ctK z e) (ctV z e) L ∧ l = 0 ∧ CNk y n ∧ LPk (smkB z) (ctV z e) (ctK z e) L y) ∨ ((∀ n j L, pAl (ctK z e) (ctV z e) 701 (0, 0, 0, 0, 0) 0 [] = some (n, j, L) → jFl (smkB z) (ctK z e) (ctV z e) L) ∧ ¬ l = 0))
/-- before it is linked -/
def CCz (x y : gd) : Prop := ∃ (z : gd) (e : Nat), KCUT (kby x) (kln x) z e ∧ (∀ k, z.1 21 k = x.1 21 k) ∧ (∀ k, y.1 21 k = x.1 21 k) ∧ ((∃ n j L, pAl (ctK z e) (ctV z e) 701 (0, 0, 0, 0, 0) 0 [] = some (n, j, L) ∧ ¬ jFl (smkB z) (ctK z e) (ctV z e) L ∧ ¬ y.1 0 9 = 0 ∧ CNk y n ∧ LPk (smkB z) (ctV z e) (ctK z e) L y) ∨ ((∀ n j L, pAl (ctK z e) (ctV z e) 701 (0, 0, 0, 0, 0) 0 [] = some (n, j, L) → jFl (smkB z) (ctK z e) (ctV z e) L) ∧ y.1 0 9 = 0))
theorem CCz_f (h : CCz x y) (h9 : y.1 0 9 = 0) : CCf x y := by
  obtain ⟨a, e, h1, h2, h3, h4⟩ := h
  exact ⟨a, e, h1, h2, h3, h4.elim (fun ⟨n, j, L, g1, g2, g3, g4⟩ => absurd h9 g3) Or.inr⟩
theorem CCz_lk (h : CCz x y) (h9 : ¬ y.1 0 9 = 0) (f : fm (fun c _ => c = 85 ∨ c = 86 ∨ c = 62 ∨ c = 63) y z) (l1 : ∀ j : Nat, (j : Int) < ssm y → LK1 y z j) (l2 : ∀ i : Nat, (i : Int) < (y.1 60 3).toInt → LK2 y z i) : CCf x z := by
  obtain ⟨a, e, h1, h2, h3, h4⟩ := h
  refine ⟨a, e, h1, h2, fun k => by rw [f 21 k (by omega)]; exact h3 k, ?_⟩
  rw [f 0 9 (by omega)]
  rcases h4 with ⟨n, j, L, g1, g2, g3, g4, g5⟩ | ⟨-, g⟩
  · obtain ⟨N9, eN, -, srt, -, -⟩ := pAl_dT 701 _ _ _ _ g1
    have eN : L = N9 := eN
    rw [← eN] at srt
    exact Or.inl ⟨n, j, L, g1, g2, g3, CNk_k g4 (fun k hk => f _ _ (by omega)), CK_of (fun a b z => smkB_is.mpr (smk_s (smkB_is.mp z))) (fun a b c z1 z2 => smkB_is.mpr (smk_t (smkB_is.mp z1) (smkB_is.mp z2))) g2 srt g5 (cod_ok g1 g2) f l1 l2⟩
  · exact absurd g h9
theorem CCz_st (f : fm (fun c k => c = 0 ∧ ¬ k = 9) y z) (h : CCz x y) : CCz x z := by
  obtain ⟨a, e, h1, h2, h3, h4⟩ := h
  refine ⟨a, e, h1, h2, fun k => by rw [f 21 k (by omega)]; exact h3 k, ?_⟩
  rw [f 0 9 (by omega)]
  exact h4.imp (fun ⟨n, j, L, g1, g2, g3, g4, g5⟩ => ⟨n, j, L, g1, g2, g3, CNk_k g4 (fun k hk => f _ _ (by omega)), LPk_f (fm_w f (fun c k q => q.1)) g5⟩) id
theorem CCv_z {l : Int32} (f : fm (fun c k => c = 0 ∧ k = 9) y z) (h9 : z.1 0 9 = 0 ↔ ¬ l = 0) (h : CCv x y l) : CCz x z := by
  obtain ⟨a, e, h1, h2, h3, h4⟩ := h
  refine ⟨a, e, h1, h2, fun k => by rw [f 21 k (by omega)]; exact h3 k, ?_⟩
  exact h4.imp (fun ⟨n, j, L, g1, g2, g3, g4, g5⟩ => ⟨n, j, L, g1, g2, fun z0 => h9.mp z0 g3, CNk_k g4 (fun k hk => f _ _ (by omega)), LPk_f (fm_w f (fun c k q => q.1)) g5⟩) (fun ⟨g1, g2⟩ => ⟨g1, h9.mpr g2⟩)
end KBG
end
section
/-! the class: attempt() -/
/-- what a trying changes, with what is made for it -/
def sAt (o c k : Nat) : Prop := (180 ≤ c ∧ c < 260) ∨ (o ≤ c ∧ c ≤ o + 14) ∨ 300 ≤ c ∨ (c = 60 ∧ k = 5) ∨ c = 65
/-- what stays of all states' -/
def KLc (x : gd) (o : Nat) (l : gLo) : Prop := (x.1 o 2).toInt = (l.1 : Nat) ∧ (x.1 o 4).toInt = (l.2.1 : Nat) ∧ (x.1 o 5).toInt = (l.2.2.1 : Nat) ∧ (∀ c, c < 24 → x.1 (o + 8) c = l.2.2.2.1 c) ∧ (∀ a, a < 6 → x.1 (o + 9) a = l.2.2.2.2.1 a) ∧ (x.1 o 3).toInt = (l.2.2.2.2.2.length : Nat)
def TL3 (C : gCo) (w : Nat) (x : gd) (o : Nat) (T : gTy) : Prop := KLc x o (loS C w (x.1 60 9).toInt.toNat T T.1.length)
def TR3 (C : gCo) (w : Nat) (x : gd) (o : Nat) (T : gTy) : Prop := TRo C w x o T ∧ TL3 C w x o T
theorem TL3_f {C : gCo} {w o : Nat} {x y : gd} {T : gTy} (e9 : y.1 60 9 = x.1 60 9) (e : ∀ c k, (c = o ∧ 2 ≤ k ∧ k ≤ 5) ∨ c = o + 8 ∨ c = o + 9 → y.1 c k = x.1 c k) (h : TL3 C w x o T) : TL3 C w y o T := by
  obtain ⟨h1, h2, h3, h4, h5, h6⟩ := h
  unfold TL3
  rw [e9]
  exact ⟨by rw [e _ _ (by omega)]; exact h1, by rw [e _ _ (by omega)]; exact h2, by rw [e _ _ (by omega)]; exact h3, fun c hc => by rw [e _ _ (by omega)]; exact h4 c hc, fun a ha => by rw [e _ _ (by omega)]; exact h5 a ha, by rw [e _ _ (by omega)]; exact h6⟩
theorem TR3_f {C : gCo} {w o : Nat} {x y : gd} {T : gTy} (e9 : y.1 60 9 = x.1 60 9) (e : ∀ c k, (c = o ∧ k ≤ 5) ∨ (o + 7 ≤ c ∧ c ≤ o + 12) → y.1 c k = x.1 c k) (h : TR3 C w x o T) : TR3 C w y o T := ⟨TRo_f (e _ _ (by omega)) (e _ _ (by omega)) (fun c k hc => e _ _ (by omega)) h.1, TL3_f e9 (fun c k hc => e _ _ (by omega)) h.2⟩
section KAT
variable {G : kG} {q : kP} {d : Nat} {x y z : gd} {o : Nat} {P : Option gv → gd → kP → Prop} {X : String → gd → kP → Prop} {C : gCo} {nl : Nat}
theorem kh_attempt (hu : kU q) (hH : HOI x q) (l1 l2 : Int32) (hK : ¬ x.1 0 9 = 0 → CK x C ∧ NC C ∧ NXc C ∧ NX3 C ∧ LkN C nl ∧ NCq C ∧ (x.1 60 9).toInt = (nl : Nat)) (hS : x.1 0 9 = 0 → X iSE x q) (hA : ¬ x.1 0 9 = 0 → ¬ ((l1 = 0 ∨ l1 = 1) ∧ 1 ≤ l2.toInt ∧ l2.toInt ≤ 3000) → X iAE x q) (hP : ∀ (w lim : Nat) y q1, (w = 0 ∨ w = 1) → l1 = Int32.ofNat w → l2.toInt = (lim : Nat) → 1 ≤ lim → lim ≤ 3000 → ¬ x.1 0 9 = 0 → kU q1 → kle q q1 → HOI y q1 → KF x y → fm (sAt (260 + 20 * w)) x y → TR3 C w y (260 + 20 * w) (tryM C w lim) → P (some (vi (y.1 (260 + 20 * w) 0))) y q1) : KM G q (d + 7) zk_X11_attempt 0 [(0, vr 0), (1, vi l1), (2, vi l2)] [] x P X := by
  have k1 : (1 : Int32).toInt = 1 := rfl
  have k3 : (3000 : Int32).toInt = 3000 := rfl
  refine kg_X11_attempt_0 hu l1 l2 (kf_comp hu.1 hH hS (fun c9 hC => kf_way hu.1 l1 (fun z => hA c9 (fun z2 => z z2.1)) (fun hw => ?_)))
  obtain ⟨hKx, hN, hXc, hX3, hLk, hq2, en⟩ := hK c9
  have hv := way_in hw
  obtain ⟨w, w01, ew, ewn⟩ := w_nat hw
  refine ⟨fun c => kg_X11_attempt_20 hu (hA c9 (fun z => ?_)), fun c1 => ⟨fun c3 => ?_, fun c => kg_X11_attempt_20 hu (hA c9 (fun z => ?_))⟩⟩
  · rw [t_lt, k1] at c; omega
  rotate_left
  · rw [t_le, k3] at c; omega
  rw [t_lt, k1] at c1
  rw [t_le, k3] at c3
  obtain ⟨lim, el⟩ : ∃ lim : Nat, l2.toInt = lim := ⟨l2.toInt.toNat, by omega⟩
  have b1 : 1 ≤ lim := by omega
  have b3 : lim ≤ 3000 := by omega
  have hP := fun y q1 => hP w lim y q1 w01 ew el b1 b3 c9
  clear hA hS hK
  have p75 : ∀ (q1 : kP) (y : gd), kU q1 → kle q q1 → HOI y q1 → CO y → q1.ex = true → (kf q1).1 7 w = some (260 + 20 * w) → KF x y → fm (sAt (260 + 20 * w)) x y → KM G q1 (d + 7) zk_X11_attempt 75 [(0, vr 0), (1, vi l1), (2, vi l2)] [] y P X := by
    intro q1 y hu1 hl1 hH1 hC1 he eo elf fy
    have ho := k7_T eo
    have ac : agC x y := fun c k hc => fy c k (by unfold sAt; omega)
    refine kg_X11_attempt_75 hu1 l1 l2 (fun u1 e1 => ⟨hv, fun u3 e3 => ⟨260 + 20 * w, by rw [e3, ewn, eo], ho, by rw [e1, k07_t he], he, ?_⟩⟩)
    rw [ew]
    refine kx_explore3 hu1 he ho hC1 (CK_f hKx ac) hN hXc hX3 hLk hq2 (by rw [ac 60 9 (by omega)]; exact en) w01 l2 el b1 b3 (fun z q7 hu7 hl7 et7 fz hz ht hJ hT hF hLo => ⟨by rw [← ew]; exact hv, fun u9 e9 => ⟨260 + 20 * w, by rw [e9, ← ew, ewn, k7_le hl7 eo], kle_T hl7 ho, ?_⟩⟩)
    exact hP z q7 hu7 (kle_tr hl1 hl7) (HOI_ex hl7 hu7 ho fz hz ht hC1 hH1) (KF_tr elf (KF_fm fz (fun c k q => by unfold sEx at q; omega))) (fm_tr fy (fm_w fz (fun c k q => by unfold sEx at q; unfold sAt; omega))) ⟨TRo_of hT hF, by
      have e9 : (z.1 60 9).toInt.toNat = nl := by rw [hJ.2.2]; rfl
      unfold TL3
      rw [e9]
      exact ⟨hLo.1, hLo.2.1, hLo.2.2.1, hLo.2.2.2.1, hLo.2.2.2.2.1, hLo.2.2.2.2.2.1⟩⟩
  have p53 : ∀ (q1 : kP) (y : gd), kU q1 → kle q q1 → HOI y q1 → CO y → q1.ex = true → KF x y → fm (sAt (260 + 20 * w)) x y → KM G q1 (d + 7) zk_X11_attempt 53 [(0, vr 0), (1, vi l1), (2, vi l2)] [] y P X := by
    intro q1 y hu1 hl1 hH1 hC1 he elf fy
    refine kg_X11_attempt_53 hu1 l1 l2 ⟨hv, fun u2 e2 => ⟨fun hn => ⟨hv, fun i0 => ?_, fun i1 => ?_⟩, fun c4 h4 => ?_⟩⟩
    · have w0 : w = 0 := by rw [i0] at ewn; exact ewn.symm
      rw [i0, hn] at e2
      refine ⟨k7_n0 e2.symm, fun q5 x6 e5 e6 hu5 hl5 => ?_⟩
      have f6 : fm (fun c k => 260 ≤ c ∧ c ≤ 260 + 14) y x6 := by
        rw [e6]
        exact fm_new (fun c hc k => (by decide +kernel : ∀ c ∈ 260 :: ops_260.flatMap xtch, 260 ≤ c ∧ c ≤ 260 + 14) c hc)
      refine p75 q5 x6 hu5 (kle_tr hl1 hl5) (HOI_Tn (Or.inl rfl) f6 (by rw [e6]; rfl) (by rw [e6]; rfl) hl5 hu5 hH1) (CO_fm hC1 (fun c k hc => f6 c k (by omega))) (hl5.2.1.2.1 he) ?_ (KF_tr elf (KF_fm f6 (fun c k q => by omega))) (fm_tr fy (fm_w f6 (fun c k q => by unfold sAt; omega)))
      rw [w0, e5]; rfl
    · have w1 : w = 1 := by rw [i1] at ewn; exact ewn.symm
      rw [i1, hn] at e2
      refine ⟨k7_n1 e2.symm, fun q5 x6 e5 e6 hu5 hl5 => ?_⟩
      have f6 : fm (fun c k => 280 ≤ c ∧ c ≤ 280 + 14) y x6 := by
        rw [e6]
        exact fm_new (fun c hc k => (by decide +kernel : ∀ c ∈ 280 :: ops_280.flatMap xtch, 280 ≤ c ∧ c ≤ 280 + 14) c hc)
      refine p75 q5 x6 hu5 (kle_tr hl1 hl5) (HOI_Tn (Or.inr rfl) f6 (by rw [e6]; rfl) (by rw [e6]; rfl) hl5 hu5 hH1) (CO_fm hC1 (fun c k hc => f6 c k (by omega))) (hl5.2.1.2.1 he) ?_ (KF_tr elf (KF_fm f6 (fun c k q => by omega))) (fm_tr fy (fm_w f6 (fun c k q => by unfold sAt; omega)))
      rw [w1, e5]; rfl
    · rw [h4, ewn] at e2
      have eo := (k7_w e2.symm).2
      exact p75 q1 y hu1 hl1 hH1 hC1 he (by rw [← e2, eo]) elf fy
  intro u5 e5
  refine ⟨fun hn => ⟨k07_n (by rw [← e5, hn]), fun q8 x9 e8 e9 hu8 hl8 => ?_⟩, fun c7 h7 => p53 q x hu (kle_rf q) hH hC (k07_s (e5.symm.trans h7)) KF_rf (fm_rf _ _)⟩
  have f9 : fm sNw x x9 := by
    rw [e9]
    refine fm_new (fun c hc k => ?_)
    exact (by decide +kernel : ∀ c ∈ 200 :: ops_200.flatMap xtch, (180 ≤ c ∧ c < 260) ∨ 300 ≤ c) c hc
  exact p53 q8 x9 hu8 hl8 (HOI_mk hl8 hu8 f9 hH) (CO_fm hC (fun c k hc => f9 c k (by unfold sNw; omega))) (by rw [e8]; rfl) (KF_fm f9 (fun c k q => by unfold sNw at q; omega)) (fm_w f9 (fun c k q => by unfold sNw at q; unfold sAt; omega))
end KAT
end
section
/-! the class: what other calls leave of a run, of a trying -/
section KFR
variable {x y : gd} {q : kP} {o : Nat} {C : gCo} {T : gTy} {w n : Nat} {c : Nat → Nat}
theorem KRun_f (hK : CK x C) (hc : agC x y) (f : ∀ c k, 120 ≤ c → c < 180 → y.1 c k = x.1 c k) (r : KRun C w n c x) : KRun C w n c y := by
  obtain ⟨r1, ⟨r2, r3, r4⟩, ⟨r5, r6⟩, r7, r8⟩ := r
  refine ⟨RUN_o hc f r1, ⟨KMm_ag (Or.inl rfl) r1.1 hK (hc 60 6 (by omega)) (hc 60 9 (by omega)) (hc 60 13 (by omega)) (fun k hk => f _ _ (by omega) (by omega)) (fun k => f _ _ (by omega) (by omega)) r2, r3, kchL_ag (f _ _ (by omega) (by omega)) (fun c k h => f _ _ (by omega) (by omega)) r4⟩, ⟨r5, by rw [f _ _ (by omega) (by omega)]; exact r6⟩, by rw [f _ _ (by omega) (by omega)]; exact r7, fun k hk => by rw [f 162 k (by omega) (by omega)]; exact r8 k hk⟩
/-- a trying leaves the run -/
theorem KRun_at (hO : o = 260 ∨ o = 280) (hK : CK x C) (f : fm (sAt o) x y) (r : KRun C w n c x) : KRun C w n c y := KRun_f hK (fun c k hc => f c k (by unfold sAt; omega)) (fun c k h1 h2 => f c k (by unfold sAt; omega)) r
/-- a run leaves the tryings -/
theorem TR3_rn (hO : o = 260 ∨ o = 280) (f : fm sRn x y) (h : TR3 C w x o T) : TR3 C w y o T := TR3_f (f _ _ (by unfold sRn; omega)) (fun c k hc => f _ _ (by unfold sRn; omega)) h
/-- one way's trying leaves the other's -/
theorem TR3_at {p : Nat} (hO : o = 260 ∨ o = 280) (hp : p = 260 ∨ p = 280) (ne : ¬ o = p) (f : fm (sAt p) x y) (h : TR3 C w x o T) : TR3 C w y o T := TR3_f (f _ _ (by unfold sAt; omega)) (fun c k hc => f _ _ (by unfold sAt; omega)) h
end KFR
end
section
/-! the uses' tokens are names, or wholes; names are told in order -/
def oZ (K : Nat → Int32) (v : Nat × Nat × Nat) : Prop := (v.1 ∈ [3, 6, 7, 22, 23, 24, 25, 26, 31, 32, 33, 34] → K v.2.1 = 1) ∧ (v.1 = 27 → K v.2.1 = 1 ∧ K v.2.2 = 1) ∧ (v.1 ∈ [65, 66, 67] → K v.2.2 = 1) ∧ (v.1 = 12 → K v.2.1 = 2 ∧ K v.2.2 = 1) ∧ (v.1 ∈ [32, 70] → K v.2.2 = 2)
def eZ (K : Nat → Int32) (L L' : gU) : Prop := ∃ N, L' = L ++ N ∧ ∀ v ∈ N, oZ K v
section EZL
variable {K V : Nat → Int32} {L L' L2 : gU} {o : Bool}
theorem oZ_n {k a b : Nat} (h : ¬ k ∈ [3, 6, 7, 22, 23, 24, 25, 26, 31, 32, 33, 34] ∧ ¬ k = 27 ∧ ¬ k ∈ [65, 66, 67] ∧ ¬ k = 12 ∧ ¬ k ∈ [32, 70]) : oZ K (k, a, b) := ⟨fun c => absurd c h.1, fun c => absurd c h.2.1, fun c => absurd c h.2.2.1, fun c => absurd c h.2.2.2.1, fun c => absurd c h.2.2.2.2⟩
theorem oZ_1 {k a b : Nat} (h : ¬ k = 27 ∧ ¬ k ∈ [65, 66, 67] ∧ ¬ k = 12 ∧ ¬ k ∈ [32, 70]) (h1 : K a = 1) : oZ K (k, a, b) := ⟨fun _ => h1, fun c => absurd c h.1, fun c => absurd c h.2.1, fun c => absurd c h.2.2.1, fun c => absurd c h.2.2.2⟩
theorem oZ_2 {k a b : Nat} (h : ¬ k ∈ [3, 6, 7, 22, 23, 24, 25, 26, 31, 32, 33, 34] ∧ ¬ k = 27 ∧ ¬ k = 12 ∧ ¬ k ∈ [32, 70]) (h1 : K b = 1) : oZ K (k, a, b) := ⟨fun c => absurd c h.1, fun c => absurd c h.2.1, fun _ => h1, fun c => absurd c h.2.2.1, fun c => absurd c h.2.2.2⟩
theorem oZ_w {k a b : Nat} (h : ¬ k ∈ [3, 6, 7, 22, 23, 24, 25, 26, 31, 32, 33, 34] ∧ ¬ k = 27 ∧ ¬ k ∈ [65, 66, 67] ∧ ¬ k = 12) (h1 : K b = 2) : oZ K (k, a, b) := ⟨fun c => absurd c h.1, fun c => absurd c h.2.1, fun c => absurd c h.2.2.1, fun c => absurd c h.2.2.2, fun _ => h1⟩
theorem oZ_27 {a b : Nat} (h1 : K a = 1) (h2 : K b = 1) : oZ K (27, a, b) := ⟨fun c => absurd c (show ¬ 27 ∈ [3, 6, 7, 22, 23, 24, 25, 26, 31, 32, 33, 34] by decide), fun _ => ⟨h1, h2⟩, fun c => absurd c (show ¬ 27 ∈ [65, 66, 67] by decide), fun c => absurd c (show ¬ 27 = 12 by decide), fun c => absurd c (show ¬ 27 ∈ [32, 70] by decide)⟩
theorem oZ_12 {a b : Nat} (h1 : K a = 2) (h2 : K b = 1) : oZ K (12, a, b) := ⟨fun c => absurd c (show ¬ 12 ∈ [3, 6, 7, 22, 23, 24, 25, 26, 31, 32, 33, 34] by decide), fun c => absurd c (show ¬ 12 = 27 by decide), fun c => absurd c (show ¬ 12 ∈ [65, 66, 67] by decide), fun _ => ⟨h1, h2⟩, fun c => absurd c (show ¬ 12 ∈ [32, 70] by decide)⟩
theorem oZ_32 {a b : Nat} (h1 : K a = 1) (h2 : K b = 2) : oZ K (32, a, b) := ⟨fun _ => h1, fun c => absurd c (show ¬ 32 = 27 by decide), fun c => absurd c (show ¬ 32 ∈ [65, 66, 67] by decide), fun c => absurd c (show ¬ 32 = 12 by decide), fun _ => h2⟩
theorem eZ_rf : eZ K L L := ⟨[], by rw [List.append_nil], fun _ h => by cases h⟩
theorem eZ_tr (h : eZ K L L') (g : eZ K L' L2) : eZ K L L2 := by
  obtain ⟨N, e, h⟩ := h
  obtain ⟨N2, e2, g⟩ := g
  exact ⟨N ++ N2, by rw [e2, e, List.append_assoc], fun v hv => (List.mem_append.mp hv).elim (h v) (g v)⟩
theorem eZ_v {v : Nat × Nat × Nat} (h : oZ K v) : eZ K L (L ++ [v]) := ⟨_, rfl, fun w hw => by rw [List.mem_singleton.mp hw]; exact h⟩
theorem pt_oZ {w : Int32} {q r : Nat × gU} (h : pt K w q = some r) : eZ K q.2 r.2 := by
  obtain ⟨-, -, e⟩ := pt_is h
  rw [e]; exact eZ_rf
theorem pan_oZ {v : Nat × Nat × Nat} {q r : Nat × gU} (hv : oZ K v) (h : pan v q = some r) : eZ K q.2 r.2 := by
  unfold pan at h
  cases Option.some.inj h
  exact eZ_v hv
abbrev nkz (K : Nat → Int32) (rE : Nat → Nat → gU → gOp) : Prop := ∀ s i L q, rE s i L = some q → eZ K L q.2
theorem pW_oZ {rE : Nat → Nat → gU → gOp} {th : Nat} (hr : nkz K rE) : ∀ (f j : Nat) (L : gU) (q : Nat × gU), pW rE K th f j L = some q → eZ K L q.2 := by
  intro f
  induction f with
  | zero => intro j L q h; exact absurd h (by simp [pW])
  | succ f ih =>
    intro j L q h
    rw [pW] at h
    split at h
    · split at h
      · obtain ⟨z, hz, h2⟩ := Option.bind_eq_some_iff.mp h
        exact eZ_tr (hr _ _ _ _ hz) (eZ_tr (eZ_v (oZ_n (by decide))) (ih _ _ _ h2))
      · exact absurd h (by simp)
    · cases Option.some.inj h; exact eZ_rf
theorem pO_oZ {rE : Nat → Nat → gU → gOp} (hr : nkz K rE) {i : Nat} {q : Nat × gU} (h : pO rE K o i L = some q) : eZ K L q.2 := by
  unfold pO at h
  split at h
  · exact absurd h (by simp)
  · split at h
    · cases Option.some.inj h; exact eZ_v (oZ_n (by decide))
    · split at h
      · cases Option.some.inj h; exact eZ_v (oZ_n (by decide))
      · split at h
        · obtain ⟨z, hz, h2⟩ := Option.bind_eq_some_iff.mp h
          exact eZ_tr (hr _ _ _ _ hz) (pt_oZ h2)
        · split at h
          · next k1 =>
            split at h
            · split at h
              · split at h
                · next c =>
                  cases Option.some.inj h
                  have := eZ_tr (eZ_v (L := L) (v := (7, i, 0)) (oZ_1 (by decide) k1)) (eZ_v (v := (12, i + 2, i)) (oZ_12 c.2.1.1 k1))
                  rw [List.append_assoc] at this
                  exact this
                · exact absurd h (by simp)
              · cases Option.some.inj h; exact eZ_v (oZ_1 (by decide) k1)
            · cases Option.some.inj h; exact eZ_v (oZ_1 (by decide) k1)
          · exact absurd h (by simp)
theorem pE_oZ : ∀ f : Nat, nkz K (pE K o f) := by
  intro f
  induction f with
  | zero => intro s i L q h; exact absurd h (by simp [pE])
  | succ f ih =>
    intro s i L q h
    rw [pE] at h
    split at h
    · obtain ⟨z, hz, h2⟩ := Option.bind_eq_some_iff.mp h
      refine eZ_tr ?_ (pW_oZ ih _ _ _ _ h2)
      split at hz
      · split at hz
        · obtain ⟨y, hy, h3⟩ := Option.bind_eq_some_iff.mp hz
          cases Option.some.inj h3
          exact eZ_tr (ih _ _ _ _ hy) (eZ_v (oZ_n (by decide)))
        · exact absurd hz (by simp)
      · exact pO_oZ ih hz
    · exact absurd h (by simp)
theorem pX_oZ {f i : Nat} {q : Nat × gU} (h : pX K o f i L = some q) : eZ K L q.2 := by
  obtain ⟨z, hz, h2⟩ := Option.bind_eq_some_iff.mp h
  exact eZ_tr (pE_oZ f _ _ _ _ hz) (pan_oZ (oZ_n (k := 54) (by decide)) h2)
theorem pXq_oZ {f : Nat} {r q : Nat × gU} (h : pXq K f r = some q) : eZ K r.2 q.2 := pX_oZ h
theorem pP_oZ {f i : Nat} {q : Nat × gU} (h : pP K f i L = some q) : eZ K L q.2 := by
  unfold pP at h
  split at h
  · next k1 =>
    split at h
    · split at h
      · obtain ⟨z, hz, h2⟩ := Option.bind_eq_some_iff.mp h
        exact eZ_tr (eZ_tr (eZ_v (oZ_1 (by decide) k1.1)) (pX_oZ hz)) (pt_oZ h2)
      · exact absurd h (by simp)
    · cases Option.some.inj h; exact eZ_v (oZ_1 (by decide) k1.1)
  · exact absurd h (by simp)
theorem pme_oZ {t : Option Nat} (ht : ∀ t0, t = some t0 → K t0 = 1) : eZ K L (L ++ pme t) := by
  cases t with
  | none => rw [pme, List.append_nil]; exact eZ_rf
  | some t => exact eZ_v (oZ_1 (by decide) (ht t rfl))
theorem pma_oZ {t : Option Nat} (ht : ∀ t0, t = some t0 → K t0 = 1) : eZ K L (L ++ pma t) := by
  cases t with
  | none => rw [pma, List.append_nil]; exact eZ_rf
  | some t => exact eZ_v (oZ_1 (by decide) (ht t rfl))
theorem pal_oZ {t : Option Nat} {i : Nat} (ht : ∀ t0, t = some t0 → K t0 = 1) (k1 : K i = 1) : eZ K L (L ++ [pal t i]) := by
  cases t with
  | none => exact eZ_v (oZ_1 (by decide) k1)
  | some t => exact eZ_v (oZ_27 (ht t rfl) k1)
theorem pR_oZ {f i : Nat} {t : Option Nat} {q : Nat × gU} (ht : ∀ t0, t = some t0 → K t0 = 1) (h : pR K f t i L = some q) : eZ K L q.2 := by
  unfold pR at h
  split at h
  · split at h
    · obtain ⟨z4, hz4, h4⟩ := Option.bind_eq_some_iff.mp h
      obtain ⟨z3, hz3, h3⟩ := Option.bind_eq_some_iff.mp hz4
      obtain ⟨z2, hz2, h2⟩ := Option.bind_eq_some_iff.mp hz3
      obtain ⟨z5, hz5, h5⟩ := Option.bind_eq_some_iff.mp h4
      have d : eZ K z5.2 q.2 := pan_oZ (oZ_n (by decide)) h5
      have a : eZ K L z4.2 := eZ_tr (eZ_tr (eZ_tr (pme_oZ ht) (pP_oZ hz2)) (pt_oZ h2)) (pXq_oZ h3)
      split at hz5
      · obtain ⟨z6, hz6, h6⟩ := Option.bind_eq_some_iff.mp hz5
        exact eZ_tr (eZ_tr (eZ_tr a (pt_oZ hz6)) (pXq_oZ h6)) d
      · cases Option.some.inj hz5; exact eZ_tr a d
    · exact absurd h (by simp)
  · split at h
    · obtain ⟨z, hz, h2⟩ := Option.bind_eq_some_iff.mp h
      exact eZ_tr (eZ_tr (pme_oZ ht) (pP_oZ hz)) (pan_oZ (oZ_n (by decide)) h2)
    · split at h
      · next k1 =>
        split at h
        · cases Option.some.inj h; exact pal_oZ ht k1.1
        · exact absurd h (by simp)
      · obtain ⟨z, hz, h2⟩ := Option.bind_eq_some_iff.mp h
        exact eZ_tr (eZ_tr (pma_oZ ht) (pX_oZ hz)) (pan_oZ (oZ_n (by decide)) h2)
abbrev nkx (K : Nat → Int32) (rS : Nat → Nat → gU → gTs) : Prop := ∀ c i L q, rS c i L = some q → eZ K L q.2.2
theorem pBl_oZ {rS : Nat → Nat → gU → gTs} {z : Nat} (hr : nkx K rS) : ∀ (n c i : Nat) (L : gU) (q : Nat × Nat × gU), pBl rS K z n c i L = some q → eZ K L q.2.2 := by
  intro n
  induction n with
  | zero => intro c i L q h; exact absurd h (by simp [pBl])
  | succ n ih =>
    intro c i L q h
    rw [pBl] at h
    split at h
    · split at h
      · cases Option.some.inj h; exact eZ_v (oZ_n (by decide))
      · exact absurd h (by simp)
    · obtain ⟨y, hy, h2⟩ := Option.bind_eq_some_iff.mp h
      exact eZ_tr (hr _ _ _ _ hy) (ih _ _ _ _ h2)
theorem pBk_oZ {rS : Nat → Nat → gU → gTs} {z : Nat} (hr : nkx K rS) {c i : Nat} {q : Nat × Nat × gU} (h : pBk rS K z c i L = some q) : eZ K L q.2.2 := by
  unfold pBk at h
  split at h
  · exact eZ_tr (eZ_v (oZ_n (by decide))) (pBl_oZ hr _ _ _ _ _ h)
  · exact absurd h (by simp)
theorem pEl_oZ {rS : Nat → Nat → gU → gTs} (hr : nkx K rS) {q r : Nat × Nat × gU} (h : pEl rS K q = some r) : eZ K q.2.2 r.2.2 := by
  unfold pEl at h
  split at h
  · split at h
    · split at h
      · exact eZ_tr (eZ_v (oZ_n (by decide))) (hr _ _ _ _ h)
      · exact eZ_tr (eZ_v (oZ_n (by decide))) (pBk_oZ hr h)
    · exact absurd h (by simp)
  · cases Option.some.inj h; exact eZ_rf
theorem pup_oZ {c : Nat} {v : Nat × Nat × Nat} {r : gOp} {q : Nat × Nat × gU} (hv : oZ K v) (h : pup c v r = some q) : ∃ z, r = some z ∧ eZ K z.2 q.2.2 := by
  unfold pup at h
  obtain ⟨z, hz, e⟩ := Option.bind_eq_some_iff.mp h
  cases Option.some.inj e
  exact ⟨z, hz, eZ_v hv⟩
theorem pS1_oZ {f c i : Nat} {q : Nat × Nat × gU} (h : pS1 K f c i L = some q) : eZ K L q.2.2 := by
  have nn0 : ∀ t0 : Nat, (none : Option Nat) = some t0 → K t0 = 1 := fun t0 e => by cases e
  unfold pS1 at h
  split at h
  · split at h
    · next k1 =>
      obtain ⟨z, h, g⟩ := pup_oZ (oZ_1 (k := 22) (by decide) k1.1.1) h
      obtain ⟨y, hy, h2⟩ := Option.bind_eq_some_iff.mp h
      exact eZ_tr (eZ_tr (eZ_tr (eZ_v (oZ_1 (by decide) k1.1.1)) (pR_oZ nn0 hy)) (pt_oZ h2)) g
    · exact absurd h (by simp)
  · split at h
    · next k1 =>
      split at h
      · split at h
        · obtain ⟨z, h, g⟩ := pup_oZ (oZ_n (k := 78) (by decide)) h
          obtain ⟨y5, hy5, h5⟩ := Option.bind_eq_some_iff.mp h
          obtain ⟨y4, hy4, h4⟩ := Option.bind_eq_some_iff.mp hy5
          obtain ⟨y3, hy3, h3⟩ := Option.bind_eq_some_iff.mp hy4
          obtain ⟨y2, hy2, h2⟩ := Option.bind_eq_some_iff.mp hy3
          exact eZ_tr (eZ_tr (eZ_tr (eZ_tr (eZ_tr (eZ_tr (eZ_v (oZ_1 (by decide) k1)) (pX_oZ hy2)) (pt_oZ h2)) (pt_oZ h3)) (pXq_oZ h4)) (pt_oZ h5)) g
        · exact absurd h (by simp)
      · split at h
        · obtain ⟨z, h, g⟩ := pup_oZ (oZ_n (k := 77) (by decide)) h
          obtain ⟨y2, hy2, h2⟩ := Option.bind_eq_some_iff.mp h
          exact eZ_tr (eZ_tr (pR_oZ (fun t0 e => by cases e; exact k1) hy2) (pt_oZ h2)) g
        · exact absurd h (by simp)
    · split at h
      · obtain ⟨z, h, g⟩ := pup_oZ (oZ_n (k := 68) (by decide)) h
        have := pt_oZ h
        exact eZ_tr this g
      · split at h
        · obtain ⟨z, h, g⟩ := pup_oZ (oZ_n (k := 69) (by decide)) h
          obtain ⟨y2, hy2, h2⟩ := Option.bind_eq_some_iff.mp h
          exact eZ_tr (eZ_tr (pX_oZ hy2) (pt_oZ h2)) g
        · split at h
          · split at h
            · next k2 =>
              obtain ⟨z, h, g⟩ := pup_oZ (oZ_w (k := 70) (by decide) k2.1.1) h
              obtain ⟨y2, hy2, h2⟩ := Option.bind_eq_some_iff.mp h
              exact eZ_tr (eZ_tr (pX_oZ hy2) (pt_oZ h2)) g
            · exact absurd h (by simp)
          · split at h
            · split at h
              · next k2 =>
                obtain ⟨z, h, g⟩ := pup_oZ (oZ_2 (k := 66) (by decide) k2.1) h
                have := pt_oZ h
                exact eZ_tr this g
              · exact absurd h (by simp)
            · split at h
              · split at h
                · next k2 =>
                  obtain ⟨z, h, g⟩ := pup_oZ (oZ_2 (k := 67) (by decide) k2.1) h
                  have := pt_oZ h
                  exact eZ_tr this g
                · exact absurd h (by simp)
              · exact absurd h (by simp)
theorem pfi_oZ {q r : Nat × Nat × gU} (h : pfi q = some r) : eZ K q.2.2 r.2.2 := by
  unfold pfi at h
  cases Option.some.inj h
  exact eZ_v (oZ_n (by decide))
theorem pS_oZ : ∀ f : Nat, nkx K (pS K f) := by
  intro f
  induction f with
  | zero => intro c i L q h; exact absurd h (by simp [pS])
  | succ f ih =>
    intro c i L q h
    rw [pS] at h
    split at h
    · exact absurd h (by simp)
    · split at h
      · obtain ⟨z, hz, h2⟩ := Option.bind_eq_some_iff.mp h
        obtain ⟨x, hx, h4⟩ := Option.bind_eq_some_iff.mp h2
        obtain ⟨y, hy, h3⟩ := Option.bind_eq_some_iff.mp hx
        exact eZ_tr (eZ_tr (eZ_tr (eZ_tr (pX_oZ hz) (eZ_v (oZ_n (by decide)))) (pBk_oZ ih hy)) (pEl_oZ ih h3)) (pfi_oZ h4)
      · split at h
        · obtain ⟨z, hz, h2⟩ := Option.bind_eq_some_iff.mp h
          exact eZ_tr (eZ_tr (pX_oZ hz) (eZ_v (oZ_n (by decide)))) (pBk_oZ ih h2)
        · split at h
          · split at h
            · next k2 => exact eZ_tr (eZ_v (oZ_2 (by decide) k2.1)) (pBk_oZ ih h)
            · exact absurd h (by simp)
          · exact pS1_oZ h
theorem pCv_oZ {q r : Nat × gU} (h : pCv K q = some r) : eZ K q.2 r.2 := by
  unfold pCv at h
  split at h
  · split at h
    · split at h
      · split at h
        · cases Option.some.inj h; exact eZ_v (oZ_n (by decide))
        · exact absurd h (by simp)
      · split at h
        · cases Option.some.inj h; exact eZ_v (oZ_n (by decide))
        · exact absurd h (by simp)
    · exact absurd h (by simp)
  · cases Option.some.inj h; exact eZ_v (oZ_n (by decide))
theorem pCl_oZ {n i t : Nat} {q : Nat × Nat × gU} (h : pCl K V n i t L = some q) : eZ K L q.2.2 := by
  unfold pCl at h
  split at h
  · next c =>
    split at h
    · split at h
      · next c2 =>
        obtain ⟨z, hz, e⟩ := Option.bind_eq_some_iff.mp h
        obtain ⟨y, hy, h2⟩ := Option.bind_eq_some_iff.mp hz
        cases Option.some.inj e
        exact eZ_tr (eZ_v (oZ_32 c.2.1.1 c2.2.2.1.1)) (eZ_tr (pCv_oZ hy) (eZ_tr (pt_oZ h2) (eZ_v (oZ_n (by decide)))))
      · exact absurd h (by simp)
    · obtain ⟨z, hz, e⟩ := Option.bind_eq_some_iff.mp h
      obtain ⟨y, hy, h2⟩ := Option.bind_eq_some_iff.mp hz
      cases Option.some.inj e
      exact eZ_tr (eZ_v (oZ_1 (by decide) c.2.1.1)) (eZ_tr (pCv_oZ hy) (eZ_tr (pt_oZ h2) (eZ_v (oZ_n (by decide)))))
  · exact absurd h (by simp)
theorem pD_oZ {n : gN} {i : Nat} {q : gN × Nat × gU} (h : pD K V n i L = some q) : eZ K L q.2.2 := by
  have cell : ∀ t, (pCl K V n.1 i t L).bind (fun q => some ((q.1, n.2), q.2)) = some q → eZ K L q.2.2 := fun t h => by
    obtain ⟨z, hz, e⟩ := Option.bind_eq_some_iff.mp h
    cases Option.some.inj e
    exact pCl_oZ hz
  have blk : ∀ (t j b : Nat) (v : gN), K t = 1 → (pBk (pS K 16) K 0 0 j (L ++ [(34, t, b)])).bind (fun q => some (v, q.2)) = some q → eZ K L q.2.2 := fun t j b v k1 h => by
    obtain ⟨z, hz, e⟩ := Option.bind_eq_some_iff.mp h
    cases Option.some.inj e
    exact eZ_tr (eZ_v (oZ_1 (by decide) k1)) (pBk_oZ (pS_oZ 16) hz)
  have clm : ∀ (k : Nat) (v : gN), (k = 35 ∨ k = 36) → ((pX K true 16 (i + 1) (L ++ [(k, i, 0)])).bind (pt K 67)).bind (fun q => some (v, q)) = some q → eZ K L q.2.2 := fun k v hk h => by
    obtain ⟨z, hz, e⟩ := Option.bind_eq_some_iff.mp h
    obtain ⟨y, hy, h2⟩ := Option.bind_eq_some_iff.mp hz
    cases Option.some.inj e
    refine eZ_tr (eZ_v ?_) (eZ_tr (pX_oZ hy) (pt_oZ h2))
    rcases hk with e | e <;> rw [e] <;> exact oZ_n (by decide)
  unfold pD at h
  split at h
  · split at h
    · exact cell _ h
    · exact absurd h (by simp)
  · split at h
    · exact cell _ h
    · split at h
      · split at h
        · next d =>
          cases Option.some.inj h
          exact eZ_v (oZ_1 (by decide) d.2.2.1.1)
        · exact absurd h (by simp)
      · split at h
        · split at h
          · next d => exact blk _ _ _ _ d.2.2.2.1 h
          · exact absurd h (by simp)
        · split at h
          · split at h
            · next d => exact blk _ _ _ _ d.2.2.1 h
            · exact absurd h (by simp)
          · split at h
            · split at h
              · exact clm _ _ (Or.inl rfl) h
              · exact absurd h (by simp)
            · split at h
              · split at h
                · exact clm _ _ (Or.inr rfl) h
                · exact absurd h (by simp)
              · exact absurd h (by simp)
theorem pAl_oZ : ∀ (m : Nat) (n : gN) (i : Nat) (L : gU) (q : gN × Nat × gU), pAl K V m n i L = some q → eZ K L q.2.2 := by
  intro m
  induction m with
  | zero => intro n i L q h; exact absurd h (by simp [pAl])
  | succ m ih =>
    intro n i L q h
    rw [pAl] at h
    split at h
    · cases Option.some.inj h; exact eZ_rf
    · obtain ⟨z, hz, h2⟩ := Option.bind_eq_some_iff.mp h
      exact eZ_tr (pD_oZ hz) (ih _ _ _ _ h2)
end EZL
end
