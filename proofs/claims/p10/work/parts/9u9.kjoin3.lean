/-! class and model together: runs and tryings alike -/
def JC (C : gCo) (x w : gd) : Prop := (¬ x.1 0 9 = 0 ∧ w.1 0 66 = 1 ∧ x.1 60 6 = w.1 0 23 ∧ x.1 60 9 = w.1 0 24 ∧ x.1 60 10 = w.1 0 25 ∧ x.1 60 14 = w.1 0 26 ∧ x.1 60 16 = w.1 0 27) ∧ CK x C ∧ MK w C ∧ gdC C
def RNw (C : gCo) (wr n : Nat) (x w : gd) : Prop := (x.1 0 10 = 0 ∧ w.1 0 67 = 0) ∨ (¬ x.1 0 10 = 0 ∧ ¬ w.1 0 67 = 0 ∧ KRun C wr n (c96 w) x ∧ HistC C wr w ∧ (w.1 0 94).toInt = (n : Nat))
def TRw (C : gCo) (lm : Nat → Nat) (x w : gd) : Prop := ∀ wn, (wn = 0 ∨ wn = 1) → (x.1 (260 + 20 * wn) 0 = 0 ∧ w.1 119 wn = 0) ∨ (¬ x.1 (260 + 20 * wn) 0 = 0 ∧ ¬ w.1 119 wn = 0 ∧ TR3 C wn x (260 + 20 * wn) (tryM C wn (lm wn)) ∧ TYc C wn w (tryM C wn (lm wn)))
def ZM (w : gd) : Prop := w.1 0 67 = 0 ∧ w.1 119 0 = 0 ∧ w.1 119 1 = 0
def JH (C : gCo) (wr n : Nat) (lm : Nat → Nat) (x w : gd) : Prop := TXs x w ∧ (((x.1 0 9 = 0 ∧ w.1 0 66 = 0 ∧ z5 w) ∧ ZR x ∧ ZM w ∧ C = ([], [], [], [], [])) ∨ (JC C x w ∧ RNw C wr n x w ∧ TRw C lm x w))
def JR3 (x w : gd) : Prop := ∃ (C : gCo) (wr n : Nat) (lm : Nat → Nat), JH C wr n lm x w
section JN3
variable {C : gCo} {wr n : Nat} {lm : Nat → Nat} {x y w w' : gd} {q : kP} {l l1 l2 : Int32}
theorem GC_0 : GC (([], [], [], [], []) : gCo) := by
  refine ⟨⟨fun j st h => ?_, fun q h => ?_, fun Q h => ?_⟩, fun j st h => ?_, Nat.zero_le _⟩
  · exact absurd (gt_lt h) (Nat.not_lt_zero _)
  · cases h
  · rcases h with h | h <;> cases h
  · exact absurd (gt_lt h) (Nat.not_lt_zero _)
theorem NX3_0 : NX3 (([], [], [], [], []) : gCo) := fun j st h => absurd (gt_lt h) (Nat.not_lt_zero _)
theorem JC_C (hC : CO x) (h : JC C x w) : GC C ∧ NX3 C ∧ LkN C (x.1 60 9).toInt.toNat ∧ NCq C ∧ (x.1 60 9).toInt = ((x.1 60 9).toInt.toNat : Nat) ∧ (x.1 60 9).toInt.toNat ≤ 6 ∧ C.2.2.1.length ≤ 24 ∧ (w.1 0 26).toInt = (C.2.2.2.1.length : Nat) ∧ (w.1 0 27).toInt = (C.2.2.2.2.length : Nat) := by
  obtain ⟨⟨a1, a2, a3, a4, a5, a6, a7⟩, k1, k2, g1, g2, g3, g4⟩ := h
  have c6 := hC.1.1
  have c9 := hC.1.2.1
  have c10 := hC.1.2.2.1
  have e6 : (x.1 60 6).toInt = (C.2.2.1.length : Nat) := k1.2.2.1.1
  have e10 : (x.1 60 10).toInt = (C.2.1.length : Nat) := k1.2.1.1
  have e14 : (x.1 60 14).toInt = (C.2.2.2.1.length : Nat) := k1.2.2.2.1.1
  have e16 : (x.1 60 16).toInt = (C.2.2.2.2.length : Nat) := k1.2.2.2.2.1
  have en : (x.1 60 9).toInt = ((x.1 60 9).toInt.toNat : Nat) := by omega
  exact ⟨⟨g1, NXc_of hC k1 g1 g2, by omega⟩, g3, LkN_of hC k1 g1 en, NCq_of hC k1 g4, en, by omega, by omega, by rw [← a6]; exact e14, by rw [← a7]; exact e16⟩
theorem JH_gc (h : JH C wr n lm x w) (hH : HOI x q) : GC C ∧ NX3 C := by
  obtain ⟨-, ⟨-, -, -, e⟩ | ⟨j, -, -⟩⟩ := h
  · rw [e]; exact ⟨GC_0, NX3_0⟩
  · have := JC_C (hH.2.1 j.1.1) j
    exact ⟨this.1, this.2.1⟩
theorem JH_9 (h : JH C wr n lm x w) : x.1 0 9 = 0 ↔ w.1 0 66 = 0 := by
  obtain ⟨-, ⟨a, -⟩ | ⟨j, -⟩⟩ := h
  · exact ⟨fun _ => a.2.1, fun _ => a.1⟩
  · exact ⟨fun z => absurd z j.1.1, fun z => absurd (z.symm.trans j.1.2.1) (by decide)⟩
theorem JH_10 (h : JH C wr n lm x w) : x.1 0 10 = 0 ↔ w.1 0 67 = 0 := by
  obtain ⟨-, ⟨-, z, m, -⟩ | ⟨-, r, -⟩⟩ := h
  · exact ⟨fun _ => m.1, fun _ => z.1⟩
  · rcases r with ⟨a, b⟩ | ⟨a, b, -⟩
    · exact ⟨fun _ => b, fun _ => a⟩
    · exact ⟨fun z => absurd z a, fun z => absurd z b⟩
theorem JH_K (h : JH C wr n lm x w) (h9 : ¬ x.1 0 9 = 0) : JC C x w := by
  obtain ⟨-, ⟨a, -⟩ | ⟨j, -⟩⟩ := h
  · exact absurd a.1 h9
  · exact j
theorem JH_R (h : JH C wr n lm x w) (h10 : ¬ x.1 0 10 = 0) : JC C x w ∧ KRun C wr n (c96 w) x ∧ HistC C wr w ∧ (w.1 0 94).toInt = (n : Nat) := by
  obtain ⟨-, ⟨-, z, -⟩ | ⟨j, r, -⟩⟩ := h
  · exact absurd z.1 h10
  · rcases r with ⟨a, -⟩ | ⟨-, -, r⟩
    · exact absurd a h10
    · exact ⟨j, r⟩
/-- as many choices -/
theorem JH_84 (h : JH C wr n lm x w) (h10 : ¬ x.1 0 10 = 0) : x.1 120 13 = w.1 0 84 := by
  obtain ⟨-, r, hh, e94⟩ := JH_R h h10
  have e1 : (x.1 120 13).toInt = ((chM C wr (runM C wr (c96 w) n)).length : Nat) := r.2.1.2.2.1
  have e2 := HistC_n hh
  have en : (w.1 0 94).toInt.toNat = n := by rw [e94]; rfl
  rw [en] at e2
  rw [t_eq, e1, e2]
theorem JH_wr {wr' : Nat} (h : HistC C wr w) (g : HistC C wr' w) : wr' = wr := by
  obtain ⟨_, _, _, _, _, _, _, ⟨a1, a2⟩, _⟩ := h
  obtain ⟨_, _, _, _, _, _, _, ⟨b1, b2⟩, _⟩ := g
  exact wn_eq b1 a1 b2 a2
theorem JH_T (h : JH C wr n lm x w) : ∀ wn, (wn = 0 ∨ wn = 1) → (x.1 (260 + 20 * wn) 0 = 0 ↔ w.1 119 wn = 0) ∧ (¬ x.1 (260 + 20 * wn) 0 = 0 → JC C x w ∧ TR3 C wn x (260 + 20 * wn) (tryM C wn (lm wn)) ∧ TYc C wn w (tryM C wn (lm wn))) := by
  intro wn w01
  obtain ⟨-, ⟨-, z, m, -⟩ | ⟨j, -, t⟩⟩ := h
  · have e1 := z.2 (260 + 20 * wn) (by omega)
    have e2 : w.1 119 wn = 0 := by rcases w01 with e | e <;> rw [e]; exact m.2.1; exact m.2.2
    exact ⟨⟨fun _ => e2, fun _ => e1⟩, fun z9 => absurd e1 z9⟩
  · rcases t wn w01 with ⟨a, b⟩ | ⟨a, b, c⟩
    · exact ⟨⟨fun _ => b, fun _ => a⟩, fun z9 => absurd a z9⟩
    · exact ⟨⟨fun z9 => absurd z9 a, fun z9 => absurd z9 b⟩, fun _ => ⟨j, c⟩⟩
theorem TXs_k (h : TXs x w) (k : KF x y) (p : PM w w') : TXs y w' := by
  obtain ⟨h1, h2⟩ := h
  obtain ⟨k1, k2, k3, k4⟩ := k
  obtain ⟨-, p1, p2, p3⟩ := p
  exact ⟨by rw [k1, p1]; exact h1, fun q hq => by rw [k3, p3 2 (by decide)]; exact h2 q (by rw [← k1]; exact hq)⟩
theorem JC_k (h : JC C x w) (k : KF x y) (p : PM w w') : JC C y w' := by
  obtain ⟨k1, k2, k3, k4⟩ := k
  obtain ⟨-, p1, p2, p3⟩ := p
  obtain ⟨a, c1, c2, c3⟩ := h
  refine ⟨?_, CK_f c1 k4, MK_f c2 p2 p3, c3⟩
  rw [k2, k4 60 6 (by omega), k4 60 9 (by omega), k4 60 10 (by omega), k4 60 14 (by omega), k4 60 16 (by omega), p2 23 (by decide), p2 24 (by decide), p2 25 (by decide), p2 26 (by decide), p2 27 (by decide), p2 66 (by decide)]
  exact a
theorem z5_k (h : z5 w) (p : PM w w') : z5 w' := by
  obtain ⟨-, p1, p2, p3⟩ := p
  unfold z5 at h ⊢
  rw [p2 23 (by decide), p2 24 (by decide), p2 25 (by decide), p2 26 (by decide), p2 27 (by decide)]
  exact h
/-- calls that only look -/
theorem JQ_rd (h : JH C wr n lm x w) (hH : HOI y q) (k : KRd x y) (m : rdM C wr w w') : JR3 y w' := by
  have g : ∀ c k, ¬ sRd c k → y.1 c k = x.1 c k := k
  have kf := KR_KF k
  obtain ⟨p, ⟨m67, m94, m96⟩, m119, mh, mt⟩ := m
  have e10 : y.1 0 10 = x.1 0 10 := g _ _ (by unfold sRd; omega)
  have eo : ∀ o, (o = 260 ∨ o = 280) → y.1 o 0 = x.1 o 0 := fun o hO => g _ _ (by unfold sRd; omega)
  have ec : c96 w' = c96 w := by unfold c96; rw [m96]
  refine ⟨C, wr, n, lm, TXs_k h.1 kf p, ?_⟩
  rcases h.2 with ⟨⟨a1, a2, a3⟩, z, m, e⟩ | ⟨j, r, t⟩
  · refine Or.inl ⟨⟨by rw [kf.2.1]; exact a1, ?_, z5_k a3 p⟩, ⟨by rw [e10]; exact z.1, fun o hO => by rw [eo o hO]; exact z.2 o hO⟩, ⟨by rw [m67]; exact m.1, by rw [m119]; exact m.2.1, by rw [m119]; exact m.2.2⟩, e⟩
    rw [p.2.2.1 66 (by decide)]; exact a2
  · refine Or.inr ⟨JC_k j kf p, ?_, fun wn w01 => ?_⟩
    · rcases r with ⟨r1, r2⟩ | ⟨r1, r2, r3, r4, r5⟩
      · exact Or.inl ⟨by rw [e10]; exact r1, by rw [m67]; exact r2⟩
      · have y10 : ¬ y.1 0 10 = 0 := by rw [e10]; exact r1
        exact Or.inr ⟨y10, by rw [m67]; exact r2, by rw [ec]; exact KRun_rd k j.2.1 (hH.2.2.1 y10) r3, mh r4, by rw [m94]; exact r5⟩
    · rcases t wn w01 with ⟨t1, t2⟩ | ⟨t1, t2, t3, t4⟩
      · exact Or.inl ⟨by rw [eo _ (by omega)]; exact t1, by rw [m119]; exact t2⟩
      · exact Or.inr ⟨by rw [eo _ (by omega)]; exact t1, by rw [m119]; exact t2, TR3_rd (by omega) k t3, mt wn _ t4⟩
/-- calls that make a run, or do choices -/
theorem JQ_run {wr' n' : Nat} (h : JH C wr n lm x w) (h9 : ¬ x.1 0 9 = 0) (f : fm sRn x y) (p : PM w w') (e119 : w'.1 119 = w.1 119) (ty : ∀ wn T, TYc C wn w T → TYc C wn w' T) (r : KRun C wr' n' (c96 w') y) (h10 : ¬ y.1 0 10 = 0) (hh : HistC C wr' w') (h67 : ¬ w'.1 0 67 = 0) (h94 : (w'.1 0 94).toInt = (n' : Nat)) : JR3 y w' := by
  have kf := rn_20 f
  have eo : ∀ o, (o = 260 ∨ o = 280) → y.1 o 0 = x.1 o 0 := fun o hO => f _ _ (by unfold sRn; omega)
  refine ⟨C, wr', n', lm, TXs_k h.1 kf p, Or.inr ?_⟩
  rcases h.2 with ⟨⟨a1, -⟩, -⟩ | ⟨j, -, t⟩
  · exact absurd a1 h9
  · refine ⟨JC_k j kf p, Or.inr ⟨h10, h67, r, hh, h94⟩, fun wn w01 => ?_⟩
    rcases t wn w01 with ⟨t1, t2⟩ | ⟨t1, t2, t3, t4⟩
    · exact Or.inl ⟨by rw [eo _ (by omega)]; exact t1, by rw [e119]; exact t2⟩
    · exact Or.inr ⟨by rw [eo _ (by omega)]; exact t1, by rw [e119]; exact t2, TR3_rn (by omega) f t3, ty wn _ t4⟩
/-- what the model's calls leave: refused, or a run -/
def rnM (C : gCo) (wr n : Nat) (w w' : gd) : Prop := PM w w' ∧ w'.1 119 = w.1 119 ∧ (∀ wn T, TYc C wn w T → TYc C wn w' T) ∧ HistC C wr w' ∧ ¬ w'.1 0 67 = 0 ∧ (w'.1 0 94).toInt = (n : Nat)
theorem rnM_of {L A : List Nat} {wr' n' : Nat} (m : mi L A w w') (hA : [119, 120, 126, 130, 131, 132].all (fun k => !A.elem k) = true) (p : PM w w') (hh : HistC C wr' w') (h67 : ¬ w'.1 0 67 = 0) (h94 : (w'.1 0 94).toInt = (n' : Nat)) : rnM C wr' n' w w' := ⟨p, m.2 119 (by decide) (all_no hA 119 (by decide)), fun wn T h => TYc_mi m (all_sub hA rfl) h, hh, h67, h94⟩
/-! how a call answers: two ways to refuse, or an answer -/
def ansK (E1 E2 : Prop) (S : Int32 → gd → Prop) (x : gd) (r9 : Int32) (y : gd) : Prop := (E1 ∧ r9 = 1 ∧ KRd x y) ∨ (E2 ∧ r9 = 2 ∧ KRd x y) ∨ (¬ E1 ∧ ¬ E2 ∧ r9 = 0 ∧ ∃ r : Int32, y.2 299 (0 : Int32).toNatClampNeg = r.toInt64 ∧ S r y)
def ansM (C : gCo) (wr : Nat) (E1 E2 : Prop) (S : Int32 → gd → Prop) (w : gd) (r : Int32) (w' : gd) : Prop := MI w' ∧ ((E1 ∧ w'.1 0 0 = 1 ∧ rdM C wr w w') ∨ (E2 ∧ w'.1 0 0 = 2 ∧ rdM C wr w w') ∨ (¬ E1 ∧ ¬ E2 ∧ w'.1 0 0 = 0 ∧ S r w'))
def ansE (r9 r : Int32) (y w' : gd) : Prop := (r9 = 0 ∧ w'.1 0 0 = 0 ∧ y.2 299 (0 : Int32).toNatClampNeg = r.toInt64) ∨ (¬ r9 = 0 ∧ w'.1 0 0 = r9)
theorem ans_eq {E1 E2 E1' E2' : Prop} {S S' : Int32 → gd → Prop} {r9 r : Int32} (h : JH C wr n lm x w) (hH : HOI y q) (e1 : E1 ↔ E1') (e2 : E2 ↔ E2') (e3 : E1 → ¬ E2) (k : ansK E1 E2 S x r9 y) (m : ansM C wr E1' E2' S' w r w') (js : ¬ E1 → ¬ E2 → ∀ r', S r' y → S' r w' → JR3 y w' ∧ r' = r) : JR3 y w' ∧ ansE r9 r y w' := by
  obtain ⟨-, m⟩ := m
  rcases k with ⟨k1, k2, k3⟩ | ⟨k1, k2, k3⟩ | ⟨k1, k2, k3, r', k4, k5⟩
  · rcases m with ⟨m1, m2, m3⟩ | ⟨m1, m2, m3⟩ | ⟨m1, m2, m3, m4⟩
    · exact ⟨JQ_rd h hH k3 m3, Or.inr ⟨by rw [k2]; decide, by rw [m2, k2]⟩⟩
    · exact absurd (e2.mpr m1) (e3 k1)
    · exact absurd (e1.mp k1) m1
  · rcases m with ⟨m1, m2, m3⟩ | ⟨m1, m2, m3⟩ | ⟨m1, m2, m3, m4⟩
    · exact absurd k1 (e3 (e1.mpr m1))
    · exact ⟨JQ_rd h hH k3 m3, Or.inr ⟨by rw [k2]; decide, by rw [m2, k2]⟩⟩
    · exact absurd (e2.mp k1) m2
  · rcases m with ⟨m1, m2, m3⟩ | ⟨m1, m2, m3⟩ | ⟨m1, m2, m3, m4⟩
    · exact absurd (e1.mpr m1) k1
    · exact absurd (e2.mpr m1) k2
    · obtain ⟨j1, j2⟩ := js k1 k2 r' k5 m4
      exact ⟨j1, Or.inl ⟨k3, m3, by rw [k4, j2]⟩⟩
theorem JR3_84 (h : JR3 y w') (h10 : ¬ y.1 0 10 = 0) : y.1 120 13 = w'.1 0 84 := by
  obtain ⟨C, wr, n, lm, h⟩ := h
  exact JH_84 h h10
theorem JR3_94 (h : JR3 y w') (h10 : ¬ y.1 0 10 = 0) : y.1 160 2 = w'.1 0 94 := by
  obtain ⟨C, wr, n, lm, h⟩ := h
  obtain ⟨-, r, -, e⟩ := JH_R h h10
  rw [t_eq, e]
  exact r.2.2.2.1
theorem w_01 {wn : Nat} (h : wn = 0 ∨ wn = 1) (e : l = Int32.ofNat wn) : l = 0 ∨ l = 1 := by
  rcases h with rfl | rfl
  · exact Or.inl e
  · exact Or.inr e
/-! choices -/
abbrev e1Ch (x : gd) : Prop := x.1 0 10 = 0
def sCh (x : gd) (r : Int32) (y : gd) : Prop := r = x.1 120 13 ∧ KRd x y
abbrev f1Ch (w : gd) : Prop := w.1 0 67 = 0
def tCh (C : gCo) (wr : Nat) (w : gd) (r : Int32) (w' : gd) : Prop := r = w.1 0 84 ∧ rdM C wr w w'
theorem ja_choices {r9 r : Int32} (h : JH C wr n lm x w) (hH : HOI y q) (k : ansK (e1Ch x) False (sCh x) x r9 y) (m : ansM C wr (f1Ch w) False (tCh C wr w) w r w') : JR3 y w' ∧ ansE r9 r y w' :=
  ans_eq h hH (JH_10 h) Iff.rfl (fun _ z => z) k m (fun c _ r' s t => ⟨JQ_rd h hH s.2 t.2, by rw [s.1, t.1, JH_84 h c]⟩)
/-! begin -/
abbrev e1Bg (x : gd) : Prop := x.1 0 9 = 0
abbrev e2Bg (x : gd) (l : Int32) : Prop := ¬ x.1 0 9 = 0 ∧ ¬ (l = 0 ∨ l = 1)
def sBg (C : gCo) (x : gd) (l r : Int32) (y : gd) : Prop := r = y.1 120 13 ∧ ∃ wn : Nat, (wn = 0 ∨ wn = 1) ∧ l = Int32.ofNat wn ∧ fm sRn x y ∧ (∀ c, KRun C wn 0 c y) ∧ y.1 0 10 = 1
abbrev f1Bg (w : gd) : Prop := w.1 0 66 = 0
abbrev f2Bg (w : gd) (l : Int32) : Prop := ¬ w.1 0 66 = 0 ∧ ¬ (l = 0 ∨ l = 1)
def tBg (C : gCo) (w : gd) (l r : Int32) (w' : gd) : Prop := r = w'.1 0 84 ∧ ∃ wn : Nat, (wn = 0 ∨ wn = 1) ∧ l = Int32.ofNat wn ∧ rnM C wn 0 w w'
theorem ja_begin {r9 r : Int32} (h : JH C wr n lm x w) (hH : HOI y q) (k : ansK (e1Bg x) (e2Bg x l) (sBg C x l) x r9 y) (m : ansM C wr (f1Bg w) (f2Bg w l) (tBg C w l) w r w') : JR3 y w' ∧ ansE r9 r y w' := by
  have e9 := JH_9 h
  refine ans_eq h hH e9 ⟨fun z => ⟨fun a => z.1 (e9.mpr a), z.2⟩, fun z => ⟨fun a => z.1 (e9.mp a), z.2⟩⟩ (fun a z => z.1 a) k m (fun c _ r' s t => ?_)
  obtain ⟨s1, wn, k2, k3, k4, k5, k6⟩ := s
  obtain ⟨t1, wn', m2, m3, m4⟩ := t
  have e := wn_eq m2 k2 m3 k3
  subst e
  obtain ⟨p, e119, ty, hh, h67, h94⟩ := m4
  have y10 : ¬ y.1 0 10 = 0 := by rw [k6]; decide
  have j := JQ_run h c k4 p e119 ty (k5 _) y10 hh h67 h94
  exact ⟨j, by rw [s1, t1, JR3_84 j y10]⟩
/-! go -/
abbrev okGo (n : Nat) (x : gd) : Prop := ¬ x.1 0 10 = 0 ∧ n < 400
abbrev e1Go (n : Nat) (x : gd) : Prop := ¬ okGo n x
abbrev e2Go (n : Nat) (x : gd) (l : Int32) : Prop := okGo n x ∧ ¬ (0 ≤ l.toInt ∧ l.toInt < (x.1 120 13).toInt)
def sGo (C : gCo) (wr n : Nat) (c : Nat → Nat) (x : gd) (l r : Int32) (y : gd) : Prop := r = y.1 120 13 ∧ fm sRn x y ∧ KRun C wr (n + 1) (upf c n l.toNatClampNeg) y ∧ y.1 0 10 = x.1 0 10
abbrev okGm (w : gd) : Prop := ¬ w.1 0 67 = 0 ∧ (w.1 0 94).toInt < 400
abbrev f1Go (w : gd) : Prop := ¬ okGm w
abbrev f2Go (w : gd) (l : Int32) : Prop := okGm w ∧ ¬ (0 ≤ l.toInt ∧ l.toInt < (w.1 0 84).toInt)
def tGo (C : gCo) (wr n : Nat) (w : gd) (l r : Int32) (w' : gd) : Prop := r = w'.1 0 84 ∧ rnM C wr (n + 1) w w' ∧ c96 w' n = l.toNatClampNeg ∧ rwE (c96 w') (c96 w) n
theorem ja_go {r9 r : Int32} (h : JH C wr n lm x w) (hH : HOI y q) (k : ansK (e1Go n x) (e2Go n x l) (sGo C wr n (c96 w) x l) x r9 y) (m : ansM C wr (f1Go w) (f2Go w l) (tGo C wr n w l) w r w') : JR3 y w' ∧ ansE r9 r y w' := by
  have co : okGo n x ↔ okGm w := by
    by_cases c : x.1 0 10 = 0
    · exact ⟨fun z => absurd c z.1, fun z => absurd ((JH_10 h).mp c) z.1⟩
    · have e94 := (JH_R h c).2.2.2
      have c' : ¬ w.1 0 67 = 0 := fun z => c ((JH_10 h).mpr z)
      exact ⟨fun z => ⟨c', by have := z.2; omega⟩, fun z => ⟨c, by have := z.2; omega⟩⟩
  refine ans_eq h hH ⟨fun a b => a (co.mpr b), fun a b => a (co.mp b)⟩ ⟨fun z => ⟨co.mp z.1, by rw [← JH_84 h z.1.1]; exact z.2⟩, fun z => ⟨co.mpr z.1, by rw [JH_84 h (co.mpr z.1).1]; exact z.2⟩⟩ (fun a z => a z.1) k m (fun c _ r' s t => ?_)
  have c := Classical.not_not.mp c
  obtain ⟨s1, k2, k3, k4⟩ := s
  obtain ⟨t1, m2, m3, m4⟩ := t
  obtain ⟨p, e119, ty, hh, h67, h94⟩ := m2
  have y10 : ¬ y.1 0 10 = 0 := by rw [k4]; exact c.1
  have j := JQ_run h (JH_R h c.1).1.1.1 k2 p e119 ty (KRun_cg (fun j hj => by
    by_cases cj : j = n
    · rw [cj, upf_eq, m3]
    · rw [upf_ne cj, m4 j (by omega)]) k3) y10 hh h67 h94
  exact ⟨j, by rw [s1, t1, JR3_84 j y10]⟩
/-! draw -/
abbrev e2Dr (x : gd) (l2 : Int32) : Prop := ¬ x.1 0 10 = 0 ∧ ¬ (0 ≤ l2.toInt ∧ l2.toInt ≤ 400)
def sDr (C : gCo) (wr n : Nat) (c : Nat → Nat) (x : gd) (l1 l2 r : Int32) (y : gd) : Prop := r.toInt = ((drS C wr l2.toInt.toNat l1 c n).2 : Int) - n ∧ fm sRn x y ∧ KRun C wr (drS C wr l2.toInt.toNat l1 c n).2 (drS C wr l2.toInt.toNat l1 c n).1 y ∧ y.1 0 10 = x.1 0 10
abbrev f2Dr (w : gd) (l2 : Int32) : Prop := ¬ w.1 0 67 = 0 ∧ ¬ (0 ≤ l2.toInt ∧ l2.toInt ≤ 400)
def tDr (C : gCo) (wr n : Nat) (w : gd) (l1 l2 r : Int32) (w' : gd) : Prop := r.toInt = ((drS C wr l2.toInt.toNat l1 (c96 w) n).2 : Int) - n ∧ rnM C wr (drS C wr l2.toInt.toNat l1 (c96 w) n).2 w w' ∧ rwE (c96 w') (drS C wr l2.toInt.toNat l1 (c96 w) n).1 (drS C wr l2.toInt.toNat l1 (c96 w) n).2
theorem ja_draw {r9 r : Int32} (h : JH C wr n lm x w) (hH : HOI y q) (k : ansK (e1Ch x) (e2Dr x l2) (sDr C wr n (c96 w) x l1 l2) x r9 y) (m : ansM C wr (f1Ch w) (f2Dr w l2) (tDr C wr n w l1 l2) w r w') : JR3 y w' ∧ ansE r9 r y w' := by
  have e9 := JH_10 h
  refine ans_eq h hH e9 ⟨fun z => ⟨fun a => z.1 (e9.mpr a), z.2⟩, fun z => ⟨fun a => z.1 (e9.mp a), z.2⟩⟩ (fun a z => z.1 a) k m (fun c _ r' s t => ?_)
  obtain ⟨s1, k2, k3, k4⟩ := s
  obtain ⟨t1, m2, m3⟩ := t
  obtain ⟨p, e119, ty, hh, h67, h94⟩ := m2
  exact ⟨JQ_run h (JH_R h c).1.1.1 k2 p e119 ty (KRun_cg (fun j hj => (m3 j hj).symm) k3) (by rw [k4]; exact c) hh h67 h94, by rw [t_eq, s1, t1]⟩
/-! again -/
abbrev e2Ag (n : Nat) (x : gd) (l : Int32) : Prop := ¬ x.1 0 10 = 0 ∧ ¬ (0 ≤ l.toInt ∧ l.toInt ≤ (n : Nat))
def sAg (C : gCo) (wr : Nat) (c : Nat → Nat) (x : gd) (l r : Int32) (y : gd) : Prop := r = y.1 120 13 ∧ fm sRn x y ∧ KRun C wr l.toInt.toNat c y ∧ y.1 0 10 = 1
abbrev f2Ag (w : gd) (l : Int32) : Prop := ¬ w.1 0 67 = 0 ∧ ¬ (0 ≤ l.toInt ∧ l.toInt ≤ (w.1 0 94).toInt)
def tAg (C : gCo) (wr : Nat) (w : gd) (l r : Int32) (w' : gd) : Prop := r = w'.1 0 84 ∧ rnM C wr l.toInt.toNat w w' ∧ c96 w' = c96 w
theorem ja_again {r9 r : Int32} (h : JH C wr n lm x w) (hH : HOI y q) (k : ansK (e1Ch x) (e2Ag n x l) (sAg C wr (c96 w) x l) x r9 y) (m : ansM C wr (f1Ch w) (f2Ag w l) (tAg C wr w l) w r w') : JR3 y w' ∧ ansE r9 r y w' := by
  have e9 := JH_10 h
  refine ans_eq h hH e9 ⟨fun z => ⟨fun a => z.1 (e9.mpr a), by rw [(JH_R h z.1).2.2.2]; exact z.2⟩, fun z => ⟨fun a => z.1 (e9.mp a), by rw [← (JH_R h (fun a => z.1 (e9.mp a))).2.2.2]; exact z.2⟩⟩ (fun a z => z.1 a) k m (fun c _ r' s t => ?_)
  obtain ⟨s1, k2, k3, k4⟩ := s
  obtain ⟨t1, m2, m3⟩ := t
  obtain ⟨p, e119, ty, hh, h67, h94⟩ := m2
  have y10 : ¬ y.1 0 10 = 0 := by rw [k4]; decide
  have j := JQ_run h (JH_R h c).1.1.1 k2 p e119 ty (by rw [m3]; exact k3) y10 hh h67 h94
  exact ⟨j, by rw [s1, t1, JR3_84 j y10]⟩
/-! show -/
abbrev e1Sh (l1 l2 : Int32) : Prop := ¬ ((l1 = 0 ∨ l1 = 1) ∧ 0 ≤ l2.toInt ∧ l2.toInt < 11)
def shK (C : gCo) (Tw : Nat → gTy) (x : gd) (l1 l2 : Int32) : Prop := ∃ wn s : Nat, (wn = 0 ∨ wn = 1) ∧ l1 = Int32.ofNat wn ∧ 0 ≤ l2.toInt ∧ l2.toInt < 11 ∧ ¬ x.1 (260 + 20 * wn) 0 = 0 ∧ fsF C wn (Tw wn) l2.toInt.toNat s ∧ (pth (Tw wn) s).length ≤ 400
noncomputable abbrev twM (C : gCo) (lm : Nat → Nat) : Nat → gTy := fun v => tryM C v (lm v)
abbrev e2Sh (C : gCo) (lm : Nat → Nat) (x : gd) (l1 l2 : Int32) : Prop := ((l1 = 0 ∨ l1 = 1) ∧ 0 ≤ l2.toInt ∧ l2.toInt < 11) ∧ ¬ shK C (twM C lm) x l1 l2
def sSh (C : gCo) (lm : Nat → Nat) (x : gd) (l1 l2 r : Int32) (y : gd) : Prop := r = y.1 160 2 ∧ ∃ wn s : Nat, ((wn = 0 ∨ wn = 1) ∧ l1 = Int32.ofNat wn ∧ ¬ x.1 (260 + 20 * wn) 0 = 0 ∧ fsF C wn (twM C lm wn) l2.toInt.toNat s) ∧ fm sRn x y ∧ (∀ c, (∀ k v, (pth (twM C lm wn) s)[k]? = some v → c k = v) → KRun C wn (pth (twM C lm wn) s).length c y) ∧ y.1 0 10 = 1
abbrev f2Sh (C : gCo) (lm : Nat → Nat) (w : gd) (l1 l2 : Int32) : Prop := ((l1 = 0 ∨ l1 = 1) ∧ 0 ≤ l2.toInt ∧ l2.toInt < 11) ∧ ¬ shG C (twM C lm) w l1 l2
def tSh (C : gCo) (lm : Nat → Nat) (w : gd) (l1 l2 r : Int32) (w' : gd) : Prop := r = w'.1 0 94 ∧ ∃ wn s : Nat, ((wn = 0 ∨ wn = 1) ∧ l1 = Int32.ofNat wn ∧ ¬ w.1 119 wn = 0 ∧ fsF C wn (twM C lm wn) l2.toInt.toNat s) ∧ rnM C wn (pth (twM C lm wn) s).length w w' ∧ ∀ k v, (pth (twM C lm wn) s)[k]? = some v → c96 w' k = v
theorem ja_show {r9 r : Int32} (h : JH C wr n lm x w) (hH : HOI y q) (k : ansK (e1Sh l1 l2) (e2Sh C lm x l1 l2) (sSh C lm x l1 l2) x r9 y) (m : ansM C wr (e1Sh l1 l2) (f2Sh C lm w l1 l2) (tSh C lm w l1 l2) w r w') : JR3 y w' ∧ ansE r9 r y w' := by
  have tt := JH_T h
  have co : shK C (twM C lm) x l1 l2 ↔ shG C (twM C lm) w l1 l2 := ⟨fun ⟨wn, s, a1, a2, a3, a4, a5, a6⟩ => ⟨wn, s, a1, a2, a3, a4, fun z => a5 ((tt wn a1).1.mpr z), a6⟩, fun ⟨wn, s, a1, a2, a3, a4, a5, a6⟩ => ⟨wn, s, a1, a2, a3, a4, fun z => a5 ((tt wn a1).1.mp z), a6⟩⟩
  refine ans_eq h hH Iff.rfl ⟨fun z => ⟨z.1, fun a => z.2 (co.mpr a)⟩, fun z => ⟨z.1, fun a => z.2 (co.mp a)⟩⟩ (fun a z => a z.1) k m (fun c _ r' s t => ?_)
  obtain ⟨s1, wn, s, ⟨a1, a2, a5, a6⟩, k2, k3, k4⟩ := s
  obtain ⟨t1, wn', s', ⟨b1, b2, b5, b6⟩, m2, m3⟩ := t
  have e := wn_eq b1 a1 b2 a2
  subst e
  have e2 := fsF_u b6 a6
  subst e2
  obtain ⟨p, e119, ty, hh, h67, h94⟩ := m2
  have y10 : ¬ y.1 0 10 = 0 := by rw [k4]; decide
  have j := JQ_run h ((tt _ a1).2 a5).1.1.1 k2 p e119 ty (k3 _ m3) y10 hh h67 h94
  exact ⟨j, by rw [s1, t1, JR3_94 j y10]⟩
/-- a trying has its first state -/
theorem bfS_pre {w lim : Nat} : ∀ f s (T : gTy), T.1.length ≤ (bfS C w lim f s T).1.length := by
  intro f
  induction f with
  | zero => intro s T; exact Nat.le_refl _
  | succ f ih =>
    intro s T
    cases hs : T.1[s]? with
    | none => rw [bfS_end hs]; exact Nat.le_refl _
    | some p =>
      rw [bfS_go hs]
      have a := (onS_pre (C := C) (w := w) (lim := lim) (M := p.1) (gt_lt hs) s (chM C w p.1).length).2
      exact Nat.le_trans a (ih _ _)
theorem tryM_1 {w lim : Nat} : 1 ≤ (tryM C w lim).1.length := bfS_pre 3001 0 ([(fsM C, 0, 0)], false)
/-! attempt -/
abbrev e2At (x : gd) (l1 l2 : Int32) : Prop := ¬ x.1 0 9 = 0 ∧ ¬ ((l1 = 0 ∨ l1 = 1) ∧ 1 ≤ l2.toInt ∧ l2.toInt ≤ 3000)
def sAq (C : gCo) (x : gd) (l1 l2 r : Int32) (y : gd) : Prop := ∃ wn lim : Nat, ((wn = 0 ∨ wn = 1) ∧ l1 = Int32.ofNat wn ∧ l2.toInt = (lim : Nat)) ∧ r = y.1 (260 + 20 * wn) 0 ∧ KF x y ∧ fm (sAt (260 + 20 * wn)) x y ∧ TR3 C wn y (260 + 20 * wn) (tryM C wn lim)
abbrev f2At (w : gd) (l1 l2 : Int32) : Prop := ¬ w.1 0 66 = 0 ∧ ¬ ((l1 = 0 ∨ l1 = 1) ∧ 1 ≤ l2.toInt ∧ l2.toInt ≤ 3000)
def tAq (C : gCo) (wr : Nat) (w : gd) (l1 l2 r : Int32) (w' : gd) : Prop := ∃ wn lim : Nat, ((wn = 0 ∨ wn = 1) ∧ l1 = Int32.ofNat wn ∧ l2.toInt = (lim : Nat)) ∧ r = w'.1 120 wn ∧ PM w w' ∧ (w'.1 0 67 = w.1 0 67 ∧ w'.1 0 94 = w.1 0 94 ∧ w'.1 96 = w.1 96 ∧ (¬ w.1 0 67 = 0 → HistC C wr w')) ∧ TYc C wn w' (tryM C wn lim) ∧ ¬ w'.1 119 wn = 0 ∧ (∀ v, ¬ v = wn → w'.1 119 v = w.1 119 v) ∧ ow wn w w'
theorem ja_attempt {r9 r : Int32} (h : JH C wr n lm x w) (hH : HOI y q) (k : ansK (e1Bg x) (e2At x l1 l2) (sAq C x l1 l2) x r9 y) (m : ansM C wr (f1Bg w) (f2At w l1 l2) (tAq C wr w l1 l2) w r w') : JR3 y w' ∧ ansE r9 r y w' := by
  have e9 := JH_9 h
  refine ans_eq h hH e9 ⟨fun z => ⟨fun a => z.1 (e9.mpr a), z.2⟩, fun z => ⟨fun a => z.1 (e9.mp a), z.2⟩⟩ (fun a z => z.1 a) k m (fun c _ r' s t => ?_)
  obtain ⟨wn, lim, ⟨a1, a2, a3⟩, s1, k2, k3, k4⟩ := s
  obtain ⟨wn', lim', ⟨b1, b2, b3⟩, t1, p, ⟨m67, m94, m96, mh⟩, mt, mf, mo, ow9⟩ := t
  have e := wn_eq b1 a1 b2 a2
  subst e
  have e2 : lim' = lim := by omega
  subst e2
  have ec : c96 w' = c96 w := by unfold c96; rw [m96]
  have e10 : y.1 0 10 = x.1 0 10 := k3 _ _ (by unfold sAt; omega)
  refine ⟨⟨C, wr, n, upf lm wn' lim', TXs_k h.1 k2 p, Or.inr ?_⟩, by rw [s1, t1, t_eq, k4.1.1, mt.1]⟩
  rcases h.2 with ⟨⟨c1, -⟩, -⟩ | ⟨j, r, t⟩
  · exact absurd c1 c
  · refine ⟨JC_k j k2 p, ?_, fun v v01 => ?_⟩
    · rcases r with ⟨r1, r2⟩ | ⟨r1, r2, r3, r4, r5⟩
      · exact Or.inl ⟨by rw [e10]; exact r1, by rw [m67]; exact r2⟩
      · exact Or.inr ⟨by rw [e10]; exact r1, by rw [m67]; exact r2, by rw [ec]; exact KRun_at (by omega) j.2.1 k3 r3, mh r2, by rw [m94]; exact r5⟩
    · by_cases cv : v = wn'
      · rw [cv, upf_eq]
        refine Or.inr ⟨fun z9 => ?_, mf, k4, mt⟩
        have e9 := k4.1.1
        rw [z9] at e9
        have k0 : (0 : Int32).toInt = 0 := rfl
        have := tryM_1 (C := C) (w := wn') (lim := lim')
        omega
      · rw [upf_ne cv]
        have eo : y.1 (260 + 20 * v) 0 = x.1 (260 + 20 * v) 0 := k3 _ _ (by unfold sAt; omega)
        rcases t v v01 with ⟨t1, t2⟩ | ⟨t1, t2, t3, t4⟩
        · exact Or.inl ⟨by rw [eo]; exact t1, by rw [mo v cv]; exact t2⟩
        · exact Or.inr ⟨by rw [eo]; exact t1, by rw [mo v cv]; exact t2, TR3_at (by omega) (by omega) (by omega) k3 t3, TYc_ow TW_try (by omega) cv ow9 t4⟩
/-- calls that forget -/
theorem JR3_z (h : JR x w) (z : ZR x) (m : ZM w) : JR3 x w := by
  obtain ⟨h1, h2⟩ := h
  rcases h2 with h2 | ⟨a1, a2, a3, a4, a5, a6, a7, C, c1, c2, c3⟩
  · exact ⟨_, 0, 0, fun _ => 0, h1, Or.inl ⟨h2, z, m, rfl⟩⟩
  · refine ⟨C, 0, 0, fun _ => 0, h1, Or.inr ⟨⟨⟨a1, a2, a3, a4, a5, a6, a7⟩, c1, c2, c3⟩, Or.inl ⟨z.1, m.1⟩, fun wn w01 => Or.inl ⟨z.2 _ (by omega), ?_⟩⟩⟩
    rcases w01 with e | e <;> rw [e]
    · exact m.2.1
    · exact m.2.2
theorem JH_J (h : JH C wr n lm x w) : JR x w := by
  obtain ⟨h1, h2⟩ := h
  refine ⟨h1, ?_⟩
  rcases h2 with ⟨a, -⟩ | ⟨⟨a, b⟩, -⟩
  · exact Or.inl a
  · obtain ⟨a1, a2, a3, a4, a5, a6, a7⟩ := a
    exact Or.inr ⟨a1, a2, a3, a4, a5, a6, a7, C, b⟩
theorem JR3_x {x1 : gd} (e : x1.1 = x.1) (h : JR3 x w) : JR3 x1 w := by
  obtain ⟨C, wr, n, lm, h⟩ := h
  obtain ⟨x1a, x1b⟩ := x1
  have e : x1a = x.1 := e
  subst e
  exact ⟨C, wr, n, lm, h⟩
end JN3
