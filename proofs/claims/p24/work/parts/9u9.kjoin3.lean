section
/-! class and model together: runs and tryings alike -/
def JC (C : gCo) (x w : gd) : Prop := (¬ x.1 0 9 = 0 ∧ w.1 0 66 = 1 ∧ x.1 60 6 = w.1 0 23 ∧ x.1 60 9 = w.1 0 24 ∧ x.1 60 10 = w.1 0 25 ∧ x.1 60 14 = w.1 0 26 ∧ x.1 60 16 = w.1 0 27) ∧ CK x C ∧ MK w C ∧ gdC C
def RNw (C : gCo) (wr n : Nat) (x w : gd) : Prop := (x.1 0 10 = 0 ∧ w.1 0 67 = 0) ∨ (¬ x.1 0 10 = 0 ∧ ¬ w.1 0 67 = 0 ∧ KRun C wr n (c96 w) x ∧ HistC C wr w ∧ (w.1 0 94).toInt = (n : Nat))
def TRw (C : gCo) (lm : Nat → Nat) (x w : gd) : Prop := ∀ wn, (wn = 0 ∨ wn = 1) → (x.1 (260 + 20 * wn) 0 = 0 ∧ w.1 119 wn = 0) ∨ (¬ x.1 (260 + 20 * wn) 0 = 0 ∧ ¬ w.1 119 wn = 0 ∧ TR3 C wn x (260 + 20 * wn) (tryM C wn (lm wn)) ∧ TYc C wn w (tryM C wn (lm wn)))
def ZM (w : gd) : Prop := w.1 0 67 = 0 ∧ w.1 119 0 = 0 ∧ w.1 119 1 = 0
def JH (C : gCo) (wr n : Nat) (lm : Nat → Nat) (x w : gd) : Prop := TXs x w ∧ (((x.1 0 9 = 0 ∧ w.1 0 66 = 0 ∧ z5 w) ∧ ZR x ∧ ZM w ∧ C = ([], [], [], [], [])) ∨ (JC C x w ∧ RNw C wr n x w ∧ TRw C lm x w))
def JR3 (x w : gd) : Prop := ∃ (C : gCo) (wr n : Nat) (lm : Nat → Nat), JH C wr n lm x w
section JN3
variable {C : gCo} {wr n : Nat} {lm : Nat → Nat} {x y w w' : gd} {q : kP} {l l1 l2 : Int32}
theorem GC_0 : GC (([], [], [], [], []) : gCo) := by
  refine ⟨⟨fun j st h => ?_, fun q h => ?_, fun Q h => ?_⟩, fun j st h => ?_, Nat.zero_le _⟩
  · exact absurd (gt_lt h) (Nat.not_lt_zero _)
  · cases h
  · rcases h with h | h <;> cases h
  · exact absurd (gt_lt h) (Nat.not_lt_zero _)
theorem NX3_0 : NX3 (([], [], [], [], []) : gCo) := fun j st h => absurd (gt_lt h) (Nat.not_lt_zero _)
theorem JC_C (hC : CO x) (h : JC C x w) : GC C ∧ NX3 C ∧ LkN C (x.1 60 9).toInt.toNat ∧ NCq C ∧ (x.1 60 9).toInt = ((x.1 60 9).toInt.toNat : Nat) ∧ (x.1 60 9).toInt.toNat ≤ 6 ∧ C.2.2.1.length ≤ 24 ∧ (w.1 0 26).toInt = (C.2.2.2.1.length : Nat) ∧ (w.1 0 27).toInt = (C.2.2.2.2.length : Nat) := by
  obtain ⟨⟨a1, a2, a3, a4, a5, a6, a7⟩, k1, k2, g1, g2, g3, g4⟩ := h
  have c6 := hC.1.1
  have c9 := hC.1.2.1
  have c10 := hC.1.2.2.1
  have e6 : (x.1 60 6).toInt = (C.2.2.1.length : Nat) := k1.2.2.1.1
  have e10 : (x.1 60 10).toInt = (C.2.1.length : Nat) := k1.2.1.1
  have e14 : (x.1 60 14).toInt = (C.2.2.2.1.length : Nat) := k1.2.2.2.1.1
  have e16 : (x.1 60 16).toInt = (C.2.2.2.2.length : Nat) := k1.2.2.2.2.1
  have en : (x.1 60 9).toInt = ((x.1 60 9).toInt.toNat : Nat) := by omega
  exact ⟨⟨g1, NXc_of hC k1 g1 g2, by omega⟩, g3, LkN_of hC k1 g1 en, NCq_of hC k1 g4, en, by omega, by omega, by rw [← a6]; exact e14, by rw [← a7]; exact e16⟩
theorem JH_gc (h : JH C wr n lm x w) (hH : HOI x q) : GC C ∧ NX3 C := by
  obtain ⟨-, ⟨-, -, -, e⟩ | ⟨j, -, -⟩⟩ := h
  · rw [e]; exact ⟨GC_0, NX3_0⟩
  · have := JC_C (hH.2.1 j.1.1) j
    exact ⟨this.1, this.2.1⟩
theorem JH_9 (h : JH C wr n lm x w) : x.1 0 9 = 0 ↔ w.1 0 66 = 0 := by
  obtain ⟨-, ⟨a, -⟩ | ⟨j, -⟩⟩ := h
  · exact ⟨fun _ => a.2.1, fun _ => a.1⟩
  · exact ⟨fun z => absurd z j.1.1, fun z => absurd (z.symm.trans j.1.2.1) (by decide)⟩
theorem JH_10 (h : JH C wr n lm x w) : x.1 0 10 = 0 ↔ w.1 0 67 = 0 := by
  obtain ⟨-, ⟨-, z, m, -⟩ | ⟨-, r, -⟩⟩ := h
  · exact ⟨fun _ => m.1, fun _ => z.1⟩
  · rcases r with ⟨a, b⟩ | ⟨a, b, -⟩
    · exact ⟨fun _ => b, fun _ => a⟩
    · exact ⟨fun z => absurd z a, fun z => absurd z b⟩
theorem JH_K (h : JH C wr n lm x w) (h9 : ¬ x.1 0 9 = 0) : JC C x w := by
  obtain ⟨-, ⟨a, -⟩ | ⟨j, -⟩⟩ := h
  · exact absurd a.1 h9
  · exact j
theorem JH_R (h : JH C wr n lm x w) (h10 : ¬ x.1 0 10 = 0) : JC C x w ∧ KRun C wr n (c96 w) x ∧ HistC C wr w ∧ (w.1 0 94).toInt = (n : Nat) := by
  obtain ⟨-, ⟨-, z, -⟩ | ⟨j, r, -⟩⟩ := h
  · exact absurd z.1 h10
  · rcases r with ⟨a, -⟩ | ⟨-, -, r⟩
    · exact absurd a h10
    · exact ⟨j, r⟩
/-- as many choices -/
theorem JH_84 (h : JH C wr n lm x w) (h10 : ¬ x.1 0 10 = 0) : x.1 120 13 = w.1 0 84 := by
  obtain ⟨-, r, hh, e94⟩ := JH_R h h10
  have e1 : (x.1 120 13).toInt = ((chM C wr (runM C wr (c96 w) n)).length : Nat) := r.2.1.2.2.1
  have e2 := HistC_n hh
  have en : (w.1 0 94).toInt.toNat = n := by rw [e94]; rfl
  rw [en] at e2
  rw [t_eq, e1, e2]
theorem JH_wr {wr' : Nat} (h : HistC C wr w) (g : HistC C wr' w) : wr' = wr := by
  obtain ⟨_, _, _, _, _, _, _, ⟨a1, a2⟩, _⟩ := h
  obtain ⟨_, _, _, _, _, _, _, ⟨b1, b2⟩, _⟩ := g
  exact wn_eq b1 a1 b2 a2
theorem JH_T (h : JH C wr n lm x w) : ∀ wn, (wn = 0 ∨ wn = 1) → (x.1 (260 + 20 * wn) 0 = 0 ↔ w.1 119 wn = 0) ∧ (¬ x.1 (260 + 20 * wn) 0 = 0 → JC C x w ∧ TR3 C wn x (260 + 20 * wn) (tryM C wn (lm wn)) ∧ TYc C wn w (tryM C wn (lm wn))) := by
  intro wn w01
  obtain ⟨-, ⟨-, z, m, -⟩ | ⟨j, -, t⟩⟩ := h
  · have e1 := z.2 (260 + 20 * wn) (by omega)
    have e2 : w.1 119 wn = 0 := by rcases w01 with e | e <;> rw [e]; exact m.2.1; exact m.2.2
    exact ⟨⟨fun _ => e2, fun _ => e1⟩, fun z9 => absurd e1 z9⟩
  · rcases t wn w01 with ⟨a, b⟩ | ⟨a, b, c⟩
    · exact ⟨⟨fun _ => b, fun _ => a⟩, fun z9 => absurd a z9⟩
    · exact ⟨⟨fun z9 => absurd z9 a, fun z9 => absurd z9 b⟩, fun _ => ⟨j, c⟩⟩
theorem TXs_k (h : TXs x w) (k : KF x y) (p : PM w w') : TXs y w' := by
  obtain ⟨h1, h2⟩ := h
  obtain ⟨k1, k2, k3, k4⟩ := k
  obtain ⟨-, p1, p2, p3⟩ := p
  exact ⟨by rw [k1, p1]; exact h1, fun q hq => by rw [k3, p3 2 (by decide)]; exact h2 q (by rw [← k1]; exact hq)⟩
theorem JC_k (h : JC C x w) (k : KF x y) (p : PM w w') : JC C y w' := by
  obtain ⟨k1, k2, k3, k4⟩ := k
  obtain ⟨-, p1, p2, p3⟩ := p
  obtain ⟨a, c1, c2, c3⟩ := h
  refine ⟨?_, CK_f c1 k4, MK_f c2 p2 p3, c3⟩
  rw [k2, k4 60 6 (by omega), k4 60 9 (by omega), k4 60 10 (by omega), k4 60 14 (by omega), k4 60 16 (by omega), p2 23 (by decide), p2 24 (by decide), p2 25 (by decide), p2 26 (by decide), p2 27 (by decide), p2 66 (by decide)]
  exact a
theorem z5_k (h : z5 w) (p : PM w w') : z5 w' := by
  obtain ⟨-, p1, p2, p3⟩ := p
  unfold z5 at h ⊢
  rw [p2 23 (by decide), p2 24 (by decide), p2 25 (by decide), p2 26 (by decide), p2 27 (by decide)]
  exact h
/-- calls that only look -/
theorem JQ_rd (h : JH C wr n lm x w) (hH : HOI y q) (k : KRd x y) (m : rdM C wr w w') : JR3 y w' := by
  have g : ∀ c k, ¬ sRd c k → y.1 c k = x.1 c k := k
  have kf := KR_KF k
  obtain ⟨p, ⟨m67, m94, m96⟩, m119, mh, mt⟩ := m
  have e10 : y.1 0 10 = x.1 0 10 := g _ _ (by unfold sRd; omega)
  have eo : ∀ o, (o = 260 ∨ o = 280) → y.1 o 0 = x.1 o 0 := fun o hO => g _ _ (by unfold sRd; omega)
  have ec : c96 w' = c96 w := by unfold c96; rw [m96]
  refine ⟨C, wr, n, lm, TXs_k h.1 kf p, ?_⟩
  rcases h.2 with ⟨⟨a1, a2, a3⟩, z, m, e⟩ | ⟨j, r, t⟩
  · refine Or.inl ⟨⟨by rw [kf.2.1]; exact a1, ?_, z5_k a3 p⟩, ⟨by rw [e10]; exact z.1, fun o hO => by rw [eo o hO]; exact z.2 o hO⟩, ⟨by rw [m67]; exact m.1, by rw [m119]; exact m.2.1, by rw [m119]; exact m.2.2⟩, e⟩
    rw [p.2.2.1 66 (by decide)]; exact a2
  · refine Or.inr ⟨JC_k j kf p, ?_, fun wn w01 => ?_⟩
    · rcases r with ⟨r1, r2⟩ | ⟨r1, r2, r3, r4, r5⟩
      · exact Or.inl ⟨by rw [e10]; exact r1, by rw [m67]; exact r2⟩
      · have y10 : ¬ y.1 0 10 = 0 := by rw [e10]; exact r1
        exact Or.inr ⟨y10, by rw [m67]; exact r2, by rw [ec]; exact KRun_rd k j.2.1 (hH.2.2.1 y10) r3, mh r4, by rw [m94]; exact r5⟩
    · rcases t wn w01 with ⟨t1, t2⟩ | ⟨t1, t2, t3, t4⟩
      · exact Or.inl ⟨by rw [eo _ (by omega)]; exact t1, by rw [m119]; exact t2⟩
      · exact Or.inr ⟨by rw [eo _ (by omega)]; exact t1, by rw [m119]; exact t2, TR3_rd (by omega) k t3, mt wn _ t4⟩
/-- calls that make a run, or do choices -/
theorem JQ_run {wr' n' : Nat} (h : JH C wr n lm x w) (h9 : ¬ x.1 0 9 = 0) (f : fm sRn x y) (p : PM w w') (e119 : w'.1 119 = w.1 119) (ty : ∀ wn T, TYc C wn w T → TYc C wn w' T) (r : KRun C wr' n' (c96 w') y) (h10 : ¬ y.1 0 10 = 0) (hh : HistC C wr' w') (h67 : ¬ w'.1 0 67 = 0) (h94 : (w'.1 0 94).toInt = (n' : Nat)) : JR3 y w' := by
  have kf := rn_20 f
  have eo : ∀ o, (o = 260 ∨ o = 280) → y.1 o 0 = x.1 o 0 := fun o hO => f _ _ (by unfold sRn; omega)
  refine ⟨C, wr', n', lm, TXs_k h.1 kf p, Or.inr ?_⟩
  rcases h.2 with ⟨⟨a1, -⟩, -⟩ | ⟨j, -, t⟩
  · exact absurd a1 h9
  · refine ⟨JC_k j kf p, Or.inr ⟨h10, h67, r, hh, h94⟩, fun wn w01 => ?_⟩
    rcases t wn w01 with ⟨t1, t2⟩ | ⟨t1, t2, t3, t4⟩
    · exact Or.inl ⟨by rw [eo _ (by omega)]; exact t1, by rw [e119]; exact t2⟩
    · exact Or.inr ⟨by rw [eo _ (by omega)]; exact t1, by rw [e119]; exact t2, TR3_rn (by omega) f t3, ty wn _ t4⟩
/-- what the model's calls leave: refused, or a run -/
def rnM (C : gCo) (wr n : Nat) (w w' : gd) : Prop := PM w w' ∧ w'.1 119 = w.1 119 ∧ (∀ wn T, TYc C wn w T → TYc C wn w' T) ∧ HistC C wr w' ∧ ¬ w'.1 0 67 = 0 ∧ (w'.1 0 94).toInt = (n : Nat)
theorem rnM_of {L A : List Nat} {wr' n' : Nat} (m : mi L A w w') (hL : [24].all (fun k => !L.elem k) = true) (hA : [119, 120, 126, 130, 131, 132, 121, 122, 123, 124, 125, 127, 128].all (fun k => !A.elem k) = true) (p : PM w w') (hh : HistC C wr' w') (h67 : ¬ w'.1 0 67 = 0) (h94 : (w'.1 0 94).toInt = (n' : Nat)) : rnM C wr' n' w w' := ⟨p, m.2 119 (by decide) (all_no hA 119 (by decide)), fun wn T h => TYc_mi m hL (all_sub hA rfl) h, hh, h67, h94⟩
/-! how a call answers: two ways to refuse, or an answer -/
def ansK (E1 E2 : Prop) (S : Int32 → gd → Prop) (x : gd) (r9 : Int32) (y : gd) : Prop := (E1 ∧ r9 = 1 ∧ KRd x y) ∨ (E2 ∧ r9 = 2 ∧ KRd x y) ∨ (¬ E1 ∧ ¬ E2 ∧ r9 = 0 ∧ ∃ r : Int32, y.2 299 (0 : Int32).toNatClampNeg = r.toInt64 ∧ S r y)
def ansM (C : gCo) (wr : Nat) (E1 E2 : Prop) (S : Int32 → gd → Prop) (w : gd) (r : Int32) (w' : gd) : Prop := MI w' ∧ ((E1 ∧ w'.1 0 0 = 1 ∧ rdM C wr w w') ∨ (E2 ∧ w'.1 0 0 = 2 ∧ rdM C wr w w') ∨ (¬ E1 ∧ ¬ E2 ∧ w'.1 0 0 = 0 ∧ S r w'))
def ansE (r9 r : Int32) (y w' : gd) : Prop := (r9 = 0 ∧ w'.1 0 0 = 0 ∧ y.2 299 (0 : Int32).toNatClampNeg = r.toInt64) ∨ (¬ r9 = 0 ∧ w'.1 0 0 = r9)
theorem ans_eq {E1 E2 E1' E2' : Prop} {S S' : Int32 → gd → Prop} {r9 r : Int32} (h : JH C wr n lm x w) (hH : HOI y q) (e1 : E1 ↔ E1') (e2 : E2 ↔ E2') (e3 : E1 → ¬ E2) (k : ansK E1 E2 S x r9 y) (m : ansM C wr E1' E2' S' w r w') (js : ¬ E1 → ¬ E2 → ∀ r', S r' y → S' r w' → JR3 y w' ∧ r' = r) : JR3 y w' ∧ ansE r9 r y w' := by
  obtain ⟨-, m⟩ := m
  rcases k with ⟨k1, k2, k3⟩ | ⟨k1, k2, k3⟩ | ⟨k1, k2, k3, r', k4, k5⟩
  · rcases m with ⟨m1, m2, m3⟩ | ⟨m1, m2, m3⟩ | ⟨m1, m2, m3, m4⟩
    · exact ⟨JQ_rd h hH k3 m3, Or.inr ⟨by rw [k2]; decide, by rw [m2, k2]⟩⟩
    · exact absurd (e2.mpr m1) (e3 k1)
    · exact absurd (e1.mp k1) m1
  · rcases m with ⟨m1, m2, m3⟩ | ⟨m1, m2, m3⟩ | ⟨m1, m2, m3, m4⟩
    · exact absurd k1 (e3 (e1.mpr m1))
    · exact ⟨JQ_rd h hH k3 m3, Or.inr ⟨by rw [k2]; decide, by rw [m2, k2]⟩⟩
    · exact absurd (e2.mp k1) m2
  · rcases m with ⟨m1, m2, m3⟩ | ⟨m1, m2, m3⟩ | ⟨m1, m2, m3, m4⟩
    · exact absurd (e1.mpr m1) k1
    · exact absurd (e2.mpr m1) k2
    · obtain ⟨j1, j2⟩ := js k1 k2 r' k5 m4
      exact ⟨j1, Or.inl ⟨k3, m3, by rw [k4, j2]⟩⟩
theorem JR3_84 (h : JR3 y w') (h10 : ¬ y.1 0 10 = 0) : y.1 120 13 = w'.1 0 84 := by
  obtain ⟨C, wr, n, lm, h⟩ := h
  exact JH_84 h h10
theorem JR3_94 (h : JR3 y w') (h10 : ¬ y.1 0 10 = 0) : y.1 160 2 = w'.1 0 94 := by
  obtain ⟨C, wr, n, lm, h⟩ := h
  obtain ⟨-, r, -, e⟩ := JH_R h h10
  rw [t_eq, e]
  exact r.2.2.2.1
theorem w_01 {wn : Nat} (h : wn = 0 ∨ wn = 1) (e : l = Int32.ofNat wn) : l = 0 ∨ l = 1 := by
  rcases h with rfl | rfl
  · exact Or.inl e
  · exact Or.inr e
/-! choices -/
abbrev e1Ch (x : gd) : Prop := x.1 0 10 = 0
def sCh (x : gd) (r : Int32) (y : gd) : Prop := r = x.1 120 13 ∧ KRd x y
abbrev f1Ch (w : gd) : Prop := w.1 0 67 = 0
def tCh (C : gCo) (wr : Nat) (w : gd) (r : Int32) (w' : gd) : Prop := r = w.1 0 84 ∧ rdM C wr w w'
theorem ja_choices {r9 r : Int32} (h : JH C wr n lm x w) (hH : HOI y q) (k : ansK (e1Ch x) False (sCh x) x r9 y) (m : ansM C wr (f1Ch w) False (tCh C wr w) w r w') : JR3 y w' ∧ ansE r9 r y w' :=
  ans_eq h hH (JH_10 h) Iff.rfl (fun _ z => z) k m (fun c _ r' s t => ⟨JQ_rd h hH s.2 t.2, by rw [s.1, t.1, JH_84 h c]⟩)
/-! begin -/
abbrev e1Bg (x : gd) : Prop := x.1 0 9 = 0
abbrev e2Bg (x : gd) (l : Int32) : Prop := ¬ x.1 0 9 = 0 ∧ ¬ (l = 0 ∨ l = 1)
def sBg (C : gCo) (x : gd) (l r : Int32) (y : gd) : Prop := r = y.1 120 13 ∧ ∃ wn : Nat, (wn = 0 ∨ wn = 1) ∧ l = Int32.ofNat wn ∧ fm sRn x y ∧ (∀ c, KRun C wn 0 c y) ∧ y.1 0 10 = 1
abbrev f1Bg (w : gd) : Prop := w.1 0 66 = 0
abbrev f2Bg (w : gd) (l : Int32) : Prop := ¬ w.1 0 66 = 0 ∧ ¬ (l = 0 ∨ l = 1)
def tBg (C : gCo) (w : gd) (l r : Int32) (w' : gd) : Prop := r = w'.1 0 84 ∧ ∃ wn : Nat, (wn = 0 ∨ wn = 1) ∧ l = Int32.ofNat wn ∧ rnM C wn 0 w w'
theorem ja_begin {r9 r : Int32} (h : JH C wr n lm x w) (hH : HOI y q) (k : ansK (e1Bg x) (e2Bg x l) (sBg C x l) x r9 y) (m : ansM C wr (f1Bg w) (f2Bg w l) (tBg C w l) w r w') : JR3 y w' ∧ ansE r9 r y w' := by
  have e9 := JH_9 h
  refine ans_eq h hH e9 ⟨fun z => ⟨fun a => z.1 (e9.mpr a), z.2⟩, fun z => ⟨fun a => z.1 (e9.mp a), z.2⟩⟩ (fun a z => z.1 a) k m (fun c _ r' s t => ?_)
  obtain ⟨s1, wn, k2, k3, k4, k5, k6⟩ := s
  obtain ⟨t1, wn', m2, m3, m4⟩ := t
  have e := wn_eq m2 k2 m3 k3
  subst e
  obtain ⟨p, e119, ty, hh, h67, h94⟩ := m4
  have y10 : ¬ y.1 0 10 = 0 := by rw [k6]; decide
  have j := JQ_run h c k4 p e119 ty (k5 _) y10 hh h67 h94
  exact ⟨j, by rw [s1, t1, JR3_84 j y10]⟩
/-! go -/
abbrev okGo (n : Nat) (x : gd) : Prop := ¬ x.1 0 10 = 0 ∧ n < 400
abbrev e1Go (n : Nat) (x : gd) : Prop := ¬ okGo n x
abbrev e2Go (n : Nat) (x : gd) (l : Int32) : Prop := okGo n x ∧ ¬ (0 ≤ l.toInt ∧ l.toInt < (x.1 120 13).toInt)
def sGo (C : gCo) (wr n : Nat) (c : Nat → Nat) (x : gd) (l r : Int32) (y : gd) : Prop := r = y.1 120 13 ∧ fm sRn x y ∧ KRun C wr (n + 1) (upf c n l.toNatClampNeg) y ∧ y.1 0 10 = x.1 0 10
abbrev okGm (w : gd) : Prop := ¬ w.1 0 67 = 0 ∧ (w.1 0 94).toInt < 400
abbrev f1Go (w : gd) : Prop := ¬ okGm w
abbrev f2Go (w : gd) (l : Int32) : Prop := okGm w ∧ ¬ (0 ≤ l.toInt ∧ l.toInt < (w.1 0 84).toInt)
def tGo (C : gCo) (wr n : Nat) (w : gd) (l r : Int32) (w' : gd) : Prop := r = w'.1 0 84 ∧ rnM C wr (n + 1) w w' ∧ c96 w' n = l.toNatClampNeg ∧ rwE (c96 w') (c96 w) n
theorem ja_go {r9 r : Int32} (h : JH C wr n lm x w) (hH : HOI y q) (k : ansK (e1Go n x) (e2Go n x l) (sGo C wr n (c96 w) x l) x r9 y) (m : ansM C wr (f1Go w) (f2Go w l) (tGo C wr n w l) w r w') : JR3 y w' ∧ ansE r9 r y w' := by
  have co : okGo n x ↔ okGm w := by
    by_cases c : x.1 0 10 = 0
    · exact ⟨fun z => absurd c z.1, fun z => absurd ((JH_10 h).mp c) z.1⟩
    · have e94 := (JH_R h c).2.2.2
      have c' : ¬ w.1 0 67 = 0 := fun z => c ((JH_10 h).mpr z)
      exact ⟨fun z => ⟨c', by have := z.2; omega⟩, fun z => ⟨c, by have := z.2; omega⟩⟩
  refine ans_eq h hH ⟨fun a b => a (co.mpr b), fun a b => a (co.mp b)⟩ ⟨fun z => ⟨co.mp z.1, by rw [← JH_84 h z.1.1]; exact z.2⟩, fun z => ⟨co.mpr z.1, by rw [JH_84 h (co.mpr z.1).1]; exact z.2⟩⟩ (fun a z => a z.1) k m (fun c _ r' s t => ?_)
  have c := Classical.not_not.mp c
  obtain ⟨s1, k2, k3, k4⟩ := s
  obtain ⟨t1, m2, m3, m4⟩ := t
  obtain ⟨p, e119, ty, hh, h67, h94⟩ := m2
  have y10 : ¬ y.1 0 10 = 0 := by rw [k4]; exact c.1
  have j := JQ_run h (JH_R h c.1).1.1.1 k2 p e119 ty (KRun_cg (fun j hj => by
    by_cases cj : j = n
    · rw [cj, upf_eq, m3]
    · rw [upf_ne cj, m4 j (by omega)]) k3) y10 hh h67 h94
  exact ⟨j, by rw [s1, t1, JR3_84 j y10]⟩
/-! draw -/
abbrev e2Dr (x : gd) (l2 : Int32) : Prop := ¬ x.1 0 10 = 0 ∧ ¬ (0 ≤ l2.toInt ∧ l2.toInt ≤ 400)
def sDr (C : gCo) (wr n : Nat) (c : Nat → Nat) (x : gd) (l1 l2 r : Int32) (y : gd) : Prop := r.toInt = ((drS C wr l2.toInt.toNat l1 c n).2 : Int) - n ∧ fm sRn x y ∧ KRun C wr (drS C wr l2.toInt.toNat l1 c n).2 (drS C wr l2.toInt.toNat l1 c n).1 y ∧ y.1 0 10 = x.1 0 10
abbrev f2Dr (w : gd) (l2 : Int32) : Prop := ¬ w.1 0 67 = 0 ∧ ¬ (0 ≤ l2.toInt ∧ l2.toInt ≤ 400)
def tDr (C : gCo) (wr n : Nat) (w : gd) (l1 l2 r : Int32) (w' : gd) : Prop := r.toInt = ((drS C wr l2.toInt.toNat l1 (c96 w) n).2 : Int) - n ∧ rnM C wr (drS C wr l2.toInt.toNat l1 (c96 w) n).2 w w' ∧ rwE (c96 w') (drS C wr l2.toInt.toNat l1 (c96 w) n).1 (drS C wr l2.toInt.toNat l1 (c96 w) n).2
theorem ja_draw {r9 r : Int32} (h : JH C wr n lm x w) (hH : HOI y q) (k : ansK (e1Ch x) (e2Dr x l2) (sDr C wr n (c96 w) x l1 l2) x r9 y) (m : ansM C wr (f1Ch w) (f2Dr w l2) (tDr C wr n w l1 l2) w r w') : JR3 y w' ∧ ansE r9 r y w' := by
  have e9 := JH_10 h
  refine ans_eq h hH e9 ⟨fun z => ⟨fun a => z.1 (e9.mpr a), z.2⟩, fun z => ⟨fun a => z.1 (e9.mp a), z.2⟩⟩ (fun a z => z.1 a) k m (fun c _ r' s t => ?_)
  obtain ⟨s1, k2, k3, k4⟩ := s
  obtain ⟨t1, m2, m3⟩ := t
  obtain ⟨p, e119, ty, hh, h67, h94⟩ := m2
  exact ⟨JQ_run h (JH_R h c).1.1.1 k2 p e119 ty (KRun_cg (fun j hj => (m3 j hj).symm) k3) (by rw [k4]; exact c) hh h67 h94, by rw [t_eq, s1, t1]⟩
/-! again -/
abbrev e2Ag (n : Nat) (x : gd) (l : Int32) : Prop := ¬ x.1 0 10 = 0 ∧ ¬ (0 ≤ l.toInt ∧ l.toInt ≤ (n : Nat))
def sAg (C : gCo) (wr : Nat) (c : Nat → Nat) (x : gd) (l r : Int32) (y : gd) : Prop := r = y.1 120 13 ∧ fm sRn x y ∧ KRun C wr l.toInt.toNat c y ∧ y.1 0 10 = 1
abbrev f2Ag (w : gd) (l : Int32) : Prop := ¬ w.1 0 67 = 0 ∧ ¬ (0 ≤ l.toInt ∧ l.toInt ≤ (w.1 0 94).toInt)
def tAg (C : gCo) (wr : Nat) (w : gd) (l r : Int32) (w' : gd) : Prop := r = w'.1 0 84 ∧ rnM C wr l.toInt.toNat w w' ∧ c96 w' = c96 w
theorem ja_again {r9 r : Int32} (h : JH C wr n lm x w) (hH : HOI y q) (k : ansK (e1Ch x) (e2Ag n x l) (sAg C wr (c96 w) x l) x r9 y) (m : ansM C wr (f1Ch w) (f2Ag w l) (tAg C wr w l) w r w') : JR3 y w' ∧ ansE r9 r y w' := by
  have e9 := JH_10 h
  refine ans_eq h hH e9 ⟨fun z => ⟨fun a => z.1 (e9.mpr a), by rw [(JH_R h z.1).2.2.2]; exact z.2⟩, fun z => ⟨fun a => z.1 (e9.mp a), by rw [← (JH_R h (fun a => z.1 (e9.mp a))).2.2.2]; exact z.2⟩⟩ (fun a z => z.1 a) k m (fun c _ r' s t => ?_)
  obtain ⟨s1, k2, k3, k4⟩ := s
  obtain ⟨t1, m2, m3⟩ := t
  obtain ⟨p, e119, ty, hh, h67, h94⟩ := m2
  have y10 : ¬ y.1 0 10 = 0 := by rw [k4]; decide
  have j := JQ_run h (JH_R h c).1.1.1 k2 p e119 ty (by rw [m3]; exact k3) y10 hh h67 h94
  exact ⟨j, by rw [s1, t1, JR3_84 j y10]⟩
/-! show -/
abbrev e1Sh (l1 l2 : Int32) : Prop := ¬ ((l1 = 0 ∨ l1 = 1) ∧ 0 ≤ l2.toInt ∧ l2.toInt < 11)
def shK (C : gCo) (Tw : Nat → gTy) (x : gd) (l1 l2 : Int32) : Prop := ∃ wn s : Nat, (wn = 0 ∨ wn = 1) ∧ l1 = Int32.ofNat wn ∧ 0 ≤ l2.toInt ∧ l2.toInt < 11 ∧ ¬ x.1 (260 + 20 * wn) 0 = 0 ∧ fsF C wn (Tw wn) l2.toInt.toNat s ∧ (pth (Tw wn) s).length ≤ 400
noncomputable abbrev twM (C : gCo) (lm : Nat → Nat) : Nat → gTy := fun v => tryM C v (lm v)
abbrev e2Sh (C : gCo) (lm : Nat → Nat) (x : gd) (l1 l2 : Int32) : Prop := ((l1 = 0 ∨ l1 = 1) ∧ 0 ≤ l2.toInt ∧ l2.toInt < 11) ∧ ¬ shK C (twM C lm) x l1 l2
def sSh (C : gCo) (lm : Nat → Nat) (x : gd) (l1 l2 r : Int32) (y : gd) : Prop := r = y.1 160 2 ∧ ∃ wn s : Nat, ((wn = 0 ∨ wn = 1) ∧ l1 = Int32.ofNat wn ∧ ¬ x.1 (260 + 20 * wn) 0 = 0 ∧ fsF C wn (twM C lm wn) l2.toInt.toNat s) ∧ fm sRn x y ∧ (∀ c, (∀ k v, (pth (twM C lm wn) s)[k]? = some v → c k = v) → KRun C wn (pth (twM C lm wn) s).length c y) ∧ y.1 0 10 = 1
abbrev f2Sh (C : gCo) (lm : Nat → Nat) (w : gd) (l1 l2 : Int32) : Prop := ((l1 = 0 ∨ l1 = 1) ∧ 0 ≤ l2.toInt ∧ l2.toInt < 11) ∧ ¬ shG C (twM C lm) w l1 l2
def tSh (C : gCo) (lm : Nat → Nat) (w : gd) (l1 l2 r : Int32) (w' : gd) : Prop := r = w'.1 0 94 ∧ ∃ wn s : Nat, ((wn = 0 ∨ wn = 1) ∧ l1 = Int32.ofNat wn ∧ ¬ w.1 119 wn = 0 ∧ fsF C wn (twM C lm wn) l2.toInt.toNat s) ∧ rnM C wn (pth (twM C lm wn) s).length w w' ∧ ∀ k v, (pth (twM C lm wn) s)[k]? = some v → c96 w' k = v
theorem ja_show {r9 r : Int32} (h : JH C wr n lm x w) (hH : HOI y q) (k : ansK (e1Sh l1 l2) (e2Sh C lm x l1 l2) (sSh C lm x l1 l2) x r9 y) (m : ansM C wr (e1Sh l1 l2) (f2Sh C lm w l1 l2) (tSh C lm w l1 l2) w r w') : JR3 y w' ∧ ansE r9 r y w' := by
  have tt := JH_T h
  have co : shK C (twM C lm) x l1 l2 ↔ shG C (twM C lm) w l1 l2 := ⟨fun ⟨wn, s, a1, a2, a3, a4, a5, a6⟩ => ⟨wn, s, a1, a2, a3, a4, fun z => a5 ((tt wn a1).1.mpr z), a6⟩, fun ⟨wn, s, a1, a2, a3, a4, a5, a6⟩ => ⟨wn, s, a1, a2, a3, a4, fun z => a5 ((tt wn a1).1.mp z), a6⟩⟩
  refine ans_eq h hH Iff.rfl ⟨fun z => ⟨z.1, fun a => z.2 (co.mpr a)⟩, fun z => ⟨z.1, fun a => z.2 (co.mp a)⟩⟩ (fun a z => a z.1) k m (fun c _ r' s t => ?_)
  obtain ⟨s1, wn, s, ⟨a1, a2, a5, a6⟩, k2, k3, k4⟩ := s
  obtain ⟨t1, wn', s', ⟨b1, b2, b5, b6⟩, m2, m3⟩ := t
  have e := wn_eq b1 a1 b2 a2
  subst e
  have e2 := fsF_u b6 a6
  subst e2
  obtain ⟨p, e119, ty, hh, h67, h94⟩ := m2
  have y10 : ¬ y.1 0 10 = 0 := by rw [k4]; decide
  have j := JQ_run h ((tt _ a1).2 a5).1.1.1 k2 p e119 ty (k3 _ m3) y10 hh h67 h94
  exact ⟨j, by rw [s1, t1, JR3_94 j y10]⟩
/-- a trying has its first state -/
theorem bfS_pre {w lim : Nat} : ∀ f s (T : gTy), T.1.length ≤ (bfS C w lim f s T).1.length := by
  intro f
  induction f with
  | zero => intro s T; exact Nat.le_refl _
  | succ f ih =>
    intro s T
    cases hs : T.1[s]? with
    | none => rw [bfS_end hs]; exact Nat.le_refl _
    | some p =>
      rw [bfS_go hs]
      have a := (onS_pre (C := C) (w := w) (lim := lim) (M := p.1) (gt_lt hs) s (chM C w p.1).length).2
      exact Nat.le_trans a (ih _ _)
theorem tryM_1 {w lim : Nat} : 1 ≤ (tryM C w lim).1.length := bfS_pre 3001 0 ([(fsM C, 0, 0)], false)
/-! attempt -/
abbrev e2At (x : gd) (l1 l2 : Int32) : Prop := ¬ x.1 0 9 = 0 ∧ ¬ ((l1 = 0 ∨ l1 = 1) ∧ 1 ≤ l2.toInt ∧ l2.toInt ≤ 3000)
def sAq (C : gCo) (x : gd) (l1 l2 r : Int32) (y : gd) : Prop := ∃ wn lim : Nat, ((wn = 0 ∨ wn = 1) ∧ l1 = Int32.ofNat wn ∧ l2.toInt = (lim : Nat)) ∧ r = y.1 (260 + 20 * wn) 0 ∧ KF x y ∧ fm (sAt (260 + 20 * wn)) x y ∧ TR3 C wn y (260 + 20 * wn) (tryM C wn lim)
abbrev f2At (w : gd) (l1 l2 : Int32) : Prop := ¬ w.1 0 66 = 0 ∧ ¬ ((l1 = 0 ∨ l1 = 1) ∧ 1 ≤ l2.toInt ∧ l2.toInt ≤ 3000)
def tAq (C : gCo) (wr : Nat) (w : gd) (l1 l2 r : Int32) (w' : gd) : Prop := ∃ wn lim : Nat, ((wn = 0 ∨ wn = 1) ∧ l1 = Int32.ofNat wn ∧ l2.toInt = (lim : Nat)) ∧ r = w'.1 120 wn ∧ PM w w' ∧ (w'.1 0 67 = w.1 0 67 ∧ w'.1 0 94 = w.1 0 94 ∧ w'.1 96 = w.1 96 ∧ (¬ w.1 0 67 = 0 → HistC C wr w')) ∧ TYc C wn w' (tryM C wn lim) ∧ ¬ w'.1 119 wn = 0 ∧ (∀ v, ¬ v = wn → w'.1 119 v = w.1 119 v) ∧ ow wn w w' ∧ LW3 w w' wn
theorem ja_attempt {r9 r : Int32} (h : JH C wr n lm x w) (hH : HOI y q) (k : ansK (e1Bg x) (e2At x l1 l2) (sAq C x l1 l2) x r9 y) (m : ansM C wr (f1Bg w) (f2At w l1 l2) (tAq C wr w l1 l2) w r w') : JR3 y w' ∧ ansE r9 r y w' := by
  have e9 := JH_9 h
  refine ans_eq h hH e9 ⟨fun z => ⟨fun a => z.1 (e9.mpr a), z.2⟩, fun z => ⟨fun a => z.1 (e9.mp a), z.2⟩⟩ (fun a z => z.1 a) k m (fun c _ r' s t => ?_)
  obtain ⟨wn, lim, ⟨a1, a2, a3⟩, s1, k2, k3, k4⟩ := s
  obtain ⟨wn', lim', ⟨b1, b2, b3⟩, t1, p, ⟨m67, m94, m96, mh⟩, mt, mf, mo, ow9, lw9⟩ := t
  have e := wn_eq b1 a1 b2 a2
  subst e
  have e2 : lim' = lim := by omega
  subst e2
  have ec : c96 w' = c96 w := by unfold c96; rw [m96]
  have e10 : y.1 0 10 = x.1 0 10 := k3 _ _ (by unfold sAt; omega)
  refine ⟨⟨C, wr, n, upf lm wn' lim', TXs_k h.1 k2 p, Or.inr ?_⟩, by rw [s1, t1, t_eq, k4.1.1.1, mt.1.1]⟩
  rcases h.2 with ⟨⟨c1, -⟩, -⟩ | ⟨j, r, t⟩
  · exact absurd c1 c
  · refine ⟨JC_k j k2 p, ?_, fun v v01 => ?_⟩
    · rcases r with ⟨r1, r2⟩ | ⟨r1, r2, r3, r4, r5⟩
      · exact Or.inl ⟨by rw [e10]; exact r1, by rw [m67]; exact r2⟩
      · exact Or.inr ⟨by rw [e10]; exact r1, by rw [m67]; exact r2, by rw [ec]; exact KRun_at (by omega) j.2.1 k3 r3, mh r2, by rw [m94]; exact r5⟩
    · by_cases cv : v = wn'
      · rw [cv, upf_eq]
        refine Or.inr ⟨fun z9 => ?_, mf, k4, mt⟩
        have e9 := k4.1.1.1
        rw [z9] at e9
        have k0 : (0 : Int32).toInt = 0 := rfl
        have := tryM_1 (C := C) (w := wn') (lim := lim')
        omega
      · rw [upf_ne cv]
        have eo : y.1 (260 + 20 * v) 0 = x.1 (260 + 20 * v) 0 := k3 _ _ (by unfold sAt; omega)
        rcases t v v01 with ⟨t1, t2⟩ | ⟨t1, t2, t3, t4⟩
        · exact Or.inl ⟨by rw [eo]; exact t1, by rw [mo v cv]; exact t2⟩
        · exact Or.inr ⟨by rw [eo]; exact t1, by rw [mo v cv]; exact t2, TR3_at (by omega) (by omega) (by omega) k3 t3, ⟨TYo_ow TW_try (by omega) cv ow9 t4.1, TYx_ow (by omega) cv (p.2.2.1 24 (by decide)) ow9 lw9 t4.2⟩⟩
/-- calls that forget -/
theorem JR3_z (h : JR x w) (z : ZR x) (m : ZM w) : JR3 x w := by
  obtain ⟨h1, h2⟩ := h
  rcases h2 with h2 | ⟨a1, a2, a3, a4, a5, a6, a7, C, c1, c2, c3⟩
  · exact ⟨_, 0, 0, fun _ => 0, h1, Or.inl ⟨h2, z, m, rfl⟩⟩
  · refine ⟨C, 0, 0, fun _ => 0, h1, Or.inr ⟨⟨⟨a1, a2, a3, a4, a5, a6, a7⟩, c1, c2, c3⟩, Or.inl ⟨z.1, m.1⟩, fun wn w01 => Or.inl ⟨z.2 _ (by omega), ?_⟩⟩⟩
    rcases w01 with e | e <;> rw [e]
    · exact m.2.1
    · exact m.2.2
theorem JH_J (h : JH C wr n lm x w) : JR x w := by
  obtain ⟨h1, h2⟩ := h
  refine ⟨h1, ?_⟩
  rcases h2 with ⟨a, -⟩ | ⟨⟨a, b⟩, -⟩
  · exact Or.inl a
  · obtain ⟨a1, a2, a3, a4, a5, a6, a7⟩ := a
    exact Or.inr ⟨a1, a2, a3, a4, a5, a6, a7, C, b⟩
theorem JR3_x {x1 : gd} (e : x1.1 = x.1) (h : JR3 x w) : JR3 x1 w := by
  obtain ⟨C, wr, n, lm, h⟩ := h
  obtain ⟨x1a, x1b⟩ := x1
  have e : x1a = x.1 := e
  subst e
  exact ⟨C, wr, n, lm, h⟩
end JN3
end
section
/-! the calls of class and model, with what both hold and what they answer -/
section SMC
variable {G : mG} {d D : Nat} {x w : gd} {F : Int32 → gd → Prop} {C : gCo} {wr n : Nat} {lm : Nat → Nat} {q : kP}
theorem HistC_w (h : HistC C wr w) : wr = 0 ∨ wr = 1 := by
  obtain ⟨_, _, _, _, _, _, _, ⟨a1, _⟩, _⟩ := h
  exact a1
theorem JH_M (h : JH C wr n lm x w) (h67 : ¬ w.1 0 67 = 0) : ¬ w.1 0 66 = 0 ∧ HistC C wr w ∧ (w.1 0 94).toInt = (n : Nat) := by
  have r := JH_R h (fun z => h67 ((JH_10 h).mp z))
  exact ⟨fun z => r.1.1.1 ((JH_9 h).mpr z), r.2.2⟩
theorem an_1 {E1 E2 : Prop} {S : Int32 → gd → Prop} {w' : gd} {r : Int32} (hm : MI w) (e : E1) (m : rfK 1 w w') : ansM C wr E1 E2 S w r w' := ⟨(MI_0 m.1 hm).1, Or.inl ⟨e, m.2, rd_0 m.1 hm⟩⟩
theorem an_2 {E1 E2 : Prop} {S : Int32 → gd → Prop} {w' : gd} {r : Int32} (hm : MI w) (e : E2) (m : rfK 2 w w') : ansM C wr E1 E2 S w r w' := ⟨(MI_0 m.1 hm).1, Or.inr (Or.inl ⟨e, m.2, rd_0 m.1 hm⟩)⟩
theorem an_3 {E1 E2 : Prop} {S : Int32 → gd → Prop} {w' : gd} {r : Int32} (p : MI w') (e1 : ¬ E1) (e2 : ¬ E2) (e0 : w'.1 0 0 = 0) (s : S r w') : ansM C wr E1 E2 S w r w' := ⟨p, Or.inr (Or.inr ⟨e1, e2, e0, s⟩)⟩
theorem ma_choices (hm : MI w) (hD : 3 ≤ D) (hF : ∀ r w', ansM C wr (f1Ch w) False (tCh C wr w) w r w' → F r w') : MT G D z_choices 0 [(0, vr 0)] [] w (ri F) := by
  obtain ⟨D, rfl⟩ : ∃ D', D = D' + 2 := ⟨D - 2, by omega⟩
  refine sg_choices_0 (fun y e => ?_)
  have hy := z0_s e
  have e67 : y.1 0 67 = w.1 0 67 := hy.1.1 67 (by decide)
  have e84 : y.1 0 84 = w.1 0 84 := hy.1.1 84 (by decide)
  exact sc_noRunk hy (fun c => ⟨fun _ => ri_i (hF _ y (an_3 (MI_0 hy.1 hm).1 (show ¬ w.1 0 67 = 0 by rw [← e67]; exact c) (fun z => z) hy.2 ⟨e84, rd_0 hy.1 hm⟩)), fun q => absurd rfl q⟩) (fun c y' m => ⟨fun q => absurd q (by decide), fun _ => ri_i (hF _ y' (an_1 hm (show w.1 0 67 = 0 by rw [← e67]; exact c) m))⟩)
theorem ma_begin (h : JH C wr n lm x w) (hH : HOI x q) (hm : MI w) (l : Int32) (hD : 7 ≤ D) (hF : ∀ r w', ansM C wr (f1Bg w) (f2Bg w l) (tBg C w l) w r w' → F r w') : MT G D z_begin 0 [(0, vr 0), (1, vi l)] [] w (ri F) :=
  sk_begin hm l (fun h9 => ⟨(JH_K h (fun z => h9 ((JH_9 h).mp z))).2.2.1, (JH_gc h hH).1⟩) hD (fun e w' m => hF _ w' (an_1 hm e m)) (fun e1 e2 w' m => hF _ w' (an_2 hm ⟨e1, e2⟩ m)) (fun wn w' hc ew hh m e0 e67 e94 => by
    have p := PM_run hm hc m (HistC_H hh)
    exact hF _ w' (an_3 p.1 hc (fun z => z.2 (w_01 (HistC_w hh) ew)) e0 ⟨rfl, wn, HistC_w hh, ew, rnM_of m rfl rfl p hh (by rw [e67]; decide) (by rw [e94]; rfl)⟩))
theorem ma_go (h : JH C wr n lm x w) (hH : HOI x q) (hm : MI w) (l : Int32) (hD : 7 ≤ D) (hF : ∀ r w', ansM C wr (f1Go w) (f2Go w l) (tGo C wr n w l) w r w' → F r w') : MT G D z_go 0 [(0, vr 0), (1, vi l)] [] w (ri F) :=
  sk_go hm (JH_gc h hH).1 (fun h67 => ⟨wr, (JH_M h h67).2.1⟩) l hD (fun e w' m => hF _ w' (an_1 hm e m)) (fun e1 e2 w' m => hF _ w' (an_2 hm ⟨e1, e2⟩ m)) (fun w9 w' h67 h4 l0 l1 hw hh m e0 e67 e94 ec rw' => by
    obtain ⟨hc, hh0, en⟩ := JH_M h h67
    have e9 := JH_wr hh0 hw
    subst e9
    have p := PM_run hm hc m (HistC_H hh)
    have et : (w.1 0 94).toInt.toNat = n := by rw [en]; rfl
    rw [et] at ec rw'
    exact hF _ w' (an_3 p.1 (fun z => z ⟨h67, h4⟩) (fun z => z.2 ⟨l0, l1⟩) e0 ⟨rfl, rnM_of m rfl rfl p hh (by rw [e67]; exact h67) (by rw [e94, en]; push_cast; rfl), ec, rw'⟩))
theorem ma_draw (h : JH C wr n lm x w) (hH : HOI x q) (hm : MI w) (l1 l2 : Int32) (hD : 7 ≤ D) (hF : ∀ r w', ansM C wr (f1Ch w) (f2Dr w l2) (tDr C wr n w l1 l2) w r w' → F r w') : MT G D z_draw 0 [(0, vr 0), (1, vi l1), (2, vi l2)] [] w (ri F) :=
  sk_draw hm (JH_gc h hH).1 (fun h67 => ⟨wr, (JH_M h h67).2.1⟩) l1 l2 hD (fun e w' m => hF _ w' (an_1 hm e m)) (fun e1 e2 w' m => hF _ w' (an_2 hm ⟨e1, e2⟩ m)) (fun w9 r w' h67 n0 n4 hw hh m e0 e67 e94 rw' er => by
    obtain ⟨hc, hh0, en⟩ := JH_M h h67
    have e9 := JH_wr hh0 hw
    subst e9
    have p := PM_run hm hc m (HistC_H hh)
    have et : (w.1 0 94).toInt.toNat = n := by rw [en]; rfl
    rw [et] at e94 rw' er
    exact hF _ w' (an_3 p.1 h67 (fun z => z.2 ⟨n0, n4⟩) e0 ⟨by rw [er, en], rnM_of m rfl rfl p hh (by rw [e67]; exact h67) e94, rw'⟩))
theorem ma_again (h : JH C wr n lm x w) (hm : MI w) (l : Int32) (hD : 7 ≤ D) (hF : ∀ r w', ansM C wr (f1Ch w) (f2Ag w l) (tAg C wr w l) w r w' → F r w') : MT G D z_again 0 [(0, vr 0), (1, vi l)] [] w (ri F) :=
  sk_again hm (fun h67 => ⟨wr, (JH_M h h67).2.1⟩) l hD (fun e w' m => hF _ w' (an_1 hm e m)) (fun e1 e2 w' m => hF _ w' (an_2 hm ⟨e1, e2⟩ m)) (fun w9 w' h67 n0 n4 hw hh m e0 e67 e94 ec => by
    obtain ⟨hc, hh0, en⟩ := JH_M h h67
    have e9 := JH_wr hh0 hw
    subst e9
    have p := PM_run hm hc m (HistC_H hh)
    exact hF _ w' (an_3 p.1 h67 (fun z => z.2 ⟨n0, n4⟩) e0 ⟨rfl, rnM_of m rfl rfl p hh (by rw [e67]; decide) (by rw [e94]; omega), ec⟩))
theorem ma_show (h : JH C wr n lm x w) (hH : HOI x q) (hm : MI w) (l1 l2 : Int32) (hD : 8 ≤ D) (hF : ∀ r w', ansM C wr (e1Sh l1 l2) (f2Sh C lm w l1 l2) (tSh C lm w l1 l2) w r w' → F r w') : MT G D z_show 0 [(0, vr 0), (1, vi l1), (2, vi l2)] [] w (ri F) :=
  sc_show (Tw := twM C lm) hm (JH_gc h hH).1 (fun h9 => (JH_K h (fun z => h9 ((JH_9 h).mp z))).2.2.1) l1 l2 (fun v v01 hv => ⟨((JH_T h v v01).2 (fun z => hv ((JH_T h v v01).1.mp z))).2.2.1, TW_try⟩) hD (fun e w' m => hF _ w' (an_1 hm e m)) (fun e1 e2 w' m => hF _ w' (an_2 hm ⟨e1, e2⟩ m)) (fun v s w' v01 ev f0 f1 hv hfs l4 hh m e0 e67 e94 hp => by
    have hc : ¬ w.1 0 66 = 0 := (hm.2.2.2 v (by omega) hv).1
    have p := MI_new m rfl rfl hc (HistC_H hh) hm
    exact hF _ w' (an_3 p.1 (fun z => z ⟨w_01 v01 ev, f0, f1⟩) (fun z => z.2 ⟨v, s, v01, ev, f0, f1, hv, hfs, l4⟩) e0 ⟨rfl, v, s, ⟨v01, ev, hv, hfs⟩, rnM_of m rfl rfl p hh (by rw [e67]; decide) e94, hp⟩))
theorem ma_attempt (h : JH C wr n lm x w) (hH : HOI x q) (hm : MI w) (l1 l2 : Int32) (hD : 8 ≤ D) (hF : ∀ r w', ansM C wr (f1Bg w) (f2At w l1 l2) (tAq C wr w l1 l2) w r w' → F r w') : MT G D z_attempt 0 [(0, vr 0), (1, vi l1), (2, vi l2)] [] w (ri F) :=
  sc_attempt (nl := (x.1 60 9).toInt.toNat) (wr := wr) hm (JH_gc h hH).1 (fun h9 => by
    have h9x : ¬ x.1 0 9 = 0 := fun z => h9 ((JH_9 h).mp z)
    have j := JH_K h h9x
    obtain ⟨-, -, a3, a4, a5, a6, a7, a8, a9⟩ := JC_C (hH.2.1 h9x) j
    exact ⟨j.2.2.1, a4, a3, a6, a7, a8, a9, by rw [← j.1.2.2.2.1]; exact a5⟩) (fun h67 => (JH_M h h67).2.1) l1 l2 hD (fun e w' m => hF _ w' (an_1 hm e m)) (fun e1 e2 w' m => hF _ w' (an_2 hm ⟨e1, e2⟩ m)) (fun wn lim w' w01 ew el b1 b3 hc p e0 hr ty h119 ho how lw => by
    have e9 : l1.toNatClampNeg = wn := by rcases w01 with e | e <;> rw [ew, e] <;> rfl
    exact hF _ w' (an_3 p.1 hc (fun z => z.2 ⟨w_01 w01 ew, by omega, by omega⟩) e0 ⟨wn, lim, ⟨w01, ew, el⟩, by rw [e9], p, hr, ty, h119, ho, how, lw⟩))
end SMC
section KQC
variable {G : kG} {q : kP} {d : Nat} {x w : gd} {P : Option gv → gd → Prop} {X : String → gd → Prop} {C : gCo} {wr n : Nat} {lm : Nat → Nat}
theorem ka_choices (hq : kV q) (hH : HOI x q) (hX1 : e1Ch x → X iSE x) (hP : ¬ e1Ch x → ¬ False → ∀ r y, HOI y q → sCh x r y → P (some (vi r)) y) : KE G q (d + 7) zk_X11_choices 0 [(0, vr 0)] [] x P X :=
  kh_choices hq hH hX1 (fun h10 => hP h10 (fun z => z) _ x hH ⟨rfl, KR_rf⟩)
theorem ka_begin (h : JH C wr n lm x w) (hq : kV q) (hH : HOI x q) (l1 : Int32) (hX1 : e1Bg x → X iSE x) (hX2 : e2Bg x l1 → X iAE x) (hP : ¬ e1Bg x → ¬ e2Bg x l1 → ∀ r y, HOI y q → sBg C x l1 r y → P (some (vi r)) y) : KE G q (d + 7) zk_X11_begin 0 [(0, vr 0), (1, vi l1)] [] x P X :=
  kh_beginP (C := C) hq hH l1 (fun h9 => ⟨(JH_K h h9).2.1, (JH_gc h hH).1⟩) hX1 (fun a hn => hX2 ⟨a, hn⟩) (fun wn y h9 ew hy f hr h10 => hP h9 (fun z => z.2 (w_01 (hr (fun _ => 0)).2.2.1.1 ew)) _ y hy ⟨rfl, wn, (hr (fun _ => 0)).2.2.1.1, ew, f, hr, h10⟩)
theorem ka_go (h : JH C wr n lm x w) (hq : kV q) (hH : HOI x q) (l1 : Int32) (hX1 : e1Go n x → X iSE x) (hX2 : e2Go n x l1 → X iOE x) (hP : ¬ e1Go n x → ¬ e2Go n x l1 → ∀ r y, HOI y q → sGo C wr n (c96 w) x l1 r y → P (some (vi r)) y) : KE G q (d + 7) zk_X11_go 0 [(0, vr 0), (1, vi l1)] [] x P X :=
  kh_go hq hH (fun h10 => ⟨(JH_R h h10).1.2.1, JH_gc h hH⟩) (fun h10 => (JH_R h h10).2.1) l1 hX1 (fun a b hn => hX2 ⟨⟨a, b⟩, hn⟩) (fun y h10 n4 l0 l9 hy f hr e10 => hP (fun z => z ⟨h10, n4⟩) (fun z => z.2 ⟨l0, l9⟩) _ y hy ⟨rfl, f, hr, e10⟩)
theorem ka_draw (h : JH C wr n lm x w) (hq : kV q) (hH : HOI x q) (l1 l2 : Int32) (hX1 : e1Ch x → X iSE x) (hX2 : e2Dr x l2 → X iAE x) (hP : ¬ e1Ch x → ¬ e2Dr x l2 → ∀ r y, HOI y q → sDr C wr n (c96 w) x l1 l2 r y → P (some (vi r)) y) : KE G q (d + 7) zk_X11_draw 0 [(0, vr 0), (1, vi l1), (2, vi l2)] [] x P X :=
  kk_draw hq hH (fun h10 => ⟨(JH_R h h10).1.2.1, JH_gc h hH⟩) (fun h10 => (JH_R h h10).2.1) l1 l2 hX1 (fun a hn => hX2 ⟨a, hn⟩) (fun r y h10 l0 l4 hy f hr e10 er => hP h10 (fun z => z.2 ⟨l0, l4⟩) r y hy ⟨er, f, hr, e10⟩)
theorem ka_again (h : JH C wr n lm x w) (hq : kV q) (hH : HOI x q) (l1 : Int32) (hX1 : e1Ch x → X iSE x) (hX2 : e2Ag n x l1 → X iAE x) (hP : ¬ e1Ch x → ¬ e2Ag n x l1 → ∀ r y, HOI y q → sAg C wr (c96 w) x l1 r y → P (some (vi r)) y) : KE G q (d + 7) zk_X11_again 0 [(0, vr 0), (1, vi l1)] [] x P X :=
  kh_again hq hH (fun h10 => ⟨(JH_R h h10).1.2.1, JH_gc h hH⟩) (fun h10 => (JH_R h h10).2.1) l1 hX1 (fun a hn => hX2 ⟨a, hn⟩) (fun y h10 l0 l4 hy f hr e10 => hP h10 (fun z => z.2 ⟨l0, l4⟩) _ y hy ⟨rfl, f, hr, e10⟩)
theorem ka_show (h : JH C wr n lm x w) (hq : kV q) (hH : HOI x q) (l1 l2 : Int32) (hX1 : e1Sh l1 l2 → X iAE x) (hX2 : e2Sh C lm x l1 l2 → X iSE x) (hP : ¬ e1Sh l1 l2 → ¬ e2Sh C lm x l1 l2 → ∀ r y, HOI y q → sSh C lm x l1 l2 r y → P (some (vi r)) y) : KE G q (d + 7) zk_X11_show 0 [(0, vr 0), (1, vi l1), (2, vi l2)] [] x P X :=
  kh_show (C := C) (Tw := twM C lm) hq hH l1 l2 (fun v v01 hv => ⟨⟨((JH_T h v v01).2 hv).1.2.1, JH_gc h hH⟩, ((JH_T h v v01).2 hv).2.1.1, TW_try⟩) hX1 (fun v v01 ev f0 f1 hor => hX2 ⟨⟨w_01 v01 ev, f0, f1⟩, fun ⟨wn, s, a1, a2, a3, a4, a5, a6, a7⟩ => by
    have e := wn_eq a1 v01 a2 ev
    subst e
    rcases hor with z | ⟨-, z⟩
    · exact a5 z
    · have := z s a6
      omega⟩) (fun v s y v01 ev f0 f1 nz hfs l4 hy f hr h10 => by
    obtain ⟨c9, hc9⟩ : ∃ c9 : Nat → Nat, ∀ k v', (pth (twM C lm v) s)[k]? = some v' → c9 k = v' := ⟨fun k => ((pth (twM C lm v) s)[k]?).getD 0, fun k v' hk => congrArg (fun z : Option Nat => z.getD 0) hk⟩
    have e2 := (hr c9 hc9).2.2.2.1
    have er : Int32.ofNat (pth (twM C lm v) s).length = y.1 160 2 := (i32_of e2).symm
    exact hP (fun z => z ⟨w_01 v01 ev, f0, f1⟩) (fun z => z.2 ⟨v, s, v01, ev, f0, f1, nz, hfs, l4⟩) _ y hy ⟨er, v, s, ⟨v01, ev, nz, hfs⟩, f, hr, h10⟩)
end KQC
section KQM
variable {G : kG} {q : kP} {d : Nat} {x w : gd} {P : Option gv → gd → kP → Prop} {X : String → gd → kP → Prop} {C : gCo} {wr n : Nat} {lm : Nat → Nat}
theorem ka_attempt (h : JH C wr n lm x w) (hu : kU q) (hH : HOI x q) (l1 l2 : Int32) (hX1 : e1Bg x → X iSE x q) (hX2 : e2At x l1 l2 → X iAE x q) (hP : ¬ e1Bg x → ¬ e2At x l1 l2 → ∀ r y q1, kU q1 → kle q q1 → HOI y q1 → sAq C x l1 l2 r y → P (some (vi r)) y q1) : KM G q (d + 7) zk_X11_attempt 0 [(0, vr 0), (1, vi l1), (2, vi l2)] [] x P X :=
  kh_attempt (C := C) (nl := (x.1 60 9).toInt.toNat) hu hH l1 l2 (fun h9 => by
    have j := JH_K h h9
    obtain ⟨a1, a2, a3, a4, a5, -⟩ := JC_C (hH.2.1 h9) j
    exact ⟨j.2.1, a1.1, a1.2.1, a2, a3, a4, a5⟩) hX1 (fun a hn => hX2 ⟨a, hn⟩) (fun wn lim y q1 w01 ew el b1 b3 h9 hu1 hl1 hy kf f tr => hP h9 (fun z => z.2 ⟨w_01 w01 ew, by omega, by omega⟩) _ y q1 hu1 hl1 hy ⟨wn, lim, ⟨w01, ew, el⟩, rfl, kf, f, tr⟩)
end KQM
end
section
/-! calls that read the run's state: cell, seen -/
section RST
variable {G : mG} {d D : Nat} {x z w a : gd} {F : Int32 → gd → Prop} {C : gCo} {M : gMa} {wr n : Nat} {lm : Nat → Nat} {q : kP}
theorem MM1_eq (hN : NC C) (e : eqS (Sl a) a z) (h : MM1 a C M) : MM1 z C M := by
  obtain ⟨h1, h2, h3⟩ := h
  refine ⟨fun c hc => by rw [cA e (c := 70) (n := 24) (by decide) hc]; exact h1 c hc, fun l hl => by rw [cA e (c := 71) (n := 6) (by decide) hl, cA e (c := 72) (n := 6) (by decide) hl]; exact h2 l hl, fun t ht => ?_⟩
  obtain ⟨q0, q0', q1, q2, q3, q3', q4, q5, ⟨q6, q6'⟩, q7, q7'⟩ := h3 t ht
  have f := fun c (hc : (c, 6) ∈ coreL) => cA e hc ht
  refine ⟨by rw [f 73 (by decide)]; exact q0, q0', by rw [f 75 (by decide)]; exact q1, by rw [f 74 (by decide)]; exact q2, by rw [f 77 (by decide)]; exact q3, q3', by rw [f 78 (by decide)]; exact q4, by rw [f 79 (by decide)]; exact q5, ⟨by rw [f 80 (by decide)]; exact q6, fun j q hj => ?_⟩, fun hu p hp => ?_, fun k hk hn => ?_⟩
  · have hl := gt_lt hj
    have s : ∀ c, (c = 81 ∨ c = 82) → z.1 c (10 * t + j) = a.1 c (10 * t + j) := fun c hc => e c _ (Or.inr ⟨hc, t, j, ht, by omega, rfl⟩)
    rw [s 81 (Or.inl rfl), s 82 (Or.inr rfl)]; exact q6' j q hj
  · have s8 := stN_8 hN _ (slN_mem hp)
    rw [cA e (c := 76) (n := 48) (by decide) (by omega)]; exact q7 hu p hp
  · rw [cA e (c := 76) (n := 48) (by decide) (by omega)]; exact q7' k hk hn
theorem HistC_MM (hN : NC C) (h : HistC C wr w) (e94 : (w.1 0 94).toInt = (n : Nat)) : MM1 w C (runM C wr (c96 w) n) ∧ ∀ t, t < 6 → (w.1 80 t).toInt ≤ 8 := by
  obtain ⟨s, n', q1, q2, q3, q4, -⟩ := h
  have en : n' = n := by omega
  rw [en] at q4
  have am := q2 n (by omega)
  have el := eqS_w (Sl_Sm _) q4
  exact ⟨MM1_eq hN el am.2.2.1, fun t ht => by rw [cA el (c := 80) (n := 6) (by decide) ht]; exact (am.1.1.2 t ht).2.2.2.1⟩
theorem sp_see3 (t c : Int32) (ht : vp_in t 6) (hc : vp_in c 24) (q8 : (x.1 80 t.toNatClampNeg).toInt ≤ 8) {l : List (Nat × Int32)} (hl : mLt x t.toNatClampNeg l) (h : F (seL l c.toNatClampNeg (x.1 70 c.toNatClampNeg)) x) : MT G d z_see 0 [(0, vr 0), (1, vi t), (2, vi c)] [] x (ri F) := by
  have k1 : (1 : Int32).toInt = 1 := rfl
  obtain ⟨l1, l2⟩ := hl
  have cb := vp_in_iff.mp hc
  have cc := cl_i cb.1
  obtain ⟨R, eR⟩ : ∃ R, R = seL l c.toNatClampNeg (x.1 70 c.toNatClampNeg) := ⟨_, rfl⟩
  rw [← eR] at h
  have loop : ∀ (n : Nat) (v i : Int32), 0 ≤ i.toInt → (x.1 80 t.toNatClampNeg).toInt - i.toInt ≤ n → seL (l.drop i.toInt.toNat) c.toNatClampNeg v = R → MT G d z_see 10 [(0, vr 0), (1, vi t), (2, vi c), (3, vi v), (4, vi i)] [] x (ri F) := by
    have fin : ∀ (v i : Int32), (x.1 80 t.toNatClampNeg).toInt ≤ i.toInt → seL (l.drop i.toInt.toNat) c.toNatClampNeg v = R → ri F (some (vi v)) x := fun v i hi hs => by
      rw [List.drop_eq_nil_of_le (by omega)] at hs
      have hs : v = R := hs
      rw [hs]
      exact ri_i h
    intro n
    induction n with
    | zero =>
      intro v i i0 hi hs
      exact sg_see_10 _ _ _ _ ⟨ht, fun _ => fin v i (by omega) hs, fun c => absurd (t_le.mpr (by omega)) c⟩
    | succ n ih =>
      intro v i i0 hi hs
      refine sg_see_10 _ _ _ _ ⟨ht, fun c9 => fin v i (by rw [t_le] at c9; exact c9) hs, fun c9 => ?_⟩
      rw [t_le] at c9
      have a1 := (t10 ht (i := i) i0 (by omega)).1
      have i1 : (i + 1).toInt = i.toInt + 1 := by rw [t_add (by omega) (by omega), k1]
      have hi' : i.toInt.toNat < l.length := by omega
      obtain ⟨b1, b2, b3⟩ := l2 i.toInt.toNat _ (List.getElem?_eq_getElem hi')
      rw [List.drop_eq_getElem_cons hi', seL] at hs
      have ea : (10 * t + i).toNatClampNeg = 10 * t.toNatClampNeg + i.toInt.toNat := by rw [(t10 ht i0 (by omega)).2, t_cl i]
      have en : (i + 1).toInt.toNat = i.toInt.toNat + 1 := by omega
      have ec : Int32.ofNat l[i.toInt.toNat].1 = c ↔ l[i.toInt.toNat].1 = c.toNatClampNeg := by
        have e9 : (Int32.ofNat l[i.toInt.toNat].1).toInt = (l[i.toInt.toNat].1 : Nat) := Int32.toInt_ofNat_of_lt (by omega)
        rw [t_eq, e9]
        omega
      refine ⟨a1, fun c9 => ih _ _ (by omega) (by omega) ?_, fun c9 => ⟨a1, ih _ _ (by omega) (by omega) ?_⟩⟩
      · rw [ea, b1] at c9
        rw [if_neg (fun z => c9 (ec.mpr z))] at hs
        rw [en]; exact hs
      · rw [ea, b1] at c9
        rw [if_pos (ec.mp c9)] at hs
        rw [en, ea, b2]; exact hs
  exact sg_see_0 _ _ ⟨hc, loop _ _ 0 (by decide) (Int.self_le_toNat _) eR.symm⟩
abbrev e2Ce (x : gd) (l : Int32) : Prop := ¬ x.1 0 10 = 0 ∧ ¬ (0 ≤ l.toInt ∧ l.toInt < (x.1 60 6).toInt)
def sCe (C : gCo) (wr n : Nat) (c : Nat → Nat) (x : gd) (l r : Int32) (y : gd) : Prop := r = (runM C wr c n).1 l.toInt.toNat ∧ KRd x y
abbrev f2Ce (w : gd) (l : Int32) : Prop := ¬ w.1 0 67 = 0 ∧ ¬ (0 ≤ l.toInt ∧ l.toInt < (w.1 0 23).toInt)
def tCe (C : gCo) (wr n : Nat) (w : gd) (l r : Int32) (w' : gd) : Prop := r = (runM C wr (c96 w) n).1 l.toInt.toNat ∧ rdM C wr w w'
abbrev e2Se (x : gd) (l1 l2 : Int32) : Prop := ¬ x.1 0 10 = 0 ∧ ¬ ((0 ≤ l1.toInt ∧ l1.toInt < (x.1 60 10).toInt) ∧ 0 ≤ l2.toInt ∧ l2.toInt < (x.1 60 6).toInt)
def sSe (C : gCo) (wr n : Nat) (c : Nat → Nat) (x : gd) (l1 l2 r : Int32) (y : gd) : Prop := r = seM (runM C wr c n) l1.toInt.toNat l2.toInt.toNat ∧ KRd x y
abbrev f2Se (w : gd) (l1 l2 : Int32) : Prop := ¬ w.1 0 67 = 0 ∧ ¬ ((0 ≤ l1.toInt ∧ l1.toInt < (w.1 0 25).toInt) ∧ 0 ≤ l2.toInt ∧ l2.toInt < (w.1 0 23).toInt)
def tSe (C : gCo) (wr n : Nat) (w : gd) (l1 l2 r : Int32) (w' : gd) : Prop := r = seM (runM C wr (c96 w) n) l1.toInt.toNat l2.toInt.toNat ∧ rdM C wr w w'
theorem in_ge {v n : Int32} (h : ¬ ((0 : Int32) ≤ v ∧ v ≤ n - 1)) (n0 : 0 ≤ n.toInt) : ¬ (0 ≤ v.toInt ∧ v.toInt < n.toInt) := fun z => by
  have k0 : (0 : Int32).toInt = 0 := rfl
  have k1 : (1 : Int32).toInt = 1 := rfl
  have nb := Int32.toInt_lt n
  refine h ⟨t_le.mpr (by rw [k0]; exact z.1), t_le.mpr ?_⟩
  rw [t_sub (by rw [k1]; omega) (by rw [k1]; omega), k1]
  omega
theorem ma_cell (h : JH C wr n lm x w) (hH : HOI x q) (hm : MI w) (l : Int32) (hD : 3 ≤ D) (hF : ∀ r w', ansM C wr (f1Ch w) (f2Ce w l) (tCe C wr n w l) w r w' → F r w') : MT G D z_cell 0 [(0, vr 0), (1, vi l)] [] w (ri F) := by
  obtain ⟨D, rfl⟩ : ∃ D', D = D' + 2 := ⟨D - 2, by omega⟩
  refine sg_cell_0 _ (fun y e => ?_)
  have hy := z0_s e
  have e67 : y.1 0 67 = w.1 0 67 := hy.1.1 67 (by decide)
  have e23 : y.1 0 23 = w.1 0 23 := hy.1.1 23 (by decide)
  have e70 : y.1 70 = w.1 70 := hy.1.2 70 (by decide) (by simp)
  have qy := (MI_0 hy.1 hm).1
  refine sc_noRunk hy (fun hr => ⟨fun q => absurd rfl q, fun _ => ?_⟩) (fun c y' m => ⟨fun _ => ri_i (hF _ y' (an_1 hm (show w.1 0 67 = 0 by rw [← e67]; exact c) m)), fun q => absurd q (by decide)⟩)
  obtain ⟨cp, _, _⟩ := RS_of qy hr
  have g := cp.1
  rw [e67] at hr
  obtain ⟨hc, hh, e94⟩ := JH_M h hr
  have mm := (HistC_MM (JH_gc h hH).1.1 hh e94).1
  have p32 : ∀ b : Int32, (b = 0 → 0 ≤ l.toInt ∧ l.toInt < (y.1 0 23).toInt) → (¬ b = 0 → ¬ (0 ≤ l.toInt ∧ l.toInt < (y.1 0 23).toInt)) → MT G (D + 2) z_cell 32 [(0, vr 0), (1, vi l)] [vi b, vr 0] y (ri F) := fun b hb hb2 => sg_cell_32 _ _ (sc_refk b 2 hy (by decide) (fun b0 => ⟨fun _ => ⟨by rw [vp_in_iff]; have := hb b0; have := g.2.1; omega, ri_i (hF _ y (an_3 qy hr (fun z => z.2 (by rw [← e23]; exact hb b0)) hy.2 ⟨by
    rw [e70, t_cl]
    exact mm.1 _ (by have := hb b0; have := g.2.1; omega), rd_0 hy.1 hm⟩))⟩, fun q => absurd rfl q⟩) (fun nb y' m => ⟨fun q => absurd q (by decide), fun _ => ri_i (hF _ y' (an_2 hm ⟨hr, by rw [← e23]; exact hb2 nb⟩ m))⟩))
  exact sp_in _ _ _ ⟨fun cc => p32 0 (fun _ => in_lt (bi_ne.mp cc) g.1) (fun z => absurd rfl z), fun cc => p32 1 (fun q => absurd q (by decide)) (fun _ => in_ge (bi_eq.mp cc) g.1)⟩
theorem ma_seen (h : JH C wr n lm x w) (hH : HOI x q) (hm : MI w) (t c : Int32) (hD : 3 ≤ D) (hF : ∀ r w', ansM C wr (f1Ch w) (f2Se w t c) (tSe C wr n w t c) w r w' → F r w') : MT G D z_seen 0 [(0, vr 0), (1, vi t), (2, vi c)] [] w (ri F) := by
  obtain ⟨D, rfl⟩ : ∃ D', D = D' + 2 := ⟨D - 2, by omega⟩
  refine sg_seen_0 _ _ (fun y e => ?_)
  have hy := z0_s e
  have e67 : y.1 0 67 = w.1 0 67 := hy.1.1 67 (by decide)
  have e23 : y.1 0 23 = w.1 0 23 := hy.1.1 23 (by decide)
  have e25 : y.1 0 25 = w.1 0 25 := hy.1.1 25 (by decide)
  have qy := (MI_0 hy.1 hm).1
  refine sc_noRunk hy (fun hr => ⟨fun q => absurd rfl q, fun _ => ?_⟩) (fun c y' m => ⟨fun _ => ri_i (hF _ y' (an_1 hm (show w.1 0 67 = 0 by rw [← e67]; exact c) m)), fun q => absurd q (by decide)⟩)
  obtain ⟨cp, _, _⟩ := RS_of qy hr
  have g := cp.1
  rw [e67] at hr
  obtain ⟨hc, hh, e94⟩ := JH_M h hr
  obtain ⟨mm, m8⟩ := HistC_MM (JH_gc h hH).1.1 (HistC_0 hy.1 hh) (n := n) (by rw [hy.1.1 94 (by decide)]; exact e94)
  have cy : c96 y = c96 w := by unfold c96; rw [hy.1.2 96 (by decide) (by simp)]
  rw [cy] at mm
  have p46 : ∀ b : Int32, (b = 0 → (0 ≤ t.toInt ∧ t.toInt < (y.1 0 25).toInt) ∧ 0 ≤ c.toInt ∧ c.toInt < (y.1 0 23).toInt) → (¬ b = 0 → ¬ ((0 ≤ t.toInt ∧ t.toInt < (y.1 0 25).toInt) ∧ 0 ≤ c.toInt ∧ c.toInt < (y.1 0 23).toInt)) → MT G (D + 2) z_seen 46 [(0, vr 0), (1, vi t), (2, vi c)] [vi b, vr 0] y (ri F) := fun b hb hb2 => sg_seen_46 _ _ _ (sc_refk b 2 hy (by decide) (fun b0 => ⟨fun _ => by
    obtain ⟨b1, b2⟩ := hb b0
    have g2 := g.2.1
    have g6 := g.2.2.2.2.2.1
    have tv : vp_in t 6 := by rw [vp_in_iff]; omega
    have tq := mm.2.2 _ (vt tv)
    refine sp_see3 t c tv (by rw [vp_in_iff]; omega) (m8 _ (vt tv)) tq.2.2.2.2.2.2.2.2.1 (ri_i (hF _ y (an_3 qy hr (fun z => z.2 (by rw [← e23, ← e25]; exact hb b0)) hy.2 ⟨?_, rd_0 hy.1 hm⟩)))
    unfold seM
    rw [mm.1 c.toNatClampNeg (by have := t_cl c; omega), t_cl, t_cl], fun q => absurd rfl q⟩) (fun nb y' m => ⟨fun q => absurd q (by decide), fun _ => ri_i (hF _ y' (an_2 hm ⟨hr, by rw [← e23, ← e25]; exact hb2 nb⟩ m))⟩))
  exact sp_in _ _ _ ⟨fun c1 => p46 1 (fun q => absurd q (by decide)) (fun _ z => in_ge (bi_eq.mp c1) g.2.2.2.2.1 z.1), fun c1 => sp_in _ _ _ ⟨fun c2 => p46 0 (fun _ => ⟨in_lt (bi_ne.mp c1) g.2.2.2.2.1, in_lt (bi_ne.mp c2) g.1⟩) (fun z => absurd rfl z), fun c2 => p46 1 (fun q => absurd q (by decide)) (fun _ z => in_ge (bi_eq.mp c2) g.1 z.2)⟩⟩
end RST
section KRS
variable {G : kG} {q : kP} {d : Nat} {x y w w' : gd} {P : Option gv → gd → Prop} {X : String → gd → Prop} {C : gCo} {wr n : Nat} {lm : Nat → Nat}
theorem ka_cell (h : JH C wr n lm x w) (hq : kV q) (hH : HOI x q) (l1 : Int32) (hX1 : e1Ch x → X iSE x) (hX2 : e2Ce x l1 → X iOE x) (hP : ¬ e1Ch x → ¬ e2Ce x l1 → ∀ r y, HOI y q → sCe C wr n (c96 w) x l1 r y → P (some (vi r)) y) : KE G q (d + 7) zk_X11_cell 0 [(0, vr 0), (1, vi l1)] [] x P X :=
  kg_X11_cell_0 hq l1 (kh_run hq hH hX1 (fun h10 hR => kh_ix hq l1 _ (fun hn => hX2 ⟨h10, hn⟩) (fun l0 l9 => ⟨by have := hR.1.1.1.1; rw [vp_in_iff]; omega, hP h10 (fun z => z.2 ⟨l0, l9⟩) _ x hH ⟨by
    have g := (JH_R h h10).2.1.2.1.1.1.1 l1.toInt.toNat (by omega)
    rw [t_cl]
    exact g, KR_rf⟩⟩)))
theorem ka_seen (h : JH C wr n lm x w) (hq : kV q) (hH : HOI x q) (l1 l2 : Int32) (hX1 : e1Ch x → X iSE x) (hX2 : e2Se x l1 l2 → X iOE x) (hP : ¬ e1Ch x → ¬ e2Se x l1 l2 → ∀ r y, HOI y q → sSe C wr n (c96 w) x l1 l2 r y → P (some (vi r)) y) : KE G q (d + 7) zk_X11_seen 0 [(0, vr 0), (1, vi l1), (2, vi l2)] [] x P X := by
  refine kg_X11_seen_0 hq l1 l2 (kh_run hq hH hX1 (fun h10 hR => kh_ix hq l1 _ (fun hn => hX2 ⟨h10, fun z => hn z.1⟩) (fun l0 l9 => kh_ix hq l2 _ (fun hn => hX2 ⟨h10, fun z => hn z.2⟩) (fun g0 g9 => ?_))))
  obtain ⟨j, r, -, -⟩ := JH_R h h10
  have e10 : (x.1 60 10).toInt = (C.2.1.length : Nat) := j.2.1.2.1.1
  exact kh_seenBy hq (Or.inl rfl) hR.1 j.2.1 r.2.1.1 l1 l2 (T := l1.toInt.toNat) (c' := l2.toInt.toNat) (by omega) (by omega) (by omega) (by omega) (hP h10 (fun z => z.2 ⟨⟨l0, l9⟩, g0, g9⟩) _ x hH ⟨rfl, KR_rf⟩)
theorem ja_cell {l r9 r : Int32} (h : JH C wr n lm x w) (hH : HOI y q) (k : ansK (e1Ch x) (e2Ce x l) (sCe C wr n (c96 w) x l) x r9 y) (m : ansM C wr (f1Ch w) (f2Ce w l) (tCe C wr n w l) w r w') : JR3 y w' ∧ ansE r9 r y w' := by
  have e9 := JH_10 h
  refine ans_eq h hH e9 ⟨fun z => ⟨fun a => z.1 (e9.mpr a), by rw [← (JH_R h z.1).1.1.2.2.1]; exact z.2⟩, fun z => ⟨fun a => z.1 (e9.mp a), by rw [(JH_R h (fun a => z.1 (e9.mp a))).1.1.2.2.1]; exact z.2⟩⟩ (fun a z => z.1 a) k m (fun c _ r' s t => ⟨JQ_rd h hH s.2 t.2, s.1.trans t.1.symm⟩)
theorem ja_seen {l1 l2 r9 r : Int32} (h : JH C wr n lm x w) (hH : HOI y q) (k : ansK (e1Ch x) (e2Se x l1 l2) (sSe C wr n (c96 w) x l1 l2) x r9 y) (m : ansM C wr (f1Ch w) (f2Se w l1 l2) (tSe C wr n w l1 l2) w r w') : JR3 y w' ∧ ansE r9 r y w' := by
  have e9 := JH_10 h
  refine ans_eq h hH e9 ⟨fun z => ⟨fun a => z.1 (e9.mpr a), by rw [← (JH_R h z.1).1.1.2.2.1, ← (JH_R h z.1).1.1.2.2.2.2.1]; exact z.2⟩, fun z => ⟨fun a => z.1 (e9.mp a), by rw [(JH_R h (fun a => z.1 (e9.mp a))).1.1.2.2.1, (JH_R h (fun a => z.1 (e9.mp a))).1.1.2.2.2.2.1]; exact z.2⟩⟩ (fun a z => z.1 a) k m (fun c _ r' s t => ⟨JQ_rd h hH s.2 t.2, s.1.trans t.1.symm⟩)
end KRS
end
section
/-! finding: how far the first state is that shows it -/
def fdV (tr : Nat → Prop) (C : gCo) (lm : Nat → Nat) (l1 l2 r : Int32) : Prop := ∃ wn : Nat, (wn = 0 ∨ wn = 1) ∧ l1 = Int32.ofNat wn ∧ ((∃ s, tr wn ∧ fsF C wn (twM C lm wn) l2.toInt.toNat s ∧ r.toInt = ((pth (twM C lm wn) s).length : Nat)) ∨ ((∀ s, tr wn → ¬ fsF C wn (twM C lm wn) l2.toInt.toNat s) ∧ r = -1))
def sFi (C : gCo) (lm : Nat → Nat) (x : gd) (l1 l2 r : Int32) (y : gd) : Prop := fdV (fun v => ¬ x.1 (260 + 20 * v) 0 = 0) C lm l1 l2 r ∧ KRd x y
def tFi (C : gCo) (lm : Nat → Nat) (wr : Nat) (w : gd) (l1 l2 r : Int32) (w' : gd) : Prop := fdV (fun v => ¬ w.1 119 v = 0) C lm l1 l2 r ∧ rdM C wr w w'
theorem fdV_eq {tr tr' : Nat → Prop} {C : gCo} {lm : Nat → Nat} {l1 l2 r r' : Int32} (e : ∀ v, (v = 0 ∨ v = 1) → (tr v ↔ tr' v)) (h : fdV tr C lm l1 l2 r) (g : fdV tr' C lm l1 l2 r') : r = r' := by
  obtain ⟨wn, a1, a2, a3⟩ := h
  obtain ⟨wn', b1, b2, b3⟩ := g
  have ew := wn_eq b1 a1 b2 a2
  subst ew
  rcases a3 with ⟨s, c1, c2, c3⟩ | ⟨c1, c2⟩
  · rcases b3 with ⟨s', d1, d2, d3⟩ | ⟨d1, -⟩
    · have := fsF_u c2 d2
      subst this
      rw [t_eq, c3, d3]
    · exact absurd c2 (d1 s ((e _ a1).mp c1))
  · rcases b3 with ⟨s', d1, d2, d3⟩ | ⟨d1, d2⟩
    · exact absurd d2 (c1 s' ((e _ a1).mpr d1))
    · rw [c2, d2]
section KFI
variable {G : kG} {q : kP} {d : Nat} {x y w w' : gd} {P : Option gv → gd → Prop} {X : String → gd → Prop} {C : gCo} {wr n : Nat} {lm : Nat → Nat}
theorem ja_finding {l1 l2 r9 r : Int32} (h : JH C wr n lm x w) (hH : HOI y q) (k : ansK (e1Sh l1 l2) False (sFi C lm x l1 l2) x r9 y) (m : ansM C wr (e1Sh l1 l2) False (tFi C lm wr w l1 l2) w r w') : JR3 y w' ∧ ansE r9 r y w' :=
  ans_eq h hH Iff.rfl Iff.rfl (fun _ z => z) k m (fun c _ r' s t => ⟨JQ_rd h hH s.2 t.2, fdV_eq (fun v v01 => ⟨fun a b => a ((JH_T h v v01).1.mpr b), fun a b => a ((JH_T h v v01).1.mp b)⟩) s.1 t.1⟩)
theorem ka_finding (h : JH C wr n lm x w) (hq : kV q) (hH : HOI x q) (l1 l2 : Int32) (hX1 : e1Sh l1 l2 → X iAE x) (hP : ¬ e1Sh l1 l2 → ¬ False → ∀ r y, HOI y q → sFi C lm x l1 l2 r y → P (some (vi r)) y) : KE G q (d + 7) zk_X11_finding 0 [(0, vr 0), (1, vi l1), (2, vi l2)] [] x P X := by
  refine kg_X11_finding_0 hq l1 l2 (kf_way hq l1 (fun z => hX1 (fun z2 => z z2.1)) (fun hw => kh_fnd hq l2 (fun z => hX1 (fun z2 => z z2.2)) (fun f0 f11 => ?_)))
  obtain ⟨v, w01, ew, ewn⟩ := w_nat hw
  have ok : ¬ e1Sh l1 l2 := fun z => z ⟨hw, f0, f11⟩
  have hP := hP ok (fun z => z)
  refine kg_X11_firstState_0 hq l1 l2 (kh_was (w := v) hq hH l1 w01 ew (fun c0 => ⟨fun _ => ?_, fun c => absurd rfl c⟩) (fun e7 ho hz hC nz => ⟨fun c => absurd c (by decide), fun _ => ⟨way_in hw, fun u5 e5 => ⟨260 + 20 * v, by rw [e5, ewn, e7], ho, by rw [vp_in_iff]; omega, ?_⟩⟩⟩))
  · exact ri_i ⟨fun c => absurd rfl c, fun _ => hP _ x hH ⟨⟨v, w01, ew, Or.inr ⟨fun s t => absurd c0 t, rfl⟩⟩, KR_rf⟩⟩
  obtain ⟨-, ⟨⟨⟨t0, -⟩, hPA, hFN⟩, -⟩, -⟩ := (JH_T h v w01).2 nz
  have F2 : l2.toNatClampNeg = l2.toInt.toNat := rfl
  have b3 := hz.1.2
  rw [F2]
  rcases hFN l2.toInt.toNat (by omega) with ⟨g1, g2⟩ | ⟨s, p, g1, g2, g3, g4, g5⟩
  · rw [g1]
    refine ri_i ⟨fun c => absurd rfl c, fun _ => hP _ x hH ⟨⟨v, w01, ew, Or.inr ⟨fun s _ hs => ?_, rfl⟩⟩, KR_rf⟩⟩
    obtain ⟨p, a1, a2, -⟩ := hs
    exact g2 s p (gt_lt a1) a1 a2
  · obtain ⟨r, er⟩ : ∃ r, r = x.1 (260 + 20 * v + 7) l2.toInt.toNat := ⟨_, rfl⟩
    rw [← er] at g2 ⊢
    have rS : r.toNatClampNeg = s := by rw [t_cl, g2]; rfl
    have sl := gt_lt g3
    refine ri_i ⟨fun c => ⟨way_in hw, fun u7 e => ⟨260 + 20 * v, by rw [e, ewn, e7], ho, by rw [vp_in_iff]; omega, ?_⟩⟩, fun c => ?_⟩
    · rw [rS]
      exact hP _ x hH ⟨⟨v, w01, ew, Or.inl ⟨s, nz, ⟨p, g3, g4, g5⟩, PA_d TW_try hPA s s p (Nat.le_refl _) g3⟩⟩, KR_rf⟩
    · rw [c, tm1] at g2; omega
end KFI
section MFI
variable {G : mG} {d D : Nat} {x w : gd} {F : Int32 → gd → Prop} {C : gCo} {wr n : Nat} {lm : Nat → Nat} {q : kP}
theorem ma_finding (h : JH C wr n lm x w) (hH : HOI x q) (hm : MI w) (l1 l2 : Int32) (hD : 3 ≤ D) (hF : ∀ r w', ansM C wr (e1Sh l1 l2) False (tFi C lm wr w l1 l2) w r w' → F r w') : MT G D z_finding 0 [(0, vr 0), (1, vi l1), (2, vi l2)] [] w (ri F) := by
  obtain ⟨D, rfl⟩ : ∃ D', D = D' + 1 := ⟨D - 1, by omega⟩
  have km1 : (-1 : Int32).toInt = -1 := rfl
  refine sg_finding_0 _ _ (fun y e => ?_)
  have hy := z0_s e
  have qy := (MI_0 hy.1 hm).1
  have g119 : y.1 119 = w.1 119 := hy.1.2 119 (by decide) (by simp)
  have p63 : ∀ v : Nat, (v = 0 ∨ v = 1) → l1 = Int32.ofNat v → vp_in l1 2 → 0 ≤ l2.toInt → l2.toInt < 11 → ∀ s : Int32, (s = -1 → ∀ S, ¬ w.1 119 v = 0 → ¬ fsF C v (twM C lm v) l2.toInt.toNat S) → (¬ s = -1 → ¬ w.1 119 v = 0 ∧ ∃ S : Nat, s.toInt = (S : Nat) ∧ fsF C v (twM C lm v) l2.toInt.toNat S) → MT G (D + 1) z_finding 63 [(0, vr 0), (1, vi l1)] [vi s] y (ri F) := by
    intro v w01 ew wv f0 f1 s h1 h2
    have ok : ¬ e1Sh l1 l2 := fun z => z ⟨w_01 w01 ew, f0, f1⟩
    refine sg_finding_63 _ _ ⟨fun ne => ?_, fun e1 => ri_i (hF _ y (an_3 qy ok (fun z => z) hy.2 ⟨⟨v, w01, ew, Or.inr ⟨h1 e1, rfl⟩⟩, rd_0 hy.1 hm⟩))⟩
    obtain ⟨tr, S, es, hfs⟩ := h2 ne
    have tyw := ((JH_T h v w01).2 (fun z => tr ((JH_T h v w01).1.mp z))).2.2
    have ty : TYo C v y (twM C lm v) := TYo_mi hy.1 rfl tyw.1
    obtain ⟨p9, hp9, -⟩ := id hfs
    have sS := gt_lt hp9
    have b3 := ty.2.1
    have tm := tmul (k := 3000) (K := 3000) (N := 6000) (n := 3000) (i := s) rfl wv (by omega) (by omega) (by omega) (by omega) (by omega)
    have e9 : l1.toNatClampNeg = v := by rcases w01 with e | e <;> rw [ew, e] <;> rfl
    have cs : s.toNatClampNeg = S := by rw [t_cl, es]; rfl
    refine ⟨tm.1, ri_i (hF _ y (an_3 qy ok (fun z => z) hy.2 ⟨⟨v, w01, ew, Or.inl ⟨S, tr, hfs, ?_⟩⟩, rd_0 hy.1 hm⟩))⟩
    rw [tm.2, e9, cs]
    exact TYo_d TW_try ty S S p9 (Nat.le_refl _) hp9
  have p30 : ∀ b : Int32, (b = 0 → (vp_in l1 2 ∧ (l1 = 0 ∨ l1 = 1)) ∧ 0 ≤ l2.toInt ∧ l2.toInt < 11) → (¬ b = 0 → e1Sh l1 l2) → MT G (D + 1) z_finding 30 [(0, vr 0), (1, vi l1), (2, vi l2)] [vi b, vr 0] y (ri F) := by
    intro b hb hb2
    refine sg_finding_30 _ _ _ (sc_refk b 1 hy (by decide) (fun b0 => ⟨fun _ => ?_, fun q => absurd rfl q⟩) (fun nb y' m => ⟨fun q => absurd q (by decide), fun _ => ri_i (hF _ y' (an_1 hm (hb2 nb) m))⟩))
    obtain ⟨⟨wv, hw⟩, f0, f1⟩ := hb b0
    obtain ⟨v, w01, ew, ewn⟩ := w_nat hw
    obtain ⟨fv, fe⟩ := t11 wv f0 f1
    rw [ewn, g119]
    refine ⟨wv, fun t0 => p63 v w01 ew wv f0 f1 _ (fun _ S t => absurd t0 t) (fun z => absurd rfl z), fun tr => ⟨fv, ?_⟩⟩
    have tyw := ((JH_T h v w01).2 (fun z => tr ((JH_T h v w01).1.mp z))).2.2
    have ty : TYo C v y (twM C lm v) := TYo_mi hy.1 rfl tyw.1
    have cf : l2.toNatClampNeg = l2.toInt.toNat := rfl
    rw [fe, ewn, cf]
    refine p63 v w01 ew wv f0 f1 _ (fun e1 S _ hS => ?_) (fun ne => ⟨tr, ?_⟩)
    · rcases ty.2.2.1 l2.toInt.toNat (by omega) with ⟨-, g2⟩ | ⟨s9, p8, -, g2, -⟩
      · obtain ⟨p, a1, a2, -⟩ := hS
        exact g2 S p (gt_lt a1) a1 a2
      · have g2 : (y.1 126 (11 * v + l2.toInt.toNat)).toInt = (s9 : Nat) := g2
        rw [e1, km1] at g2; omega
    · rcases ty.2.2.1 l2.toInt.toNat (by omega) with ⟨g1, -⟩ | ⟨s9, p8, g1, g2, g3, g4, g5⟩
      · exact absurd g1 ne
      · exact ⟨s9, g2, p8, g3, g4, g5⟩
  refine sp_in _ _ _ ⟨fun c1 => p30 1 (fun q => absurd q (by decide)) (fun _ hg => ?_), fun c1 => sp_in _ _ _ ⟨fun c2 => p30 0 (fun _ => ⟨w_in (bi_ne.mp c1), f_in (bi_ne.mp c2)⟩) (fun z => absurd rfl z), fun c2 => p30 1 (fun q => absurd q (by decide)) (fun _ hg => ?_)⟩⟩
  · refine bi_eq.mp c1 ?_
    rcases hg.1 with e9 | e9 <;> rw [e9]
    · exact ⟨by decide, by decide⟩
    · exact ⟨by decide, by decide⟩
  · have k0 : (0 : Int32).toInt = 0 := rfl
    have k10 : (10 : Int32).toInt = 10 := rfl
    refine bi_eq.mp c2 ⟨t_le.mpr (by rw [k0]; exact hg.2.1), t_le.mpr ?_⟩
    have := hg.2.2
    rw [k10]; omega
end MFI
end
