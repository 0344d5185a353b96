/-! a thread's own steps; how a run begins -/
/-- what becomes of a thread: 1 at an act, 2 ended, 3 failed; its number, its step, its locals -/
abbrev gTr := Nat × Nat × Nat × (Nat → Int32)
def fup (lv : Nat → Int32) (p : Nat) (v : Int32) : Nat → Int32 := fun j => if j = p then v else lv j
/-- one step: it is over, or goes on -/
def ow1 (me : Int32) (s : Nat) (st : gNs) (lv : Nat → Int32) : gTr ⊕ (Nat × (Nat → Int32)) :=
  if st.1 = 19 ∨ st.1 = 21 then .inl (2, 0, 0, lv)
  else if st.1 = 20 then .inr (st.2.2.2.1.getD 0, lv)
  else match wkQ lv (fun _ => 0) me (st.2.2.2.2.2.2.2.2.1.getD []) with
    | none => .inl (3, 1, s, lv)
    | some v => if st.1 = 18 ∧ v = 0 then .inl (3, 5, s, lv) else .inr (if st.1 = 17 ∧ v = 0 then st.2.2.2.1.getD 0 else s + 1, if st.1 = 16 then fup lv (st.2.2.2.1.getD 0) v else lv)
def setP (C : gCo) (me : Int32) : Nat → Nat → Nat → (Nat → Int32) → Option gTr
  | 0, _, _, _ => none
  | n + 1, own, s, lv => match C.1[s]? with
    | none => none
    | some st => if st.1 < 16 then some (1, 0, s, lv)
      else if st.1 < 20 ∧ 300 ≤ own then some (3, 6, s, lv)
      else match ow1 me s st lv with
        | .inl r => some r
        | .inr z => setP C me n (if st.1 < 20 then own + 1 else own) z.1 z.2
section POW
variable {C : gCo} {me : Int32} {n m own s : Nat} {lv : Nat → Int32} {st : gNs} {r r' : gTr}
theorem set_act (h : C.1[s]? = some st) (c : st.1 < 16) : setP C me (n + 1) own s lv = some (1, 0, s, lv) := by
  rw [setP]
  simp only [h]
  rw [if_pos c]
theorem set_6 (h : C.1[s]? = some st) (c : ¬ st.1 < 16) (c2 : st.1 < 20 ∧ 300 ≤ own) : setP C me (n + 1) own s lv = some (3, 6, s, lv) := by
  rw [setP]
  simp only [h]
  rw [if_neg c, if_pos c2]
theorem set_l (h : C.1[s]? = some st) (c : ¬ st.1 < 16) (c2 : ¬ (st.1 < 20 ∧ 300 ≤ own)) (e : ow1 me s st lv = .inl r) : setP C me (n + 1) own s lv = some r := by
  rw [setP]
  simp only [h]
  rw [if_neg c, if_neg c2, e]
theorem set_r {z : Nat × (Nat → Int32)} (h : C.1[s]? = some st) (c : ¬ st.1 < 16) (c2 : ¬ (st.1 < 20 ∧ 300 ≤ own)) (e : ow1 me s st lv = .inr z) : setP C me (n + 1) own s lv = setP C me n (if st.1 < 20 then own + 1 else own) z.1 z.2 := by
  rw [setP]
  simp only [h]
  rw [if_neg c, if_neg c2, e]
theorem set_up : ∀ {n m own s : Nat} {lv : Nat → Int32}, setP C me n own s lv = some r → n ≤ m → setP C me m own s lv = some r := by
  intro n
  induction n with
  | zero => intro m own s lv h; exact absurd h (by simp [setP])
  | succ n ih =>
    intro m own s lv h hm
    obtain ⟨m, rfl⟩ : ∃ k, m = k + 1 := ⟨m - 1, by omega⟩
    cases hs : C.1[s]? with
    | none =>
      rw [setP] at h
      simp only [hs] at h
      exact absurd h (by simp)
    | some st =>
      by_cases c : st.1 < 16
      · rw [set_act hs c] at h ⊢; exact h
      · by_cases c2 : st.1 < 20 ∧ 300 ≤ own
        · rw [set_6 hs c c2] at h ⊢; exact h
        · cases e : ow1 me s st lv with
          | inl r9 => rw [set_l hs c c2 e] at h ⊢; exact h
          | inr z =>
            rw [set_r hs c c2 e] at h ⊢
            exact ih h (by omega)
theorem set_det (h : setP C me n own s lv = some r) (g : setP C me m own s lv = some r') : r = r' := by
  have a := set_up (m := n + m) h (by omega)
  have b := set_up (m := n + m) g (by omega)
  exact Option.some.inj (a.symm.trans b)
end POW
/-- a thread as the run begins -/
def fst1 (C : gCo) (t : Nat) (q : Nat × Nat) (r : gTr) : Prop := (q.2 = 1 ∧ r.1 = 0) ∨ (¬ q.2 = 1 ∧ ∃ n, setP C (Int32.ofNat t) n 0 q.1 (fun _ => 0) = some r)
def fstS (C : gCo) (f : Nat → gTr) : Prop := ∀ t q, C.2.1[t]? = some q → fst1 C t q (f t)
def opN (C : gCo) (s : Nat) : Nat := match C.1[s]? with | some st => st.1 | none => 0
def obN (C : gCo) (s : Nat) : Nat := match C.1[s]? with | some st => st.2.2.2.2.1.toNatClampNeg | none => 0
/-- whether its act can be done, as the run begins -/
abbrev canN (C : gCo) (f : Nat → gTr) (t : Nat) : Prop := (f t).1 = 1 ∧ (opN C (f t).2.2.1 = 10 → 2 ≤ (f (obN C (f t).2.2.1)).1)
def chN (C : gCo) (f : Nat → gTr) : Nat → Nat
  | 0 => 0
  | n + 1 => chN C f n + (if canN C f n then 1 else 0)
section PCH
variable {C : gCo} {f g : Nat → gTr} {n : Nat}
theorem fst1_det {t : Nat} {q : Nat × Nat} {r r' : gTr} (h : fst1 C t q r) (g : fst1 C t q r') : r.1 = r'.1 ∧ (¬ r.1 = 0 → r = r') := by
  rcases h with ⟨h1, h2⟩ | ⟨h1, n, h2⟩
  · rcases g with ⟨g1, g2⟩ | ⟨g1, -⟩
    · exact ⟨h2.trans g2.symm, fun z => absurd h2 z⟩
    · exact absurd h1 g1
  · rcases g with ⟨g1, -⟩ | ⟨g1, m, g2⟩
    · exact absurd g1 h1
    · have e := set_det h2 g2
      exact ⟨by rw [e], fun _ => e⟩
theorem chN_det (hf : fstS C f) (hg : fstS C g) (hob : ∀ (s : Nat) (st : gNs), C.1[s]? = some st → st.1 = 10 → st.2.2.2.2.1.toNatClampNeg < C.2.1.length) : ∀ n, n ≤ C.2.1.length → chN C f n = chN C g n := by
  have e1 : ∀ t, t < C.2.1.length → (f t).1 = (g t).1 ∧ (¬ (f t).1 = 0 → f t = g t) := fun t ht => fst1_det (hf t _ (List.getElem?_eq_getElem ht)) (hg t _ (List.getElem?_eq_getElem ht))
  intro n
  induction n with
  | zero => intro _; rfl
  | succ n ih =>
    intro hn
    obtain ⟨a1, a2⟩ := e1 n (by omega)
    have key : canN C f n ↔ canN C g n := by
      unfold canN
      by_cases c : (f n).1 = 1
      · rw [a2 (by rw [c]; decide)]
        have c' : (g n).1 = 1 := by rw [← a1]; exact c
        refine and_congr_right (fun _ => ?_)
        have ob : opN C (g n).2.2.1 = 10 → obN C (g n).2.2.1 < C.2.1.length := fun z => by
          unfold opN at z
          unfold obN
          cases hs : C.1[(g n).2.2.1]? with
          | none => simp only [hs] at z; exact absurd z (by decide)
          | some st =>
            simp only [hs] at z
            exact hob _ st hs z
        exact ⟨fun h z => by rw [← (e1 _ (ob z)).1]; exact h z, fun h z => by rw [(e1 _ (ob z)).1]; exact h z⟩
      · have c' : ¬ (g n).1 = 1 := by rw [← a1]; exact c
        exact ⟨fun h => absurd h.1 c, fun h => absurd h.1 c'⟩
    rw [chN, chN, ih (by omega)]
    by_cases c : canN C f n
    · rw [if_pos c, if_pos (key.mp c)]
    · rw [if_neg c, if_neg (fun z => c (key.mpr z))]
end PCH
