section
/-! own steps come to an end: a thread that goes on is never as one that was not begun -/
/-- a jump goes forward, or to a test; what is begun is a thread; cells -/
def JUf (C : gCo) : Prop := (∀ (s : Nat) (st : gNs), C.1[s]? = some st → st.1 = 20 → ∃ n, st.2.2.2.1 = some n ∧ (s < n ∨ ∃ st', C.1[n]? = some st' ∧ st'.1 = 17)) ∧ (∀ (s : Nat) (st : gNs), C.1[s]? = some st → st.1 = 9 → st.2.2.2.2.1.toNatClampNeg < C.2.1.length) ∧ C.2.2.1.length ≤ 24
section PNZ
variable {C : gCo} {me : Int32} {lv : Nat → Int32} {s t w : Nat} {st : gNs} {r : gTr} {M : gMa} {wk : Option Nat}
theorem ow1_nz (q : ow1 me s st lv = .inl r) : ¬ r.1 = 0 := by
  unfold ow1 at q
  split at q
  · cases q
    exact fun z => absurd z (show ¬ 2 = 0 by decide)
  · split at q
    · exact nomatch q
    · split at q
      · cases q
        exact fun z => absurd z (show ¬ 3 = 0 by decide)
      · split at q
        · cases q
          exact fun z => absurd z (show ¬ 3 = 0 by decide)
        · exact nomatch q
theorem ow1_to {z : Nat × (Nat → Int32)} (hN : NC C) (hs : C.1[s]? = some st) (c16 : ¬ st.1 < 16) (q : ow1 me s st lv = .inr z) : z.1 < C.1.length ∧ (st.1 = 20 → z.1 = st.2.2.2.1.getD 0) ∧ ¬ st.1 = 21 := by
  have ns := hN.1 s st hs
  unfold ow1 at q
  split at q
  · exact nomatch q
  · rename_i h19
    have n21 : ¬ st.1 = 21 := fun z => h19 (Or.inr z)
    split at q
    · rename_i h20
      cases q
      obtain ⟨n, st', g1, g2, -⟩ := ns.2.2.1 (Or.inr h20)
      refine ⟨?_, fun _ => rfl, n21⟩
      show st.2.2.2.1.getD 0 < _
      rw [g1]
      exact gt_lt g2
    · rename_i h20
      have lt1 : s + 1 < C.1.length := by
        obtain ⟨st', g1, -⟩ := ns.2.1 (by omega)
        exact gt_lt g1
      split at q
      · exact nomatch q
      · split at q
        · exact nomatch q
        · cases q
          refine ⟨?_, fun z => absurd z h20, n21⟩
          show (if st.1 = 17 ∧ _ then st.2.2.2.1.getD 0 else s + 1) < _
          split
          · rename_i h17
            obtain ⟨n, st', g1, g2, -⟩ := ns.2.2.1 (Or.inl h17.1)
            rw [g1]
            exact gt_lt g2
          · exact lt1
theorem setP_ex (hN : NC C) (hJ : JUf C) : ∀ (m own s : Nat) (lv : Nat → Int32), 301 - own ≤ m → s < C.1.length → ∃ n r, setP C me n own s lv = some r ∧ ¬ r.1 = 0 := by
  intro m
  -- no jump
  have one : ∀ (own s : Nat) (lv : Nat → Int32) (st : gNs), (∀ (s' : Nat) (lv' : Nat → Int32), own < 300 → s' < C.1.length → ∃ n r, setP C me n (own + 1) s' lv' = some r ∧ ¬ r.1 = 0) → C.1[s]? = some st → ¬ st.1 = 20 → ∃ n r, setP C me n own s lv = some r ∧ ¬ r.1 = 0 := by
    intro own s lv st ih hs n20
    by_cases c1 : st.1 < 16
    · exact ⟨1, _, set_act hs c1, fun z => absurd z (show ¬ 1 = 0 by decide)⟩
    · by_cases c2 : st.1 < 20 ∧ 300 ≤ own
      · exact ⟨1, _, set_6 hs c1 c2, fun z => absurd z (show ¬ 3 = 0 by decide)⟩
      · cases e1 : ow1 me s st lv with
        | inl r9 => exact ⟨1, _, set_l hs c1 c2 e1, ow1_nz e1⟩
        | inr z =>
          obtain ⟨z1, -, z3⟩ := ow1_to hN hs c1 e1
          have o22 := (hN.1 s st hs).1.1
          have lt : st.1 < 20 := by omega
          obtain ⟨n, r, g1, g2⟩ := ih z.1 z.2 (by omega) z1
          refine ⟨n + 1, r, ?_, g2⟩
          rw [set_r hs c1 c2 e1, if_pos lt]
          exact g1
  -- a row of jumps
  have all : ∀ (own : Nat), (∀ (s' : Nat) (lv' : Nat → Int32), own < 300 → s' < C.1.length → ∃ n r, setP C me n (own + 1) s' lv' = some r ∧ ¬ r.1 = 0) → ∀ (j s : Nat) (lv : Nat → Int32), C.1.length - s ≤ j → s < C.1.length → ∃ n r, setP C me n own s lv = some r ∧ ¬ r.1 = 0 := by
    intro own ih j
    induction j with
    | zero => intro s lv h1 h2; omega
    | succ j jh =>
      intro s lv h1 h2
      obtain ⟨st, hs⟩ : ∃ st, C.1[s]? = some st := ⟨_, List.getElem?_eq_getElem h2⟩
      by_cases c20 : st.1 = 20
      · have c1 : ¬ st.1 < 16 := by omega
        have c2 : ¬ (st.1 < 20 ∧ 300 ≤ own) := by omega
        cases e1 : ow1 me s st lv with
        | inl r9 => exact ⟨1, _, set_l hs c1 c2 e1, ow1_nz e1⟩
        | inr z =>
          obtain ⟨z1, z2, -⟩ := ow1_to hN hs c1 e1
          have z2 := z2 c20
          obtain ⟨n, g1, g2⟩ := hJ.1 s st hs c20
          rw [g1] at z2
          have z2 : z.1 = n := z2
          have go : ∃ n r, setP C me n own z.1 z.2 = some r ∧ ¬ r.1 = 0 := by
            rcases g2 with g2 | ⟨st', g2, g3⟩
            · exact jh z.1 z.2 (by omega) z1
            · exact one own z.1 z.2 st' ih (by rw [z2]; exact g2) (by omega)
          obtain ⟨n9, r, q1, q2⟩ := go
          refine ⟨n9 + 1, r, ?_, q2⟩
          rw [set_r hs c1 c2 e1, if_neg (by omega)]
          exact q1
      · exact one own s lv st ih hs c20
  induction m with
  | zero => exact fun own s lv h1 h2 => all own (fun s' lv' h3 => by omega) _ s lv (Nat.le_refl _) h2
  | succ m mh => exact fun own s lv h1 h2 => all own (fun s' lv' h3 h4 => mh (own + 1) s' lv' (by omega) h4) _ s lv (Nat.le_refl _) h2
theorem owR_nz (hN : NC C) (hJ : JUf C) (hs : s < C.1.length) : ¬ (owR C me s lv).1 = 0 := by
  obtain ⟨n, r, g1, g2⟩ := setP_ex (me := me) hN hJ 301 0 s lv (by omega) hs
  rw [owR_is g1]
  exact g2
theorem setP_at : ∀ {n own s : Nat} {lv : Nat → Int32}, setP C me n own s lv = some r → r.1 = 1 → ∃ st, C.1[r.2.2.1]? = some st ∧ st.1 < 16 := by
  intro n
  induction n with
  | zero => intro own s lv q; exact absurd q (by simp [setP])
  | succ n ih =>
    intro own s lv q
    cases hs : C.1[s]? with
    | none =>
      rw [setP] at q
      simp only [hs] at q
      exact absurd q (by simp)
    | some st =>
      by_cases c1 : st.1 < 16
      · rw [set_act hs c1] at q
        cases q
        exact fun _ => ⟨st, hs, c1⟩
      · by_cases c2 : st.1 < 20 ∧ 300 ≤ own
        · rw [set_6 hs c1 c2] at q
          cases q
          exact fun z => absurd z (show ¬ 3 = 1 by decide)
        · cases e1 : ow1 me s st lv with
          | inl r9 =>
            rw [set_l hs c1 c2 e1] at q
            cases q
            intro z
            exfalso
            unfold ow1 at e1
            split at e1
            · cases e1
              exact absurd z (show ¬ 2 = 1 by decide)
            · split at e1
              · exact nomatch e1
              · split at e1
                · cases e1
                  exact absurd z (show ¬ 3 = 1 by decide)
                · split at e1
                  · cases e1
                    exact absurd z (show ¬ 3 = 1 by decide)
                  · exact nomatch e1
          | inr z =>
            rw [set_r hs c1 c2 e1] at q
            exact ih q
theorem owR_at (h : (owR C me s lv).1 = 1) : ∃ st, C.1[(owR C me s lv).2.2.1]? = some st ∧ st.1 < 16 := by
  by_cases q : ∃ r, ∃ n, setP C me n 0 s lv = some r
  · obtain ⟨r, n, q⟩ := q
    rw [owR_is q] at h ⊢
    exact setP_at q h
  · have : owR C me s lv = (0, 0, 0, fun _ => 0) := by
      unfold owR
      rw [dif_neg q]
    rw [this] at h
    exact absurd h (show ¬ 0 = 1 by decide)
/-- what an act does to the threads: status and step stay, but of a thread that is begun -/
theorem ef_is {s c : Nat} {e f : Int32} (o : Nat) : (((efM C w M t s c e f wk).1.2.2 o).1 = (M.2.2 o).1 ∧ ((efM C w M t s c e f wk).1.2.2 o).2.2.1 = (M.2.2 o).2.2.1 ∧ ¬ (s = 9 ∧ o = c ∧ c < C.2.1.length)) ∨ (s = 9 ∧ o = c ∧ ∃ (q : Nat × Nat) (h : gTq) (lv : Nat → Int32), C.2.1[c]? = some q ∧ (efM C w M t s c e f wk).1.2.2 o = thN C c h q.1 lv) := by
  have up : ∀ {M' : gMa} {a : Nat} {h : gTq}, h.1 = (M'.2.2 a).1 → h.2.2.1 = (M'.2.2 a).2.2.1 → ((upT M' a h).2.2 o).1 = (M'.2.2 o).1 ∧ ((upT M' a h).2.2 o).2.2.1 = (M'.2.2 o).2.2.1 := fun {M' a h} h1 h2 => by
    show (upf M'.2.2 a h o).1 = _ ∧ (upf M'.2.2 a h o).2.2.1 = _
    by_cases q : o = a
    · rw [q, upf_eq]; exact ⟨h1, h2⟩
    · rw [upf_ne q]; exact ⟨rfl, rfl⟩
  unfold efM
  by_cases s0 : s = 0
  · rw [if_pos s0]; exact Or.inl ⟨rfl, rfl, by omega⟩
  rw [if_neg s0]
  by_cases s1 : s = 1
  · rw [if_pos s1]
    by_cases c1 : w = 0 ∨ suM C c = true
    · rw [if_pos c1]; exact Or.inl ⟨rfl, rfl, by omega⟩
    · rw [if_neg c1]
      have u := up (M' := M) (a := t) (h := ((M.2.2 t).1, (M.2.2 t).2.1, (M.2.2 t).2.2.1, (M.2.2 t).2.2.2.1, (M.2.2 t).2.2.2.2.1, (M.2.2 t).2.2.2.2.2.1, (M.2.2 t).2.2.2.2.2.2.1 ++ [(c, e)], (M.2.2 t).2.2.2.2.2.2.2)) rfl rfl
      exact Or.inl ⟨u.1, u.2, by omega⟩
  rw [if_neg s1]
  by_cases s2 : s = 2
  · rw [if_pos s2]; exact Or.inl ⟨rfl, rfl, by omega⟩
  rw [if_neg s2]
  by_cases s3 : s = 3
  · rw [if_pos s3]; exact Or.inl ⟨rfl, rfl, by omega⟩
  rw [if_neg s3]
  by_cases s4 : s = 4
  · rw [if_pos s4]; exact Or.inl ⟨rfl, rfl, by omega⟩
  rw [if_neg s4]
  by_cases s5 : s = 5
  · rw [if_pos s5]; exact Or.inl ⟨rfl, rfl, by omega⟩
  rw [if_neg s5]
  by_cases s6 : s = 6
  · rw [if_pos s6]; exact Or.inl ⟨rfl, rfl, by omega⟩
  rw [if_neg s6]
  by_cases s7 : s = 7
  · rw [if_pos s7]
    have u := up (M' := upL M c (0, 0)) (a := t) (h := ((M.2.2 t).1, (M.2.2 t).2.1, (M.2.2 t).2.2.1, 1, (M.2.1 c).2, (M.2.2 t).2.2.2.2.2)) rfl rfl
    exact Or.inl ⟨u.1, u.2, by omega⟩
  rw [if_neg s7]
  by_cases s8 : s = 8
  · rw [if_pos s8]
    refine Or.inl ⟨?_, ?_, by omega⟩
    · show (if o < C.2.1.length ∧ (M.2.2 o).2.2.2.1 = 1 ∧ obM C (M.2.2 o).2.2.1 = c ∧ ((stN C (M.2.2 t).2.2.1).2.2.2.2.2.2.1 = true ∨ wk = some o) then ((M.2.2 o).1, (M.2.2 o).2.1, (M.2.2 o).2.2.1, 2, (M.2.2 o).2.2.2.2) else M.2.2 o).1 = _
      split <;> rfl
    · show (if o < C.2.1.length ∧ (M.2.2 o).2.2.2.1 = 1 ∧ obM C (M.2.2 o).2.2.1 = c ∧ ((stN C (M.2.2 t).2.2.1).2.2.2.2.2.2.1 = true ∨ wk = some o) then ((M.2.2 o).1, (M.2.2 o).2.1, (M.2.2 o).2.2.1, 2, (M.2.2 o).2.2.2.2) else M.2.2 o).2.2.1 = _
      split <;> rfl
  rw [if_neg s8]
  by_cases s9 : s = 9
  · rw [if_pos s9]
    cases hq : C.2.1[c]? with
    | none =>
      refine Or.inl ⟨rfl, rfl, fun z => ?_⟩
      rw [List.getElem?_eq_getElem z.2.2] at hq
      exact nomatch hq
    | some q =>
      by_cases co : o = c
      · refine Or.inr ⟨s9, co, q, M.2.2 c, (M.2.2 c).2.2.2.2.2.2.2, rfl, ?_⟩
        show upf M.2.2 c (thN C c (M.2.2 c) q.1 (M.2.2 c).2.2.2.2.2.2.2) o = _
        rw [co, upf_eq]
      · refine Or.inl ⟨?_, ?_, fun z => co z.2.1⟩
        · show (upf M.2.2 c (thN C c (M.2.2 c) q.1 (M.2.2 c).2.2.2.2.2.2.2) o).1 = _
          rw [upf_ne co]
        · show (upf M.2.2 c (thN C c (M.2.2 c) q.1 (M.2.2 c).2.2.2.2.2.2.2) o).2.2.1 = _
          rw [upf_ne co]
  rw [if_neg s9]
  by_cases s13 : s = 13
  · rw [if_pos s13]
    have u := up (M' := M) (a := t) (h := ((M.2.2 t).1, (M.2.2 t).2.1, (M.2.2 t).2.2.1, (M.2.2 t).2.2.2.1, (M.2.2 t).2.2.2.2.1, (stN C (M.2.2 t).2.2.1).2.2.2.2.1, (M.2.2 t).2.2.2.2.2.2)) rfl rfl
    exact Or.inl ⟨u.1, u.2, by omega⟩
  rw [if_neg s13]
  by_cases s14 : s = 14
  · rw [if_pos s14]
    have u := up (M' := M) (a := t) (h := ((M.2.2 t).1, (M.2.2 t).2.1, (M.2.2 t).2.2.1, (M.2.2 t).2.2.2.1, (M.2.2 t).2.2.2.2.1, -1, (M.2.2 t).2.2.2.2.2.2)) rfl rfl
    exact Or.inl ⟨u.1, u.2, by omega⟩
  rw [if_neg s14]
  by_cases s15 : s = 15
  · rw [if_pos s15]
    have u := up (M' := upL M c (t + 1, (M.2.2 t).2.2.2.2.1)) (a := t) (h := ((M.2.2 t).1, (M.2.2 t).2.1, (M.2.2 t).2.2.1, 0, 0, (M.2.2 t).2.2.2.2.2)) rfl rfl
    exact Or.inl ⟨u.1, u.2, by omega⟩
  rw [if_neg s15]
  exact Or.inl ⟨rfl, rfl, by omega⟩
/-- and their waiting -/
theorem ef_wt {s c u : Nat} {e f : Int32} (hu : ¬ u = t) : ((efM C w M t s c e f wk).1.2.2 u).2.2.2.1 = if s = 8 ∧ u < C.2.1.length ∧ (M.2.2 u).2.2.2.1 = 1 ∧ obM C (M.2.2 u).2.2.1 = c ∧ ((stN C (M.2.2 t).2.2.1).2.2.2.2.2.2.1 = true ∨ wk = some u) then 2 else (M.2.2 u).2.2.2.1 := by
  have up : ∀ {M' : gMa} {h : gTq}, (upT M' t h).2.2 u = M'.2.2 u := fun {M' h} => by
    show upf M'.2.2 t h u = _
    rw [upf_ne hu]
  unfold efM
  by_cases s8 : s = 8
  · have n0 : ¬ s = 0 := by omega
    have n1 : ¬ s = 1 := by omega
    have n2 : ¬ s = 2 := by omega
    have n3 : ¬ s = 3 := by omega
    have n4 : ¬ s = 4 := by omega
    have n5 : ¬ s = 5 := by omega
    have n6 : ¬ s = 6 := by omega
    have n7 : ¬ s = 7 := by omega
    rw [if_neg n0, if_neg n1, if_neg n2, if_neg n3, if_neg n4, if_neg n5, if_neg n6, if_neg n7, if_pos s8]
    show (if u < C.2.1.length ∧ (M.2.2 u).2.2.2.1 = 1 ∧ obM C (M.2.2 u).2.2.1 = c ∧ ((stN C (M.2.2 t).2.2.1).2.2.2.2.2.2.1 = true ∨ wk = some u) then ((M.2.2 u).1, (M.2.2 u).2.1, (M.2.2 u).2.2.1, 2, (M.2.2 u).2.2.2.2) else M.2.2 u).2.2.2.1 = _
    by_cases cc : u < C.2.1.length ∧ (M.2.2 u).2.2.2.1 = 1 ∧ obM C (M.2.2 u).2.2.1 = c ∧ ((stN C (M.2.2 t).2.2.1).2.2.2.2.2.2.1 = true ∨ wk = some u)
    · rw [if_pos cc, if_pos ⟨s8, cc⟩]
    · rw [if_neg cc, if_neg (fun z => cc z.2)]
  rw [if_neg (show ¬ (s = 8 ∧ u < C.2.1.length ∧ (M.2.2 u).2.2.2.1 = 1 ∧ obM C (M.2.2 u).2.2.1 = c ∧ ((stN C (M.2.2 t).2.2.1).2.2.2.2.2.2.1 = true ∨ wk = some u)) from fun z => s8 z.1)]
  by_cases s0 : s = 0
  · rw [if_pos s0]
  rw [if_neg s0]
  by_cases s1 : s = 1
  · rw [if_pos s1]
    by_cases c1 : w = 0 ∨ suM C c = true
    · rw [if_pos c1]; rfl
    · rw [if_neg c1]
      show ((upT M t _).2.2 u).2.2.2.1 = _
      rw [up]
  rw [if_neg s1]
  by_cases s2 : s = 2
  · rw [if_pos s2]; rfl
  rw [if_neg s2]
  by_cases s3 : s = 3
  · rw [if_pos s3]; rfl
  rw [if_neg s3]
  by_cases s4 : s = 4
  · rw [if_pos s4]; rfl
  rw [if_neg s4]
  by_cases s5 : s = 5
  · rw [if_pos s5]; rfl
  rw [if_neg s5]
  by_cases s6 : s = 6
  · rw [if_pos s6]; rfl
  rw [if_neg s6]
  by_cases s7 : s = 7
  · rw [if_pos s7]
    show ((upT (upL M c (0, 0)) t _).2.2 u).2.2.2.1 = _
    rw [up]; rfl
  rw [if_neg s7, if_neg s8]
  by_cases s9 : s = 9
  · rw [if_pos s9]
    cases hq : C.2.1[c]? with
    | none => rfl
    | some q =>
      show (upf M.2.2 c (thN C c (M.2.2 c) q.1 (M.2.2 c).2.2.2.2.2.2.2) u).2.2.2.1 = _
      by_cases co : u = c
      · rw [co, upf_eq]; rfl
      · rw [upf_ne co]
  rw [if_neg s9]
  by_cases s13 : s = 13
  · rw [if_pos s13]
    show ((upT M t _).2.2 u).2.2.2.1 = _
    rw [up]
  rw [if_neg s13]
  by_cases s14 : s = 14
  · rw [if_pos s14]
    show ((upT M t _).2.2 u).2.2.2.1 = _
    rw [up]
  rw [if_neg s14]
  by_cases s15 : s = 15
  · rw [if_pos s15]
    show ((upT (upL M c (t + 1, (M.2.2 t).2.2.2.2.1)) t _).2.2 u).2.2.2.1 = _
    rw [up]; rfl
  rw [if_neg s15]
/-- a thread behind an act: as before, or it did it, or was begun by it -/
theorem ac_is (hN : NC C) (hJ : JUf C) (h1 : (M.2.2 t).1 = 1) (hs : (M.2.2 t).2.2.1 + 1 < C.1.length) (ha : ∃ st, C.1[(M.2.2 t).2.2.1]? = some st ∧ st.1 < 16) (o : Nat) : (((acM C w M t wk).2.2 o).1 = 1 → (((M.2.2 o).1 = 1 ∧ ((acM C w M t wk).2.2 o).2.2.1 = (M.2.2 o).2.2.1) ∨ ∃ st, C.1[((acM C w M t wk).2.2 o).2.2.1]? = some st ∧ st.1 < 16)) ∧ (((acM C w M t wk).2.2 o).1 = 0 → (M.2.2 o).1 = 0 ∧ ¬ o = t ∧ (soM C (M.2.2 t) = 9 → (lkM C w M t).1 = 0 → (lkM C w M t).2.1.toNatClampNeg < C.2.1.length → ¬ o = (lkM C w M t).2.1.toNatClampNeg)) := by
  unfold acM
  by_cases c1 : ¬ (lkM C w M t).1 = 0
  · rw [if_pos c1]
    show ((upf M.2.2 t (thF (M.2.2 t) (lkM C w M t).1) o).1 = 1 → (((M.2.2 o).1 = 1 ∧ (upf M.2.2 t (thF (M.2.2 t) (lkM C w M t).1) o).2.2.1 = (M.2.2 o).2.2.1) ∨ _)) ∧ ((upf M.2.2 t (thF (M.2.2 t) (lkM C w M t).1) o).1 = 0 → _)
    by_cases co : o = t
    · rw [co, upf_eq]
      exact ⟨fun z => absurd z (show ¬ 3 = 1 by decide), fun z => absurd z (show ¬ 3 = 0 by decide)⟩
    · rw [upf_ne co]
      exact ⟨fun z => Or.inl ⟨z, rfl⟩, fun z => ⟨z, co, fun _ h => absurd h c1⟩⟩
  · rw [if_neg c1]
    by_cases c7 : soM C (M.2.2 t) = 7
    · rw [if_pos c7]
      rcases ef_is (C := C) (w := w) (M := M) (t := t) (wk := wk) (s := 7) (c := (lkM C w M t).2.1.toNatClampNeg) (e := 0) (f := 0) o with ⟨e1, e2, -⟩ | ⟨z, -⟩
      · rw [e1, e2]
        exact ⟨fun z => Or.inl ⟨z, rfl⟩, fun z => ⟨z, fun co => by rw [co, h1] at z; omega, fun h => by omega⟩⟩
      · exact absurd z (by decide)
    · rw [if_neg c7]
      obtain ⟨E, eE⟩ : ∃ E, E = efM C w M t (soM C (M.2.2 t)) (lkM C w M t).2.1.toNatClampNeg (lkM C w M t).2.2.1 (lkM C w M t).2.2.2 wk := ⟨_, rfl⟩
      have ef := ef_is (C := C) (w := w) (M := M) (t := t) (wk := wk) (s := soM C (M.2.2 t)) (c := (lkM C w M t).2.1.toNatClampNeg) (e := (lkM C w M t).2.2.1) (f := (lkM C w M t).2.2.2) o
      rw [← eE] at ef ⊢
      obtain ⟨H, eH⟩ : ∃ H, H = thN C t (E.1.2.2 t) ((M.2.2 t).2.2.1 + 1) (toV (stN C (M.2.2 t).2.2.1) (M.2.2 t).2.2.2.2.2.2.2 E.2) := ⟨_, rfl⟩
      rw [← eH]
      show ((upf E.1.2.2 t H o).1 = 1 → (((M.2.2 o).1 = 1 ∧ (upf E.1.2.2 t H o).2.2.1 = (M.2.2 o).2.2.1) ∨ ∃ st, C.1[(upf E.1.2.2 t H o).2.2.1]? = some st ∧ st.1 < 16)) ∧ ((upf E.1.2.2 t H o).1 = 0 → _)
      by_cases co : o = t
      · rw [co, upf_eq, eH]
        exact ⟨fun z => Or.inr (owR_at z), fun z => absurd z (owR_nz hN hJ hs)⟩
      · rw [upf_ne co]
        rcases ef with ⟨e1, e2, e3⟩ | ⟨s9, oc, q, h9, lv9, hq, e4⟩
        · rw [e1, e2]
          exact ⟨fun z => Or.inl ⟨z, rfl⟩, fun z => ⟨z, co, fun h9 _ hc z9 => e3 ⟨h9, z9, hc⟩⟩⟩
        · rw [e4]
          obtain ⟨⟨st, g1, -⟩, -⟩ := hN.2.1 q (List.mem_of_getElem? hq)
          exact ⟨fun z => Or.inr (owR_at z), fun z => absurd z (owR_nz hN hJ (gt_lt g1))⟩
theorem ac_wt {u : Nat} (hu : ¬ u = t) (h0 : (lkM C w M t).1 = 0) : ((acM C w M t wk).2.2 u).2.2.2.1 = if soM C (M.2.2 t) = 8 ∧ u < C.2.1.length ∧ (M.2.2 u).2.2.2.1 = 1 ∧ obM C (M.2.2 u).2.2.1 = (lkM C w M t).2.1.toNatClampNeg ∧ ((stN C (M.2.2 t).2.2.1).2.2.2.2.2.2.1 = true ∨ wk = some u) then 2 else (M.2.2 u).2.2.2.1 := by
  unfold acM
  rw [if_neg (fun z => z h0)]
  by_cases c7 : soM C (M.2.2 t) = 7
  · rw [if_pos c7, ef_wt hu, if_neg (fun z => by have := z.1; omega), if_neg (fun z => by have := z.1; omega)]
  · rw [if_neg c7]
    show (upf (efM C w M t (soM C (M.2.2 t)) (lkM C w M t).2.1.toNatClampNeg (lkM C w M t).2.2.1 (lkM C w M t).2.2.2 wk).1.2.2 t _ u).2.2.2.1 = _
    rw [upf_ne hu, ef_wt hu]
theorem ac_wF {u : Nat} (hu : ¬ u = t) (h0 : ¬ (lkM C w M t).1 = 0) : (acM C w M t wk).2.2 u = M.2.2 u := by
  unfold acM
  rw [if_pos h0]
  show upf M.2.2 t _ u = _
  rw [upf_ne hu]
end PNZ
end
section
/-! the model: memories that stand for all like them, with the machine's state -/
/-- such a memory holds the state M, and its choices -/
def AM (C : gCo) (w : Nat) (M : gMa) (a : gd) : Prop := AV a ∧ MK a C ∧ MM1 a C M ∧ MIv C w M ∧ a.1 0 68 = Int32.ofNat w ∧ chE a (chM C w M)
/-- what is asked of a code -/
def GC (C : gCo) : Prop := NC C ∧ NXc C ∧ C.2.1.length ≤ 6 ∧ JUf C
theorem fc_exM {b : gd} {S : gS} {C : gCo} {M : gMa} {w : Nat} (ri : RI b S) (wy : wy01 b) (hK : MK b C) (hN : NC C) (hX : NXc C) (hM : MM1 b C M) (wyw : b.1 0 68 = Int32.ofNat w) (w01 : w = 0 ∨ w = 1) (hlt : w = 0 → ∀ t', t' < 6 → (M.2.2 t').2.2.2.2.2.2.1 = []) : ∃ a, AV a ∧ fcA b a ∧ md [84] [86, 87, 88] b a ∧ chE a (chM C w M) := by
  obtain ⟨o, a, S', ⟨eo, fc, hcn⟩, m, q⟩ := ds_find3 (d := 0) (Fv := fun y S1 => fC b (Sl b) 84 y S1 ∧ chE y (chM C w M)) (RI_Sl ri) hK hN hX hM wyw w01 hlt (fun y S1 h h2 => ⟨h, h2⟩)
  obtain ⟨f1, f2, f3, f4, f5, f6⟩ := fc
  have e80 : a.1 80 = b.1 80 := f1.2.1 80 (by decide) (by decide)
  have sl : Sl a = Sl b := by
    funext c j
    unfold Sl
    rw [e80]
  have sm : ssub (Sm a) S' := by
    intro c j h
    rcases h with ⟨h1, h2⟩ | ⟨h1, h2⟩ | h
    · rw [h1, h2]; exact f3
    · obtain ⟨g1, g2, g3, _⟩ := f6 j h2
      rcases h1 with h1 | h1 | h1
      · rw [h1]; exact g1
      · rw [h1]; exact g2
      · rw [h1]; exact g3
    · rw [sl] at h
      exact f2 c j h
  have fa : fcA b a := by
    intro G z e
    refine MT_mono (q G z e) (fun o2 z' w => ?_)
    rw [w.1, eo]
    exact rv_i ⟨eqS_w sm w.2.1, w.2.2⟩
  refine ⟨a, ⟨?_, ?_, ?_, f4, f5, ?_⟩, fa, f1, hcn⟩
  · rw [sl]
    exact RI_md f1 rfl rfl (ssub_rf _) (RI_Sl ri)
  · unfold wy01
    rw [f1.1 68 (by decide)]
    exact wy
  · intro i hi
    obtain ⟨_, _, _, g⟩ := f6 i hi
    exact ⟨Or.inr (Or.inl ⟨Or.inl rfl, hi⟩), Or.inr (Or.inl ⟨Or.inr (Or.inl rfl), hi⟩), Or.inr (Or.inl ⟨Or.inr (Or.inr rfl), hi⟩), g⟩
  · intro G z e
    refine fa G z (fun c j h => ?_)
    rw [← sl] at h
    rw [e c j h]
    -- the core and the late writes are those of b
    rcases h with h | h
    · rcases h with ⟨h1, h2⟩ | ⟨n, h1, h2⟩
      · rw [h1]
        refine f1.1 j (fun w => ?_)
        rw [List.mem_singleton.mp w] at h2
        exact absurd h2 (by decide)
      · have hc : c ≠ 0 ∧ c ∉ [86, 87, 88] := by
          simp at h1
          refine ⟨by omega, ?_⟩
          simp
          omega
        rw [f1.2.1 c hc.1 hc.2]
    · obtain ⟨hc, _⟩ := h
      rw [f1.2.1 c (by omega) (by simp; omega)]
/-- an act's doing, with what is told of it -/
def TrD (C : gCo) (w : Nat) (M : gMa) (t : Nat) (a : gd) (i : Nat) (b : gd) : Prop := a.1 87 i = -1 → ∀ (G : mG) (z : gd), eqS (Sl a) a z → MT G 4 z_doAct 0 [(0, vr 0), (1, vi (a.1 86 i)), (2, vi (a.1 88 i))] [] z (rv (fun z' => eqS (Sl b) b z' ∧ md rL rA z z' ∧ acP (srt a (a.1 86 i).toNatClampNeg) z' ∧ deQ C w M t z'))
def LkD (C : gCo) (w : Nat) (M : gMa) (t : Nat) (a : gd) (i : Nat) (a' : gd) : Prop := ∃ b, Tr a i b ∧ TrD C w M t a i b ∧ fcA b a'
theorem LkD_L {C : gCo} {w : Nat} {M : gMa} {t : Nat} {a a' : gd} {i : Nat} (h : LkD C w M t a i a') : Lk a i a' := by
  obtain ⟨b, h1, _, h3⟩ := h
  exact ⟨b, h1, h3⟩
theorem lk_exM {C : gCo} {w i : Nat} {M : gMa} {a : gd} {ch : gCh} (gc : GC C) (w01 : w = 0 ∨ w = 1) (h : AM C w M a) (hch : (chM C w M)[i]? = some ch) : ∃ a', AM C w (doM C w M ch) a' ∧ LkD C w M ch.1 a i a' := by
  obtain ⟨hN, hX, l6, -⟩ := gc
  obtain ⟨⟨ri, wy, chv, c0, c84, fa⟩, hK, hM, hI, w68, hE⟩ := h
  have hi : (i : Int) < (a.1 0 84).toInt := by have := gt_lt hch; rw [hE.1]; omega
  obtain ⟨_, _, _, ⟨t0, t6⟩, co⟩ := chv i hi
  have tv : vp_in (a.1 86 i) 6 := by rw [vp_in_iff]; exact ⟨t0, t6⟩
  obtain ⟨e86, e87, e88⟩ := hE.2 i ch hch
  have cm := List.mem_of_getElem? hch
  obtain ⟨i1, i2, i3⟩ := ch_in cm
  have hI' := MIv_do hX l6 hI cm
  have ct : (a.1 86 i).toNatClampNeg = ch.1 := by
    rw [e86, t_cl, Int32.toInt_ofNat_of_lt (by omega)]; rfl
  have st : ∃ b, RI b (Sl b) ∧ wy01 b ∧ MK b C ∧ MM1 b C (doM C w M ch) ∧ b.1 0 68 = Int32.ofNat w ∧ Tr a i b ∧ TrD C w M ch.1 a i b := by
    by_cases c : a.1 87 i = -1
    · have g := co.resolve_right (fun z => by rw [c] at z; exact absurd z.1 (by decide))
      have cn : ch.2.1 = none := by
        cases h9 : ch.2.1 with
        | none => rfl
        | some j =>
          have j8 : j < 9 := by
            have := i3 j h9
            have q := (ri.2 ch.1 (by omega)).2.2.2.1
            have := (hM.2.2 ch.1 (by omega)).2.2.2.2.2.2.2.2.1.1
            omega
          rw [h9] at e87
          rw [e87] at c
          have c : Int32.ofNat j = -1 := c
          have : ∀ n, n < 9 → ¬ Int32.ofNat n = -1 := by decide +kernel
          exact absurd c (this j j8)
      have dE : doM C w M ch = acM C w M ch.1 ch.2.2 := by unfold doM; rw [cn]
      obtain ⟨o, b, S', ⟨eo, rb, ss, as', ap, mb, dq⟩, m, q⟩ := ds_doAct3 (d := 0) (wk := ch.2.2) (Fv := fun y S1 => RI y S1 ∧ ssub (Sl a) S1 ∧ acS S1 ∧ acP (srt a (a.1 86 i).toNatClampNeg) y ∧ MM1 y C (acM C w M (a.1 86 i).toNatClampNeg ch.2.2) ∧ deQ C w M (a.1 86 i).toNatClampNeg y) (a.1 86 i) (a.1 88 i) tv ri g.2.1 g.2.2 hK hN hX hM (WMw_WM hI.1) w68 w01 (by
        cases h9 : ch.2.2 with
        | none => rw [h9] at e88; exact Or.inl ⟨rfl, e88⟩
        | some k =>
          rw [h9] at e88
          have k6 := (i2 cn).2.2 k h9
          unfold waM at k6
          have := List.mem_range.mp (List.mem_filter.mp k6).1
          exact Or.inr ⟨k, rfl, by omega, e88⟩) (fun y S1 h1 h2 h3 h4 h5 h6 => ⟨h1, h2, h3, h4, h6, h5⟩)
      rw [ct] at mb dq
      refine ⟨b, RI_Sl rb, by unfold wy01; rw [m.1 68 (by decide)]; exact wy, MK_md m rfl rfl hK, by rw [dE]; exact mb, by rw [m.1 68 (by decide)]; exact w68, ⟨fun _ G z e => MT_mono (q G z e) (fun o2 z' w => ?_), fun n => absurd c n⟩, fun _ G z e => MT_mono (q G z e) (fun o2 z' w => ?_)⟩
      · rw [w.1, eo]
        refine rv_i ⟨eqS_w (Sl_in rb) w.2.1, w.2.2, ?_⟩
        unfold acP
        rw [w.2.1 0 88 (Or.inr as'.1), w.2.1 0 89 (Or.inr as'.2.1)]
        exact ap
      · rw [w.1, eo]
        refine rv_i ⟨eqS_w (Sl_in rb) w.2.1, w.2.2, ?_, deQ_f (w.2.1 0 88 (Or.inr as'.1)) (w.2.1 0 89 (Or.inr as'.2.1)) (w.2.1 0 92 (Or.inr as'.2.2.1)) (w.2.1 0 93 (Or.inr as'.2.2.2)) dq⟩
        unfold acP
        rw [w.2.1 0 88 (Or.inr as'.1), w.2.1 0 89 (Or.inr as'.2.1)]
        exact ap
    · have g := co.resolve_left (fun z => c z.1)
      obtain ⟨j, hj⟩ : ∃ j, ch.2.1 = some j := by
        cases h9 : ch.2.1 with
        | none => rw [h9] at e87; exact absurd e87 c
        | some j => exact ⟨j, rfl⟩
      rw [hj] at e87
      have e87 : a.1 87 i = Int32.ofNat j := e87
      have dE : doM C w M ch = laM M ch.1 j := by unfold doM; rw [hj]
      have j8 : j < 9 := by
        have := i3 j hj
        have q := (ri.2 ch.1 (by omega)).2.2.2.1
        have := (hM.2.2 ch.1 (by omega)).2.2.2.2.2.2.2.2.1.1
        omega
      have ej : (a.1 87 i).toInt.toNat = j := by rw [e87, Int32.toInt_ofNat_of_lt (by omega)]; rfl
      obtain ⟨o, b, S', ⟨eo, rb, ss, mb, mm⟩, m, q⟩ := ds_doLate3 (d := 4) (C := C) (M := M) (Fv := fun y S1 => RI y S1 ∧ ssub (Sl a) S1 ∧ md [] [70, 80, 81, 82] a y ∧ MM1 y C (laM M (a.1 86 i).toNatClampNeg (a.1 87 i).toInt.toNat)) (a.1 86 i) (a.1 87 i) tv ri g.1 g.2 hM (fun y S1 h1 h2 h3 h4 => ⟨h1, h2, h3, h4⟩)
      rw [ct, ej] at mm
      refine ⟨b, RI_Sl rb, by unfold wy01; rw [m.1 68 (by decide)]; exact wy, MK_md m rfl rfl hK, by rw [dE]; exact mm, by rw [m.1 68 (by decide)]; exact w68, ⟨fun n => absurd n c, fun _ G z e => MT_mono (q G z e) (fun o2 z' w => ?_)⟩, fun n => absurd n c⟩
      rw [w.1, eo]
      exact rv_i ⟨eqS_w (Sl_in rb) w.2.1, w.2.2⟩
  obtain ⟨b, h1, h2, hKb, hMb, wb, h3, h3d⟩ := st
  obtain ⟨a', g1, g2, g3, g4⟩ := fc_exM h1 h2 hKb hN hX hMb wb w01 (fun z t ht => (hI'.1 t ht).2.2.2 z)
  exact ⟨a', ⟨g1, MK_md g3 rfl rfl hKb, MM1_md g3 rfl hMb, hI', by rw [g3.1 68 (by decide)]; exact wb, g4⟩, b, h3, h3d, g2⟩
section DSY
variable {x : gd} {C : gCo}
theorem first_exM (cp : CP x) (hK : MK x C) (hN : NC C) : ∃ b, RI b (Sl b) ∧ MM1 b C (fsM C) ∧ MK b C ∧ b.1 0 68 = x.1 0 68 ∧ prE x b ∧ ∀ (G : mG) (D : Nat) (z : gd), 5 ≤ D → prE x z → z.1 0 68 = x.1 0 68 → MT G D z_setFirst 0 [(0, vr 0)] [] z (rv (fun z' => eqS (Sl b) b z' ∧ md rL rA z z')) := by
  have ii := ix_ini x
  have i2 : ∀ j : Nat, j < 24 → (ix x).1 70 j = (fsM C).1 j := fun j hj => by
    have e : (ix x).1 70 j = if (j : Int) < (x.1 0 23).toInt then x.1 36 j else 0 := ii.2.1 j hj
    rw [e]
    have l23 : (x.1 0 23).toInt = C.2.2.1.length := hK.2.2.1.1
    show _ = (match C.2.2.1[j]? with | some q => q.1 | none => 0)
    cases hq : C.2.2.1[j]? with
    | some q => rw [if_pos (by have := gt_lt hq; omega)]; exact (hK.2.2.1.2 j q hq).1
    | none => rw [if_neg (by have := List.getElem?_eq_none_iff.mp hq; omega)]
  obtain ⟨o, b, S', ⟨eo, rb, hfs⟩, m, q⟩ := ds_setTail3 (x := ix x) (S := fun _ _ => False) (Fv := fun y S1 => RI y S1 ∧ MM1 y C (fsM C)) (CP_md ii.1 rfl rfl cp) ii.2.2.2.1 ii.2.2.1 i2 ii.2.2.2.2 (MK_md ii.1 rfl rfl hK) hN (fun y S1 h h2 => ⟨h, h2⟩)
  refine ⟨b, RI_Sl rb, hfs, MK_md m rfl rfl (MK_md ii.1 rfl rfl hK), ?_, ?_, fun G D z hD p w => ?_⟩
  · rw [m.1 68 (by decide), ii.1.1 68 (by decide)]
  · exact prE_mi (prE_mi (prE_rf x) (mi_of ii.1) rfl rfl) (mi_of m) rfl rfl
  · obtain ⟨D, rfl⟩ : ∃ D', D = D' + 1 := ⟨D - 1, by omega⟩
    refine sp_setInit (fun y iy => MT_up (d := 4) (by omega) (MT_mono (q G y (ini_eq p w ii iy)) (fun o2 z' v => ?_)))
    rw [v.1, eo]
    exact rv_i ⟨eqS_w (Sl_in rb) v.2.1, md_tr (md_w iy.1 (L2 := rL) (A2 := rA) (by decide) (by decide)) v.2.2 rfl rfl⟩
theorem start_exM (cp : CP x) (hK : MK x C) (hN : NC C) (hX : NXc C) {wn : Nat} (w01 : wn = 0 ∨ wn = 1) (w : Int32) (ew0 : w = Int32.ofNat wn) (hw : w = 0 ∨ w = 1) : ∃ a0, AM C wn (fsM C) a0 ∧ AV a0 ∧ a0.1 0 68 = w ∧ prE x a0 ∧ St x w a0 ∧ ∃ b, md [84] [86, 87, 88] b a0 ∧ ∀ (G : mG) (D : Nat) (z : gd), 5 ≤ D → prE x z → z.1 0 68 = w → MT G D z_setFirst 0 [(0, vr 0)] [] z (rv (fun z' => eqS (Sl b) b z' ∧ md rL rA z z')) := by
  have k0 : (0 : Int32).toInt = 0 := rfl
  have k1 : (1 : Int32).toInt = 1 := rfl
  have k6 : (6 : Int32).toInt = 6 := rfl
  have mw := md_f x 68 w
  obtain ⟨xw, exw⟩ : ∃ xw, xw = si x 0 68 w := ⟨_, rfl⟩
  rw [← exw] at mw
  have ew : xw.1 0 68 = w := by rw [exw, si_get, if_pos ⟨rfl, rfl⟩]
  have pw : prE x xw := prE_mi (prE_rf x) (mi_of mw) rfl rfl
  obtain ⟨b, rb, hfs, hKb, b68, pb, hb⟩ := first_exM (CP_md mw rfl rfl cp) (MK_md mw rfl rfl hK) hN
  rw [ew] at b68
  obtain ⟨a0, av, fa, ma, hcn⟩ := fc_exM rb (by unfold wy01; rw [b68]; exact hw) hKb hN hX hfs (by rw [b68, ew0]) w01 (fun z t ht => (WMw_fs t ht).2.2.2 z)
  refine ⟨a0, ⟨av, MK_md ma rfl rfl hKb, MM1_md ma rfl hfs, MIv_fs, by rw [ma.1 68 (by decide), b68, ew0], hcn⟩, av, by rw [ma.1 68 (by decide), b68], prE_tr pw (prE_mi pb (mi_of ma) rfl rfl), ?_, b, ma, fun G D z hD p hz => hb G D z hD (prE_tr (prE_sy pw) p) (by rw [ew]; exact hz)⟩
  intro G D z Fv hD p hF
  obtain ⟨D, rfl⟩ : ∃ D', D = D' + 1 := ⟨D - 1, by omega⟩
  refine sg_startRun_0 _ (fun z1 e1 z2 e2 z3 e3 z4 e4 => ?_)
  have m1 := md_f z 68 w
  rw [← e1] at m1
  have m2 := md_f z1 67 1
  rw [← e2] at m2
  have m3 := md_f z2 94 0
  rw [← e3] at m3
  have m4 := md_f z3 96 0
  rw [← e4] at m4
  have m14 : md [68, 67, 94, 96] [] z z4 := md_tr (md_tr (L3 := [68, 67, 94]) (A3 := []) (md_tr (L3 := [68, 67]) (A3 := []) m1 m2 rfl rfl) m3 rfl rfl) m4 rfl rfl
  have f68 : z4.1 0 68 = w := by rw [m4.1 68 (by decide), m3.1 68 (by decide), m2.1 68 (by decide), e1, si_get, if_pos ⟨rfl, rfl⟩]
  have f67 : z4.1 0 67 = 1 := by rw [m4.1 67 (by decide), m3.1 67 (by decide), e2, si_get, if_pos ⟨rfl, rfl⟩]
  have f94 : z4.1 0 94 = 0 := by rw [m4.1 94 (by decide), e3, si_get, if_pos ⟨rfl, rfl⟩]
  have f96 : z4.1 0 96 = 0 := by rw [e4, si_get, if_pos ⟨rfl, rfl⟩]
  have loop : ∀ (n : Nat) (y : gd) (t : Int32), 0 ≤ t.toInt → t.toInt ≤ 6 → 6 - t.toInt ≤ n → md [] [106, 107] z4 y → (∀ j : Nat, (j : Int) < t.toInt → y.1 106 j = -1 ∧ y.1 107 j = -1) → MT G (D + 1) z_startRun 22 [(0, vr 0), (2, vi t)] [] y (rv Fv) := by
    have last : ∀ y : gd, md [] [106, 107] z4 y → (∀ j : Nat, j < 6 → y.1 106 j = -1 ∧ y.1 107 j = -1) → MT G D z_setFirst 0 [(0, vr 0)] [] y (rv (fun x2 => MT G D z_findChoices 0 [(0, vr 0)] [] x2 (rv (fun x3 => rv Fv none x3)))) := by
      intro y my hy
      have py : prE xw y := prE_tr (prE_sy pw) (prE_mi (prE_mi p (mi_of m14) rfl rfl) (mi_of my) rfl rfl)
      have wy' : y.1 0 68 = xw.1 0 68 := by rw [my.1 68 (by decide), f68, ew]
      refine MTv_mono (hb G D y (by omega) py wy') (fun u q => MT_up (by omega) (MTv_mono (fa G u q.1) (fun v qv => rv_i (hF v qv.1 ?_))))
      have g : mi [82, 84, 88, 89, 90, 91, 92, 93] rA y v := mi_of (md_rt q.2 qv.2)
      have v94 : v.1 0 94 = 0 := by rw [g.1 94 (by decide), my.1 94 (by decide), f94]
      have v96 : v.1 0 96 = 0 := by rw [g.1 96 (by decide), my.1 96 (by decide), f96]
      refine ⟨mi_tr (mi_tr (L3 := sL') (A3 := sA') (mi_of m14) (mi_of my) rfl rfl) g rfl rfl, v94, ⟨by rw [v96]; decide, by rw [v96, v94]; decide, by rw [v94]; decide, fun j hj => by rw [v96, k0] at hj; omega, fun t ht => ?_⟩, by rw [g.1 67 (by decide), my.1 67 (by decide), f67], by rw [g.1 68 (by decide), my.1 68 (by decide), f68]⟩
      rw [g.2.1 106 (by decide) (by decide), g.2.1 107 (by decide) (by decide)]
      exact ⟨Or.inl (hy t ht).1, Or.inl (hy t ht).2⟩
    intro n
    induction n with
    | zero =>
      intro y t t0 t6 hn my hy
      exact sg_startRun_22 _ ⟨fun _ => last y my (fun j hj => hy j (by omega)), fun c => absurd (t_le.mpr (by rw [k6]; omega)) c⟩
    | succ n ih =>
      intro y t t0 t6 hn my hy
      refine sg_startRun_22 _ ⟨fun c => last y my (fun j hj => hy j (by rw [t_le, k6] at c; omega)), fun c => ?_⟩
      rw [t_le, k6] at c
      have tv : vp_in t 6 := by rw [vp_in_iff]; omega
      have ct := cl_i t0
      have ti : (t + 1).toInt = t.toInt + 1 := by rw [t_add (by omega) (by omega), k1]
      refine ⟨tv, fun y5 e5 => ⟨tv, fun y7 e7 => ?_⟩⟩
      have m5 := md_a y 106 t.toNatClampNeg (-1) (by decide)
      rw [← e5] at m5
      have m7 := md_a y5 107 t.toNatClampNeg (-1) (by decide)
      rw [← e7] at m7
      refine ih y7 (t + 1) (by omega) (by omega) (by omega) (md_tr (md_tr (L3 := []) (A3 := [106, 107]) my m5 rfl rfl) m7 rfl rfl) (fun j hj => ?_)
      by_cases q : j = t.toNatClampNeg
      · rw [q]
        exact ⟨by rw [e7, si_cell (by decide), e5, si_get, if_pos ⟨rfl, rfl⟩], by rw [e7, si_get, if_pos ⟨rfl, rfl⟩]⟩
      · rw [e7, si_ne 106 j q, si_ne 107 j q, e5, si_ne 106 j q, si_ne 107 j q]
        exact hy j (by omega)
  exact loop 6 z4 0 (by decide) (by decide) (by decide) (md_w (md_rf _) (by decide) (by decide)) (fun j hj => by rw [k0] at hj; omega)
end DSY
end
section
/-! what happens before what, among the acts of a run -/
theorem of_inj {n m : Nat} (hn : n < 1000) (hm : m < 1000) : Int32.ofNat n = Int32.ofNat m ↔ n = m := by
  rw [t_eq, Int32.toInt_ofNat_of_lt (by omega), Int32.toInt_ofNat_of_lt (by omega)]; omega
/-- starts of a thread; acts that give a lock; that write a sure cell; that wake a thread -/
def qSt (o : Int32) (a : gDe) : Prop := a.2.2.2.2.2.1 = false ∧ a.2.1 = 9 ∧ a.2.2.1 = o
def qLk (o : Int32) (a : gDe) : Prop := a.2.2.2.2.2.1 = false ∧ (a.2.1 = 6 ∨ a.2.1 = 7) ∧ a.2.2.1 = o
def qCe (su : Int32 → Bool) (o : Int32) (a : gDe) : Prop := a.2.2.2.2.2.1 = false ∧ (1 ≤ a.2.1 ∧ a.2.1 ≤ 4) ∧ a.2.2.1 = o ∧ su o = true
def qWk (u : Nat) (a : gDe) : Prop := a.2.2.2.2.2.1 = false ∧ a.2.1 = 8 ∧ a.2.2.2.2.2.2 u = true
def qTh (o : Int32) (a : gDe) : Prop := Int32.ofNat a.1 = o
/-- what an act b that was done takes over -/
def qTo (su : Int32 → Bool) (b a : gDe) : Prop := (b.2.1 = 10 ∧ qTh b.2.2.1 a) ∨ ((b.2.1 = 5 ∨ b.2.1 = 15) ∧ qLk b.2.2.1 a) ∨ (b.2.1 = 15 ∧ qWk b.1 a) ∨ ((b.2.1 = 0 ∨ (2 ≤ b.2.1 ∧ b.2.1 ≤ 4)) ∧ qCe su b.2.2.1 a)
/-- an act b, and an act a done before it, from which there is a straight way to b -/
def dpd (su : Int32 → Bool) (b a : gDe) : Prop := a.1 = b.1 ∨ qSt (Int32.ofNat b.1) a ∨ (b.2.2.2.2.2.1 = false ∧ qTo su b a)
def pd (su : Int32 → Bool) (J : List gDe) (b a : Nat) : Prop := a < b ∧ ∃ eb ea, J[b]? = some eb ∧ J[a]? = some ea ∧ dpd su eb ea
/-- a happens before b -/
def bfn (su : Int32 → Bool) (J : List gDe) : Nat → Nat → Nat → Prop
  | 0, _, _ => False
  | n + 1, b, a => pd su J b a ∨ ∃ c, pd su J b c ∧ bfn su J n c a
def bf (su : Int32 → Bool) (J : List gDe) (b a : Nat) : Prop := ∃ n, bfn su J n b a
theorem bf_o {su : Int32 → Bool} {J : List gDe} {b a : Nat} (h : pd su J b a) : bf su J b a := ⟨1, Or.inl h⟩
theorem bf_m {su : Int32 → Bool} {J : List gDe} {b c a : Nat} (h : pd su J b c) (g : bf su J c a) : bf su J b a := by
  obtain ⟨n, g⟩ := g
  exact ⟨n + 1, Or.inr ⟨c, h, g⟩⟩
theorem bf_ind {su : Int32 → Bool} {J : List gDe} {P : Nat → Nat → Prop} (h1 : ∀ b a, pd su J b a → P b a) (h2 : ∀ b c a, pd su J b c → bf su J c a → P c a → P b a) {b a : Nat} (h : bf su J b a) : P b a := by
  obtain ⟨n, h⟩ := h
  induction n generalizing b with
  | zero => exact h.elim
  | succ n ih =>
    rcases h with h | ⟨c, g1, g2⟩
    · exact h1 b a h
    · exact h2 b c a g1 ⟨n, g2⟩ (ih g2)
theorem bf_cs {su : Int32 → Bool} {J : List gDe} {b a : Nat} (h : bf su J b a) : pd su J b a ∨ ∃ c, pd su J b c ∧ bf su J c a := by
  obtain ⟨n, h⟩ := h
  cases n with
  | zero => exact h.elim
  | succ n =>
    rcases h with h | ⟨c, g1, g2⟩
    · exact Or.inl h
    · exact Or.inr ⟨c, g1, n, g2⟩
/-- what is before some act of a sort, or one of them -/
def bfQ (su : Int32 → Bool) (J : List gDe) (Q : gDe → Prop) (a : Nat) : Prop := ∃ c ec, J[c]? = some ec ∧ Q ec ∧ (a = c ∨ bf su J c a)
/-- the last act of a thread -/
def lsT (J : List gDe) (t l : Nat) : Prop := ∃ el, J[l]? = some el ∧ el.1 = t ∧ ∀ (a : Nat) (e : gDe), l < a → J[a]? = some e → ¬ e.1 = t
section PBF
variable {su : Int32 → Bool} {J ds : List gDe} {a b c l n t u : Nat} {e ec : gDe} {Q R : gDe → Prop}
theorem gt_sn : (J ++ [e])[J.length]? = some e := by
  rw [List.getElem?_append_right (Nat.le_refl _), Nat.sub_self]; rfl
theorem gt_cs {x : gDe} (h : (J ++ [e])[a]? = some x) : (a < J.length ∧ J[a]? = some x) ∨ (a = J.length ∧ x = e) := by
  by_cases c : a < J.length
  · rw [List.getElem?_append_left c] at h
    exact Or.inl ⟨c, h⟩
  · have hl := gt_lt h
    rw [List.length_append] at hl
    have hl : a < J.length + 1 := hl
    have ea : a = J.length := by omega
    rw [ea, gt_sn] at h
    exact Or.inr ⟨ea, (Option.some.inj h).symm⟩
theorem gt_ls {x : gDe} (h : J[a]? = some x) : (J ++ [e])[a]? = some x := by
  rw [List.getElem?_append_left (gt_lt h)]; exact h
theorem pd_app (hb : b < J.length) : pd su (J ++ ds) b a ↔ pd su J b a := by
  constructor
  · rintro ⟨h, eb, ea, h1, h2, h3⟩
    rw [List.getElem?_append_left hb] at h1
    rw [List.getElem?_append_left (by omega)] at h2
    exact ⟨h, eb, ea, h1, h2, h3⟩
  · rintro ⟨h, eb, ea, h1, h2, h3⟩
    exact ⟨h, eb, ea, by rw [List.getElem?_append_left hb]; exact h1, by rw [List.getElem?_append_left (by omega)]; exact h2, h3⟩
theorem bf_lt (h : bf su J b a) : a < b ∧ b < J.length := by
  refine bf_ind (P := fun b a => a < b ∧ b < J.length) (fun b a h => ?_) (fun b c a h _ ih => ?_) h
  · obtain ⟨h0, eb, ea, h1, -⟩ := h; exact ⟨h0, gt_lt h1⟩
  · obtain ⟨h0, eb, ea, h1, -⟩ := h
    have i1 : a < c := ih.1
    exact ⟨by omega, gt_lt h1⟩
theorem bf_a1 (h : bf su (J ++ ds) b a) : b < J.length → bf su J b a := by
  refine bf_ind (P := fun b a => b < J.length → bf su J b a) (fun b a h hb => bf_o ((pd_app hb).mp h)) (fun b c a h _ ih hb => bf_m ((pd_app hb).mp h) (ih ?_)) h
  have := h.1
  omega
theorem bf_a2 (h : bf su J b a) : bf su (J ++ ds) b a := by
  refine bf_ind (P := fun b a => bf su (J ++ ds) b a) (fun b a h => ?_) (fun b c a h _ ih => ?_) h
  · obtain ⟨h0, eb, ea, h1, h2⟩ := h; exact bf_o ((pd_app (gt_lt h1)).mpr ⟨h0, eb, ea, h1, h2⟩)
  · obtain ⟨h0, eb, ea, h1, h2⟩ := h; exact bf_m ((pd_app (gt_lt h1)).mpr ⟨h0, eb, ea, h1, h2⟩) ih
theorem bf_app (hb : b < J.length) : bf su (J ++ ds) b a ↔ bf su J b a := ⟨fun h => bf_a1 h hb, bf_a2⟩
theorem bf_tr (h : bf su J b c) (g : bf su J c a) : bf su J b a :=
  bf_ind (P := fun b c => bf su J c a → bf su J b a) (fun b c h g => bf_m h g) (fun b c' c h _ ih g => bf_m h (ih g)) h g
theorem bf_new : bf su (J ++ [e]) J.length a ↔ bfQ su J (dpd su e) a := by
  constructor
  · intro h
    have key : ∀ c, pd su (J ++ [e]) J.length c → ∃ ec, J[c]? = some ec ∧ dpd su e ec := by
      rintro c ⟨h0, eb, ea, h1, h2, h3⟩
      rw [gt_sn] at h1
      rw [List.getElem?_append_left h0] at h2
      cases h1
      exact ⟨ea, h2, h3⟩
    rcases bf_cs h with h | ⟨c, h, g⟩
    · obtain ⟨ec, h1, h2⟩ := key _ h
      exact ⟨_, ec, h1, h2, Or.inl rfl⟩
    · obtain ⟨ec, h1, h2⟩ := key _ h
      exact ⟨_, ec, h1, h2, Or.inr (bf_a1 g (gt_lt h1))⟩
  · rintro ⟨c, ec, h1, h2, h3⟩
    have p : pd su (J ++ [e]) J.length c := ⟨gt_lt h1, e, ec, gt_sn, by rw [List.getElem?_append_left (gt_lt h1)]; exact h1, h2⟩
    rcases h3 with h3 | h3
    · rw [h3]; exact bf_o p
    · exact bf_m p (bf_a2 h3)
theorem bfQ_or : bfQ su J (fun e => Q e ∨ R e) a ↔ bfQ su J Q a ∨ bfQ su J R a := by
  constructor
  · rintro ⟨c, ec, h1, h2 | h2, h3⟩
    · exact Or.inl ⟨c, ec, h1, h2, h3⟩
    · exact Or.inr ⟨c, ec, h1, h2, h3⟩
  · rintro (⟨c, ec, h1, h2, h3⟩ | ⟨c, ec, h1, h2, h3⟩)
    · exact ⟨c, ec, h1, Or.inl h2, h3⟩
    · exact ⟨c, ec, h1, Or.inr h2, h3⟩
theorem bfQ_cg (h : ∀ (c : Nat) (ec : gDe), J[c]? = some ec → (Q ec ↔ R ec)) : bfQ su J Q a ↔ bfQ su J R a := by
  constructor
  · rintro ⟨c, ec, h1, h2, h3⟩
    exact ⟨c, ec, h1, (h c ec h1).mp h2, h3⟩
  · rintro ⟨c, ec, h1, h2, h3⟩
    exact ⟨c, ec, h1, (h c ec h1).mpr h2, h3⟩
theorem bfQ_no (h : ∀ (c : Nat) (ec : gDe), J[c]? = some ec → ¬ Q ec) : ¬ bfQ su J Q a := fun ⟨c, ec, h1, h2, _⟩ => h c ec h1 h2
theorem bfQ_lt (h : bfQ su J Q a) : a < J.length := by
  obtain ⟨c, ec, h1, -, h3 | h3⟩ := h
  · rw [h3]; exact gt_lt h1
  · have := bf_lt h3; omega
/-- a row that grows: of one more act -/
theorem bfQ_sn : bfQ su (J ++ [e]) Q a ↔ bfQ su J Q a ∨ (Q e ∧ (a = J.length ∨ bf su (J ++ [e]) J.length a)) := by
  constructor
  · rintro ⟨c, ec, h1, h2, h3⟩
    by_cases hc : c < J.length
    · rw [List.getElem?_append_left hc] at h1
      refine Or.inl ⟨c, ec, h1, h2, ?_⟩
      rcases h3 with h3 | h3
      · exact Or.inl h3
      · exact Or.inr (bf_a1 h3 hc)
    · have hl := gt_lt h1
      rw [List.length_append] at hl
      have hl : c < J.length + 1 := hl
      have ec' : c = J.length := by omega
      rw [ec', gt_sn] at h1
      cases h1
      rw [ec'] at h3
      exact Or.inr ⟨h2, h3⟩
  · rintro (⟨c, ec, h1, h2, h3⟩ | ⟨h2, h3⟩)
    · refine ⟨c, ec, by rw [List.getElem?_append_left (gt_lt h1)]; exact h1, h2, ?_⟩
      rcases h3 with h3 | h3
      · exact Or.inl h3
      · exact Or.inr (bf_a2 h3)
    · exact ⟨J.length, e, gt_sn, h2, h3⟩
/-- all of a thread's acts: what its last one gives -/
theorem bf_last (h : lsT J t l) : bfQ su J (fun e => e.1 = t) a ↔ (a = l ∨ bf su J l a) := by
  obtain ⟨el, h1, h2, h3⟩ := h
  constructor
  · rintro ⟨c, ec, g1, g2, g3⟩
    by_cases hc : c = l
    · rw [hc] at g3; exact g3
    · have lt : c < l := by
        apply Classical.byContradiction
        intro z
        exact h3 c ec (by omega) g1 g2
      have p : bf su J l c := bf_o ⟨lt, el, ec, h1, g1, Or.inl (g2.trans h2.symm)⟩
      rcases g3 with g3 | g3
      · rw [g3]; exact Or.inr p
      · exact Or.inr (bf_tr p g3)
  · intro h
    exact ⟨l, el, h1, h2, h⟩
/-- the class's way: the last act of its thread is enough, if there is one -/
theorem bf_kl (hl : lsT J e.1 l) (hs : ∀ (s : Nat) (es : gDe) (k : Nat) (ek : gDe), J[s]? = some es → qSt (Int32.ofNat e.1) es → J[k]? = some ek → ek.1 = e.1 → s < k) : bf su (J ++ [e]) J.length a ↔ (a = l ∨ bf su J l a) ∨ (e.2.2.2.2.2.1 = false ∧ bfQ su J (qTo su e) a) := by
  rw [bf_new]
  unfold dpd
  rw [bfQ_or, bf_last hl, bfQ_or]
  obtain ⟨el, h1, h2, h3⟩ := hl
  constructor
  · rintro (h | h | h)
    · exact Or.inl h
    · obtain ⟨s, es, g1, g2, g3⟩ := h
      have p : bf su J l s := bf_o ⟨hs s es l el g1 g2 h1 h2, el, es, h1, g1, Or.inr (Or.inl (by rw [h2]; exact g2))⟩
      rcases g3 with g3 | g3
      · rw [g3]; exact Or.inl (Or.inr p)
      · exact Or.inl (Or.inr (bf_tr p g3))
    · obtain ⟨c, ec, g1, ⟨g0, g2⟩, g3⟩ := h
      exact Or.inr ⟨g0, c, ec, g1, g2, g3⟩
  · rintro (h | ⟨g0, c, ec, g1, g2, g3⟩)
    · exact Or.inl h
    · exact Or.inr (Or.inr ⟨c, ec, g1, ⟨g0, g2⟩, g3⟩)
/-- if there is none, its start -/
theorem bf_k0 (hn : ∀ (k : Nat) (ek : gDe), J[k]? = some ek → ¬ ek.1 = e.1) : bf su (J ++ [e]) J.length a ↔ bfQ su J (qSt (Int32.ofNat e.1)) a ∨ (e.2.2.2.2.2.1 = false ∧ bfQ su J (qTo su e) a) := by
  rw [bf_new]
  unfold dpd
  rw [bfQ_or, bfQ_or]
  constructor
  · rintro (h | h | h)
    · exact absurd h (bfQ_no hn)
    · exact Or.inl h
    · obtain ⟨c, ec, g1, ⟨g0, g2⟩, g3⟩ := h
      exact Or.inr ⟨g0, c, ec, g1, g2, g3⟩
  · rintro (h | ⟨g0, c, ec, g1, g2, g3⟩)
    · exact Or.inr (Or.inl h)
    · exact Or.inr (Or.inr ⟨c, ec, g1, ⟨g0, g2⟩, g3⟩)
theorem lsT_sn : lsT (J ++ [e]) e.1 J.length := ⟨e, gt_sn, rfl, fun a e' h1 h2 => by
  have := gt_lt h2
  rw [List.length_append] at this
  have : a < J.length + 1 := this
  omega⟩
theorem lsT_o (h : lsT J t l) (ht : ¬ e.1 = t) : lsT (J ++ [e]) t l := by
  obtain ⟨el, h1, h2, h3⟩ := h
  refine ⟨el, by rw [List.getElem?_append_left (gt_lt h1)]; exact h1, h2, fun a e' g1 g2 => ?_⟩
  by_cases c : a < J.length
  · rw [List.getElem?_append_left c] at g2
    exact h3 a e' g1 g2
  · have hl := gt_lt g2
    rw [List.length_append] at hl
    have hl : a < J.length + 1 := hl
    have ea : a = J.length := by omega
    rw [ea, gt_sn] at g2
    cases g2
    exact ht
end PBF
/-! how many acts of a thread there are; clocks -/
def ct (J : List gDe) : Nat → Nat → Nat
  | 0, _ => 0
  | n + 1, u => ct J n u + (J[n]?).elim 0 (fun e => if e.1 = u then 1 else 0)
/-- V tells which acts are in S -/
def rep (J : List gDe) (n : Nat) (V : Nat → Nat) (S : Nat → Prop) : Prop := (∀ u, u < 6 → V u ≤ ct J n u) ∧ ∀ a e, a < n → J[a]? = some e → e.1 < 6 → (S a ↔ ct J a e.1 < V e.1)
section PCT
variable {J ds : List gDe} {a n m u : Nat} {e : gDe} {V W : Nat → Nat} {S T : Nat → Prop}
theorem ct_s (h : J[n]? = some e) : ct J (n + 1) u = ct J n u + if e.1 = u then 1 else 0 := by
  show ct J n u + _ = _
  rw [h]; rfl
theorem ct_app : ∀ {n : Nat}, n ≤ J.length → ct (J ++ ds) n u = ct J n u := by
  intro n
  induction n with
  | zero => intro _; rfl
  | succ n ih =>
    intro h
    show ct (J ++ ds) n u + _ = ct J n u + _
    rw [ih (by omega), List.getElem?_append_left (by omega)]
theorem ct_le (h : n ≤ m) : ct J n u ≤ ct J m u := by
  induction m with
  | zero => rw [Nat.le_zero.mp h]; exact Nat.le_refl _
  | succ m ih =>
    by_cases c : n = m + 1
    · rw [c]; exact Nat.le_refl _
    · have := ih (by omega)
      show ct J n u ≤ ct J m u + _
      omega
theorem rep_0 : rep J n (fun _ => 0) (fun _ => False) := ⟨fun u _ => Nat.zero_le _, fun a e _ _ _ => ⟨fun h => h.elim, fun h => absurd h (Nat.not_lt_zero _)⟩⟩
theorem rep_cg (h : rep J n V S) (hS : ∀ a, a < n → (S a ↔ T a)) (hV : ∀ u, u < 6 → V u = W u) : rep J n W T := by
  refine ⟨fun u hu => by rw [← hV u hu]; exact h.1 u hu, fun a e ha he h6 => ?_⟩
  rw [← hS a ha, ← hV _ h6]
  exact h.2 a e ha he h6
theorem rep_or (h : rep J n V S) (g : rep J n W T) : rep J n (fun u => max (V u) (W u)) (fun a => S a ∨ T a) := by
  refine ⟨fun u hu => ?_, fun a e ha he h6 => ?_⟩
  · have h1 := h.1 u hu
    have h2 := g.1 u hu
    show max (V u) (W u) ≤ _
    omega
  · have h1 := h.2 a e ha he h6
    have h2 := g.2 a e ha he h6
    show (S a ∨ T a) ↔ ct J a e.1 < max (V e.1) (W e.1)
    rw [h1, h2]
    omega
/-- a row that grows by an act which isn't in S -/
theorem rep_sn (h : rep J J.length V S) (hn : ¬ S J.length) (h6 : e.1 < 6) : rep (J ++ [e]) (J.length + 1) V S := by
  refine ⟨fun u hu => ?_, fun a e' ha he h6' => ?_⟩
  · have h1 := h.1 u hu
    have h2 : ct (J ++ [e]) J.length u ≤ ct (J ++ [e]) (J.length + 1) u := ct_le (by omega)
    rw [ct_app (Nat.le_refl _)] at h2
    omega
  · by_cases c : a < J.length
    · rw [List.getElem?_append_left c] at he
      rw [ct_app (by omega)]
      exact h.2 a e' c he h6'
    · have ea : a = J.length := by omega
      rw [ea, gt_sn] at he
      cases he
      rw [ea, ct_app (Nat.le_refl _)]
      have := h.1 e.1 h6
      exact ⟨fun z => absurd z hn, fun z => by omega⟩
/-- and by itself -/
theorem rep_me (h : rep J J.length V S) (hn : ¬ S J.length) (h6 : e.1 < 6) (hV : V e.1 = ct J J.length e.1) : rep (J ++ [e]) (J.length + 1) (upf V e.1 (V e.1 + 1)) (fun a => a = J.length ∨ S a) := by
  have cs : ct (J ++ [e]) (J.length + 1) e.1 = ct J J.length e.1 + 1 := by
    rw [ct_s gt_sn, ct_app (Nat.le_refl _), if_pos rfl]
  refine ⟨fun u hu => ?_, fun a e' ha he h6' => ?_⟩
  · by_cases c : u = e.1
    · rw [c, upf_eq, cs]; omega
    · rw [upf_ne c]
      exact (rep_sn h hn h6).1 u hu
  · by_cases c : a < J.length
    · have he' := he
      rw [List.getElem?_append_left c] at he'
      have r := h.2 a e' c he' h6'
      rw [ct_app (by omega)]
      by_cases ce : e'.1 = e.1
      · rw [ce, upf_eq]
        rw [ce] at r
        have lt : ct J a e.1 < ct J J.length e.1 := by
          have h1 : ct J (a + 1) e.1 = ct J a e.1 + 1 := by rw [ct_s he', if_pos ce]
          have h2 : ct J (a + 1) e.1 ≤ ct J J.length e.1 := ct_le (by omega)
          omega
        exact ⟨fun _ => by omega, fun _ => Or.inr (r.mpr (by omega))⟩
      · rw [upf_ne ce]
        exact ⟨fun z => r.mp (z.resolve_left (by omega)), fun z => Or.inr (r.mpr z)⟩
    · have ea : a = J.length := by omega
      rw [ea, gt_sn] at he
      cases he
      rw [ea, ct_app (Nat.le_refl _), upf_eq]
      exact ⟨fun _ => by omega, fun _ => Or.inl rfl⟩
/-- all acts of a thread are in S: then V counts them -/
theorem rep_ct (h : rep J n V S) (hu : u < 6) (hn : n ≤ J.length) (hS : ∀ a e, a < n → J[a]? = some e → e.1 = u → S a) : V u = ct J n u := by
  have le := h.1 u hu
  have key : ∀ k, k ≤ n → ct J k u ≤ V u := by
    intro k
    induction k with
    | zero => intro _; exact Nat.zero_le _
    | succ k ih =>
      intro hk
      have hlt : k < J.length := by omega
      have he := List.getElem?_eq_getElem hlt
      rw [ct_s he]
      by_cases c : (J[k]).1 = u
      · have s := hS k _ (by omega) he c
        have r := (h.2 k _ (by omega) he (by omega)).mp s
        rw [c] at r
        rw [if_pos c]; omega
      · rw [if_neg c]
        have := ih (by omega)
        omega
  have := key n (Nat.le_refl _)
  omega
end PCT
end
section
/-! races of a run -/
def rcE (su : Int32 → Bool) (b a : gDe) : Prop := a.2.2.1 = b.2.2.1 ∧ ¬ a.1 = b.1 ∧ (a.2.1 ≤ 4 ∧ a.2.2.2.2.2.1 = false ∧ su a.2.2.1 = false) ∧ (b.2.1 ≤ 4 ∧ b.2.2.2.2.2.1 = false) ∧ ¬ (a.2.1 = 0 ∧ b.2.1 = 0) ∧ ¬ (2 ≤ a.2.1 ∧ 2 ≤ b.2.1)
/-- the acts a and b (the later one) are a race -/
def rc (su : Int32 → Bool) (J : List gDe) (b a : Nat) : Prop := ∃ eb ea, J[b]? = some eb ∧ J[a]? = some ea ∧ rcE su eb ea ∧ ¬ bf su J b a
/-- how many of the first a acts are races with b; how many races there are whose later act is one of the first b -/
noncomputable def rn (su : Int32 → Bool) (J : List gDe) (b : Nat) : Nat → Nat
  | 0 => 0
  | a + 1 => rn su J b a + @ite Nat (rc su J b a) (Classical.propDecidable _) 1 0
noncomputable def ru (su : Int32 → Bool) (J : List gDe) : Nat → Nat
  | 0 => 0
  | b + 1 => ru su J b + rn su J b b
/-- the race number i -/
def rP (su : Int32 → Bool) (J : List gDe) (i b a : Nat) : Prop := a < b ∧ b < J.length ∧ rc su J b a ∧ ru su J b + rn su J b a = i
section PRC
variable {su : Int32 → Bool} {J ds : List gDe} {a a' b b' i n : Nat}
theorem rn_y (h : rc su J b a) : rn su J b (a + 1) = rn su J b a + 1 := by
  show rn su J b a + @ite Nat (rc su J b a) (Classical.propDecidable _) 1 0 = _
  rw [if_pos h]
theorem rn_n (h : ¬ rc su J b a) : rn su J b (a + 1) = rn su J b a := by
  show rn su J b a + @ite Nat (rc su J b a) (Classical.propDecidable _) 1 0 = _
  rw [if_neg h]; rfl
theorem rn_le : rn su J b a ≤ a := by
  induction a with
  | zero => exact Nat.le_refl _
  | succ a ih =>
    by_cases h : rc su J b a
    · rw [rn_y h]; omega
    · rw [rn_n h]; omega
theorem rn_up (h : a ≤ a') : rn su J b a ≤ rn su J b a' := by
  induction a' with
  | zero => rw [Nat.le_zero.mp h]; exact Nat.le_refl _
  | succ k ih =>
    by_cases c : a = k + 1
    · rw [c]; exact Nat.le_refl _
    · have := ih (by omega)
      by_cases h : rc su J b k
      · rw [rn_y h]; omega
      · rw [rn_n h]; omega
theorem ru_s : ru su J (b + 1) = ru su J b + rn su J b b := rfl
theorem ru_up (h : b ≤ b') : ru su J b ≤ ru su J b' := by
  induction b' with
  | zero => rw [Nat.le_zero.mp h]; exact Nat.le_refl _
  | succ k ih =>
    by_cases c : b = k + 1
    · rw [c]; exact Nat.le_refl _
    · have := ih (by omega)
      rw [ru_s]; omega
theorem ru_le (h : b ≤ 400) : ru su J b ≤ 400 * b := by
  induction b with
  | zero => exact Nat.le_refl _
  | succ k ih =>
    have := ih (by omega)
    have := rn_le (su := su) (J := J) (b := k) (a := k)
    rw [ru_s]; omega
theorem rc_app (hb : b < J.length) (ha : a < J.length) : rc su (J ++ ds) b a ↔ rc su J b a := by
  unfold rc
  rw [List.getElem?_append_left hb, List.getElem?_append_left ha, bf_app hb]
theorem rn_app (hb : b < J.length) : a ≤ J.length → rn su (J ++ ds) b a = rn su J b a := by
  induction a with
  | zero => exact fun _ => rfl
  | succ a ih =>
    intro h
    by_cases c : rc su J b a
    · rw [rn_y c, rn_y ((rc_app hb (by omega)).mpr c), ih (by omega)]
    · rw [rn_n c, rn_n (fun z => c ((rc_app hb (by omega)).mp z)), ih (by omega)]
theorem ru_app : b ≤ J.length → ru su (J ++ ds) b = ru su J b := by
  induction b with
  | zero => exact fun _ => rfl
  | succ b ih =>
    intro h
    rw [ru_s, ru_s, ih (by omega), rn_app (by omega) (by omega)]
theorem rP_un (h : rP su J i b a) (g : rP su J i b' a') : b = b' ∧ a = a' := by
  obtain ⟨h1, h2, h3, h4⟩ := h
  obtain ⟨g1, g2, g3, g4⟩ := g
  have key : ∀ {b a b' a' : Nat}, a < b → rc su J b a → ru su J b + rn su J b a = i → ru su J b' + rn su J b' a' = i → ¬ b < b' := by
    intro b a b' a' k1 k2 k3 k4 lt
    have e1 := ru_up (su := su) (J := J) (b := b + 1) (b' := b') (by omega)
    have e2 := rn_up (su := su) (J := J) (b := b) (a := a + 1) (a' := b) (by omega)
    rw [ru_s] at e1
    rw [rn_y k2] at e2
    omega
  have k1 := key h1 h3 h4 g4
  have k2 := key g1 g3 g4 h4
  have eb : b = b' := by omega
  subst eb
  refine ⟨rfl, ?_⟩
  have ka : ∀ {a a' : Nat}, rc su J b a → ru su J b + rn su J b a = i → ru su J b + rn su J b a' = i → ¬ a < a' := by
    intro a a' k2 k3 k4 lt
    have e2 := rn_up (su := su) (J := J) (b := b) (a := a + 1) (a' := a') (by omega)
    rw [rn_y k2] at e2
    omega
  have q1 := ka h3 h4 g4
  have q2 := ka g3 g4 h4
  omega
/-- a row of races of one act goes on -/
theorem rn_in (h : n < rn su J b a) : ∃ k, k < a ∧ rc su J b k ∧ rn su J b k = n := by
  induction a with
  | zero => exact absurd h (Nat.not_lt_zero _)
  | succ a ih =>
    by_cases c : rc su J b a
    · rw [rn_y c] at h
      by_cases e : n = rn su J b a
      · exact ⟨a, by omega, c, e.symm⟩
      · obtain ⟨k, k1, k2, k3⟩ := ih (by omega)
        exact ⟨k, by omega, k2, k3⟩
    · rw [rn_n c] at h
      obtain ⟨k, k1, k2, k3⟩ := ih h
      exact ⟨k, by omega, k2, k3⟩
end PRC
end
section
/-! the model: which acts are sooner, by their bits -/
def bL (v : Int64) (i : Nat) : Bool := v.toBitVec.getLsbD i
def bS (x : gd) (b a : Nat) : Bool := bL (x.2 105 (7 * b + a / 64)) (a % 64)
theorem sL_get {x : gd} {c k j : Nat} {v : Int64} : (sL x c k v).2 c j = if j = k then v else x.2 c j := by rw [sL_c]; rfl
theorem bL_0 (i : Nat) : bL 0 i = false := by
  unfold bL
  have e : (0 : Int64).toBitVec = 0#64 := rfl
  rw [e, BitVec.getLsbD_zero]
theorem bL_or (a b : Int64) (i : Nat) : bL (a ||| b) i = (bL a i || bL b i) := by
  unfold bL
  rw [Int64.toBitVec_or, BitVec.getLsbD_or]
theorem sh64 : ∀ c : Fin 64, (((Int32.ofNat c.val).toInt64 &&& 63 : Int64).toBitVec.smod 64).toNat = c.val := by decide +kernel
theorem bc64 : ∀ c : Fin 64, ∀ i : Fin 64, ((1 : Int64) <<< ((Int32.ofNat c.val).toInt64 &&& 63 : Int64)).toBitVec.getLsbD i.val = decide (i.val = c.val) := by decide +kernel
theorem bL_1 {c i : Nat} (hc : c < 64) (hi : i < 64) : bL ((1 : Int64) <<< ((Int32.ofNat c).toInt64 &&& 63 : Int64)) i = decide (i = c) := bc64 ⟨c, hc⟩ ⟨i, hi⟩
theorem one64 : ∀ i : Fin 64, (1 : Int64).toBitVec.getLsbD i.val = decide (i.val = 0) := by decide +kernel
theorem lg_eq {a b : Int64} : lg_cmp a b = 0 ↔ a = b := by
  unfold lg_cmp
  by_cases c1 : a > b
  · rw [if_pos c1]
    exact ⟨fun z => absurd z (by decide), fun z => by rw [z, gt_iff_lt, Int64.lt_iff_toInt_lt] at c1; omega⟩
  · rw [if_neg c1]
    by_cases c2 : a = b
    · rw [if_pos c2]; exact ⟨fun _ => c2, fun _ => rfl⟩
    · rw [if_neg c2]; exact ⟨fun z => absurd z (by decide), fun z => absurd z c2⟩
theorem and1 {u : Int64} : u &&& 1 = 1 ↔ bL u 0 = true := by
  constructor
  · intro h
    have h2 : ((u &&& 1).toBitVec).getLsbD 0 = true := by rw [h]; rfl
    rw [Int64.toBitVec_and, BitVec.getLsbD_and] at h2
    exact (Bool.and_eq_true _ _ ▸ h2).1
  · intro h
    apply Int64.toBitVec_inj.mp
    apply BitVec.eq_of_getLsbD_eq
    intro i hi
    rw [Int64.toBitVec_and, BitVec.getLsbD_and, one64 ⟨i, hi⟩]
    show (u.toBitVec.getLsbD i && decide (i = 0)) = decide (i = 0)
    by_cases c : i = 0
    · rw [c, decide_eq_true rfl, Bool.and_true]; exact h
    · rw [decide_eq_false c, Bool.and_false]
/-- one bit looked at -/
theorem bL_is {v : Int64} {k : Nat} (hk : k < 64) : lg_cmp ((v >>> ((Int32.ofNat k).toInt64 &&& 63 : Int64)) &&& 1) 1 = 0 ↔ bL v k = true := by
  rw [lg_eq, and1]
  have h4 : (v >>> ((Int32.ofNat k).toInt64 &&& 63 : Int64)).toBitVec = v.toBitVec.sshiftRight (((Int32.ofNat k).toInt64 &&& 63 : Int64).toBitVec.smod 64).toNat := rfl
  unfold bL
  rw [h4, sh64 ⟨k, hk⟩, BitVec.getLsbD_sshiftRight]
  show (decide (64 ≤ 0) == false && _) = true ↔ _
  simp [hk]
theorem i64 {a : Int32} {A : Nat} (ea : a.toInt = (A : Nat)) (hA : A < 448) : (a / 64).toInt = ((A / 64 : Nat) : Int) ∧ a - a / 64 * 64 = Int32.ofNat (A % 64) := by
  have k : (64 : Int32).toInt = 64 := rfl
  have e : (a / 64).toInt = ((A / 64 : Nat) : Int) := by
    rw [Int32.toInt_div, k, Int.tdiv_eq_ediv_of_nonneg (by omega), ea]
    exact Int.bmod_eq_of_le (by omega) (by omega)
  refine ⟨e, i32_of ?_⟩
  have m : (a / 64 * 64).toInt = (A / 64 : Nat) * 64 := by rw [t_mul (by rw [k]; omega) (by rw [k]; omega), k, e]
  rw [t_sub (by omega) (by omega), m, ea]
  omega
theorem i7 {b i : Int32} {B I : Nat} (eb : b.toInt = (B : Nat)) (ei : i.toInt = (I : Nat)) (hB : B < 400) (hI : I < 7) : (7 * b + i).toNatClampNeg = 7 * B + I := by
  have k7 : (7 : Int32).toInt = 7 := rfl
  have m : (7 * b).toInt = 7 * B := by rw [t_mul (by rw [k7]; omega) (by rw [k7]; omega), k7, eb]
  rw [t_cl, t_add (by omega) (by omega), m, ei]
  omega
/-- the rows of the others stay -/
def oth (x y : gd) (B : Nat) : Prop := ∀ j, ¬ (7 * B ≤ j ∧ j < 7 * B + 7) → y.2 105 j = x.2 105 j
section MOR
variable {G : mG} {d : Nat} {x y z : gd} {F : Int32 → gd → Prop} {Fv : gd → Prop}
theorem oth_tr {B : Nat} (a : oth x y B) (b : oth y z B) : oth x z B := fun j hj => (b j hj).trans (a j hj)
theorem oth_bS {B b a : Nat} (h : oth x y B) (hb : ¬ b = B) (ha : a < 448) : bS y b a = bS x b a := by
  unfold bS
  rw [h _ (by omega)]
theorem sp_isSooner9 (a b : Int32) {A B : Nat} (ea : a.toInt = (A : Nat)) (eb : b.toInt = (B : Nat)) (hA : A < 400) (hB : B < 400) (h0 : ¬ bS x B A = true → F 0 x) (h1 : bS x B A = true → F 1 x) : MT G d z_isSooner 0 [(0, vr 0), (1, vi a), (2, vi b)] [] x (ri F) := by
  obtain ⟨e1, e2⟩ := i64 ea (by omega)
  have ix := i7 eb e1 hB (by omega)
  have av : vp_in a 400 := by rw [vp_in_iff]; omega
  have bv : vp_in b 400 := by rw [vp_in_iff]; omega
  have bit := bL_is (v := x.2 105 (7 * B + A / 64)) (k := A % 64) (by omega)
  refine sg_isSooner_0 _ _ ⟨by decide, t7 bv (t64 av).1 (t64 av).2, by decide, ?_⟩
  rw [ix, e2]
  exact ⟨fun c => ri_i (h0 (fun z => c (bit.mpr z))), fun c => ri_i (h1 (bit.mp c))⟩
theorem sp_after9 (b a : Int32) {A B : Nat} (ea : a.toInt = (A : Nat)) (eb : b.toInt = (B : Nat)) (hA : A < 400) (hB : B < 400) (ne : ¬ A = B) (h : ∀ y : gd, y.1 = x.1 → oth x y B → (∀ k, k < 448 → (bS y B k = true ↔ (bS x B k = true ∨ k = A ∨ bS x A k = true))) → Fv y) : MT G d z_after 0 [(0, vr 0), (1, vi b), (2, vi a)] [] x (rv Fv) := by
  have k1 : (1 : Int32).toInt = 1 := rfl
  have k7 : (7 : Int32).toInt = 7 := rfl
  have av : vp_in a 400 := by rw [vp_in_iff]; omega
  have bv : vp_in b 400 := by rw [vp_in_iff]; omega
  obtain ⟨q0, q1⟩ := t64 av
  obtain ⟨e1, e2⟩ := i64 ea (by omega)
  have ix := i7 eb e1 hB (by omega)
  refine sg_after_0 _ _ ⟨fun c => ?_, fun c => absurd c (fun z => by rw [z, tm1] at ea; omega)⟩
  have loop : ∀ (n I : Nat) (y : gd) (i : Int32), y.1 = x.1 → i.toInt = (I : Nat) → I ≤ 7 → 7 - I ≤ n → (∀ j, y.2 105 j = if 7 * B ≤ j ∧ j < 7 * B + I then x.2 105 j ||| x.2 105 (7 * A + (j - 7 * B)) else x.2 105 j) → MT G d z_after 8 [(0, vr 0), (1, vi b), (2, vi a), (3, vi i)] [] y (rv Fv) := by
    have last : ∀ y : gd, y.1 = x.1 → (∀ j, y.2 105 j = if 7 * B ≤ j ∧ j < 7 * B + 7 then x.2 105 j ||| x.2 105 (7 * A + (j - 7 * B)) else x.2 105 j) → ¬ (64 : Int32) = 0 ∧ ¬ (64 : Int32) = 0 ∧ vp_in ((7 * b) + (a / 64)) 2800 ∧ ¬ (64 : Int32) = 0 ∧ vp_in ((7 * b) + (a / 64)) 2800 ∧ (∀ x7 : gd, x7 = sL y 105 ((7 * b) + (a / 64) : Int32).toNatClampNeg ((y.2 105 ((7 * b) + (a / 64) : Int32).toNatClampNeg) ||| (1 <<< ((a - a / 64 * 64 : Int32).toInt64 &&& 63 : Int64))) → rv Fv none x7) := by
      intro y ey hy
      refine ⟨by decide, by decide, t7 bv q0 q1, by decide, t7 bv q0 q1, fun z ez => rv_i (h z (by rw [ez]; exact ey) (fun j hj => ?_) (fun k hk => ?_))⟩
      · rw [ez, ix, sL_get, if_neg (by omega), hy j, if_neg hj]
      · have w : y.2 105 (7 * B + k / 64) = x.2 105 (7 * B + k / 64) ||| x.2 105 (7 * A + k / 64) := by
          rw [hy, if_pos (by omega)]
          have : 7 * B + k / 64 - 7 * B = k / 64 := by omega
          rw [this]
        have wz : z.2 105 (7 * B + k / 64) = if k / 64 = A / 64 then (x.2 105 (7 * B + k / 64) ||| x.2 105 (7 * A + k / 64)) ||| (1 <<< ((Int32.ofNat (A % 64)).toInt64 &&& 63 : Int64)) else x.2 105 (7 * B + k / 64) ||| x.2 105 (7 * A + k / 64) := by
          rw [ez, ix, e2, sL_get]
          by_cases cc : k / 64 = A / 64
          · rw [if_pos (by omega), if_pos cc, ← cc, w]
          · rw [if_neg (by omega), if_neg cc, w]
        unfold bS
        rw [wz]
        by_cases cc : k / 64 = A / 64
        · rw [if_pos cc, bL_or, bL_or, bL_1 (by omega) (by omega), Bool.or_eq_true, Bool.or_eq_true, decide_eq_true_iff]
          constructor
          · rintro ((z | z) | z)
            · exact Or.inl z
            · exact Or.inr (Or.inr z)
            · exact Or.inr (Or.inl (by omega))
          · rintro (z | z | z)
            · exact Or.inl (Or.inl z)
            · exact Or.inr (by rw [z])
            · exact Or.inl (Or.inr z)
        · rw [if_neg cc, bL_or, Bool.or_eq_true]
          constructor
          · rintro (z | z)
            · exact Or.inl z
            · exact Or.inr (Or.inr z)
          · rintro (z | z | z)
            · exact Or.inl z
            · exact absurd (by rw [z]) cc
            · exact Or.inr z
    intro n
    induction n with
    | zero =>
      intro I y i ey ei hI hn hy
      have : I = 7 := by omega
      rw [this] at hy
      exact sg_after_8 _ _ _ ⟨fun _ => last y ey hy, fun c => absurd (t_le.mpr (by rw [k7]; omega)) c⟩
    | succ n ih =>
      intro I y i ey ei hI hn hy
      refine sg_after_8 _ _ _ ⟨fun c => ?_, fun c => ?_⟩
      · rw [t_le, k7] at c
        have : I = 7 := by omega
        rw [this] at hy
        exact last y ey hy
      rw [t_le, k7] at c
      have i1 : (i + 1).toInt = ((I + 1 : Nat) : Int) := by rw [t_add (by omega) (by omega), k1, ei]; rfl
      have j1 := i7 eb ei hB (by omega)
      have j2 := i7 ea ei hA (by omega)
      refine ⟨t7 bv (by omega) (by omega), t7 av (by omega) (by omega), t7 bv (by omega) (by omega), fun z ez => ih (I + 1) z (i + 1) (by rw [ez]; exact ey) i1 (by omega) (by omega) (fun j => ?_)⟩
      rw [ez, j1, j2, sL_get]
      by_cases cj : j = 7 * B + I
      · rw [if_pos cj, if_pos (by omega), cj, hy, hy, if_neg (by omega), if_neg (by omega)]
        have : 7 * A + (7 * B + I - 7 * B) = 7 * A + I := by omega
        rw [this]
      · rw [if_neg cj, hy]
        by_cases cc : 7 * B ≤ j ∧ j < 7 * B + I
        · rw [if_pos cc, if_pos (by omega)]
        · rw [if_neg cc, if_neg (by omega)]
  exact loop 7 0 x 0 rfl rfl (by omega) (by omega) (fun j => by rw [if_neg (by omega)])
end MOR
/-! what the model takes as straight reasons -/
/-- the last act of a sort -/
def lsQ (J : List gDe) (Q : gDe → Prop) (l : Nat) : Prop := ∃ el, J[l]? = some el ∧ Q el ∧ ∀ (a : Nat) (e : gDe), l < a → J[a]? = some e → ¬ Q e
/-- what an act takes over, wakes aside -/
def qT0 (su : Int32 → Bool) (b a : gDe) : Prop := (b.2.1 = 10 ∧ qTh b.2.2.1 a) ∨ ((b.2.1 = 5 ∨ b.2.1 = 15) ∧ qLk b.2.2.1 a) ∨ ((b.2.1 = 0 ∨ (2 ≤ b.2.1 ∧ b.2.1 ≤ 4)) ∧ qCe su b.2.2.1 a)
section PMO
variable {su : Int32 → Bool} {J : List gDe} {a : Nat} {e : gDe}
theorem qTo_0 {x : gDe} : qTo su e x ↔ qT0 su e x ∨ (e.2.1 = 15 ∧ qWk e.1 x) := by
  unfold qTo qT0
  constructor
  · rintro (z | z | z | z)
    · exact Or.inl (Or.inl z)
    · exact Or.inl (Or.inr (Or.inl z))
    · exact Or.inr z
    · exact Or.inl (Or.inr (Or.inr z))
  · rintro ((z | z | z) | z)
    · exact Or.inl z
    · exact Or.inr (Or.inl z)
    · exact Or.inr (Or.inr (Or.inr z))
    · exact Or.inr (Or.inr (Or.inl z))
theorem bf_mo (hw : ∀ (k : Nat) (ek : gDe), J[k]? = some ek → qWk e.1 ek → (∀ (a' : Nat) (e' : gDe), k < a' → J[a']? = some e' → ¬ qWk e.1 e') ∨ ∃ r er, k < r ∧ J[r]? = some er ∧ er.1 = e.1 ∧ er.2.1 = 15 ∧ er.2.2.2.2.2.1 = false) : bf su (J ++ [e]) J.length a ↔ (bfQ su J (fun x => x.1 = e.1) a ∨ bfQ su J (qSt (Int32.ofNat e.1)) a) ∨ (e.2.2.2.2.2.1 = false ∧ (bfQ su J (qT0 su e) a ∨ (e.2.1 = 15 ∧ ∃ l, lsQ J (qWk e.1) l ∧ (a = l ∨ bf su J l a)))) := by
  rw [bf_new]
  unfold dpd
  rw [bfQ_or, bfQ_or]
  constructor
  · rintro (h | h | h)
    · exact Or.inl (Or.inl h)
    · exact Or.inl (Or.inr h)
    · obtain ⟨c, ec, g1, ⟨g0, g2⟩, g3⟩ := h
      rcases qTo_0.mp g2 with z | ⟨z1, z2⟩
      · exact Or.inr ⟨g0, Or.inl ⟨c, ec, g1, z, g3⟩⟩
      · rcases hw c ec g1 z2 with v | ⟨r, er, v1, v2, v3, v4, v5⟩
        · exact Or.inr ⟨g0, Or.inr ⟨z1, c, ⟨ec, g1, z2, v⟩, g3⟩⟩
        · have p : bf su J r c := bf_o ⟨v1, er, ec, v2, g1, Or.inr (Or.inr ⟨v5, qTo_0.mpr (Or.inr ⟨v4, by rw [v3]; exact z2⟩)⟩)⟩
          refine Or.inl (Or.inl ⟨r, er, v2, v3, Or.inr ?_⟩)
          rcases g3 with g3 | g3
          · rw [g3]; exact p
          · exact bf_tr p g3
  · rintro ((h | h) | ⟨g0, ⟨c, ec, g1, g2, g3⟩ | ⟨z1, l, ⟨el, g1, g2, -⟩, g3⟩⟩)
    · exact Or.inl h
    · exact Or.inr (Or.inl h)
    · exact Or.inr (Or.inr ⟨c, ec, g1, ⟨g0, qTo_0.mpr (Or.inl g2)⟩, g3⟩)
    · exact Or.inr (Or.inr ⟨l, el, g1, ⟨g0, qTo_0.mpr (Or.inr ⟨z1, g2⟩)⟩, g3⟩)
theorem lsQ_one {Q : gDe → Prop} {l : Nat} (h : lsQ J Q l) (hu : ∀ (k : Nat) (ek : gDe), J[k]? = some ek → Q ek → k = l) : bfQ su J Q a ↔ (a = l ∨ bf su J l a) := by
  obtain ⟨el, h1, h2, -⟩ := h
  constructor
  · rintro ⟨c, ec, g1, g2, g3⟩
    rw [hu c ec g1 g2] at g3
    exact g3
  · exact fun g => ⟨l, el, h1, h2, g⟩
end PMO
section MO9
variable {G : mG} {d : Nat} {x : gd} {Fv : gd → Prop} {su : Int32 → Bool} {J : List gDe} {e : gDe}
/-- the row n of x, changed alone, tells of the acts in S -/
def SB (x : gd) (n : Nat) (y : gd) (S : Nat → Prop) : Prop := y.1 = x.1 ∧ oth x y n ∧ ∀ a, a < 448 → (bS y n a = true ↔ S a)
theorem SB_cg {n : Nat} {y : gd} {S T : Nat → Prop} (h : SB x n y S) (hS : ∀ a, S a ↔ T a) : SB x n y T := ⟨h.1, h.2.1, fun a ha => (h.2.2 a ha).trans (hS a)⟩
theorem sp_order9 (b : Int32) (eb : b.toInt = (J.length : Nat)) (h4 : J.length < 400) (rows : ∀ (k : Nat) (ek : gDe), (J ++ [e])[k]? = some ek → x.1 98 k = Int32.ofNat ek.1 ∧ x.1 99 k = Int32.ofNat ek.2.1 ∧ x.1 100 k = ek.2.2.1 ∧ x.1 103 k = if ek.2.2.2.2.2.1 = true then 1 else 0) (rng : ∀ (k : Nat) (ek : gDe), (J ++ [e])[k]? = some ek → ek.1 < 6 ∧ ek.2.1 < 22) (hA : aA x J.length) {nc : Nat} (hob : e.2.1 ≤ 4 → e.2.2.2.2.2.1 = false → e.2.2.1.toNatClampNeg < nc) (hs : ∀ o : Nat, o < nc → (¬ x.1 37 o = 0 ↔ su (Int32.ofNat o) = true)) (hc : ∀ (k : Nat) (ek : gDe), J[k]? = some ek → ∀ a, a < 448 → (bS x k a = true ↔ bf su J k a))
    (h106 : (x.1 106 e.1 = -1 ∧ ∀ (k : Nat) (ek : gDe), J[k]? = some ek → ¬ qSt (Int32.ofNat e.1) ek) ∨ ∃ l : Nat, (x.1 106 e.1).toInt = l ∧ lsQ J (qSt (Int32.ofNat e.1)) l) (u106 : ∀ (s : Nat) (es : gDe) (k : Nat) (ek : gDe), J[s]? = some es → qSt (Int32.ofNat e.1) es → J[k]? = some ek → qSt (Int32.ofNat e.1) ek → k = s) (h107 : (x.1 107 e.1 = -1 ∧ ∀ (k : Nat) (ek : gDe), J[k]? = some ek → ¬ qWk e.1 ek) ∨ ∃ l : Nat, (x.1 107 e.1).toInt = l ∧ lsQ J (qWk e.1) l)
    (hw : ∀ (k : Nat) (ek : gDe), J[k]? = some ek → qWk e.1 ek → (∀ (a' : Nat) (e' : gDe), k < a' → J[a']? = some e' → ¬ qWk e.1 e') ∨ ∃ r er, k < r ∧ J[r]? = some er ∧ er.1 = e.1 ∧ er.2.1 = 15 ∧ er.2.2.2.2.2.1 = false)
    (h : ∀ y : gd, SB x J.length y (fun a => bf su (J ++ [e]) J.length a) → Fv y) : MT G (d + 1) z_order 0 [(0, vr 0), (1, vi b)] [] x (rv Fv) := by
  have k0 : (0 : Int32).toInt = 0 := rfl
  have k1 : (1 : Int32).toInt = 1 := rfl
  have k7 : (7 : Int32).toInt = 7 := rfl
  have hb : vp_in b 400 := by rw [vp_in_iff]; omega
  have cb : b.toNatClampNeg = J.length := by rw [t_cl, eb]; rfl
  obtain ⟨r98, r99, r100, r103⟩ := rows J.length e gt_sn
  obtain ⟨e6, e22⟩ := rng J.length e gt_sn
  obtain ⟨t, et⟩ : ∃ t, t = x.1 98 J.length := ⟨_, rfl⟩
  obtain ⟨s, es⟩ : ∃ s, s = x.1 99 J.length := ⟨_, rfl⟩
  have ti : t.toInt = (e.1 : Nat) := by rw [et, r98]; exact Int32.toInt_ofNat_of_lt (by omega)
  have tv : vp_in t 6 := by rw [vp_in_iff]; omega
  have ct : t.toNatClampNeg = e.1 := by rw [t_cl, ti]; rfl
  have si9 : ∀ n : Nat, n < 1000 → (s = Int32.ofNat n ↔ e.2.1 = n) := fun n hn => by rw [es, r99]; exact of_inj (by omega) hn
  have sT : s.toInt = (e.2.1 : Nat) := by rw [es, r99]; exact Int32.toInt_ofNat_of_lt (by omega)
  -- an act's own set comes to it
  have aft : ∀ (y : gd) (S : Nat → Prop) (c : Int32) (C : Nat) (ec : gDe) (Fy : gd → Prop), SB x J.length y S → c.toInt = (C : Nat) → J[C]? = some ec → (∀ z, SB x J.length z (fun a => S a ∨ (a = C ∨ bf su J C a)) → Fy z) → MT G d z_after 0 [(0, vr 0), (1, vi b), (2, vi c)] [] y (rv Fy) := by
    intro y S c C ec Fy hy hcC hg hF
    have hl := gt_lt hg
    refine sp_after9 b c hcC eb (by omega) h4 (by omega) (fun z ez oz bz => hF z ⟨by rw [ez]; exact hy.1, oth_tr hy.2.1 oz, fun a ha => ?_⟩)
    rw [bz a ha, hy.2.2 a ha, oth_bS hy.2.1 (by omega) ha, hc C ec hg a ha]
  -- an act, or none
  have aft1 : ∀ (y : gd) (S : Nat → Prop) (v : Int32) (Q : gDe → Prop) (Fy : gd → Prop), SB x J.length y S → ((v = -1 ∧ ∀ (k : Nat) (ek : gDe), J[k]? = some ek → ¬ Q ek) ∨ ∃ l : Nat, v.toInt = l ∧ lsQ J Q l) → (∀ z, SB x J.length z (fun a => S a ∨ ∃ l, lsQ J Q l ∧ (a = l ∨ bf su J l a)) → Fy z) → MT G d z_after 0 [(0, vr 0), (1, vi b), (2, vi v)] [] y (rv Fy) := by
    intro y S v Q Fy hy hv hF
    rcases hv with ⟨v1, v2⟩ | ⟨l, v1, v2⟩
    · refine sg_after_0 _ _ ⟨fun c => absurd v1 c, fun _ => rv_i (hF y (SB_cg hy (fun a => ⟨Or.inl, fun z => z.resolve_right ?_⟩)))⟩
      rintro ⟨l, ⟨el, g1, g2, -⟩, -⟩
      exact v2 l el g1 g2
    · obtain ⟨el, g1, g2, g3⟩ := id v2
      refine aft y S v l el Fy hy v1 g1 (fun z hz => hF z (SB_cg hz (fun a => ⟨fun q => q.imp id (fun q => ⟨l, v2, q⟩), fun q => q.imp id ?_⟩)))
      rintro ⟨l', ⟨el', k1, k2, k3⟩, k4⟩
      have : l' = l := by
        apply Classical.byContradiction
        intro z
        by_cases lt : l < l'
        · exact g3 l' el' lt k1 k2
        · exact k3 l el (by omega) g1 g2
      rw [this] at k4
      exact k4
  have p109 : e.2.2.2.2.2.1 = false → ∀ (n I : Nat) (y : gd) (i : Int32), i.toInt = (I : Nat) → J.length - I ≤ n → I ≤ J.length → SB x J.length y (fun a => (bfQ su J (fun x => x.1 = e.1) a ∨ bfQ su J (qSt (Int32.ofNat e.1)) a) ∨ ∃ c ec, c < I ∧ J[c]? = some ec ∧ qT0 su e ec ∧ (a = c ∨ bf su J c a)) → MT G (d + 1) z_order 109 [(0, vr 0), (1, vi b), (2, vi t), (3, vi s), (5, vi i)] [] y (rv Fv) := by
    intro nf
    have nf9 : x.1 103 J.length = 0 := by rw [r103, nf]; rfl
    have last : ∀ y : gd, SB x J.length y (fun a => (bfQ su J (fun x => x.1 = e.1) a ∨ bfQ su J (qSt (Int32.ofNat e.1)) a) ∨ ∃ c ec, c < J.length ∧ J[c]? = some ec ∧ qT0 su e ec ∧ (a = c ∨ bf su J c a)) → ((¬ (s = (15 : Int32)) → rv Fv none y) ∧ (s = (15 : Int32) → vp_in t 6 ∧ MT G d z_after 0 [(0, vr 0), (1, vi b), (2, vi (y.1 107 t.toNatClampNeg))] [] y (rv (fun x4 => rv Fv none x4)))) := by
      intro y hy
      have all : ∀ a, (∃ c ec, c < J.length ∧ J[c]? = some ec ∧ qT0 su e ec ∧ (a = c ∨ bf su J c a)) ↔ bfQ su J (qT0 su e) a := fun a => ⟨fun ⟨c, ec, _, g1, g2, g3⟩ => ⟨c, ec, g1, g2, g3⟩, fun ⟨c, ec, g1, g2, g3⟩ => ⟨c, ec, gt_lt g1, g1, g2, g3⟩⟩
      refine ⟨fun c => rv_i (h y (SB_cg hy (fun a => ?_))), fun c => ⟨tv, ?_⟩⟩
      · rw [bf_mo hw, all a]
        have n15 : ¬ e.2.1 = 15 := fun z => c ((si9 15 (by omega)).mpr z)
        exact ⟨fun q => q.imp id (fun q => ⟨nf, Or.inl q⟩), fun q => q.imp id (fun q => q.2.resolve_right (fun z => n15 z.1))⟩
      · have e15 : e.2.1 = 15 := (si9 15 (by omega)).mp c
        rw [ct, hy.1]
        refine aft1 y _ _ (qWk e.1) _ hy h107 (fun z hz => rv_i (h z (SB_cg hz (fun a => ?_))))
        rw [bf_mo hw, all a]
        constructor
        · rintro ((q | q) | q)
          · exact Or.inl q
          · exact Or.inr ⟨nf, Or.inl q⟩
          · exact Or.inr ⟨nf, Or.inr ⟨e15, q⟩⟩
        · rintro (q | ⟨-, q | ⟨-, q⟩⟩)
          · exact Or.inl (Or.inl q)
          · exact Or.inl (Or.inr q)
          · exact Or.inr q
    intro n
    induction n with
    | zero =>
      intro I y i ei hn hI hy
      have : I = J.length := by omega
      rw [this] at hy
      exact sg_order_109 _ _ _ _ ⟨fun _ => last y hy, fun c => absurd (t_le.mpr (by omega)) c⟩
    | succ n ih =>
      intro I y i ei hn hI hy
      refine sg_order_109 _ _ _ _ ⟨fun c => ?_, fun c => ?_⟩
      · rw [t_le] at c
        have : I = J.length := by omega
        rw [this] at hy
        exact last y hy
      rw [t_le] at c
      have iv : vp_in i 400 := by rw [vp_in_iff]; omega
      have ci : i.toNatClampNeg = I := by rw [t_cl, ei]; rfl
      have i1 : (i + 1).toInt = ((I + 1 : Nat) : Int) := by rw [t_add (by omega) (by omega), k1, ei]; rfl
      obtain ⟨ec, hg⟩ : ∃ ec, J[I]? = some ec := ⟨_, List.getElem?_eq_getElem (by omega)⟩
      obtain ⟨c98, c99, c100, c103⟩ := rows I ec (gt_ls hg)
      obtain ⟨c6, c22⟩ := rng I ec (gt_ls hg)
      have oi9 : ∀ n : Nat, n < 1000 → (x.1 99 I = Int32.ofNat n ↔ ec.2.1 = n) := fun n hn => by rw [c99]; exact of_inj (by omega) hn
      have oT : (x.1 99 I).toInt = (ec.2.1 : Nat) := by rw [c99]; exact Int32.toInt_ofNat_of_lt (by omega)
      have F9 : x.1 103 I = 0 ↔ ec.2.2.2.2.2.1 = false := by
        rw [c103]
        by_cases cf : ec.2.2.2.2.2.1 = true
        · rw [if_pos cf, cf]; exact ⟨fun z => absurd z (by decide), fun z => nomatch z⟩
        · rw [if_neg cf]; exact ⟨fun _ => Bool.eq_false_iff.mpr cf, fun _ => rfl⟩
      have p285 : ∀ v : Int32, (v = 0 → ¬ qT0 su e ec) → (¬ v = 0 → qT0 su e ec) → MT G (d + 1) z_order 285 [(0, vr 0), (1, vi b), (2, vi t), (3, vi s), (5, vi i), (7, vi v)] [] y (rv Fv) := by
        intro v hv0 hv1
        refine sg_order_285 _ _ _ _ _ ⟨fun c0 => ih (I + 1) y (i + 1) i1 (by omega) (by omega) (SB_cg hy (fun a => ?_)), fun c0 => aft y _ i I ec _ hy ei hg (fun z hz => ih (I + 1) z (i + 1) i1 (by omega) (by omega) (SB_cg hz (fun a => ?_)))⟩
        · refine ⟨fun q => q.imp id (fun ⟨c, ec', g0, g1⟩ => ⟨c, ec', by omega, g1⟩), fun q => q.imp id (fun ⟨c, ec', g0, g1, g2, g3⟩ => ?_)⟩
          by_cases cc : c = I
          · rw [cc, hg] at g1
            cases g1
            exact absurd g2 (hv0 c0)
          · exact ⟨c, ec', by omega, g1, g2, g3⟩
        · constructor
          · rintro ((q | ⟨c, ec', g0, g1⟩) | q)
            · exact Or.inl q
            · exact Or.inr ⟨c, ec', by omega, g1⟩
            · exact Or.inr ⟨I, ec, by omega, hg, hv1 c0, q⟩
          · rintro (q | ⟨c, ec', g0, g1, g2, g3⟩)
            · exact Or.inl (Or.inl q)
            · by_cases cc : c = I
              · rw [cc] at g3; exact Or.inr g3
              · exact Or.inl (Or.inr ⟨c, ec', by omega, g1, g2, g3⟩)
      -- the end of the conditions: a sure cell
      have p214 : ec.2.2.2.2.2.1 = false → ∀ v : Int32, (¬ v = 0 → qT0 su e ec) → (v = 0 → ¬ (e.2.1 = 10 ∧ qTh e.2.2.1 ec) ∧ ¬ ((e.2.1 = 5 ∨ e.2.1 = 15) ∧ qLk e.2.2.1 ec)) → MT G (d + 1) z_order 214 [(0, vr 0), (1, vi b), (2, vi t), (3, vi s), (5, vi i), (6, vi (x.1 99 I))] [vi v] y (rv Fv) := by
        intro fc v hv1 hv0
        have no : v = 0 → ¬ ((e.2.1 = 0 ∨ (2 ≤ e.2.1 ∧ e.2.1 ≤ 4)) ∧ qCe su e.2.2.1 ec) → MT G (d + 1) z_order 285 [(0, vr 0), (1, vi b), (2, vi t), (3, vi s), (5, vi i), (7, vi 0)] [] y (rv Fv) := fun z0 hn => p285 0 (fun _ q => by
          rcases q with q | q | q
          · exact (hv0 z0).1 q
          · exact (hv0 z0).2 q
          · exact hn q) (fun z => absurd rfl z)
        refine sg_order_214 _ _ _ _ _ _ ⟨fun c0 => p285 1 (fun z => absurd z (by decide)) (fun _ => hv1 c0), fun c0 => sp_isAccess _ (fun ns => ⟨fun _ => no c0 (fun q => ?_), fun q => absurd rfl q⟩) (fun sa => ⟨fun z => absurd z (by decide), fun _ => ⟨fun c1 => no c0 (fun q => ?_), fun c1 => sp_isAccess _ (fun no9 => ⟨fun _ => no c0 (fun q => ?_), fun q => absurd rfl q⟩) (fun oa => ⟨fun z => absurd z (by decide), fun _ => ⟨fun c2 => no c0 (fun q => ?_), fun c2 => ⟨iv, hb, ?_⟩⟩⟩)⟩⟩)⟩
        · have := q.1; omega
        · have := (si9 1 (by omega)).mp c1; have := q.1; omega
        · have := q.2.2.1; omega
        · have := (oi9 0 (by omega)).mp c2; have := q.2.2.1; omega
        · have n1 : ¬ e.2.1 = 1 := fun z => c1 ((si9 1 (by omega)).mpr z)
          have n0 : ¬ ec.2.1 = 0 := fun z => c2 ((oi9 0 (by omega)).mpr z)
          have ob := hA.2.2 nf9 (by rw [← es]; exact sa)
          obtain ⟨O, O1⟩ : ∃ O : Nat, (x.1 100 J.length).toInt = (O : Nat) := ⟨(x.1 100 J.length).toInt.toNat, by omega⟩
          have cO : (x.1 100 J.length).toNatClampNeg = O := by rw [t_cl, O1]; rfl
          have eO : e.2.2.1 = Int32.ofNat O := by rw [← r100]; exact i32_of O1
          have onc : O < nc := by
            have := hob (by omega) nf
            rw [← r100, cO] at this
            exact this
          rw [hy.1, ci, cb, cO]
          refine ⟨fun c3 => no c0 (fun q => c3 ?_), fun c3 => ⟨hb, by rw [vp_in_iff]; omega, fun c4 => no c0 (fun q => ?_), fun c4 => p285 1 (fun z => absurd z (by decide)) (fun _ => Or.inr (Or.inr ⟨by omega, fc, by omega, ?_, ?_⟩))⟩⟩
          · rw [c100, r100]; exact q.2.2.2.1
          · have := q.2.2.2.2
            rw [eO] at this
            exact (hs O onc).mpr this c4
          · rw [← c100, ← r100]; exact c3
          · rw [eO]; exact (hs O onc).mp c4
      have p193 : ec.2.2.2.2.2.1 = false → (e.2.1 = 5 ∨ e.2.1 = 15) → (ec.2.1 = 6 ∨ ec.2.1 = 7) → ¬ (e.2.1 = 10 ∧ qTh e.2.2.1 ec) → MT G (d + 1) z_order 193 [(0, vr 0), (1, vi b), (2, vi t), (3, vi s), (5, vi i), (6, vi (x.1 99 I))] [] y (rv Fv) := by
        intro fc h5 h6 nj
        refine sg_order_193 _ _ _ _ _ ⟨iv, hb, ?_⟩
        rw [hy.1, ci, cb]
        refine ⟨fun c3 => p214 fc 0 (fun z => absurd rfl z) (fun _ => ⟨nj, fun q => c3 ?_⟩), fun c3 => p214 fc 1 (fun _ => Or.inr (Or.inl ⟨h5, fc, h6, ?_⟩)) (fun z => absurd z (by decide))⟩
        · rw [c100, r100]; exact q.2.2.2
        · rw [← c100, ← r100]; exact c3
      have p179 : ec.2.2.2.2.2.1 = false → (e.2.1 = 5 ∨ e.2.1 = 15) → ¬ (e.2.1 = 10 ∧ qTh e.2.2.1 ec) → MT G (d + 1) z_order 179 [(0, vr 0), (1, vi b), (2, vi t), (3, vi s), (5, vi i), (6, vi (x.1 99 I))] [] y (rv Fv) := fun fc h5 nj => sg_order_179 _ _ _ _ _ ⟨fun c6 => p193 fc h5 (Or.inl ((oi9 6 (by omega)).mp c6)) nj, fun n6 => ⟨fun n7 => p214 fc 0 (fun z => absurd rfl z) (fun _ => ⟨nj, fun q => q.2.2.1.elim (fun z => n6 ((oi9 6 (by omega)).mpr z)) (fun z => n7 ((oi9 7 (by omega)).mpr z))⟩), fun c7 => p193 fc h5 (Or.inr ((oi9 7 (by omega)).mp c7)) nj⟩⟩
      have p151 : ∀ v : Int32, (v = 0 → ¬ (e.2.1 = 10 ∧ qTh e.2.2.1 ec)) → (¬ v = 0 → e.2.1 = 10 ∧ qTh e.2.2.1 ec) → MT G (d + 1) z_order 151 [(0, vr 0), (1, vi b), (2, vi t), (3, vi s), (5, vi i), (6, vi (x.1 99 I))] [vi v] y (rv Fv) := by
        intro v hv0 hv1
        refine sg_order_151 _ _ _ _ _ _ ⟨iv, ?_⟩
        rw [hy.1, ci]
        refine ⟨fun cf => p285 v (fun z q => ?_) (fun z => Or.inl (hv1 z)), fun cf => ⟨fun nv => p214 (F9.mp cf) 1 (fun _ => Or.inl (hv1 nv)) (fun z => absurd z (by decide)), fun v0 => ⟨fun c5 => p179 (F9.mp cf) (Or.inl ((si9 5 (by omega)).mp c5)) (hv0 v0), fun n5 => ⟨fun n15 => p214 (F9.mp cf) 0 (fun z => absurd rfl z) (fun _ => ⟨hv0 v0, fun q => q.1.elim (fun z => n5 ((si9 5 (by omega)).mpr z)) (fun z => n15 ((si9 15 (by omega)).mpr z))⟩), fun c15 => p179 (F9.mp cf) (Or.inr ((si9 15 (by omega)).mp c15)) (hv0 v0)⟩⟩⟩⟩
        rcases q with q | q | q
        · exact hv0 z q
        · exact cf (F9.mpr q.2.1)
        · exact cf (F9.mpr q.2.1)
      refine ⟨iv, ?_⟩
      rw [hy.1, ci]
      refine ⟨fun n10 => p151 0 (fun _ q => n10 ((si9 10 (by omega)).mpr q.1)) (fun z => absurd rfl z), fun c10 => ⟨iv, hb, ?_⟩⟩
      rw [cb]
      have e10 := (si9 10 (by omega)).mp c10
      exact ⟨fun nt => p151 0 (fun _ q => nt (by rw [c98, r100]; exact q.2)) (fun z => absurd rfl z), fun ct9 => p151 1 (fun z => absurd z (by decide)) (fun _ => ⟨e10, by rw [c98, r100] at ct9; exact ct9⟩)⟩
  have p46 : ∀ (n I : Nat) (y : gd) (l i : Int32), i.toInt = (I : Nat) → J.length - I ≤ n → I ≤ J.length → SB x J.length y (fun _ => False) → ((l = -1 ∧ ∀ (k : Nat) (ek : gDe), k < I → J[k]? = some ek → ¬ ek.1 = e.1) ∨ ∃ L el, l.toInt = (L : Nat) ∧ L < I ∧ J[L]? = some el ∧ el.1 = e.1 ∧ ∀ (k : Nat) (ek : gDe), L < k → k < I → J[k]? = some ek → ¬ ek.1 = e.1) → MT G (d + 1) z_order 46 [(0, vr 0), (1, vi b), (2, vi t), (3, vi s), (4, vi l), (5, vi i)] [] y (rv Fv) := by
    have last : ∀ (y : gd) (l : Int32), SB x J.length y (fun _ => False) → ((l = -1 ∧ ∀ (k : Nat) (ek : gDe), J[k]? = some ek → ¬ ek.1 = e.1) ∨ ∃ L : Nat, l.toInt = L ∧ lsQ J (fun x => x.1 = e.1) L) → MT G d z_after 0 [(0, vr 0), (1, vi b), (2, vi l)] [] y (rv (fun x2 => vp_in t 6 ∧ MT G d z_after 0 [(0, vr 0), (1, vi b), (2, vi (x2.1 106 t.toNatClampNeg))] [] x2 (rv (fun x4 => vp_in b 400 ∧ (((x4.1 103 b.toNatClampNeg) = (0 : Int32) → MT G (d + 1) z_order 109 [(0, vr 0), (1, vi b), (2, vi t), (3, vi s), (5, vi 0)] [] x4 (rv Fv)) ∧ (¬ ((x4.1 103 b.toNatClampNeg) = (0 : Int32)) → rv Fv none x4)))))) := by
      intro y l hy hl
      have own : ∀ a, (∃ L, lsQ J (fun x => x.1 = e.1) L ∧ (a = L ∨ bf su J L a)) ↔ bfQ su J (fun x => x.1 = e.1) a := fun a => by
        rcases hl with ⟨-, hn⟩ | ⟨L, -, hL⟩
        · exact ⟨fun ⟨L, ⟨el, g1, g2, _⟩, _⟩ => absurd g2 (hn L el g1), fun ⟨c, ec, g1, g2, _⟩ => absurd g2 (hn c ec g1)⟩
        · constructor
          · rintro ⟨L', ⟨el, g1, g2, -⟩, g3⟩
            exact ⟨L', el, g1, g2, g3⟩
          · intro q
            exact ⟨L, hL, (bf_last hL).mp q⟩
      have sta : ∀ a, (∃ L, lsQ J (qSt (Int32.ofNat e.1)) L ∧ (a = L ∨ bf su J L a)) ↔ bfQ su J (qSt (Int32.ofNat e.1)) a := fun a => by
        rcases h106 with ⟨-, hn⟩ | ⟨L, -, hL⟩
        · exact ⟨fun ⟨L, ⟨el, g1, g2, _⟩, _⟩ => absurd g2 (hn L el g1), fun ⟨c, ec, g1, g2, _⟩ => absurd g2 (hn c ec g1)⟩
        · obtain ⟨el, g1, g2, -⟩ := id hL
          constructor
          · rintro ⟨L', ⟨el', k1, k2, -⟩, k3⟩
            exact ⟨L', el', k1, k2, k3⟩
          · intro q
            exact ⟨L, hL, (lsQ_one hL (fun k ek hk hq => u106 L el k ek g1 g2 hk hq)).mp q⟩
      refine aft1 y _ l (fun x => x.1 = e.1) _ hy hl (fun z hz => ⟨tv, ?_⟩)
      rw [ct, hz.1]
      refine aft1 z _ _ (qSt (Int32.ofNat e.1)) _ hz h106 (fun u hu => ⟨hb, ?_⟩)
      have hu2 : SB x J.length u (fun a => bfQ su J (fun x => x.1 = e.1) a ∨ bfQ su J (qSt (Int32.ofNat e.1)) a) := SB_cg hu (fun a => by
        rw [own a, sta a]
        exact ⟨fun q => q.imp (fun q => q.resolve_left (fun z => z)) id, fun q => q.imp Or.inr id⟩)
      rw [hu.1, cb]
      refine ⟨fun c => ?_, fun c => rv_i (h u (SB_cg hu2 (fun a => ?_)))⟩
      · have nf : e.2.2.2.2.2.1 = false := by
          rw [r103] at c
          cases h9 : e.2.2.2.2.2.1 with
          | false => rfl
          | true => rw [h9, if_pos rfl] at c; exact absurd c (by decide)
        exact p109 nf J.length 0 u 0 rfl (by omega) (by omega) (SB_cg hu2 (fun a => ⟨Or.inl, fun q => q.resolve_right (fun ⟨c, _, g0, _⟩ => absurd g0 (Nat.not_lt_zero c))⟩))
      · rw [bf_mo hw]
        refine ⟨Or.inl, fun q => q.resolve_right (fun z => c ?_)⟩
        rw [r103, z.1]; rfl
    intro n
    have fin : ∀ (I : Nat) (l : Int32), I = J.length → ((l = -1 ∧ ∀ (k : Nat) (ek : gDe), k < I → J[k]? = some ek → ¬ ek.1 = e.1) ∨ ∃ L el, l.toInt = (L : Nat) ∧ L < I ∧ J[L]? = some el ∧ el.1 = e.1 ∧ ∀ (k : Nat) (ek : gDe), L < k → k < I → J[k]? = some ek → ¬ ek.1 = e.1) → ((l = -1 ∧ ∀ (k : Nat) (ek : gDe), J[k]? = some ek → ¬ ek.1 = e.1) ∨ ∃ L : Nat, l.toInt = L ∧ lsQ J (fun x => x.1 = e.1) L) := fun I l eI hl => by
      rcases hl with ⟨a1, a2⟩ | ⟨L, el, a1, a2, a3, a4, a5⟩
      · exact Or.inl ⟨a1, fun k ek hk => a2 k ek (by have := gt_lt hk; omega) hk⟩
      · exact Or.inr ⟨L, a1, el, a3, a4, fun k ek h1 h2 => a5 k ek h1 (by have := gt_lt h2; omega) h2⟩
    induction n with
    | zero =>
      intro I y l i ei hn hI hy hl
      exact sg_order_46 _ _ _ _ _ ⟨fun _ => last y l hy (fin I l (by omega) hl), fun c => absurd (t_le.mpr (by omega)) c⟩
    | succ n ih =>
      intro I y l i ei hn hI hy hl
      refine sg_order_46 _ _ _ _ _ ⟨fun c => ?_, fun c => ?_⟩
      · rw [t_le] at c
        exact last y l hy (fin I l (by omega) hl)
      rw [t_le] at c
      have iv : vp_in i 400 := by rw [vp_in_iff]; omega
      have ci : i.toNatClampNeg = I := by rw [t_cl, ei]; rfl
      have i1 : (i + 1).toInt = ((I + 1 : Nat) : Int) := by rw [t_add (by omega) (by omega), k1, ei]; rfl
      obtain ⟨ec, hg⟩ : ∃ ec, J[I]? = some ec := ⟨_, List.getElem?_eq_getElem (by omega)⟩
      have c98 := (rows I ec (gt_ls hg)).1
      have c6 := (rng I ec (gt_ls hg)).1
      have same : x.1 98 I = t ↔ ec.1 = e.1 := by rw [et, c98, r98]; exact of_inj (by omega) (by omega)
      refine ⟨iv, ?_⟩
      rw [hy.1, ci]
      refine ⟨fun nt => ih (I + 1) y l (i + 1) i1 (by omega) (by omega) hy ?_, fun tt => ih (I + 1) y i (i + 1) i1 (by omega) (by omega) hy (Or.inr ⟨I, ec, ei, by omega, hg, same.mp tt, fun k ek h1 h2 => by omega⟩)⟩
      have here : ∀ k ek, k = I → J[k]? = some ek → ¬ ek.1 = e.1 := fun k ek hk hk2 => by
        rw [hk, hg] at hk2
        cases hk2
        exact fun z => nt (same.mpr z)
      rcases hl with ⟨a1, a2⟩ | ⟨L, el, a1, a2, a3, a4, a5⟩
      · refine Or.inl ⟨a1, fun k ek h1 h2 => ?_⟩
        by_cases ck : k = I
        · exact here k ek ck h2
        · exact a2 k ek (by omega) h2
      · refine Or.inr ⟨L, el, a1, by omega, a3, a4, fun k ek h1 h2 h3 => ?_⟩
        by_cases ck : k = I
        · exact here k ek ck h3
        · exact a5 k ek h1 (by omega) h3
  have loop : ∀ (n I : Nat) (y : gd) (i : Int32), i.toInt = (I : Nat) → 7 - I ≤ n → I ≤ 7 → y.1 = x.1 → oth x y J.length → (∀ j, j < I → y.2 105 (7 * J.length + j) = 0) → MT G (d + 1) z_order 2 [(0, vr 0), (1, vi b), (2, vi i)] [] y (rv Fv) := by
    have last : ∀ y : gd, y.1 = x.1 → oth x y J.length → (∀ j, j < 7 → y.2 105 (7 * J.length + j) = 0) → vp_in b 400 ∧ vp_in b 400 ∧ MT G (d + 1) z_order 46 [(0, vr 0), (1, vi b), (2, vi (y.1 98 b.toNatClampNeg)), (3, vi (y.1 99 b.toNatClampNeg)), (4, vi (-1)), (5, vi 0)] [] y (rv Fv) := by
      intro y ey oy hy
      refine ⟨hb, hb, ?_⟩
      rw [ey, cb, ← et, ← es]
      refine p46 J.length 0 y (-1) 0 rfl (by omega) (by omega) ⟨ey, oy, fun a ha => ⟨fun z => ?_, fun z => z.elim⟩⟩ (Or.inl ⟨rfl, fun k ek h1 => absurd h1 (Nat.not_lt_zero _)⟩)
      unfold bS at z
      rw [hy (a / 64) (by omega), bL_0] at z
      exact nomatch z
    intro n
    induction n with
    | zero =>
      intro I y i ei hn hI ey oy hy
      exact sg_order_2 _ _ ⟨fun _ => last y ey oy (fun j hj => hy j (by omega)), fun c => absurd (t_le.mpr (by rw [k7]; omega)) c⟩
    | succ n ih =>
      intro I y i ei hn hI ey oy hy
      refine sg_order_2 _ _ ⟨fun c => ?_, fun c => ?_⟩
      · rw [t_le, k7] at c
        exact last y ey oy (fun j hj => hy j (by omega))
      rw [t_le, k7] at c
      have i1 : (i + 1).toInt = ((I + 1 : Nat) : Int) := by rw [t_add (by omega) (by omega), k1, ei]; rfl
      have j1 := i7 eb ei (by omega) (by omega)
      refine ⟨t7 hb (by omega) (by omega), fun z ez => ih (I + 1) z (i + 1) i1 (by omega) (by omega) (by rw [ez]; exact ey) (fun j hj => ?_) (fun j hj => ?_)⟩
      · rw [ez, j1, sL_get, if_neg (by omega)]; exact oy j hj
      · rw [ez, j1, sL_get]
        by_cases cj : j = I
        · rw [if_pos (by omega)]
        · rw [if_neg (by omega)]; exact hy j (by omega)
  exact sg_order_0 _ (loop 7 0 x 0 rfl (by omega) (by omega) rfl (fun _ _ => rfl) (fun j hj => absurd hj (Nat.not_lt_zero _)))
end MO9
end
section
/-! the model: a choice done, with the row of acts -/
/-- what a choice adds to the row of acts -/
def JMs (z z' : gd) : List gDe → Prop
  | [] => z'.1 0 96 = z.1 0 96 ∧ ∀ c, 98 ≤ c → c ≤ 103 → z'.1 c = z.1 c
  | e :: _ => (z'.1 0 96).toInt = (z.1 0 96).toInt + 1 ∧ (∀ j, z'.1 98 j = if j = (z.1 0 96).toInt.toNat then Int32.ofNat e.1 else z.1 98 j) ∧ (∀ j, z'.1 99 j = if j = (z.1 0 96).toInt.toNat then Int32.ofNat e.2.1 else z.1 99 j) ∧ (∀ j, z'.1 100 j = if j = (z.1 0 96).toInt.toNat then e.2.2.1 else z.1 100 j) ∧ (∀ j, z'.1 101 j = if j = (z.1 0 96).toInt.toNat then e.2.2.2.1 else z.1 101 j) ∧ (∀ j, z'.1 102 j = if j = (z.1 0 96).toInt.toNat then e.2.2.2.2.1 else z.1 102 j) ∧ (∀ j, z'.1 103 j = if j = (z.1 0 96).toInt.toNat then (if e.2.2.2.2.2.1 = true then 1 else 0) else z.1 103 j)
/-- the row of acts in the memory -/
def MJo (z : gd) (J : List gDe) : Prop := (z.1 0 96).toInt = (J.length : Nat) ∧ ∀ a e, J[a]? = some e → z.1 98 a = Int32.ofNat e.1 ∧ z.1 99 a = Int32.ofNat e.2.1 ∧ z.1 100 a = e.2.2.1 ∧ z.1 101 a = e.2.2.2.1 ∧ z.1 102 a = e.2.2.2.2.1 ∧ z.1 103 a = if e.2.2.2.2.2.1 = true then 1 else 0
section JMS
variable {z y y' : gd} {ds J : List gDe} {C : gCo} {w : Nat} {M : gMa} {ch : gCh}
theorem JMs_0 (h : ds = []) : JMs z z ds := by rw [h]; exact ⟨rfl, fun _ _ _ => rfl⟩
theorem JMs_mi {L A : List Nat} (m : mi L A y y') (hL : [96].all (fun k => !L.elem k) = true) (hA : [98, 99, 100, 101, 102, 103].all (fun k => !A.elem k) = true) (h : JMs z y ds) : JMs z y' ds := by
  have f : y'.1 0 96 = y.1 0 96 := m.1 96 (all_no hL 96 (by decide))
  have g : ∀ c, 98 ≤ c → c ≤ 103 → y'.1 c = y.1 c := fun c h1 h2 => m.2.1 c (by omega) (all_no hA c (by
    rcases (show c = 98 ∨ c = 99 ∨ c = 100 ∨ c = 101 ∨ c = 102 ∨ c = 103 by omega) with e | e | e | e | e | e <;> rw [e] <;> decide))
  cases ds with
  | nil => exact ⟨f.trans h.1, fun c h1 h2 => (g c h1 h2).trans (h.2 c h1 h2)⟩
  | cons e ds =>
    obtain ⟨h0, h1, h2, h3, h4, h5, h6⟩ := h
    exact ⟨by rw [f]; exact h0, by rw [g 98 (by omega) (by omega)]; exact h1, by rw [g 99 (by omega) (by omega)]; exact h2, by rw [g 100 (by omega) (by omega)]; exact h3, by rw [g 101 (by omega) (by omega)]; exact h4, by rw [g 102 (by omega) (by omega)]; exact h5, by rw [g 103 (by omega) (by omega)]; exact h6⟩
theorem deM_l (h : ¬ ch.2.1 = none) : deM C w M ch = [] := by
  unfold deM
  cases h9 : ch.2.1 with
  | none => exact absurd h9 h
  | some j => rfl
theorem deM_a (h : ch.2.1 = none) : deM C w M ch = [deA C w M ch.1 ch.2.2] := by
  unfold deM
  rw [h]
theorem MJo_mi {L A : List Nat} (m : mi L A y y') (hL : [96].all (fun k => !L.elem k) = true) (hA : [98, 99, 100, 101, 102, 103].all (fun k => !A.elem k) = true) (h : MJo y J) : MJo y' J := by
  have f : y'.1 0 96 = y.1 0 96 := m.1 96 (all_no hL 96 (by decide))
  have g := fun k (h0 : k ≠ 0) hk => m.2.1 k h0 (all_no hA k hk)
  refine ⟨by rw [f]; exact h.1, ?_⟩
  rw [g 98 (by decide) (by decide), g 99 (by decide) (by decide), g 100 (by decide) (by decide), g 101 (by decide) (by decide), g 102 (by decide) (by decide), g 103 (by decide) (by decide)]
  exact h.2
theorem MJo_next (h : MJo z J) (g : JMs z y ds) (hd : ds = [] ∨ ∃ e, ds = [e]) : MJo y (J ++ ds) := by
  obtain ⟨h0, h1⟩ := h
  rcases hd with e | ⟨e, he⟩
  · rw [e] at g ⊢
    rw [List.append_nil]
    exact ⟨by rw [g.1]; exact h0, fun a e ha => by rw [g.2 98 (by omega) (by omega), g.2 99 (by omega) (by omega), g.2 100 (by omega) (by omega), g.2 101 (by omega) (by omega), g.2 102 (by omega) (by omega), g.2 103 (by omega) (by omega)]; exact h1 a e ha⟩
  · rw [he] at g ⊢
    obtain ⟨g0, g1, g2, g3, g4, g5, g6⟩ := g
    have hn : (z.1 0 96).toInt.toNat = J.length := by rw [h0]; rfl
    rw [hn] at g1 g2 g3 g4 g5 g6
    refine ⟨by rw [g0, h0, List.length_append]; rfl, fun a d ha => ?_⟩
    rw [g1, g2, g3, g4, g5, g6]
    by_cases c : a < J.length
    · rw [List.getElem?_append_left c] at ha
      rw [if_neg (by omega), if_neg (by omega), if_neg (by omega), if_neg (by omega), if_neg (by omega), if_neg (by omega)]
      exact h1 a d ha
    · have hl := gt_lt ha
      rw [List.length_append] at hl
      have hl : a < J.length + 1 := hl
      have ea : a = J.length := by omega
      rw [ea, List.getElem?_append_right (Nat.le_refl _), Nat.sub_self] at ha
      have ed : e = d := Option.some.inj ha
      rw [if_pos ea, if_pos ea, if_pos ea, if_pos ea, if_pos ea, if_pos ea, ed]
      exact ⟨rfl, rfl, rfl, rfl, rfl, rfl⟩
end JMS
section DCJ
variable {G : mG} {D : Nat} {a a' z : gd} {F : Int32 → gd → Prop} {Fv : gd → Prop}
end DCJ
end
section
/-! the model: a choice done, with what is before what -/
/-- bits, the acts that began and woke threads -/
def MJc (su : Int32 → Bool) (z : gd) (J : List gDe) : Prop := (∀ (b : Nat) (eb : gDe), J[b]? = some eb → ∀ a, a < 448 → (bS z b a = true ↔ bf su J b a)) ∧ (∀ t, t < 6 → (z.1 106 t = -1 ∧ ∀ (k : Nat) (ek : gDe), J[k]? = some ek → ¬ qSt (Int32.ofNat t) ek) ∨ ∃ l : Nat, (z.1 106 t).toInt = l ∧ lsQ J (qSt (Int32.ofNat t)) l) ∧ (∀ t, t < 6 → (z.1 107 t = -1 ∧ ∀ (k : Nat) (ek : gDe), J[k]? = some ek → ¬ qWk t ek) ∨ ∃ l : Nat, (z.1 107 t).toInt = l ∧ lsQ J (qWk t) l)
section MJC
variable {su : Int32 → Bool} {z y : gd} {J : List gDe} {e : gDe}
theorem MJc_f (e2 : y.2 = z.2) (e6 : y.1 106 = z.1 106) (e7 : y.1 107 = z.1 107) (h : MJc su z J) : MJc su y J := by
  refine ⟨fun b eb hb a ha => ?_, by rw [e6]; exact h.2.1, by rw [e7]; exact h.2.2⟩
  unfold bS
  rw [e2]
  exact h.1 b eb hb a ha
theorem lsQ_sn {Q : gDe → Prop} (h : Q e) : lsQ (J ++ [e]) Q J.length := ⟨e, gt_sn, h, fun a e' h1 h2 => by
  have := gt_lt h2
  rw [List.length_append] at this
  have : a < J.length + 1 := this
  omega⟩
theorem lsQ_o {Q : gDe → Prop} {l : Nat} (hn : ¬ Q e) (h : lsQ J Q l) : lsQ (J ++ [e]) Q l := by
  obtain ⟨el, h1, h2, h3⟩ := h
  refine ⟨el, gt_ls h1, h2, fun a e' g1 g2 => ?_⟩
  rcases gt_cs g2 with ⟨-, g⟩ | ⟨-, g⟩
  · exact h3 a e' g1 g
  · rw [g]; exact hn
theorem MJc_new {n : Int32} (hz : MJc su z J) (en : n.toInt = (J.length : Nat)) (rows : ∀ (b : Nat) (eb : gDe), (J ++ [e])[b]? = some eb → ∀ a, a < 448 → (bS y b a = true ↔ bf su (J ++ [e]) b a)) (h6 : ∀ t, t < 6 → (qSt (Int32.ofNat t) e ∧ y.1 106 t = n) ∨ (¬ qSt (Int32.ofNat t) e ∧ y.1 106 t = z.1 106 t)) (h7 : ∀ t, t < 6 → (qWk t e ∧ y.1 107 t = n) ∨ (¬ qWk t e ∧ y.1 107 t = z.1 107 t)) : MJc su y (J ++ [e]) := by
  have key : ∀ (Q : gDe → Prop) (v v' : Int32), ((Q e ∧ v' = n) ∨ (¬ Q e ∧ v' = v)) → ((v = -1 ∧ ∀ (k : Nat) (ek : gDe), J[k]? = some ek → ¬ Q ek) ∨ ∃ l : Nat, v.toInt = l ∧ lsQ J Q l) → ((v' = -1 ∧ ∀ (k : Nat) (ek : gDe), (J ++ [e])[k]? = some ek → ¬ Q ek) ∨ ∃ l : Nat, v'.toInt = l ∧ lsQ (J ++ [e]) Q l) := by
    intro Q v v' hv ho
    rcases hv with ⟨q1, q2⟩ | ⟨q1, q2⟩
    · exact Or.inr ⟨J.length, by rw [q2]; exact en, lsQ_sn q1⟩
    · rw [q2]
      rcases ho with ⟨o1, o2⟩ | ⟨l, o1, o2⟩
      · refine Or.inl ⟨o1, fun k ek hk => ?_⟩
        rcases gt_cs hk with ⟨-, g⟩ | ⟨-, g⟩
        · exact o2 k ek g
        · rw [g]; exact q1
      · exact Or.inr ⟨l, o1, lsQ_o q1 o2⟩
  exact ⟨rows, fun t ht => key _ _ _ (h6 t ht) (hz.2.1 t ht), fun t ht => key _ _ _ (h7 t ht) (hz.2.2 t ht)⟩
end MJC
/-- what is known of a new act -/
def WFe (e : gDe) (J : List gDe) (nc : Nat) : Prop := (∀ (k : Nat) (ek : gDe), (J ++ [e])[k]? = some ek → ek.1 < 6 ∧ ek.2.1 < 22) ∧ (e.2.1 ≤ 4 → e.2.2.2.2.2.1 = false → e.2.2.1.toNatClampNeg < nc) ∧ (∀ (s : Nat) (es : gDe) (k : Nat) (ek : gDe), J[s]? = some es → qSt (Int32.ofNat e.1) es → J[k]? = some ek → qSt (Int32.ofNat e.1) ek → k = s) ∧ (∀ (k : Nat) (ek : gDe), J[k]? = some ek → qWk e.1 ek → (∀ (a' : Nat) (e' : gDe), k < a' → J[a']? = some e' → ¬ qWk e.1 e') ∨ ∃ r er, k < r ∧ J[r]? = some er ∧ er.1 = e.1 ∧ er.2.1 = 15 ∧ er.2.2.2.2.2.1 = false) ∧ ∀ u, e.2.2.2.2.2.2 u = true → qWk u e
theorem sh_6 : ∀ c : Fin 6, ((Int32.ofNat c.val &&& 31 : Int32).toBitVec.smod 32).toNat = c.val := by decide +kernel
theorem bc_6 : ∀ c : Fin 6, ∀ i : Fin 6, ((1 : Int32) <<< (Int32.ofNat c.val &&& 31 : Int32)).toBitVec.getLsbD i.val = decide (i.val = c.val) := by decide +kernel
theorem one32 : ∀ i : Fin 32, (1 : Int32).toBitVec.getLsbD i.val = decide (i.val = 0) := by decide +kernel
theorem bt_is {u : Int32} {c : Nat} (hc : c < 6) : (u >>> (Int32.ofNat c &&& 31 : Int32)) &&& 1 = 1 ↔ bt u c = true := by
  have h4 : (u >>> (Int32.ofNat c &&& 31 : Int32)).toBitVec = u.toBitVec.sshiftRight ((Int32.ofNat c &&& 31 : Int32).toBitVec.smod 32).toNat := rfl
  have h5 : ((u >>> (Int32.ofNat c &&& 31 : Int32)).toBitVec).getLsbD 0 = u.toBitVec.getLsbD c := by
    rw [h4, sh_6 ⟨c, hc⟩, BitVec.getLsbD_sshiftRight]
    show (decide (32 ≤ 0) == false && _) = _
    simp [show c < 32 by omega]
  constructor
  · intro h
    have h2 : (((u >>> (Int32.ofNat c &&& 31 : Int32)) &&& 1).toBitVec).getLsbD 0 = true := by rw [h]; rfl
    rw [Int32.toBitVec_and, BitVec.getLsbD_and, h5] at h2
    exact (Bool.and_eq_true _ _ ▸ h2).1
  · intro h
    apply Int32.toBitVec_inj.mp
    apply BitVec.eq_of_getLsbD_eq
    intro i hi
    rw [Int32.toBitVec_and, BitVec.getLsbD_and, one32 ⟨i, hi⟩]
    show (_ && decide (i = 0)) = decide (i = 0)
    by_cases ci : i = 0
    · rw [ci, decide_eq_true rfl, Bool.and_true, h5]; exact h
    · rw [decide_eq_false ci, Bool.and_false]
theorem bt_add {u : Int32} {c i : Nat} (hc : c < 6) (hi : i < 6) : bt (u ||| (1 <<< (Int32.ofNat c &&& 31 : Int32))) i = (bt u i || decide (i = c)) := by
  rw [bt_or]
  unfold bt
  rw [bc_6 ⟨c, hc⟩ ⟨i, hi⟩]
theorem bt_0 {i : Nat} : bt 0 i = false := by
  unfold bt
  show (BitVec.ofNat 32 0).getLsbD i = false
  exact BitVec.getLsbD_zero
theorem ho_1 : ∀ x, x < 7 → ∀ c, c < 6 → (Int32.ofNat x - 1 = Int32.ofNat c ↔ x = c + 1) := by decide +kernel
theorem JMs_f {z y y' : gd} {ds : List gDe} (e : y'.1 = y.1) (h : JMs z y ds) : JMs z y' ds := by
  cases ds with
  | nil => exact ⟨by rw [e]; exact h.1, fun c h1 h2 => by rw [e]; exact h.2 c h1 h2⟩
  | cons d ds =>
    obtain ⟨h0, h1, h2, h3, h4, h5, h6⟩ := h
    exact ⟨by rw [e]; exact h0, by rw [e]; exact h1, by rw [e]; exact h2, by rw [e]; exact h3, by rw [e]; exact h4, by rw [e]; exact h5, by rw [e]; exact h6⟩
section DC9
variable {G : mG} {D : Nat} {a a' z : gd} {F : Int32 → gd → Prop} {Fv : gd → Prop}
theorem sp_doChoice9 {C : gCo} {wn : Nat} {Mm : gMa} {ch : gCh} (av : AV a) (i : Int32) (i0 : 0 ≤ i.toInt) (i1 : i.toInt < (a.1 0 84).toInt) (lk : LkD C wn Mm ch.1 a i.toNatClampNeg a') (c86 : a.1 86 i.toNatClampNeg = Int32.ofNat ch.1) (c87 : a.1 87 i.toNatClampNeg = -1 ↔ ch.2.1 = none) (csr : ch.2.1 = none → srt a ch.1 = Int32.ofNat (soM C (Mm.2.2 ch.1))) (c6 : ch.1 < 6) {J : List gDe} {su : Int32 → Bool} {nc : Nat} (hj : MJo z J) (hc9 : MJc su z J) (wf : ch.2.1 = none → WFe (deA C wn Mm ch.1 ch.2.2) J nc) (hsu : ∀ o : Nat, o < nc → (¬ z.1 37 o = 0 ↔ su (Int32.ofNat o) = true)) (hK : MK a C) (hX : NXc C) (hM : MM1 a C Mm) (c88 : a.1 88 i.toNatClampNeg = opI ch.2.2) (c88b : ch.2.1 = none → ∀ o, ch.2.2 = some o → o < 6) (l6C : C.2.1.length ≤ 6) (e : eqS (Sm a) a z) (ha : HA z) (hd : (z.1 0 94).toInt < 400) (hD : 6 ≤ D) (h : ∀ z', eqS (Sm a') a' z' → HA z' → dF z z' i → JMs z z' (deM C wn Mm ch) → MJc su z' (J ++ deM C wn Mm ch) → Fv z') : MT G D z_doChoice 0 [(0, vr 0), (1, vi i)] [] z (rv Fv) := by
  obtain ⟨D, rfl⟩ : ∃ D', D = D' + 2 := ⟨D - 2, by omega⟩
  have k0 : (0 : Int32).toInt = 0 := rfl
  have k1 : (1 : Int32).toInt = 1 := rfl
  obtain ⟨ri, wy, chv, c0, c84, _⟩ := av
  obtain ⟨b, tr, trd, fb⟩ := lk
  have cT : (a.1 86 i.toNatClampNeg).toNatClampNeg = ch.1 := by rw [c86, t_cl, Int32.toInt_ofNat_of_lt (by omega)]; rfl
  have ci := cl_i i0
  have iv : vp_in i 200 := by rw [vp_in_iff]; omega
  obtain ⟨u86, u87, u88, ⟨t0, t6⟩, co⟩ := chv i.toNatClampNeg (by omega)
  have e86 : z.1 86 i.toNatClampNeg = a.1 86 i.toNatClampNeg := e _ _ (Or.inr u86)
  obtain ⟨t, et⟩ : ∃ t, t = a.1 86 i.toNatClampNeg := ⟨_, rfl⟩
  rw [← et] at e86 t0 t6 co
  have tv : vp_in t 6 := by rw [vp_in_iff]; exact ⟨t0, t6⟩
  obtain ⟨h0, h1, h2, h3, h4⟩ := ha
  obtain ⟨dn, edn⟩ : ∃ dn, dn = z.1 0 94 := ⟨_, rfl⟩
  obtain ⟨n, en⟩ : ∃ n, n = z.1 0 96 := ⟨_, rfl⟩
  rw [← edn] at h1 h2 hd
  rw [← en] at h0 h1 h3 h4
  have dv : vp_in dn 400 := by rw [vp_in_iff]; omega
  have nv : vp_in n 400 := by rw [vp_in_iff]; omega
  have cd := cl_i (a := dn) (by omega)
  have cn := cl_i (a := n) (by omega)
  refine sg_doChoice_0 _ ⟨iv, by rw [← edn]; exact dv, fun z3 e3 z4 e4 => ⟨iv, ?_⟩⟩
  rw [← edn] at e3
  have m3 := md_a z 96 dn.toNatClampNeg i (by decide)
  rw [← e3] at m3
  have f94 : z3.1 0 94 = dn := by rw [m3.1 94 (by decide), edn]
  rw [f94] at e4
  have m4 := md_f z3 94 (dn + 1)
  rw [← e4] at m4
  have m34 : md [94] [96] z z4 := md_tr m3 m4 rfl rfl
  have q94 : (z4.1 0 94).toInt = dn.toInt + 1 := by rw [e4, si_get, if_pos ⟨rfl, rfl⟩, t_add (by omega) (by omega), k1]
  have q96 : z4.1 0 96 = n := by rw [m34.1 96 (by decide), en]
  have q96a : z4.1 96 dn.toNatClampNeg = i := by rw [e4, si_cell (by decide), e3, si_get, if_pos ⟨rfl, rfl⟩]
  have q96b : ∀ j : Nat, ¬ j = dn.toNatClampNeg → z4.1 96 j = z.1 96 j := fun j hj => by rw [e4, si_cell (by decide), e3, si_ne 96 j hj]
  have es4 : eqS (Sm a) a z4 := eqS_mi e (mi_of m34) rfl rfl (ssub_rf _)
  have e87 : z4.1 87 i.toNatClampNeg = a.1 87 i.toNatClampNeg := es4 _ _ (Or.inr u87)
  have el4 : eqS (Sl a) a z4 := eqS_w (Sl_Sm a) es4
  rw [e86, e87, q96]
  -- the end: choices found
  have fin : ∀ (y : gd), eqS (Sl b) b y → mi dL dA z y → (y.1 0 94).toInt = dn.toInt + 1 → y.1 96 dn.toNatClampNeg = i → (∀ j : Nat, ¬ j = dn.toNatClampNeg → y.1 96 j = z.1 96 j) → HA y → (JMs z y (deM C wn Mm ch) ∧ MJc su y (J ++ deM C wn Mm ch)) → MT G (D + 1) z_findChoices 0 [(0, vr 0)] [] y (rv (fun x1 => rv Fv none x1)) := by
    intro y ey my y94 y96 y96b hy yj
    refine MT_up (by omega) (MTv_mono (fb G y ey) (fun y2 q => rv_i (h y2 q.1 ?_ ⟨mi_tr my (mi_of q.2) rfl rfl, ?_, ?_, ?_⟩ (JMs_mi (mi_of q.2) rfl rfl yj.1) (MJc_f q.2.2.2 (q.2.2.1 106 (by decide) (by decide)) (q.2.2.1 107 (by decide) (by decide)) yj.2))))
    · obtain ⟨a1, a2, a3, a4, a5⟩ := hy
      have g := mi_of q.2
      refine ⟨by rw [g.1 96 (by decide)]; exact a1, by rw [g.1 96 (by decide), g.1 94 (by decide)]; exact a2, by rw [g.1 94 (by decide)]; exact a3, fun j hj => aA_mi g rfl (a4 j (by rw [g.1 96 (by decide)] at hj; exact hj)), ?_⟩
      rw [g.1 96 (by decide)]
      exact aB_mi g rfl (Int.le_refl _) a5
    · rw [q.2.1 94 (by decide), y94, edn]
    · rw [q.2.2.1 96 (by decide) (by decide), ← edn]; exact y96
    · intro j hj
      rw [← edn] at hj
      rw [q.2.2.1 96 (by decide) (by decide)]; exact y96b j hj
  refine ⟨fun c => ⟨tv, nv, fun z9 e9 => ?_⟩, fun c => ⟨iv, ?_⟩⟩
  rotate_left
  · -- a late write
    have hl := tr.2 c G z4 el4
    rw [← et] at hl
    refine MT_up (by omega) (MTv_mono hl (fun y q => fin y q.1 (mi_tr (mi_of m34) (mi_of q.2) rfl rfl) ?_ ?_ ?_ ?_ ?_))
    · rw [q.2.1 94 (by decide)]; exact q94
    · rw [q.2.2.1 96 (by decide) (by decide)]; exact q96a
    · intro j hj; rw [q.2.2.1 96 (by decide) (by decide)]; exact q96b j hj
    · have g : mi [82, 84, 88, 89, 90, 91, 92, 93, 94] [70, 71, 72, 73, 74, 75, 76, 77, 78, 79, 80, 81, 82, 84, 86, 87, 88, 96] z y := mi_tr (mi_of m34) (mi_of q.2) rfl rfl
      have y94 : (y.1 0 94).toInt = dn.toInt + 1 := by rw [q.2.1 94 (by decide)]; exact q94
      have y96 : y.1 0 96 = n := by rw [g.1 96 (by decide), en]
      refine ⟨by rw [y96]; exact h0, by rw [y96, y94]; omega, by rw [y94]; omega, fun j hj => aA_mi g rfl (h3 j (by rw [y96] at hj; exact hj)), by rw [y96]; exact aB_mi g rfl (Int.le_refl _) h4⟩
    · have g : mi [82, 84, 88, 89, 90, 91, 92, 93, 94] [70, 71, 72, 73, 74, 75, 76, 77, 78, 79, 80, 81, 82, 84, 86, 87, 88, 96] z y := mi_tr (mi_of m34) (mi_of q.2) rfl rfl
      have ne : ¬ ch.2.1 = none := fun z9 => c (c87.mpr z9)
      refine ⟨JMs_mi g rfl rfl (JMs_0 (deM_l ne)), ?_⟩
      rw [deM_l ne, List.append_nil]
      exact MJc_f (q.2.2.2.trans m34.2.2) ((q.2.2.1 106 (by decide) (by decide)).trans (m34.2.1 106 (by decide) (by decide))) ((q.2.2.1 107 (by decide) (by decide)).trans (m34.2.1 107 (by decide) (by decide))) hc9
  -- an act
  have cn9 : ch.2.1 = none := c87.mp c
  obtain ⟨w1, w2, w3, w4, w5⟩ := wf cn9
  obtain ⟨E, eE⟩ : ∃ E, E = deA C wn Mm ch.1 ch.2.2 := ⟨_, rfl⟩
  have dE : deM C wn Mm ch = [E] := by rw [eE]; exact deM_a cn9
  rw [← eE] at w1 w2 w3 w4 w5
  have E1 : E.1 = ch.1 := by rw [eE]; rfl
  have ewk : ∀ u, E.2.2.2.2.2.2 u = dWk C Mm ch.1 ch.2.2 u := fun u => by rw [eE]; rfl
  have nJ : n.toInt = (J.length : Nat) := by rw [en]; exact hj.1
  have nJc : n.toNatClampNeg = J.length := by rw [t_cl, nJ]; rfl
  have wkE : ∀ u, qWk u E ↔ dWk C Mm ch.1 ch.2.2 u = true := fun u => ⟨fun q => by rw [← ewk]; exact q.2.2, fun q => w5 u (by rw [ewk]; exact q)⟩
  have g := co.resolve_right (fun w => by rw [c] at w; exact absurd w.1 (by decide))
  obtain ⟨kv, kn, so, avv⟩ := RI_step ri (vt tv) g.2.1
  obtain ⟨s1, s2, s3⟩ := srt_of ri (vt tv) g.2.1
  obtain ⟨k, ek⟩ : ∃ k, k = a.1 74 t.toNatClampNeg := ⟨_, rfl⟩
  rw [← ek] at kv kn so avv s1 s2 s3
  obtain ⟨s, es⟩ : ∃ s, s = srt a t.toNatClampNeg := ⟨_, rfl⟩
  rw [← es] at s1 s2 s3
  have m9 := md_a z4 98 n.toNatClampNeg t (by decide)
  rw [← e9] at m9
  have es9 : eqS (Sm a) a z9 := eqS_mi es4 (mi_of m9) rfl rfl (ssub_rf _)
  have el9 : eqS (Sl a) a z9 := eqS_w (Sl_Sm a) es9
  have k9 : z9.1 74 t.toNatClampNeg = k := by rw [cA el9 (n := 6) (by decide) (vt tv), ek]
  have k4 : z4.1 74 t.toNatClampNeg = k := by rw [cA el4 (n := 6) (by decide) (vt tv), ek]
  have st9 : srt z9 t.toNatClampNeg = s := by rw [srt_eq el9 ri (vt tv), es]
  refine sp_sortOf t tv (by rw [k9]; exact kv) ?_
  rw [st9, k4]
  refine ⟨nv, fun z13 e13 => ⟨iv, nv, fun z16 e16 => ⟨nv, ?_⟩⟩⟩
  have m13 := md_a z9 99 n.toNatClampNeg s (by decide)
  rw [← e13] at m13
  have m16 := md_a z13 104 n.toNatClampNeg (z13.1 88 i.toNatClampNeg) (by decide)
  rw [← e16] at m16
  have m416 : md [] [98, 99, 104] z4 z16 := md_tr (md_tr (L3 := []) (A3 := [98, 99]) m9 m13 rfl rfl) m16 rfl rfl
  have es16 : eqS (Sm a) a z16 := eqS_mi es4 (mi_of m416) rfl rfl (ssub_rf _)
  have el16 : eqS (Sl a) a z16 := eqS_w (Sl_Sm a) es16
  have r98 : z16.1 98 n.toNatClampNeg = t := by rw [e16, si_cell (by decide), e13, si_cell (by decide), e9, si_get, if_pos ⟨rfl, rfl⟩]
  have r99 : z16.1 99 n.toNatClampNeg = s := by rw [e16, si_cell (by decide), e13, si_get, if_pos ⟨rfl, rfl⟩]
  have r98b : ∀ j : Nat, ¬ j = n.toNatClampNeg → z16.1 98 j = z.1 98 j := fun j hj => by rw [e16, si_cell (by decide), e13, si_cell (by decide), e9, si_ne 98 j hj, m34.2.1 98 (by decide) (by decide)]
  have r99b : ∀ j : Nat, ¬ j = n.toNatClampNeg → z16.1 99 j = z.1 99 j := fun j hj => by rw [e16, si_cell (by decide), e13, si_ne 99 j hj, e9, si_cell (by decide), m34.2.1 99 (by decide) (by decide)]
  have w88 : z16.1 88 i.toNatClampNeg = a.1 88 i.toNatClampNeg := es16 _ _ (Or.inr u88)
  have f25 : z16.1 0 25 = a.1 0 25 := cF el16 (by decide)
  have b25 := ri.1.1.2.2.2.2.2.1
  have o56 : z16.1 56 k.toNatClampNeg = a.1 56 k.toNatClampNeg := cA el16 (n := 1500) (by decide) (vp_lt kv)
  -- behind the act
  have last : ∀ y : gd, eqS (Sl b) b y → mi dL dA z y → (y.1 0 94).toInt = dn.toInt + 1 → y.1 96 dn.toNatClampNeg = i → (∀ j : Nat, ¬ j = dn.toNatClampNeg → y.1 96 j = z.1 96 j) → (y.1 0 96).toInt = n.toInt + 1 → (∀ j : Nat, (j : Int) ≤ n.toInt → aA y j) → aB y (n.toInt + 1) → (JMs z y (deM C wn Mm ch) ∧ MJc su y (J ++ deM C wn Mm ch)) → MT G (D + 2) z_doChoice 401 [(0, vr 0)] [] y (rv Fv) := by
    intro y ey my y94 y96 y96b yn ya yb yj
    exact sg_doChoice_401 (fin y ey my y94 y96 y96b ⟨by omega, by omega, by omega, fun j hj => ya j (by omega), by rw [yn]; exact yb⟩ yj)
  have e7 : ∀ (y : gd) (o : Int32), (a.1 0 25).toInt ≤ o.toInt → (∀ t, t < 6 → y.1 107 t = if (t : Int) < o.toInt ∧ dWk C Mm ch.1 ch.2.2 t = true then n else z.1 107 t) → ∀ t, t < 6 → (qWk t E ∧ y.1 107 t = n) ∨ (¬ qWk t E ∧ y.1 107 t = z.1 107 t) := by
    intro y o ho hy t ht
    have l25 : (a.1 0 25).toInt = C.2.1.length := hK.2.1.1
    rw [hy t ht]
    by_cases cw : dWk C Mm ch.1 ch.2.2 t = true
    · have := (dk_i.mp cw).1
      exact Or.inl ⟨(wkE t).mpr cw, if_pos ⟨by omega, cw⟩⟩
    · exact Or.inr ⟨fun q => cw ((wkE t).mp q), if_neg (fun q => cw q.2)⟩
  have brk : ∀ (r2 : Nat → Nat → Int64), (∀ y : gd, y.2 = r2 → ∀ (b : Nat) (eb : gDe), (J ++ [E])[b]? = some eb → ∀ a, a < 448 → (bS y b a = true ↔ bf su (J ++ [E]) b a)) → ∀ (y : gd) (o : Int32), eqS (Sl b) b y → mi dL dA z y → (y.1 0 94).toInt = dn.toInt + 1 → y.1 96 dn.toNatClampNeg = i → (∀ j : Nat, ¬ j = dn.toNatClampNeg → y.1 96 j = z.1 96 j) → (y.1 0 96).toInt = n.toInt + 1 → (∀ j : Nat, (j : Int) ≤ n.toInt → aA y j) → aB y (n.toInt + 1) → y.1 99 n.toNatClampNeg = s → (y.1 103 n.toNatClampNeg = 0 → s = 9 → vp_in (y.1 100 n.toNatClampNeg) 6) → JMs z y (deM C wn Mm ch) → (a.1 0 25).toInt ≤ o.toInt → (y.2 = r2 ∧ y.1 106 = z.1 106 ∧ ∀ t, t < 6 → y.1 107 t = if (t : Int) < o.toInt ∧ dWk C Mm ch.1 ch.2.2 t = true then n else z.1 107 t) → vp_in n 400 ∧ ((¬ ((y.1 99 n.toNatClampNeg) = (9 : Int32)) → MT G (D + 2) z_doChoice 401 [(0, vr 0)] [] y (rv Fv)) ∧ ((y.1 99 n.toNatClampNeg) = (9 : Int32) → vp_in n 400 ∧ ((¬ ((y.1 103 n.toNatClampNeg) = (0 : Int32)) → MT G (D + 2) z_doChoice 401 [(0, vr 0)] [] y (rv Fv)) ∧ ((y.1 103 n.toNatClampNeg) = (0 : Int32) → vp_in n 400 ∧ vp_in (y.1 100 n.toNatClampNeg) 6 ∧ (∀ x8 : gd, x8 = si y 106 (y.1 100 n.toNatClampNeg : Int32).toNatClampNeg n → MT G (D + 2) z_doChoice 401 [(0, vr 0)] [] x8 (rv Fv)))))) := by
    intro r2 hr2 y o ey my y94 y96 y96b yn ya yb ys yf yj ho hR
    have mj : MJo y (J ++ [E]) := MJo_next hj (by rw [dE] at yj; exact yj) (Or.inr ⟨E, rfl⟩)
    obtain ⟨-, j99, j100, -, -, j103⟩ := mj.2 J.length E gt_sn
    rw [← nJc] at j99 j100 j103
    have noS : (∀ t, ¬ qSt (Int32.ofNat t) E) → MJc su y (J ++ deM C wn Mm ch) := by
      intro hn
      rw [dE]
      exact MJc_new hc9 nJ (hr2 y hR.1) (fun t _ => Or.inr ⟨hn t, by rw [hR.2.1]⟩) (e7 y o ho hR.2.2)
    refine ⟨nv, fun n9 => last y ey my y94 y96 y96b yn ya yb ⟨yj, noS (fun t q => n9 ?_)⟩, fun e9' => ⟨nv, fun nf => last y ey my y94 y96 y96b yn ya yb ⟨yj, noS (fun t q => nf ?_)⟩, fun nf => ⟨nv, yf nf (by rw [← ys]; exact e9'), fun y8 ey8 => ?_⟩⟩⟩
    · rw [j99, q.2.1]; rfl
    · rw [j103, q.1]; rfl
    · have ov := yf nf (by rw [← ys]; exact e9')
      obtain ⟨O, O1⟩ : ∃ O : Nat, (y.1 100 n.toNatClampNeg).toInt = (O : Nat) := ⟨(y.1 100 n.toNatClampNeg).toInt.toNat, by have := vp_in_iff.mp ov; omega⟩
      have O6 : O < 6 := by have := vp_in_iff.mp ov; omega
      have cO : (y.1 100 n.toNatClampNeg).toNatClampNeg = O := by rw [t_cl, O1]; rfl
      have eO : E.2.2.1 = Int32.ofNat O := by rw [← j100]; exact i32_of O1
      have E9 : E.2.1 = 9 := by
        have := (w1 J.length E gt_sn).2
        rw [e9'] at j99
        exact ((of_inj (n := 9) (by omega) (by omega)).mp j99).symm
      have EF : E.2.2.2.2.2.1 = false := by
        rw [nf] at j103
        cases h9 : E.2.2.2.2.2.1 with
        | false => rfl
        | true => rw [h9, if_pos rfl] at j103; exact absurd j103 (by decide)
      have m8 := md_a y 106 (y.1 100 n.toNatClampNeg).toNatClampNeg n (by decide)
      rw [← ey8] at m8
      have g8 := mi_of m8
      refine last y8 (eqS_mi ey g8 rfl rfl (Sl_Sm b)) (mi_tr my g8 rfl rfl) (by rw [g8.1 94 (by decide)]; exact y94) (by rw [m8.2.1 96 (by decide) (by decide)]; exact y96) (fun j hj => by rw [m8.2.1 96 (by decide) (by decide)]; exact y96b j hj) (by rw [g8.1 96 (by decide)]; exact yn) (fun j hj => aA_mi g8 rfl (ya j hj)) (fun t' ht' => ?_) ⟨JMs_mi g8 rfl rfl yj, ?_⟩
      · obtain ⟨q1, q2⟩ := yb t' ht'
        refine ⟨?_, by rw [m8.2.1 107 (by decide) (by decide)]; exact q2⟩
        rw [ey8, si_get]
        by_cases w : (106 : Nat) = 106 ∧ t' = (y.1 100 n.toNatClampNeg).toNatClampNeg
        · rw [if_pos w]; exact Or.inr ⟨h0, by omega⟩
        · rw [if_neg w]; exact q1
      · rw [dE]
        refine MJc_new hc9 nJ (hr2 y8 (by rw [m8.2.2]; exact hR.1)) (fun t ht => ?_) (fun t ht => by rw [m8.2.1 107 (by decide) (by decide)]; exact e7 y o ho hR.2.2 t ht)
        rw [ey8, cO, si_get]
        by_cases ct9 : t = O
        · rw [if_pos ⟨rfl, ct9⟩, ct9]
          exact Or.inl ⟨⟨EF, E9, eO⟩, rfl⟩
        · rw [if_neg (fun q => ct9 q.2), hR.2.1]
          refine Or.inr ⟨fun q => ct9 ?_, rfl⟩
          have := q.2.2
          rw [eO] at this
          exact ((of_inj (by omega) (by omega)).mp this).symm
  have p401 : ∀ (r2 : Nat → Nat → Int64), (∀ y : gd, y.2 = r2 → ∀ (b : Nat) (eb : gDe), (J ++ [E])[b]? = some eb → ∀ a, a < 448 → (bS y b a = true ↔ bf su (J ++ [E]) b a)) → ∀ (y : gd) (l6 : Int32), KDb l6 (dWk C Mm ch.1 ch.2.2) → eqS (Sl b) b y → mi dL dA z y → (y.1 0 94).toInt = dn.toInt + 1 → y.1 96 dn.toNatClampNeg = i → (∀ j : Nat, ¬ j = dn.toNatClampNeg → y.1 96 j = z.1 96 j) → (y.1 0 96).toInt = n.toInt + 1 → (∀ j : Nat, (j : Int) ≤ n.toInt → aA y j) → aB y (n.toInt + 1) → y.1 99 n.toNatClampNeg = s → (y.1 103 n.toNatClampNeg = 0 → s = 9 → vp_in (y.1 100 n.toNatClampNeg) 6) → JMs z y (deM C wn Mm ch) → ∀ (m : Nat) (o : Int32), 0 ≤ o.toInt → (a.1 0 25).toInt - o.toInt ≤ m → (y.2 = r2 ∧ y.1 106 = z.1 106 ∧ ∀ t, t < 6 → y.1 107 t = if (t : Int) < o.toInt ∧ dWk C Mm ch.1 ch.2.2 t = true then n else z.1 107 t) → MT G (D + 2) z_doChoice 325 [(0, vr 0), (3, vi n), (6, vi l6), (7, vi o)] [] y (rv Fv) := by
    intro r2 hr2 y l6 hl6 ey my y94 y96 y96b yn ya yb ys yf yj m
    induction m generalizing y with
    | zero =>
      intro o o0 hm hR
      have g25' : y.1 0 25 = a.1 0 25 := by rw [my.1 25 (by decide), cF e (by decide)]
      exact sg_doChoice_325 _ _ _ ⟨fun _ => brk r2 hr2 y o ey my y94 y96 y96b yn ya yb ys yf yj (by omega) hR, fun cc => absurd (t_le.mpr (by rw [g25']; omega)) cc⟩
    | succ m ih =>
      intro o o0 hm hR
      have g25' : y.1 0 25 = a.1 0 25 := by rw [my.1 25 (by decide), cF e (by decide)]
      refine sg_doChoice_325 _ _ _ ⟨fun cc => brk r2 hr2 y o ey my y94 y96 y96b yn ya yb ys yf yj (by rw [t_le, g25'] at cc; exact cc) hR, fun cc => ?_⟩
      rw [t_le, g25'] at cc
      have ov : vp_in o 6 := by rw [vp_in_iff]; omega
      have oi : (o + 1).toInt = o.toInt + 1 := by rw [t_add (by omega) (by omega), k1]
      obtain ⟨O, O1⟩ : ∃ O : Nat, o.toInt = (O : Nat) := ⟨o.toInt.toNat, by omega⟩
      have cO : o.toNatClampNeg = O := by rw [t_cl, O1]; rfl
      have eO : o = Int32.ofNat O := i32_of O1
      have bit := hl6 O (by omega)
      rw [← eO] at bit
      have go : ∀ (v : Int32) (y2 : gd), y2 = si y 107 o.toNatClampNeg v → (v = -1 ∨ (0 ≤ v.toInt ∧ v.toInt < n.toInt + 1)) → (v = if dWk C Mm ch.1 ch.2.2 O = true then n else z.1 107 O) → MT G (D + 2) z_doChoice 325 [(0, vr 0), (3, vi n), (6, vi l6), (7, vi (o + 1))] [] y2 (rv Fv) := by
        intro v y2 ey2 hv hv2
        have m2 := md_a y 107 o.toNatClampNeg v (by decide)
        rw [← ey2] at m2
        have g2 := mi_of m2
        refine ih y2 (eqS_mi ey g2 rfl rfl (Sl_Sm b)) (mi_tr my g2 rfl rfl) (by rw [g2.1 94 (by decide)]; exact y94) (by rw [m2.2.1 96 (by decide) (by decide)]; exact y96) (fun j hj => by rw [m2.2.1 96 (by decide) (by decide)]; exact y96b j hj) (by rw [g2.1 96 (by decide)]; exact yn) (fun j hj => aA_mi g2 rfl (ya j hj)) (fun t' ht' => ?_) (by rw [m2.2.1 99 (by decide) (by decide)]; exact ys) (by rw [m2.2.1 103 (by decide) (by decide), m2.2.1 100 (by decide) (by decide)]; exact yf) (JMs_mi g2 rfl rfl yj) (o + 1) (by omega) (by omega) ⟨by rw [m2.2.2]; exact hR.1, by rw [m2.2.1 106 (by decide) (by decide)]; exact hR.2.1, fun t ht => ?_⟩
        · obtain ⟨q1, q2⟩ := yb t' ht'
          refine ⟨by rw [m2.2.1 106 (by decide) (by decide)]; exact q1, ?_⟩
          rw [ey2, si_get]
          by_cases w : (107 : Nat) = 107 ∧ t' = o.toNatClampNeg
          · rw [if_pos w]; exact hv
          · rw [if_neg w]; exact q2
        · rw [ey2, cO, si_get]
          by_cases ct9 : t = O
          · rw [if_pos ⟨rfl, ct9⟩, hv2, ct9]
            by_cases cw : dWk C Mm ch.1 ch.2.2 O = true
            · rw [if_pos cw, if_pos ⟨by omega, cw⟩]
            · rw [if_neg cw, if_neg (fun q => cw q.2)]
          · rw [if_neg (fun q => ct9 q.2), hR.2.2 t ht]
            by_cases cw : (t : Int) < o.toInt ∧ dWk C Mm ch.1 ch.2.2 t = true
            · rw [if_pos cw, if_pos ⟨by omega, cw.2⟩]
            · rw [if_neg cw, if_neg (fun q => cw ⟨by omega, q.2⟩)]
      refine ⟨fun nb => ⟨ov, ov, fun y2 ey2 => go _ y2 ey2 (yb _ (vt ov)).2 ?_⟩, fun yb9 => ⟨ov, fun y2 ey2 => go _ y2 ey2 (Or.inr ⟨h0, by omega⟩) ?_⟩⟩
      · rw [cO, hR.2.2 O (by omega), if_neg (by omega), if_neg (fun q => nb (bit.mpr q))]
      · rw [if_pos (bit.mp yb9)]
  -- the act itself
  have act : ∀ l6 : Int32, KDb l6 (dWk C Mm ch.1 ch.2.2) → MT G (D + 1) z_doAct 0 [(0, vr 0), (1, vi t), (2, vi (z16.1 88 i.toNatClampNeg))] [] z16 (rv (fun x3 => vp_in n 400 ∧ (∀ x5 : gd, x5 = si x3 100 n.toNatClampNeg (x3.1 0 88) → (((x5.1 0 89) ≤ (0 : Int32) → MT G (D + 2) z_doChoice 286 [(0, vr 0), (3, vi n), (6, vi l6)] [vi 0, vi n, vr 103] x5 (rv Fv)) ∧ (¬ ((x5.1 0 89) ≤ (0 : Int32)) → MT G (D + 2) z_doChoice 286 [(0, vr 0), (3, vi n), (6, vi l6)] [vi 1, vi n, vr 103] x5 (rv Fv)))))) := by
    intro l6 hl6
    have ht := trd c G z16 el16
    rw [← et, ← w88] at ht
    refine MT_up (by omega) (MTv_mono ht (fun y q => ⟨nv, fun y5 e5 => ?_⟩))
    obtain ⟨ey, my, ap, dq⟩ := q
    rw [← es] at ap
    have m5 := md_a y 100 n.toNatClampNeg (y.1 0 88) (by decide)
    rw [← e5] at m5
    have f89 : y5.1 0 89 = y.1 0 89 := m5.1 89 (by decide)
    have f88 : y5.1 100 n.toNatClampNeg = y.1 0 88 := by rw [e5, si_get, if_pos ⟨rfl, rfl⟩]
    have p286 : ∀ v : Int32, (v = 0 ∨ v = 1) → (v = 0 → (y.1 0 89).toInt ≤ 0) → (v = 1 → ¬ (y.1 0 89).toInt ≤ 0) → MT G (D + 2) z_doChoice 286 [(0, vr 0), (3, vi n), (6, vi l6)] [vi v, vi n, vr 103] y5 (rv Fv) := by
      intro v hv hv0 hv1
      refine sg_doChoice_286 _ _ _ _ ⟨nv, fun u2 eu2 => ⟨nv, fun u4 eu4 => ⟨nv, fun u6 eu6 u7 eu7 => ?_⟩⟩⟩
      have mu2 := md_a y5 103 n.toNatClampNeg (vp_nar .boolean v) (by decide)
      rw [← eu2] at mu2
      have mu4 := md_a u2 101 n.toNatClampNeg (u2.1 0 92) (by decide)
      rw [← eu4] at mu4
      have mu6 := md_a u4 102 n.toNatClampNeg (u4.1 0 93) (by decide)
      rw [← eu6] at mu6
      have mu7 := md_f u6 96 (u6.1 0 96 + 1)
      rw [← eu7] at mu7
      have M : md [96] [100, 103, 101, 102] y u7 := md_tr (md_tr (L3 := []) (A3 := [100, 103, 101, 102]) (md_tr (L3 := []) (A3 := [100, 103, 101]) (md_tr (L3 := []) (A3 := [100, 103]) m5 mu2 rfl rfl) mu4 rfl rfl) mu6 rfl rfl) mu7 rfl rfl
      have g7 : mi [96] [100, 103, 101, 102] y u7 := mi_of M
      have e7 : eqS (Sl b) b u7 := eqS_mi ey g7 rfl rfl (Sl_Sm b)
      have mz : mi dL dA z u7 := mi_tr (mi_tr (L3 := dL) (A3 := dA) (mi_tr (L3 := dL) (A3 := dA) (mi_of m34) (mi_of m416) rfl rfl) (mi_of my) rfl rfl) g7 rfl rfl
      have yn : y.1 0 96 = n := by rw [my.1 96 (by decide), m416.1 96 (by decide), q96]
      have u96 : (u7.1 0 96).toInt = n.toInt + 1 := by
        rw [eu7, si_get, if_pos ⟨rfl, rfl⟩, mu6.1 96 (by decide), mu4.1 96 (by decide), mu2.1 96 (by decide), m5.1 96 (by decide), yn, t_add (by omega) (by omega), k1]
      have u94 : (u7.1 0 94).toInt = dn.toInt + 1 := by rw [g7.1 94 (by decide), my.1 94 (by decide), m416.1 94 (by decide)]; exact q94
      have u96a : u7.1 96 = z4.1 96 := by rw [g7.2.1 96 (by decide) (by decide), my.2.1 96 (by decide) (by decide), m416.2.1 96 (by decide) (by decide)]
      have u98 : u7.1 98 = z16.1 98 := by rw [g7.2.1 98 (by decide) (by decide), my.2.1 98 (by decide) (by decide)]
      have u99 : u7.1 99 = z16.1 99 := by rw [g7.2.1 99 (by decide) (by decide), my.2.1 99 (by decide) (by decide)]
      have u100 : u7.1 100 n.toNatClampNeg = y.1 0 88 := by rw [eu7, si_cell (by decide), eu6, si_cell (by decide), eu4, si_cell (by decide), eu2, si_cell (by decide), f88]
      have u103 : u7.1 103 n.toNatClampNeg = vp_nar .boolean v := by rw [eu7, si_cell (by decide), eu6, si_cell (by decide), eu4, si_cell (by decide), eu2, si_get, if_pos ⟨rfl, rfl⟩]
      have b100 : ∀ j : Nat, ¬ j = n.toNatClampNeg → u7.1 100 j = z.1 100 j := fun j hj => by rw [eu7, si_cell (by decide), eu6, si_cell (by decide), eu4, si_cell (by decide), eu2, si_cell (by decide), e5, si_ne 100 j hj, my.2.1 100 (by decide) (by decide), m416.2.1 100 (by decide) (by decide), m34.2.1 100 (by decide) (by decide)]
      have b103 : ∀ j : Nat, ¬ j = n.toNatClampNeg → u7.1 103 j = z.1 103 j := fun j hj => by rw [eu7, si_cell (by decide), eu6, si_cell (by decide), eu4, si_cell (by decide), eu2, si_ne 103 j hj, e5, si_cell (by decide), my.2.1 103 (by decide) (by decide), m416.2.1 103 (by decide) (by decide), m34.2.1 103 (by decide) (by decide)]
      have vf : vp_nar .boolean v = 0 → (y.1 0 89).toInt ≤ 0 := by
        intro q
        rcases hv with hv | hv
        · exact hv0 hv
        · rw [hv] at q; exact absurd q (by decide)
      have aa : ∀ j : Nat, (j : Int) ≤ n.toInt → aA u7 j := by
        intro j hj
        by_cases w : j = n.toNatClampNeg
        · rw [w]
          unfold aA
          rw [u98, r98, u99, r99, u100, u103]
          exact ⟨t0, t6, fun q sa => (ap (vf q)).1 sa⟩
        · unfold aA
          rw [u98, r98b j w, u99, r99b j w, b100 j w, b103 j w]
          exact h3 j (by omega)
      have bb : aB u7 (n.toInt + 1) := by
        have mm : mi [82, 84, 88, 89, 90, 91, 92, 93, 94, 96] [70, 71, 72, 73, 74, 75, 76, 77, 78, 79, 80, 81, 82, 84, 86, 87, 88, 96, 98, 99, 104, 100, 103, 101, 102] z u7 := mi_tr (mi_tr (L3 := [82, 84, 88, 89, 90, 91, 92, 93, 94]) (A3 := [70, 71, 72, 73, 74, 75, 76, 77, 78, 79, 80, 81, 82, 84, 86, 87, 88, 96, 98, 99, 104]) (mi_tr (L3 := [94]) (A3 := [96, 98, 99, 104]) (mi_of m34) (mi_of m416) rfl rfl) (mi_of my) rfl rfl) g7 rfl rfl
        exact aB_mi mm rfl (by omega) h4
      have jm7 : JMs z u7 (deM C wn Mm ch) := by
        have nc : n.toNatClampNeg = (z.1 0 96).toInt.toNat := by rw [t_cl, en]
        have cn' : ch.2.1 = none := c87.mp c
        have sO : s = Int32.ofNat (soM C (Mm.2.2 ch.1)) := by rw [← csr cn', es, et, cT]
        have tI : t = Int32.ofNat ch.1 := by rw [et, c86]
        obtain ⟨d1, d2, d3, d4⟩ := dq
        have l9 : (lkM C wn Mm ch.1).1 ≤ 9 := lkM_le
        have i9 : (Int32.ofNat (lkM C wn Mm ch.1).1).toInt = ((lkM C wn Mm ch.1).1 : Nat) := Int32.toInt_ofNat_of_lt (by omega)
        have c92 : u2.1 0 92 = y.1 0 92 := by rw [mu2.1 92 (by decide), m5.1 92 (by decide)]
        have c93 : u4.1 0 93 = y.1 0 93 := by rw [mu4.1 93 (by decide), mu2.1 93 (by decide), m5.1 93 (by decide)]
        have bz : ∀ {c9 : Nat}, (c9 = 101 ∨ c9 = 102) → y.1 c9 = z.1 c9 := fun h9 => by
          rcases h9 with h9 | h9 <;> rw [h9, my.2.1 _ (by decide) (by decide), m416.2.1 _ (by decide) (by decide), m34.2.1 _ (by decide) (by decide)]
        have v103 : vp_nar .boolean v = if decide (¬ (lkM C wn Mm ch.1).1 = 0) = true then 1 else 0 := by
          rcases hv with hv | hv
          · have := hv0 hv
            rw [d2, i9] at this
            rw [hv, if_neg (by rw [decide_eq_true_iff]; omega)]; decide
          · have := hv1 hv
            rw [d2, i9] at this
            rw [hv, if_pos (by rw [decide_eq_true_iff]; omega)]; decide
        rw [deM_a cn']
        refine ⟨by rw [u96, en], fun j => ?_, fun j => ?_, fun j => ?_, fun j => ?_, fun j => ?_, fun j => ?_⟩ <;> rw [← nc] <;> by_cases w : j = n.toNatClampNeg
        · rw [if_pos w, w, u98, r98, tI]; rfl
        · rw [if_neg w, u98, r98b j w]
        · rw [if_pos w, w, u99, r99, sO]; rfl
        · rw [if_neg w, u99, r99b j w]
        · rw [if_pos w, w, u100, d1]; rfl
        · rw [if_neg w, b100 j w]
        · rw [if_pos w, w, eu7, si_cell (by decide), eu6, si_cell (by decide), eu4, si_get, if_pos ⟨rfl, rfl⟩, c92, d3]; rfl
        · rw [if_neg w, eu7, si_cell (by decide), eu6, si_cell (by decide), eu4, si_ne 101 j w, eu2, si_cell (by decide), e5, si_cell (by decide), bz (Or.inl rfl)]
        · rw [if_pos w, w, eu7, si_cell (by decide), eu6, si_get, if_pos ⟨rfl, rfl⟩, c93, d4]; rfl
        · rw [if_neg w, eu7, si_cell (by decide), eu6, si_ne 102 j w, eu4, si_cell (by decide), eu2, si_cell (by decide), e5, si_cell (by decide), bz (Or.inr rfl)]
        · rw [if_pos w, w, u103, v103]; rfl
        · rw [if_neg w, b103 j w]
      have mj7 : MJo u7 (J ++ [E]) := MJo_next hj (by rw [dE] at jm7; exact jm7) (Or.inr ⟨E, rfl⟩)
      have z2 : u7.2 = z.2 := M.2.2.trans (my.2.2.trans (m416.2.2.trans m34.2.2))
      have z6 : u7.1 106 = z.1 106 := by rw [g7.2.1 106 (by decide) (by decide), my.2.1 106 (by decide) (by decide), m416.2.1 106 (by decide) (by decide), m34.2.1 106 (by decide) (by decide)]
      have z7 : u7.1 107 = z.1 107 := by rw [g7.2.1 107 (by decide) (by decide), my.2.1 107 (by decide) (by decide), m416.2.1 107 (by decide) (by decide), m34.2.1 107 (by decide) (by decide)]
      have z37 : u7.1 37 = z.1 37 := mz.2.1 37 (by decide) (by decide)
      have n4 := vp_in_iff.mp nv
      have h6 := hc9.2.1 E.1 (by rw [E1]; exact c6)
      have h7 := hc9.2.2 E.1 (by rw [E1]; exact c6)
      rw [← z6] at h6
      rw [← z7] at h7
      refine sp_order9 (su := su) (J := J) (e := E) n nJ (by omega) (fun k9 ek9 hk9 => ?_) w1 (aa J.length (by omega)) w2 (by rw [z37]; exact hsu) (fun k9 ek9 hk9 a9 ha9 => ?_) h6 w3 h7 w4 (fun u8 sb => ?_)
      · obtain ⟨o1, o2, o3, -, -, o6⟩ := mj7.2 k9 ek9 hk9
        exact ⟨o1, o2, o3, o6⟩
      · have q := hc9.1 k9 ek9 hk9 a9 ha9
        unfold bS at q ⊢
        rw [z2]; exact q
      have eu8 : u8.1 = u7.1 := sb.1
      have e8 : eqS (Sl b) b u8 := fun c9 j9 h9 => by rw [eu8]; exact e7 c9 j9 h9
      have hr2 : ∀ y9 : gd, y9.2 = u8.2 → ∀ (b9 : Nat) (eb : gDe), (J ++ [E])[b9]? = some eb → ∀ a9, a9 < 448 → (bS y9 b9 a9 = true ↔ bf su (J ++ [E]) b9 a9) := by
        intro y9 e9 b9 eb hb9 a9 ha9
        have e0 : bS y9 b9 a9 = bS u8 b9 a9 := by unfold bS; rw [e9]
        rw [e0]
        rcases gt_cs hb9 with ⟨hl, g9⟩ | ⟨hl, -⟩
        · have e1 : bS u8 b9 a9 = bS z b9 a9 := by
            unfold bS
            rw [sb.2.1 _ (by omega), z2]
          rw [e1, bf_app hl]
          exact hc9.1 b9 eb g9 a9 ha9
        · rw [hl]; exact sb.2.2 a9 ha9
      refine p401 u8.2 hr2 u8 l6 hl6 e8 (mi_eq mz eu8 (by decide)) (by rw [eu8]; exact u94) (by rw [eu8, u96a]; exact q96a) (fun j hj => by rw [eu8, u96a]; exact q96b j hj) (by rw [eu8]; exact u96) (fun j hj => ?_) ?_ (by rw [eu8, u99]; exact r99) (fun q q9 => ?_) (JMs_f eu8 jm7) 6 0 (by decide) (by rw [k0]; omega) ⟨rfl, by rw [eu8]; exact z6, fun t9 ht9 => by rw [eu8, z7, if_neg (fun q => by have := q.1; rw [k0] at this; omega)]⟩
      · have := aa j hj
        unfold aA at this ⊢
        rw [eu8]; exact this
      · unfold aB at bb ⊢
        rw [eu8]; exact bb
      · rw [eu8, u103] at q
        rw [eu8, u100, vp_in_iff]
        exact (ap (vf q)).2 q9
    refine ⟨fun c9 => p286 0 (Or.inl rfl) (fun _ => ?_) (fun q => absurd q (by decide)), fun c9 => p286 1 (Or.inr rfl) (fun q => absurd q (by decide)) (fun _ => ?_)⟩
    · rw [f89, t_le, k0] at c9
      exact c9
    · rw [f89, t_le, k0] at c9
      exact c9
  have l25 : (a.1 0 25).toInt = C.2.1.length := hK.2.1.1
  obtain ⟨K, eK⟩ : ∃ K, K = (Mm.2.2 ch.1).2.2.1 := ⟨_, rfl⟩
  have tC : t.toNatClampNeg = ch.1 := by rw [et]; exact cT
  have kI : k.toInt = (K : Nat) := by rw [ek, tC, eK]; exact (hM.2.2 ch.1 c6).2.2.2.1
  have kK : k.toNatClampNeg = K := by rw [t_cl, kI]; rfl
  have l52 : (a.1 0 52).toInt = C.1.length := hK.1.1
  obtain ⟨st, hst⟩ : ∃ st, C.1[K]? = some st := ⟨_, List.getElem?_eq_getElem (by omega)⟩
  have esT : stN C K = st := stN_is hst
  obtain ⟨-, -, g56, g57, -⟩ := hK.1.2 _ st hst
  have sE : s = Int32.ofNat E.2.1 := by
    have q : s = Int32.ofNat (soM C (Mm.2.2 ch.1)) := by rw [← csr cn9, es, tC]
    rw [q, eE]; rfl
  have s8 : s = 8 ↔ soM C (Mm.2.2 ch.1) = 8 := by
    have q := (w1 J.length E gt_sn).2
    have e2 : E.2.1 = soM C (Mm.2.2 ch.1) := by rw [eE]; rfl
    rw [e2] at sE q
    rw [sE]
    exact of_inj (n := soM C (Mm.2.2 ch.1)) (m := 8) (by omega) (by omega)
  have o8 : s = 8 → st.1 = 8 := by
    intro h8
    have q := s8.mp h8
    unfold soM at q
    by_cases c9 : (Mm.2.2 ch.1).2.2.2.1 = 0
    · rw [if_pos c9, ← eK, esT] at q; exact q
    · rw [if_neg c9] at q; exact absurd q (by decide)
  have tI : t = Int32.ofNat ch.1 := by rw [et, c86]
  have o57 : z16.1 57 k.toNatClampNeg = a.1 57 k.toNatClampNeg := cA el16 (n := 1500) (by decide) (vp_lt kv)
  have fl : s = 8 → (z16.1 57 k.toNatClampNeg = 1 ↔ st.2.2.2.2.2.2.1 = true) := by
    intro h8
    rw [o57, kK, g57, (hX _ st hst).2.2.2.1 (o8 h8)]
    by_cases c9 : st.2.2.2.2.2.2.1 = true
    · rw [if_pos c9]; exact ⟨fun _ => c9, fun _ => rfl⟩
    · rw [if_neg c9]; exact ⟨fun z => absurd z (by decide), fun z => absurd z c9⟩
  have p131 : ∀ (l5 : Int32), (s = 8 → (¬ l5 = 0 ↔ st.2.2.2.2.2.2.1 = true)) → ∀ (m : Nat) (l6 o : Int32), 0 ≤ o.toInt → (a.1 0 25).toInt - o.toInt ≤ m → (∀ u, u < 6 → (bt l6 u = true ↔ (u : Int) < o.toInt ∧ dWk C Mm ch.1 ch.2.2 u = true)) → MT G (D + 2) z_doChoice 131 [(0, vr 0), (1, vi i), (2, vi t), (3, vi n), (4, vi k), (5, vi l5), (6, vi l6), (7, vi o)] [] z16 (rv Fv) := by
    intro l5 hl5 m
    have fin9 : ∀ (l6 o : Int32), (a.1 0 25).toInt ≤ o.toInt → (∀ u, u < 6 → (bt l6 u = true ↔ (u : Int) < o.toInt ∧ dWk C Mm ch.1 ch.2.2 u = true)) → KDb l6 (dWk C Mm ch.1 ch.2.2) := by
      intro l6 o ho hb u hu
      rw [bt_is hu, hb u hu]
      refine ⟨fun q => q.2, fun q => ⟨?_, q⟩⟩
      have := (dk_i.mp q).1
      omega
    induction m with
    | zero =>
      intro l6 o o0 hm hb
      exact sg_doChoice_131 _ _ _ _ _ _ _ ⟨fun _ => ⟨iv, act l6 (fin9 l6 o (by omega) hb)⟩, fun cc => absurd (t_le.mpr (by rw [f25]; omega)) cc⟩
    | succ m ih =>
      intro l6 o o0 hm hb
      refine sg_doChoice_131 _ _ _ _ _ _ _ ⟨fun cc => ⟨iv, act l6 (fin9 l6 o (by rw [t_le, f25] at cc; exact cc) hb)⟩, fun cc => ⟨nv, ?_⟩⟩
      rw [t_le, f25] at cc
      have ov : vp_in o 6 := by rw [vp_in_iff]; omega
      have oi : (o + 1).toInt = o.toInt + 1 := by rw [t_add (by omega) (by omega), k1]
      obtain ⟨O, O1⟩ : ∃ O : Nat, o.toInt = (O : Nat) := ⟨o.toInt.toNat, by omega⟩
      have cO : o.toNatClampNeg = O := by rw [t_cl, O1]; rfl
      have eO : o = Int32.ofNat O := i32_of O1
      have O6 : O < 6 := by omega
      have p221 : ∀ v : Int32, (v = 0 → ¬ dWk C Mm ch.1 ch.2.2 O = true) → (¬ v = 0 → dWk C Mm ch.1 ch.2.2 O = true) → MT G (D + 2) z_doChoice 221 [(0, vr 0), (1, vi i), (2, vi t), (3, vi n), (4, vi k), (5, vi l5), (6, vi l6), (7, vi o)] [vi v] z16 (rv Fv) := by
        intro v hv0 hv1
        refine sg_doChoice_221 _ _ _ _ _ _ _ _ ⟨fun c9 => ih _ _ (by omega) (by omega) (fun u hu => ?_), fun c9 => ih _ _ (by omega) (by omega) (fun u hu => ?_)⟩
        · rw [hb u hu]
          refine ⟨fun q => ⟨by omega, q.2⟩, fun q => ⟨?_, q.2⟩⟩
          have : ¬ u = O := fun e => hv0 c9 (by rw [← e]; exact q.2)
          have := q.1
          omega
        · have ba := bt_add (u := l6) O6 hu
          rw [← eO] at ba
          rw [ba, Bool.or_eq_true, decide_eq_true_iff, hb u hu, oi]
          constructor
          · rintro (q | q)
            · exact ⟨by omega, q.2⟩
            · rw [q]; exact ⟨by omega, hv1 c9⟩
          · intro q
            by_cases e : u = O
            · exact Or.inr e
            · exact Or.inl ⟨by omega, q.2⟩
      have ro := (ri.2 _ (vt ov)).1
      have o74 : z16.1 74 o.toNatClampNeg = a.1 74 o.toNatClampNeg := cA el16 (n := 6) (by decide) (vt ov)
      have o77 : z16.1 77 o.toNatClampNeg = a.1 77 o.toNatClampNeg := cA el16 (n := 6) (by decide) (vt ov)
      have q := hM.2.2 O O6
      have m77 := q.2.2.2.2.1
      have l77 := q.2.2.2.2.2.1
      have m74 := q.2.2.2.1
      obtain ⟨-, b1, -⟩ := wai_2 _ (show (Mm.2.2 O).2.2.2.1 < 3 by omega)
      rw [← m77] at b1
      have wo : a.1 88 i.toNatClampNeg = o ↔ ch.2.2 = some O := by
        rw [c88]
        cases hw9 : ch.2.2 with
        | none =>
          refine ⟨fun z9 => ?_, fun z9 => nomatch z9⟩
          have z9 : (-1 : Int32) = o := z9
          rw [← z9] at o0
          exact absurd o0 (by decide)
        | some o9 =>
          have o96 := c88b cn9 o9 hw9
          show Int32.ofNat o9 = o ↔ _
          rw [eO, of_inj (by omega) (by omega)]
          exact ⟨fun z9 => by rw [z9], fun z9 => Option.some.inj z9⟩
      rw [r99]
      refine ⟨fun n8 => p221 0 (fun _ q => n8 (s8.mpr (dk_i.mp q).2.1)) (fun q => absurd rfl q), fun e8 => ?_⟩
      have q56 := s2 (Or.inl (by rw [e8]; decide))
      have obK : (a.1 56 k.toNatClampNeg).toNatClampNeg = obM C K := by unfold obM; rw [esT, kK, g56]
      have ob6 : obM C K < 6 := by rw [← obK, t_cl]; omega
      obtain ⟨m71, l71, -⟩ := hM.2.1 (obM C K) ob6
      have o71 : z16.1 71 (z16.1 56 k.toNatClampNeg).toNatClampNeg = t ↔ (Mm.2.1 (obM C K)).1 = ch.1 + 1 := by
        rw [o56, obK, cA el16 (c := 71) (n := 6) (by decide) ob6, m71, tI]
        exact ho_1 _ (by omega) _ c6
      have w74 : vp_in (z16.1 74 o.toNatClampNeg) 1500 := by rw [o74, vp_in_iff]; exact ⟨ro.1, ro.2.1⟩
      refine ⟨kv, by rw [o56, vp_in_iff]; omega, fun n71 => p221 0 (fun _ q => n71 (o71.mpr (by rw [eK]; exact (dk_i.mp q).2.2.1))) (fun q => absurd rfl q), fun e71 => ⟨ov, fun n77 => p221 0 (fun _ q => n77 (by rw [o77, cO]; exact b1.mpr (dk_i.mp q).2.2.2.1)) (fun q => absurd rfl q), fun e77 => ⟨ov, w74, kv, ?_⟩⟩⟩
      rw [o77, cO] at e77
      have g1 : a.1 73 O = 1 := by
        rcases (ri.2 O O6).2.1 with z9 | ⟨-, z9, -⟩
        · rw [e77] at z9; exact absurd z9 (by decide)
        · exact z9
      have g5 : a.1 55 (a.1 74 O).toNatClampNeg = 7 := by
        rcases (ri.2 O O6).2.1 with z9 | ⟨-, -, z9⟩
        · rw [e77] at z9; exact absurd z9 (by decide)
        · exact z9
      have rs := RI_step ri O6 g1
      have av9 := rs.2.2.2
      rw [g5] at av9
      have ob : z16.1 56 (z16.1 74 o.toNatClampNeg).toNatClampNeg = z16.1 56 k.toNatClampNeg ↔ obM C (Mm.2.2 O).2.2.1 = obM C K := by
        have lo : 0 ≤ (a.1 56 (a.1 74 O).toNatClampNeg).toInt := by
          rcases av9.2 with z9 | z9 | z9
          · exact z9.2.2.1
          · exact z9.2.2.1
          · exact absurd z9.1 (by decide)
        have kl : (Mm.2.2 O).2.2.1 < C.1.length := by
          have := rs.2.1
          rw [m74] at this
          omega
        obtain ⟨so9, hso⟩ : ∃ so9, C.1[(Mm.2.2 O).2.2.1]? = some so9 := ⟨_, List.getElem?_eq_getElem kl⟩
        obtain ⟨-, -, h56, -⟩ := hK.1.2 _ so9 hso
        have ec : (a.1 74 O).toNatClampNeg = (Mm.2.2 O).2.2.1 := by rw [t_cl, m74]; rfl
        rw [cA el16 (c := 56) (n := 1500) (by decide) (vp_lt w74), o56, o74, cO, ← obK]
        rw [ec, h56] at lo ⊢
        unfold obM
        rw [stN_is hso, t_cl so9.2.2.2.2.1, t_cl (a.1 56 k.toNatClampNeg), t_eq]
        omega
      refine ⟨fun n5 => p221 0 (fun _ q => n5 (ob.mpr (by rw [eK]; exact (dk_i.mp q).2.2.2.2.1))) (fun q => absurd rfl q), fun e5 => ?_⟩
      have yes : (st.2.2.2.2.2.2.1 = true ∨ ch.2.2 = some O) → dWk C Mm ch.1 ch.2.2 O = true := fun hy => by
        refine dk_i.mpr ⟨by omega, s8.mp e8, ?_, b1.mp e77, ?_, ?_⟩
        · rw [← eK]; exact o71.mp e71
        · rw [← eK]; exact ob.mp e5
        · rw [← eK, esT]; exact hy
      have no : dWk C Mm ch.1 ch.2.2 O = true → st.2.2.2.2.2.2.1 = true ∨ ch.2.2 = some O := fun hy => by
        have q := (dk_i.mp hy).2.2.2.2.2
        rw [← eK, esT] at q; exact q
      refine ⟨fun n5 => p221 1 (fun z9 => absurd z9 (by decide)) (fun _ => yes (Or.inl ((hl5 e8).mp n5))), fun z5 => ⟨iv, ?_⟩⟩
      rw [w88]
      refine ⟨fun nw => p221 0 (fun _ q => (no q).elim (fun z9 => (hl5 e8).mpr z9 z5) (fun z9 => nw (wo.mpr z9))) (fun q => absurd rfl q), fun ew => p221 1 (fun z9 => absurd z9 (by decide)) (fun _ => yes (Or.inr (wo.mp ew)))⟩
  rw [r99]
  have go : ∀ l5 : Int32, (s = 8 → (¬ l5 = 0 ↔ st.2.2.2.2.2.2.1 = true)) → MT G (D + 2) z_doChoice 131 [(0, vr 0), (1, vi i), (2, vi t), (3, vi n), (4, vi k), (5, vi l5), (6, vi 0), (7, vi 0)] [] z16 (rv Fv) := fun l5 hl5 => p131 l5 hl5 6 0 0 (by decide) (by rw [k0]; omega) (fun u hu => ⟨fun q => absurd q (by rw [bt_0]; decide), fun q => by have := q.1; rw [k0] at this; omega⟩)
  exact ⟨fun n8 => go 0 (fun e8 => absurd e8 n8), fun e8 => ⟨kv, fun n1 => go 0 (fun _ => ⟨fun q => absurd rfl q, fun q => absurd ((fl e8).mpr q) n1⟩), fun y1 => go 1 (fun _ => ⟨fun _ => (fl e8).mp y1, fun _ => by decide⟩)⟩⟩
end DC9
end
section
/-! a run as a row of states and acts -/
/-- the state behind k choices of a row -/
noncomputable def runM (C : gCo) (w : Nat) (c : Nat → Nat) : Nat → gMa
  | 0 => fsM C
  | k + 1 => doM C w (runM C w c k) (((chM C w (runM C w c k))[c k]?).getD (0, none, none))
/-- the row of choices done -/
def c96 (z : gd) : Nat → Nat := fun k => (z.1 96 k).toNatClampNeg
/-- the row of acts behind k choices -/
noncomputable def joM (C : gCo) (w : Nat) (c : Nat → Nat) : Nat → List gDe
  | 0 => []
  | k + 1 => joM C w c k ++ deM C w (runM C w c k) (((chM C w (runM C w c k))[c k]?).getD (0, none, none))
section PRUN
variable {C : gCo} {w : Nat}
theorem runM_s {c : Nat → Nat} {k : Nat} {ch : gCh} (h : (chM C w (runM C w c k))[c k]? = some ch) : runM C w c (k + 1) = doM C w (runM C w c k) ch := by
  rw [runM, h]
  rfl
theorem runM_cg {c c' : Nat → Nat} : ∀ {n : Nat}, (∀ k, k < n → c k = c' k) → runM C w c n = runM C w c' n := by
  intro n
  induction n with
  | zero => intro _; rfl
  | succ n ih =>
    intro h
    rw [runM, runM, ih (fun k hk => h k (by omega)), h n (by omega)]
theorem joM_s {c : Nat → Nat} {k : Nat} {ch : gCh} (h : (chM C w (runM C w c k))[c k]? = some ch) : joM C w c (k + 1) = joM C w c k ++ deM C w (runM C w c k) ch := by
  rw [joM, h]
  rfl
theorem joM_cg {c c' : Nat → Nat} : ∀ {n : Nat}, (∀ k, k < n → c k = c' k) → joM C w c n = joM C w c' n := by
  intro n
  induction n with
  | zero => intro _; rfl
  | succ n ih =>
    intro h
    rw [joM, joM, ih (fun k hk => h k (by omega)), runM_cg (fun k hk => h k (by omega)), h n (by omega)]
end PRUN
def suC (C : gCo) : Int32 → Bool := fun v => suM C v.toNatClampNeg
theorem suC_is {x a : gd} {C : gCo} {S : gS} (e : eqS S a x) (hK : MK a C) (l24 : C.2.2.1.length ≤ 24) : ∀ o : Nat, o < C.2.2.1.length → (¬ x.1 37 o = 0 ↔ suC C (Int32.ofNat o) = true) := by
  intro o hl
  have hg := List.getElem?_eq_getElem hl
  have e1 := (hK.2.2.1.2 o _ hg).2
  have e2 : x.1 37 o = a.1 37 o := cA e (c := 37) (n := 24) (by decide) (by omega)
  have co : (Int32.ofNat o).toNatClampNeg = o := by rw [t_cl, Int32.toInt_ofNat_of_lt (by omega)]; rfl
  unfold suC suM
  rw [co, hg, e2, e1]
  show ¬ (if (C.2.2.1[o]).2 = true then (1 : Int32) else 0) = 0 ↔ (C.2.2.1[o]).2 = true
  by_cases c : (C.2.2.1[o]).2 = true
  · rw [if_pos c]; exact ⟨fun _ => c, fun _ z => absurd z (by decide)⟩
  · rw [if_neg c]; exact ⟨fun z => absurd rfl z, fun z => absurd z c⟩
theorem MJc_0 {su : Int32 → Bool} {z : gd} (ha : HA z) (h : (z.1 0 96).toInt = 0) : MJc su z [] := by
  have hB := ha.2.2.2.2
  rw [h] at hB
  refine ⟨fun b eb h => (jo_nil h).elim, fun t ht => Or.inl ⟨(hB t ht).1.resolve_right (fun q => by omega), fun k ek h => (jo_nil h).elim⟩, fun t ht => Or.inl ⟨(hB t ht).2.resolve_right (fun q => by omega), fun k ek h => (jo_nil h).elim⟩⟩
theorem MJc_mi {su : Int32 → Bool} {z y : gd} {J : List gDe} {L A : List Nat} (m : mi L A z y) (hA : [105, 106, 107].all (fun k => !A.elem k) = true) (h : MJc su z J) : MJc su y J := MJc_f (m.2.2 (all_no hA 105 (by decide))) (m.2.1 106 (by decide) (all_no hA 106 (by decide))) (m.2.1 107 (by decide) (all_no hA 107 (by decide))) h
end
section
/-! what holds of the row of acts of every run -/
def WJ (C : gCo) (M : gMa) (J : List gDe) : Prop :=
  (∀ t, (M.2.2 t).1 = 1 → ∃ st, C.1[(M.2.2 t).2.2.1]? = some st ∧ st.1 < 16) ∧
  (∀ (a : Nat) (e : gDe), J[a]? = some e → e.1 < C.2.1.length ∧ e.2.1 < 22) ∧
  (∀ o, (M.2.2 o).1 = 0 → ∀ (a : Nat) (e : gDe), J[a]? = some e → ¬ e.1 = o ∧ (o < 6 → ¬ qSt (Int32.ofNat o) e)) ∧
  (∀ o, o < 6 → ∀ (s : Nat) (es : gDe), J[s]? = some es → qSt (Int32.ofNat o) es → (∀ (k : Nat) (ek : gDe), J[k]? = some ek → ek.1 = o → s < k) ∧ ∀ (k : Nat) (ek : gDe), J[k]? = some ek → qSt (Int32.ofNat o) ek → k = s) ∧
  (∀ (a : Nat) (e : gDe) (u : Nat), J[a]? = some e → e.2.2.2.2.2.2 u = true → qWk u e) ∧
  (∀ (u a : Nat) (e : gDe), J[a]? = some e → qWk u e → ((M.2.2 u).2.2.2.1 = 2 ∧ ∀ (a' : Nat) (e' : gDe), a < a' → J[a']? = some e' → ¬ qWk u e') ∨ ∃ r er, a < r ∧ J[r]? = some er ∧ er.1 = u ∧ er.2.1 = 15 ∧ er.2.2.2.2.2.1 = false) ∧
  (∀ (a : Nat) (e : gDe), J[a]? = some e → e.2.1 ≤ 4 → e.2.2.2.2.2.1 = false → e.2.2.1.toNatClampNeg < C.2.2.1.length)
section PJI
variable {C : gCo} {w t n : Nat} {M : gMa} {J : List gDe} {e x : gDe} {wk : Option Nat} {a : Nat} {c : Nat → Nat} {st : gNs}
/-- an act that takes no values: what is looked at -/
theorem lk_pl (hX : NXc C) (hst : C.1[(M.2.2 t).2.2.1]? = some st) (w0 : (M.2.2 t).2.2.2.1 = 0) (hs : st.1 = 8 ∨ st.1 = 9) : lkM C w M t = (rsF C w M t st.1 st.2.2.2.2.1.toNatClampNeg, st.2.2.2.2.1, 0, 0) := by
  have es := stN_is hst
  obtain ⟨x1, x2, x3, -⟩ := hX _ st hst
  have i0 : st.2.2.2.2.2.2.2.1 = none := Classical.byContradiction (fun z => by have := x1 z; omega)
  have i2 : st.2.2.2.2.2.2.2.2.2 = none := Classical.byContradiction (fun z => by have := x2 z; omega)
  have i1 : st.2.2.2.2.2.2.2.2.1 = none := Classical.byContradiction (fun z => by have := x3 z; omega)
  have li : lkI C M t = (0, st.2.2.2.2.1) := by rw [lkI_n (by rw [es]; exact i0), es]
  have := lkM_3 (C := C) (w := w) (M := M) (t := t) (e := 0) (f := 0) w0 (by rw [li]) (by rw [es, i1]; rfl) (by rw [es, i2]; rfl)
  rw [this, li, es]
theorem WJ_0 (hN : NC C) : WJ C (fsM C) [] := by
  refine ⟨fun t h => ?_, fun a e h => (jo_nil h).elim, fun o _ a e h => (jo_nil h).elim, fun o _ s es h => (jo_nil h).elim, fun a e u h => (jo_nil h).elim, fun u a e h => (jo_nil h).elim, fun a e h => (jo_nil h).elim⟩
  have h : (match C.2.1[t]? with | some q => if q.2 = 1 then th0 else thN C t th0 q.1 (fun _ => 0) | none => th0 : gTq).1 = 1 := h
  show ∃ st, C.1[(match C.2.1[t]? with | some q => if q.2 = 1 then th0 else thN C t th0 q.1 (fun _ => 0) | none => th0 : gTq).2.2.1]? = some st ∧ st.1 < 16
  cases hq : C.2.1[t]? with
  | none => rw [hq] at h; exact absurd h (show ¬ 0 = 1 by decide)
  | some q =>
    rw [hq] at h
    simp only at h ⊢
    by_cases c1 : q.2 = 1
    · rw [if_pos c1] at h; exact absurd h (show ¬ 0 = 1 by decide)
    · rw [if_neg c1] at h ⊢
      exact owR_at h
theorem WJ_ac (gc : GC C) (h : WJ C M J) (ht : t < C.2.1.length) (h1 : (M.2.2 t).1 = 1) (hw : ¬ (M.2.2 t).2.2.2.1 = 1) : WJ C (acM C w M t wk) (J ++ [deA C w M t wk]) := by
  obtain ⟨w1, w2, w3, w4, w5, w6, w7⟩ := h
  obtain ⟨st, hst, o16⟩ := w1 t h1
  have es := stN_is hst
  have hN := gc.1
  have hX := gc.2.1
  have hJ := gc.2.2.2
  have ns := hN.1 _ st hst
  have lt1 : (M.2.2 t).2.2.1 + 1 < C.1.length := by
    obtain ⟨st', g1, -⟩ := ns.2.1 (by omega)
    exact gt_lt g1
  have so22 : soM C (M.2.2 t) < 22 := by
    unfold soM
    rw [es]
    split <;> omega
  have so0 : ¬ soM C (M.2.2 t) = 15 → (M.2.2 t).2.2.2.1 = 0 ∧ soM C (M.2.2 t) = st.1 := fun n => by
    have := so_0 n
    rw [es] at this
    exact this
  have ai := ac_is (w := w) (wk := wk) hN hJ h1 lt1 ⟨st, hst, o16⟩
  -- a start that was done
  have st0 : ∀ o, o < 6 → qSt (Int32.ofNat o) (deA C w M t wk) → (M.2.2 o).1 = 0 ∧ soM C (M.2.2 t) = 9 ∧ (lkM C w M t).1 = 0 ∧ (lkM C w M t).2.1.toNatClampNeg = o ∧ o < C.2.1.length := fun o o6 q => by
    obtain ⟨q1, q2, q3⟩ := q
    have q1 : decide (¬ (lkM C w M t).1 = 0) = false := q1
    have q2 : soM C (M.2.2 t) = 9 := q2
    have q3 : (lkM C w M t).2.1 = Int32.ofNat o := q3
    have l0 : (lkM C w M t).1 = 0 := Classical.byContradiction (fun z => by rw [decide_eq_true z] at q1; exact nomatch q1)
    obtain ⟨w0, e9⟩ := so0 (by omega)
    have lk := lk_pl (w := w) hX hst w0 (by omega)
    have ob := hJ.2.1 _ st hst (by omega)
    have co : (lkM C w M t).2.1.toNatClampNeg = o := by rw [q3, t_cl, Int32.toInt_ofNat_of_lt (by omega)]; rfl
    have co2 : st.2.2.2.2.1.toNatClampNeg = o := by rw [lk] at co; exact co
    rw [co2] at ob
    refine ⟨?_, q2, l0, co, ob⟩
    rw [lk, co2] at l0
    have l0 : rsF C w M t st.1 o = 0 := l0
    apply Classical.byContradiction
    intro z
    unfold rsF at l0
    rw [if_neg (by omega), if_neg (by omega), if_pos ⟨by omega, z⟩] at l0
    omega
  -- a wake
  have wk0 : ∀ u, dWk C M t wk u = true → (lkM C w M t).1 = 0 ∧ soM C (M.2.2 t) = 8 ∧ (M.2.2 u).2.2.2.1 = 1 ∧ (u < C.2.1.length ∧ obM C (M.2.2 u).2.2.1 = (lkM C w M t).2.1.toNatClampNeg ∧ ((stN C (M.2.2 t).2.2.1).2.2.2.2.2.2.1 = true ∨ wk = some u)) := fun u q => by
    obtain ⟨d1, d2, d3, d4, d5, d6⟩ := dk_i.mp q
    obtain ⟨w0, e9⟩ := so0 (by omega)
    have lk := lk_pl (w := w) hX hst w0 (by omega)
    have ob : obM C (M.2.2 t).2.2.1 = st.2.2.2.2.1.toNatClampNeg := by unfold obM; rw [es]
    rw [ob] at d3 d5
    rw [lk]
    refine ⟨?_, d2, d4, d1, d5, d6⟩
    show rsF C w M t st.1 st.2.2.2.2.1.toNatClampNeg = 0
    unfold rsF
    rw [if_neg (by omega), if_neg (fun z => z.2 d3), if_neg (by omega), if_neg (by omega), if_neg (by omega)]
  refine ⟨fun o z => ?_, fun a x hx => ?_, fun o z a x hx => ?_, fun o o6 s es' hs q => ?_, fun a x u hx hk => ?_, fun u a x hx q => ?_, fun a x hx x4 xf => ?_⟩
  · rcases (ai o).1 z with ⟨a, b⟩ | c
    · rw [b]; exact w1 o a
    · exact c
  · rcases gt_cs hx with ⟨-, h2⟩ | ⟨-, h2⟩
    · exact w2 a x h2
    · rw [h2]; exact ⟨ht, so22⟩
  · obtain ⟨z1, z2, z3⟩ := (ai o).2 z
    rcases gt_cs hx with ⟨-, h2⟩ | ⟨-, h2⟩
    · exact w3 o z1 a x h2
    · rw [h2]
      refine ⟨fun q => z2 (show t = o from q).symm, fun o6 q => ?_⟩
      obtain ⟨-, a2, a3, a4, a5⟩ := st0 o o6 q
      rw [a4] at z3
      exact z3 a2 a3 a5 rfl
  · rcases gt_cs hs with ⟨h1', h2⟩ | ⟨h1', h2⟩
    · obtain ⟨v1, v2⟩ := w4 o o6 s es' h2 q
      refine ⟨fun k ek hk he => ?_, fun k ek hk he => ?_⟩
      · rcases gt_cs hk with ⟨-, g2⟩ | ⟨g1, -⟩
        · exact v1 k ek g2 he
        · omega
      · rcases gt_cs hk with ⟨-, g2⟩ | ⟨g1, g2⟩
        · exact v2 k ek g2 he
        · rw [g2] at he
          exact absurd q ((w3 o (st0 o o6 he).1 s es' h2).2 o6)
    · rw [h2] at q
      have z0 := (st0 o o6 q).1
      refine ⟨fun k ek hk he => ?_, fun k ek hk he => ?_⟩
      · rcases gt_cs hk with ⟨-, g2⟩ | ⟨g1, g2⟩
        · exact absurd he (w3 o z0 k ek g2).1
        · rw [g2] at he
          have he : t = o := he
          rw [← he, h1] at z0
          omega
      · rcases gt_cs hk with ⟨-, g2⟩ | ⟨g1, g2⟩
        · exact absurd he ((w3 o z0 k ek g2).2 o6)
        · omega
  · rcases gt_cs hx with ⟨-, h2⟩ | ⟨-, h2⟩
    · exact w5 a x u h2 hk
    · rw [h2] at hk ⊢
      have hk : dWk C M t wk u = true := hk
      obtain ⟨a1, a2, -⟩ := wk0 u hk
      exact ⟨decide_eq_false (fun z => z a1), a2, hk⟩
  · rcases gt_cs hx with ⟨g0, h2⟩ | ⟨g0, h2⟩
    · rcases w6 u a x h2 q with ⟨v1, v2⟩ | ⟨r, er, v1, v2, v3⟩
      · by_cases ut : u = t
        · have n0 : ¬ (M.2.2 t).2.2.2.1 = 0 := by rw [← ut]; omega
          refine Or.inr ⟨J.length, _, g0, gt_sn, ut.symm, ?_, ?_⟩
          · show soM C (M.2.2 t) = 15
            unfold soM
            rw [if_neg n0]
          · show decide (¬ (lkM C w M t).1 = 0) = false
            rw [lkM_15 n0]; rfl
        · refine Or.inl ⟨?_, fun a' e' g1 g2 g3 => ?_⟩
          · by_cases l0 : (lkM C w M t).1 = 0
            · rw [ac_wt ut l0, if_neg (fun z => by have := z.2.2.1; omega)]; exact v1
            · rw [ac_wF ut l0]; exact v1
          · rcases gt_cs g2 with ⟨-, k2⟩ | ⟨-, k2⟩
            · exact v2 a' e' g1 k2 g3
            · rw [k2] at g3
              have := (wk0 u g3.2.2).2.2.1
              omega
      · exact Or.inr ⟨r, er, v1, gt_ls v2, v3⟩
    · rw [h2] at q
      obtain ⟨a1, a2, a3, a4⟩ := wk0 u q.2.2
      have ut : ¬ u = t := fun z => hw (by rw [← z]; exact a3)
      refine Or.inl ⟨by rw [ac_wt ut a1, if_pos ⟨a2, a4.1, a3, a4.2⟩], fun a' e' g1 g2 => ?_⟩
      have := gt_lt g2
      rw [List.length_append] at this
      have : a' < J.length + 1 := this
      omega
  · rcases gt_cs hx with ⟨-, h2⟩ | ⟨-, h2⟩
    · exact w7 a x h2 x4 xf
    · rw [h2] at x4 xf ⊢
      have x4 : soM C (M.2.2 t) ≤ 4 := x4
      have xf : decide (¬ (lkM C w M t).1 = 0) = false := xf
      have l0 : (lkM C w M t).1 = 0 := Classical.byContradiction (fun z => by rw [decide_eq_true z] at xf; exact nomatch xf)
      obtain ⟨w0, e9⟩ := so0 (by omega)
      obtain ⟨li, le⟩ := lkM_pl w0 l0
      show (lkM C w M t).2.1.toNatClampNeg < _
      rw [le]
      exact lkI_in hX hst (by omega) (by have := hJ.2.2; omega) li
theorem la_is (i o : Nat) : ((laM M t i).2.2 o).1 = (M.2.2 o).1 ∧ ((laM M t i).2.2 o).2.2.1 = (M.2.2 o).2.2.1 ∧ ((laM M t i).2.2 o).2.2.2.1 = (M.2.2 o).2.2.2.1 := by
  unfold laM
  cases hq : (M.2.2 t).2.2.2.2.2.2.1[i]? with
  | none => exact ⟨rfl, rfl, rfl⟩
  | some q =>
    show (upf M.2.2 t _ o).1 = _ ∧ (upf M.2.2 t _ o).2.2.1 = _ ∧ (upf M.2.2 t _ o).2.2.2.1 = _
    by_cases co : o = t
    · rw [co, upf_eq]; exact ⟨rfl, rfl, rfl⟩
    · rw [upf_ne co]; exact ⟨rfl, rfl, rfl⟩
theorem WJ_la {i : Nat} (h : WJ C M J) : WJ C (laM M t i) J := by
  obtain ⟨w1, w2, w3, w4, w5, w6, w7⟩ := h
  refine ⟨fun o z => ?_, w2, fun o z => w3 o (by rw [(la_is i o).1] at z; exact z), w4, w5, fun u a x hx q => ?_, w7⟩
  · rw [(la_is i o).1] at z
    rw [(la_is i o).2.1]
    exact w1 o z
  · rw [(la_is i u).2.2]
    exact w6 u a x hx q
theorem WJ_do {ch : gCh} (gc : GC C) (h : WJ C M J) (hc : ch ∈ chM C w M) : WJ C (doM C w M ch) (J ++ deM C w M ch) := by
  obtain ⟨i1, i2, i3⟩ := ch_in hc
  unfold doM deM
  cases hn : ch.2.1 with
  | some i =>
    show WJ C (laM M ch.1 i) (J ++ [])
    rw [List.append_nil]
    exact WJ_la h
  | none => exact WJ_ac gc h i1 (i2 hn).1 (i2 hn).2.1
theorem WJ_run (gc : GC C) : ∀ {n : Nat}, (∀ k, k < n → c k < (chM C w (runM C w c k)).length) → WJ C (runM C w c n) (joM C w c n) := by
  intro n
  induction n with
  | zero => exact fun _ => WJ_0 gc.1
  | succ n ih =>
    intro h
    have hl := h n (by omega)
    have hg : (chM C w (runM C w c n))[c n]? = some _ := List.getElem?_eq_getElem hl
    rw [runM_s hg, joM_s hg]
    exact WJ_do gc (ih (fun k hk => h k (by omega))) (List.mem_of_getElem? hg)
end PJI
section WFE
variable {C : gCo} {w n : Nat} {c : Nat → Nat}
theorem WFe_of {ch : gCh} (gc : GC C) (h : ∀ k, k < n → c k < (chM C w (runM C w c k)).length) (hc : ch ∈ chM C w (runM C w c n)) (cn : ch.2.1 = none) : WFe (deA C w (runM C w c n) ch.1 ch.2.2) (joM C w c n) C.2.2.1.length := by
  have l6 := gc.2.2.1
  have w0 := WJ_run gc h
  have w1 := WJ_do gc w0 hc
  rw [deM_a cn] at w1
  obtain ⟨-, -, -, a4, -, a6, -⟩ := w0
  obtain ⟨-, b2, -, -, b5, -, b7⟩ := w1
  have e6 : (deA C w (runM C w c n) ch.1 ch.2.2).1 < 6 := by have := (b2 _ _ gt_sn).1; omega
  refine ⟨fun k ek hk => ?_, fun h1 h2 => b7 _ _ gt_sn h1 h2, fun s es k ek hs q1 hk q2 => (a4 _ e6 s es hs q1).2 k ek hk q2, fun k ek hk q => ?_, fun u hu => b5 _ _ u gt_sn hu⟩
  · have := b2 k ek hk
    exact ⟨by omega, this.2⟩
  · rcases a6 _ k ek hk q with ⟨-, v⟩ | v
    · exact Or.inl v
    · exact Or.inr v
theorem ch_wk {M : gMa} {ch : gCh} (gc : GC C) (hc : ch ∈ chM C w M) (cn : ch.2.1 = none) : ∀ o, ch.2.2 = some o → o < 6 := by
  intro o ho
  have q := ((ch_in hc).2.1 cn).2.2 o ho
  unfold waM at q
  have := List.mem_range.mp (List.mem_filter.mp q).1
  have := gc.2.2.1
  omega
end WFE
end
section
/-! the model: a run, with the machine's states that it goes through -/
/-- a choice's doing, with what is told of it -/
def LkJ (C : gCo) (w : Nat) (M : gMa) (a : gd) (i : Nat) (a' : gd) : Prop := ∃ ch, (chM C w M)[i]? = some ch ∧ LkD C w M ch.1 a i a' ∧ a.1 86 i = Int32.ofNat ch.1 ∧ (a.1 87 i = -1 ↔ ch.2.1 = none) ∧ (ch.2.1 = none → srt a ch.1 = Int32.ofNat (soM C (M.2.2 ch.1))) ∧ ch.1 < 6
theorem LkJ_L {C : gCo} {w : Nat} {M : gMa} {a a' : gd} {i : Nat} (h : LkJ C w M a i a') : Lk a i a' := by
  obtain ⟨ch, -, h2, -⟩ := h
  exact LkD_L h2
def HistCo (C : gCo) (w : Nat) (z : gd) : Prop := ∃ (a : Nat → gd) (n : Nat), (n : Int) = (z.1 0 94).toInt ∧ (∀ k : Nat, k ≤ n → AM C w (runM C w (c96 z) k) (a k)) ∧ (∀ k : Nat, k < n → 0 ≤ (z.1 96 k).toInt ∧ c96 z k < (chM C w (runM C w (c96 z) k)).length ∧ LkJ C w (runM C w (c96 z) k) (a k) (c96 z k) (a (k + 1))) ∧ eqS (Sm (a n)) (a n) z ∧ St z (z.1 0 68) (a 0) ∧ ((w = 0 ∨ w = 1) ∧ z.1 0 68 = Int32.ofNat w) ∧ HA z
/-- and the acts are told -/
def MJq (C : gCo) (w : Nat) (z : gd) : Prop := MJo z (joM C w (c96 z) (z.1 0 94).toInt.toNat) ∧ MJc (suC C) z (joM C w (c96 z) (z.1 0 94).toInt.toNat) ∧ GC C
def HistC (C : gCo) (w : Nat) (z : gd) : Prop := HistCo C w z ∧ MJq C w z
section MRU
variable {G : mG} {d D : Nat} {x z a : gd} {F : Int32 → gd → Prop} {Fv : gd → Prop} {C : gCo} {w : Nat}
theorem AM_n {M : gMa} (h : AM C w M a) : (a.1 0 84).toInt = ((chM C w M).length : Nat) := h.2.2.2.2.2.1
theorem wy_i {a : gd} (w01 : w = 0 ∨ w = 1) (h : a.1 0 68 = Int32.ofNat w) : wy01 a := by
  unfold wy01
  rw [h]
  rcases w01 with e | e <;> rw [e]
  · exact Or.inl rfl
  · exact Or.inr rfl
theorem HistC_H (h : HistC C w z) : Hist z := by
  obtain ⟨a, n, q1, q2, q3, q4, q5, q6, q7⟩ := h.1
  refine ⟨a, n, q1, fun k hk => (q2 k hk).1, fun k hk => ?_, q4, q5, wy_i q6.1 q6.2, q7⟩
  obtain ⟨b1, b2, b3⟩ := q3 k hk
  have e := AM_n (q2 k (by omega))
  have ci := cl_i b1
  have b2 : (z.1 96 k).toNatClampNeg < (chM C w (runM C w (c96 z) k)).length := b2
  exact ⟨b1, by omega, LkJ_L b3⟩
/-- how many choices there are -/
theorem HistC_n (h : HistC C w z) : (z.1 0 84).toInt = ((chM C w (runM C w (c96 z) (z.1 0 94).toInt.toNat)).length : Nat) := by
  obtain ⟨a, n, q1, q2, q3, q4, -⟩ := h.1
  have e : z.1 0 84 = (a n).1 0 84 := q4 0 84 (Or.inr (Or.inl ⟨rfl, rfl⟩))
  rw [e, ← q1]
  exact AM_n (q2 n (Nat.le_refl _))
theorem MJq_mi {L A : List Nat} {z' : gd} (m : mi L A z z') (hL : [94, 96].all (fun k => !L.elem k) = true) (hA : [96, 98, 99, 100, 101, 102, 103, 105, 106, 107].all (fun k => !A.elem k) = true) (q : MJq C w z) : MJq C w z' := by
  have c9 : c96 z' = c96 z := by unfold c96; rw [m.2.1 96 (by decide) (all_no hA 96 (by decide))]
  unfold MJq
  rw [c9, m.1 94 (all_no hL 94 (by decide))]
  exact ⟨MJo_mi m (all_sub hL rfl) (all_sub hA rfl) q.1, MJc_mi m (all_sub hA rfl) q.2.1, q.2.2⟩
theorem HistC_mi {L A : List Nat} {z' : gd} (m : mi L A z z') (hL : [23, 24, 25, 26, 27, 68, 84, 94, 96].all (fun k => !L.elem k) = true) (hA : [36, 37, 38, 51, 52, 54, 55, 56, 57, 58, 59, 60, 61, 62, 64, 65, 66, 70, 71, 72, 73, 74, 75, 76, 77, 78, 79, 80, 81, 82, 86, 87, 88, 96, 98, 99, 100, 101, 102, 103, 105, 106, 107].all (fun k => !A.elem k) = true) (q : HistC C w z) : HistC C w z' := by
  have L2 : ∀ M : List Nat, M.all ([23, 24, 25, 26, 27, 68, 84, 94, 96].elem ·) = true → M.all (fun k => !L.elem k) = true := fun M hM => List.all_eq_true.mpr (fun k hk => List.all_eq_true.mp hL k (List.elem_iff.mp (List.all_eq_true.mp hM k hk)))
  have A2 : ∀ M : List Nat, M.all ([36, 37, 38, 51, 52, 54, 55, 56, 57, 58, 59, 60, 61, 62, 64, 65, 66, 70, 71, 72, 73, 74, 75, 76, 77, 78, 79, 80, 81, 82, 86, 87, 88, 96, 98, 99, 100, 101, 102, 103, 105, 106, 107].elem ·) = true → M.all (fun k => !A.elem k) = true := fun M hM => List.all_eq_true.mpr (fun k hk => List.all_eq_true.mp hA k (List.elem_iff.mp (List.all_eq_true.mp hM k hk)))
  have f := fun k hk => m.1 k (all_no hL k hk)
  refine ⟨?_, MJq_mi m (L2 _ rfl) (A2 _ rfl) q.2⟩
  obtain ⟨a, n, q1, q2, q3, q4, q5, q6, q7⟩ := q.1
  have g96 : z'.1 96 = z.1 96 := m.2.1 96 (by decide) (all_no hA 96 (by decide))
  have c9 : c96 z' = c96 z := by unfold c96; rw [g96]
  refine ⟨a, n, by rw [f 94 (by decide)]; exact q1, by rw [c9]; exact q2, by rw [c9, g96]; exact q3, eqS_mi q4 m (L2 _ rfl) (A2 _ rfl) (ssub_rf _), ?_, by rw [f 68 (by decide)]; exact q6, HA_mi m (L2 _ rfl) (A2 _ rfl) q7⟩
  rw [f 68 (by decide)]
  exact St_pr (prE_mi (prE_rf z) m (L2 _ rfl) (A2 _ rfl)) q5
theorem srt_so2 {M : gMa} {t : Nat} (hN : NC C) (am : AM C w M a) (ht : t < 6) (h1 : a.1 73 t = 1) (h2 : ¬ a.1 77 t = 1) : srt a t = Int32.ofNat (soM C (M.2.2 t)) ∧ soM C (M.2.2 t) < 22 := by
  obtain ⟨av, hK, hM, hI, wy, -⟩ := am
  obtain ⟨kv, kn, so, -⟩ := RI_step av.1 ht h1
  obtain ⟨m73, l73, m75, m74, m77, l77, -⟩ := hM.2.2 t ht
  have kK : (a.1 74 t).toNatClampNeg = (M.2.2 t).2.2.1 := by rw [t_cl, m74]; rfl
  have l52 : (a.1 0 52).toInt = C.1.length := hK.1.1
  obtain ⟨st, hst⟩ : ∃ st, C.1[(M.2.2 t).2.2.1]? = some st := ⟨_, List.getElem?_eq_getElem (by omega)⟩
  have esN := stN_is hst
  obtain ⟨k54, k55, -⟩ := hK.1.2 _ st hst
  have ns := hN.1 _ st hst
  have o16 : st.1 < 16 := by
    have b := ((av.1.2 t ht).1.2.2 h1).2
    rw [kK, k54] at b
    exact (mWh_i st.1 ns.1.1).1.mp b
  obtain ⟨w2, w1', w0'⟩ := wai_2 _ (show (M.2.2 t).2.2.2.1 < 3 by omega)
  rw [← m77] at w2 w1' w0'
  unfold srt soM
  rw [esN]
  by_cases c9 : a.1 77 t = 2
  · rw [if_pos c9, if_neg (by have := w2.mp c9; omega)]
    exact ⟨rfl, by decide⟩
  · have z0 : (M.2.2 t).2.2.2.1 = 0 := by
      have a1 : ¬ (M.2.2 t).2.2.2.1 = 2 := fun z => c9 (w2.mpr z)
      have a2 : ¬ (M.2.2 t).2.2.2.1 = 1 := fun z => h2 (w1'.mpr z)
      omega
    rw [if_neg c9, if_pos z0, kK]
    exact ⟨k55 o16, by omega⟩
/-- a choice as the memory has it -/
theorem AM_ch {M : gMa} {i : Nat} {ch : gCh} (hN : NC C) (h : AM C w M a) (hch : (chM C w M)[i]? = some ch) : a.1 86 i = Int32.ofNat ch.1 ∧ (a.1 87 i = -1 ↔ ch.2.1 = none) ∧ (ch.2.1 = none → srt a ch.1 = Int32.ofNat (soM C (M.2.2 ch.1))) ∧ ch.1 < 6 := by
  obtain ⟨⟨ri, wy, chv, c0, c84, fa⟩, hK, hM, hI, w68, hE⟩ := h
  have hi : (i : Int) < (a.1 0 84).toInt := by have := gt_lt hch; rw [hE.1]; omega
  obtain ⟨_, _, _, ⟨t0, t6⟩, co⟩ := chv i hi
  obtain ⟨e86, e87, e88⟩ := hE.2 i ch hch
  obtain ⟨i1, i2, i3⟩ := ch_in (List.mem_of_getElem? hch)
  have l25 : (a.1 0 25).toInt = C.2.1.length := hK.2.1.1
  have b25 := ri.1.1.2.2.2.2.2.1
  have c6 : ch.1 < 6 := by omega
  refine ⟨e86, ⟨fun c => ?_, fun c => by rw [c] at e87; exact e87⟩, fun cn => ?_, c6⟩
  · cases h9 : ch.2.1 with
    | none => rfl
    | some j =>
      have j8 : j < 9 := by
        have := i3 j h9
        have q := (ri.2 ch.1 c6).2.2.2.1
        have := (hM.2.2 ch.1 c6).2.2.2.2.2.2.2.2.1.1
        omega
      rw [h9] at e87
      rw [e87] at c
      have c : Int32.ofNat j = -1 := c
      have : ∀ n, n < 9 → ¬ Int32.ofNat n = -1 := by decide +kernel
      exact absurd c (this j j8)
  · obtain ⟨g1, -, -, -, g5, g6, -⟩ := hM.2.2 ch.1 c6
    obtain ⟨-, w1, -⟩ := wai_2 _ (show (M.2.2 ch.1).2.2.2.1 < 3 by omega)
    exact (srt_so2 hN ⟨⟨ri, wy, chv, c0, c84, fa⟩, hK, hM, hI, w68, hE⟩ c6 (by rw [g1, (i2 cn).1]; rfl) (fun z9 => (i2 cn).2.1 (w1.mp (by rw [← g5]; exact z9)))).1
/-- a choice more -/
theorem sc_more (gc : GC C) (hh : HistC C w z) (hd : (z.1 0 94).toInt < 400) (i : Int32) (i0 : 0 ≤ i.toInt) (i1 : i.toInt < (z.1 0 84).toInt) (hD : 6 ≤ D) (h : ∀ z', HistC C w z' → dF z z' i → Fv z') : MT G D z_doChoice 0 [(0, vr 0), (1, vi i)] [] z (rv Fv) := by
  obtain ⟨⟨s, n, q1, q2, q3, q4, q5, q6, q7⟩, hJ⟩ := hh
  have e84 : z.1 0 84 = (s n).1 0 84 := q4 0 84 (Or.inr (Or.inl ⟨rfl, rfl⟩))
  rw [e84] at i1
  have ci := cl_i i0
  have am := q2 n (Nat.le_refl _)
  have en := AM_n am
  have hil : i.toNatClampNeg < (chM C w (runM C w (c96 z) n)).length := by omega
  obtain ⟨ch, hch⟩ : ∃ ch, (chM C w (runM C w (c96 z) n))[i.toNatClampNeg]? = some ch := ⟨_, List.getElem?_eq_getElem hil⟩
  obtain ⟨a', av', lk⟩ := lk_exM gc q6.1 am hch
  have e13 := AM_ch gc.1 am hch
  have e0 : (z.1 0 94).toInt.toNat = n := by omega
  unfold MJq at hJ
  rw [e0] at hJ
  have hci := List.mem_of_getElem? hch
  have l24 := gc.2.2.2.2.2
  refine sp_doChoice9 am.1 i i0 i1 lk e13.1 e13.2.1 e13.2.2.1 e13.2.2.2 hJ.1 hJ.2.1 (fun cn => WFe_of gc (fun k hk => (q3 k hk).2.1) hci cn) (suC_is q4 am.2.1 l24) am.2.1 gc.2.1 am.2.2.1 (am.2.2.2.2.2.2 _ ch hch).2.2 (fun cn => ch_wk gc hci cn) gc.2.2.1 q4 q7 hd hD (fun z' e' ha' df jm mc => h z' ⟨?_, ?_⟩ df)
  rotate_left
  · obtain ⟨m, d94, d96, d96b⟩ := df
    have cn : (z.1 0 94).toNatClampNeg = n := by have := cl_i (a := z.1 0 94) (by omega); omega
    rw [cn] at d96 d96b
    have cE : ∀ k, k < n → c96 z' k = c96 z k := fun k hk => by unfold c96; rw [d96b k (by omega)]
    have cN : c96 z' n = i.toNatClampNeg := by unfold c96; rw [d96]
    have e1 : (z'.1 0 94).toInt.toNat = n + 1 := by omega
    unfold MJq
    have rE : runM C w (c96 z') n = runM C w (c96 z) n := runM_cg cE
    have hch' : (chM C w (runM C w (c96 z') n))[c96 z' n]? = some ch := by rw [rE, cN]; exact hch
    rw [e1, joM_s hch', joM_cg cE, rE]
    refine ⟨MJo_next hJ.1 jm ?_, mc, gc⟩
    by_cases c9 : ch.2.1 = none
    · exact Or.inr ⟨_, deM_a c9⟩
    · exact Or.inl (deM_l c9)
  obtain ⟨m, d94, d96, d96b⟩ := df
  have cn : (z.1 0 94).toNatClampNeg = n := by have := cl_i (a := z.1 0 94) (by omega); omega
  rw [cn] at d96 d96b
  have f68 : z'.1 0 68 = z.1 0 68 := m.1 68 (by decide)
  have cE : ∀ k, k < n → c96 z' k = c96 z k := fun k hk => by unfold c96; rw [d96b k (by omega)]
  have cN : c96 z' n = i.toNatClampNeg := by unfold c96; rw [d96]
  have rE : ∀ k, k ≤ n → runM C w (c96 z') k = runM C w (c96 z) k := fun k hk => runM_cg (fun j hj => cE j (by omega))
  have rN : runM C w (c96 z') (n + 1) = doM C w (runM C w (c96 z) n) ch := by
    rw [runM_s (c := c96 z') (k := n) (ch := ch) (by rw [rE n (Nat.le_refl _), cN]; exact hch), rE n (Nat.le_refl _)]
  refine ⟨fun k => if k = n + 1 then a' else s k, n + 1, by omega, fun k hk => ?_, fun k hk => ?_, ?_, ?_, by rw [f68]; exact q6, ha'⟩
  · by_cases c : k = n + 1
    · simp only [if_pos c]; rw [c, rN]; exact av'
    · simp only [if_neg c]; rw [rE k (by omega)]; exact q2 k (by omega)
  · by_cases c : k = n
    · rw [c, d96, cN, rE n (Nat.le_refl _)]
      simp only [if_neg (show ¬ n = n + 1 by omega), if_pos]
      exact ⟨i0, hil, ch, hch, lk, e13⟩
    · rw [d96b k c, cE k (by omega), rE k (by omega)]
      simp only [if_neg (show ¬ k = n + 1 by omega), if_neg (show ¬ k + 1 = n + 1 by omega)]
      exact q3 k (by omega)
  · simp only [if_pos]
    exact e'
  · simp only [if_neg (show ¬ 0 = n + 1 by omega)]
    rw [f68]
    exact St_pr (prE_mi (prE_rf z) m rfl rfl) q5
/-- a run begun -/
theorem sc_startRun (gc : GC C) (cp : CP z) (hK : MK z C) (w01 : w = 0 ∨ w = 1) (hD : 6 ≤ D) (h : ∀ z', HistC C w z' → sF (Int32.ofNat w) z z' → Fv z') : MT G D z_startRun 0 [(0, vr 0), (1, vi (Int32.ofNat w))] [] z (rv Fv) := by
  have hw : Int32.ofNat w = 0 ∨ Int32.ofNat w = 1 := by
    rcases w01 with e | e <;> rw [e]
    · exact Or.inl rfl
    · exact Or.inr rfl
  obtain ⟨a0, am, av, e68, pa, st, _⟩ := start_exM cp hK gc.1 gc.2.1 w01 _ rfl hw
  refine st G D z Fv hD (prE_rf z) (fun z' e sf => h z' ⟨?_, ?_⟩ sf)
  rotate_left
  · unfold MJq
    obtain ⟨-, f94, ha, -⟩ := sf
    have k0 : (0 : Int32).toInt = 0 := rfl
    have a96 : (z'.1 0 96).toInt = 0 := by
      have h1 := ha.1
      have h2 := ha.2.1
      rw [f94, k0] at h2
      omega
    rw [f94]
    exact ⟨⟨by rw [a96]; rfl, fun a e hae => (jo_nil hae).elim⟩, MJc_0 ha a96, gc⟩
  obtain ⟨m, f94, ha, f67, f68⟩ := sf
  refine ⟨fun _ => a0, 0, by rw [f94]; rfl, fun k hk => ?_, fun k hk => absurd hk (Nat.not_lt_zero _), e, ?_, ⟨w01, f68⟩, ha⟩
  · have : k = 0 := by omega
    rw [this]; exact am
  · rw [f68]
    exact St_pr (prE_mi (prE_rf z) m rfl rfl) st
end MRU
end
