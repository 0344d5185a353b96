/-! a definition: counts, what is told -/
def cn (x : gd) : gN := ((x.1 0 23).toNatClampNeg, (x.1 0 24).toNatClampNeg, (x.1 0 25).toNatClampNeg, (x.1 0 26).toNatClampNeg, (x.1 0 27).toNatClampNeg)
def tAd (x x' : gd) (w a b c r t : Int32) : Prop := x'.1 0 28 = x.1 0 28 + 1 ∧ (∀ j : Nat, x'.1 30 j = if j = (x.1 0 28).toNatClampNeg then w else x.1 30 j) ∧ (∀ j : Nat, x'.1 31 j = if j = (x.1 0 28).toNatClampNeg then a else x.1 31 j) ∧ (∀ j : Nat, x'.1 32 j = if j = (x.1 0 28).toNatClampNeg then b else x.1 32 j) ∧ (∀ j : Nat, x'.1 33 j = if j = (x.1 0 28).toNatClampNeg then c else x.1 33 j) ∧ (∀ j : Nat, x'.1 34 j = if j = (x.1 0 28).toNatClampNeg then vp_nar .boolean r else x.1 34 j) ∧ (∀ j : Nat, x'.1 35 j = if j = (x.1 0 28).toNatClampNeg then t else x.1 35 j)
theorem tAd_of {x z w y : gd} {l1 l2 l3 l4 l5 l6 : Int32} (h : tD z w l1 l2 l3 l4 l5 l6) (hz : ∀ c : Nat, 30 ≤ c → c ≤ 35 → z.1 c = x.1 c) (h28 : z.1 0 28 = x.1 0 28) (hy : ∀ c : Nat, 30 ≤ c → c ≤ 35 → y.1 c = w.1 c) (h28' : y.1 0 28 = w.1 0 28) : tAd x y l1 l2 l3 l4 l5 l6 := by
  obtain ⟨m, e, a0, a1, a2, a3, a4, a5⟩ := h
  refine ⟨by rw [h28', e, h28], fun j => ?_, fun j => ?_, fun j => ?_, fun j => ?_, fun j => ?_, fun j => ?_⟩
  · rw [hy 30 (by decide) (by decide), a0, h28, hz 30 (by decide) (by decide)]
  · rw [hy 31 (by decide) (by decide), a1, h28, hz 31 (by decide) (by decide)]
  · rw [hy 32 (by decide) (by decide), a2, h28, hz 32 (by decide) (by decide)]
  · rw [hy 33 (by decide) (by decide), a3, h28, hz 33 (by decide) (by decide)]
  · rw [hy 34 (by decide) (by decide), a4, h28, hz 34 (by decide) (by decide)]
  · rw [hy 35 (by decide) (by decide), a5, h28, hz 35 (by decide) (by decide)]
def cT1 (K : Nat → Int32) (n : gN) (i t : Nat) (L : gU) (j : Nat) : gD := (pt K 67 (j, L)).bind (fun q => some (n, q.1, q.2 ++ [(83, i, t)]))
def cT2 (K : Nat → Int32) (n : gN) (i t : Nat) (L : gU) (j : Nat) : gD := (pCv K (j, L)).bind (fun q => cT1 K n i t q.2 q.1)
section CV
variable {K : Nat → Int32} {n : gN} {i t j : Nat} {L : gU}
theorem cT2_no (h : ¬ K j = 50) : cT2 K n i t L j = cT1 K n i t (L ++ [(82, 0, 0)]) j := by
  unfold cT2
  have e : pCv K (j, L) = some (j, L ++ [(82, 0, 0)]) := if_neg h
  rw [e]; rfl
theorem cT2_plus (h : K j = 50) (h2 : ¬ K (j + 1) = 58) : cT2 K n i t L j = (ps1 j).bind (fun j => (psw K 2 j).bind (fun q => cT1 K n i t (L ++ [(80, j, 0)]) q)) := by
  unfold cT2 ps1
  by_cases c : j < 700
  · rw [if_pos c]
    have e : pCv K (j, L) = if K (j + 1) = 2 ∧ j + 1 < 700 then some (j + 2, L ++ [(80, j + 1, 0)]) else none := by
      unfold pCv
      rw [if_pos h, if_pos c, if_neg h2]
    rw [e, Option.bind_some, psw]
    by_cases d : K (j + 1) = 2 ∧ j + 1 < 700
    · rw [if_pos d, if_pos d]; rfl
    · rw [if_neg d, if_neg d]; rfl
  · rw [if_neg c]
    have e : pCv K (j, L) = none := by
      unfold pCv
      rw [if_pos h, if_neg c]
    rw [e]; rfl
theorem cT2_minus (h : K j = 50) (h2 : K (j + 1) = 58) : cT2 K n i t L j = (ps1 j).bind (fun j => (ps1 j).bind (fun j => (psw K 2 j).bind (fun q => cT1 K n i t (L ++ [(81, j, 0)]) q))) := by
  unfold cT2 ps1
  by_cases c : j < 700
  · rw [if_pos c]
    have e : pCv K (j, L) = if j + 1 < 700 ∧ K (j + 2) = 2 ∧ j + 2 < 700 then some (j + 3, L ++ [(81, j + 2, 0)]) else none := by
      unfold pCv
      rw [if_pos h, if_pos c, if_pos h2]
    rw [e, Option.bind_some]
    by_cases c1 : j + 1 < 700
    · rw [if_pos c1, Option.bind_some, psw]
      by_cases d : K (j + 1 + 1) = 2 ∧ j + 1 + 1 < 700
      · rw [if_pos d, if_pos (show j + 1 < 700 ∧ K (j + 2) = 2 ∧ j + 2 < 700 from ⟨c1, d⟩)]; rfl
      · rw [if_neg d, if_neg (fun z => d z.2)]; rfl
    · rw [if_neg c1, if_neg (fun z => c1 z.1)]; rfl
  · rw [if_neg c]
    have e : pCv K (j, L) = none := by
      unfold pCv
      rw [if_pos h, if_neg c]
    rw [e]; rfl
theorem cT1_map {x y : gd} (hy : nwo y = (nwo x).bind (psw K 67)) (L : gU) : (nwo x).bind (fun j => cT1 K n i t L j) = (nwo y).map (fun j => (n, j, L ++ [(83, i, t)])) := by
  rw [hy]
  cases nwo x with
  | none => rfl
  | some j =>
    show cT1 K n i t L j = (psw K 67 j).map _
    unfold cT1
    rw [pt_psw]
    cases psw K 67 j with
    | none => rfl
    | some q => rfl
/-- what stands behind a cell's name -/
def cT0 (K V : Nat → Int32) (n : gN) (i t : Nat) (L : gU) (j : Nat) : gD := if K j = 65 then (ps1 j).bind (fun w => if n.1 + prz K V w ≤ 24 then (psw K 2 w).bind (fun j => (psw K 66 j).bind (fun j => cT2 K (n.1 + prz K V w, n.2) i t (L ++ [(32, t, w)]) j)) else none) else cT2 K (n.1 + 1, n.2) i t (L ++ [(31, t, 0)]) j
theorem pCl_is {V : Nat → Int32} {i0 : Nat} : (pCl K V n.1 i (i0 + 1) L).bind (fun q => some ((q.1, n.2), q.2)) = (psw K 17 i0).bind (fun t => (psw K 1 t).bind (fun j => if n.1 < 24 then cT0 K V n i t L j else none)) := by
  unfold pCl
  have e0 : i0 + 1 - 1 = i0 := rfl
  rw [e0]
  by_cases a : K i0 = 17 ∧ i0 < 700
  · rw [psw, if_pos a, Option.bind_some]
    by_cases b : K (i0 + 1) = 1 ∧ i0 + 1 < 700
    · rw [psw, if_pos b, Option.bind_some]
      by_cases c : n.1 < 24
      · rw [if_pos (show (K i0 = 17 ∧ i0 < 700) ∧ (K (i0 + 1) = 1 ∧ i0 + 1 < 700) ∧ n.1 < 24 from ⟨a, b, c⟩), if_pos c]
        unfold cT0
        by_cases d : K (i0 + 1 + 1) = 65
        · rw [if_pos d, if_pos d]
          by_cases d1 : i0 + 1 + 1 < 700
          · rw [ps1, if_pos d1, Option.bind_some]
            by_cases d2 : n.1 + prz K V (i0 + 1 + 1 + 1) ≤ 24
            · rw [if_pos d2]
              by_cases d3 : K (i0 + 1 + 1 + 1) = 2 ∧ i0 + 1 + 1 + 1 < 700
              · rw [psw, if_pos d3, Option.bind_some]
                by_cases d4 : K (i0 + 1 + 1 + 1 + 1) = 66 ∧ i0 + 1 + 1 + 1 + 1 < 700
                · rw [psw, if_pos d4, Option.bind_some, if_pos (show i0 + 1 + 1 < 700 ∧ n.1 + prz K V (i0 + 1 + 2) ≤ 24 ∧ (K (i0 + 1 + 2) = 2 ∧ i0 + 1 + 2 < 700) ∧ K (i0 + 1 + 3) = 66 ∧ i0 + 1 + 3 < 700 from ⟨d1, d2, d3, d4⟩), Option.bind_assoc, Option.bind_assoc]
                  unfold cT2 cT1
                  congr 1
                · rw [psw, if_neg d4, if_neg (fun z => d4 z.2.2.2)]; rfl
              · rw [psw, if_neg d3, if_neg (fun z => d3 z.2.2.1)]; rfl
            · rw [if_neg d2, if_neg (fun z => d2 z.2.1)]; rfl
          · rw [ps1, if_neg d1, if_neg (fun z => d1 z.1)]; rfl
        · rw [if_neg d, if_neg d, Option.bind_assoc, Option.bind_assoc]
          unfold cT2 cT1
          congr 1
      · rw [if_neg c, if_neg (fun z => c z.2.2)]; rfl
    · rw [psw, if_neg b, if_neg (fun z => b z.2.1)]; rfl
  · rw [psw, if_neg a, if_neg (fun z => a z.1)]; rfl
end CV
