/-! one statement: what its node tells -/
section QB
variable {K : Nat → Int32} {f c i : Nat} {L : gU}
theorem pS_while (h : K i = 41) : pS K (f + 1) c i L = (up3 c (qS qT (qS (pX K false f) (qV (61, i, 0))) i L)).bind (fun q => pBk (pS K f) K 1 q.1 q.2.1 q.2.2) := by
  rw [pS]
  unfold qS qT
  by_cases q : i < 700
  · rw [if_neg (by omega), if_neg (by rw [h]; decide), if_pos h, ps1, if_pos q]
    show (pX K false f (i + 1) L).bind _ = (up3 c ((pX K false f (i + 1) L).bind _)).bind _
    cases pX K false f (i + 1) L with
    | none => rfl
    | some z => rfl
  · rw [if_pos (by omega), ps1, if_neg q]; rfl
theorem pS_lock (h : K i = 27) : pS K (f + 1) c i L = (up3 c (qS qT (qS (qP K 1) (qV (65, i, i + 1))) i L)).bind (fun q => pBk (pS K f) K 2 q.1 q.2.1 q.2.2) := by
  rw [pS]
  unfold qS qT qP
  by_cases q : i < 700
  · rw [if_neg (by omega), if_neg (by rw [h]; decide), if_neg (by rw [h]; decide), if_pos h, ps1, if_pos q]
    show _ = (up3 c ((pt K 1 (i + 1, L)).bind _)).bind _
    by_cases c1 : K (i + 1) = 1 ∧ i + 1 < 700
    · have e1 : pt K 1 (i + 1, L) = some (i + 2, L) := if_pos c1
      rw [e1, if_pos c1]
      rfl
    · have e1 : pt K 1 (i + 1, L) = none := if_neg c1
      rw [e1, if_neg c1]
      rfl
  · rw [if_pos (by omega), ps1, if_neg q]; rfl
theorem pS_if (h : K i = 24) : pS K (f + 1) c i L = (((up3 c (qS qT (qS (pX K false f) (qV (60, i, 0))) i L)).bind (fun q => pBk (pS K f) K 3 q.1 q.2.1 q.2.2)).bind (fun q => pEl (pS K f) K (q.1, q.2.1, q.2.2))).bind (fun q => pfi (q.1, q.2.1, q.2.2)) := by
  rw [pS]
  unfold qS qT
  by_cases q : i < 700
  · rw [if_neg (by omega), if_pos h, ps1, if_pos q]
    show (pX K false f (i + 1) L).bind _ = (((up3 c ((pX K false f (i + 1) L).bind _)).bind _).bind _).bind _
    cases pX K false f (i + 1) L with
    | none => rfl
    | some z => rfl
  · rw [if_pos (by omega), ps1, if_neg q]; rfl
end QB
def FOs (k : Nat) (x : gd) (r : Int32) (x' : gd) : Prop := ∃ M, FXs x x' (pS (x.1 5) (k + 1)) M ∧ ((x'.1 0 9).toInt = 0 → wSt x' (x.1 0 13).toInt (k + 2) r M)
theorem endF {k : Nat} {x z w : gd} {q a b c t : Int32} {M : gU} (rz : RP x z) (n0 : 0 ≤ (x.1 0 13).toInt) (low : -1000 ≤ cr z) (hw : nE z w q a b c t) (hq : ¬ q = 32) (hd : wD z (x.1 0 13).toInt (wSt z (x.1 0 13).toInt (k + 1)) t.toNatClampNeg q a b c (z.1 0 13) M) : wSt w (x.1 0 13).toInt (k + 2) (z.1 0 13) M := by
  obtain ⟨hn, rw1, nk, cw, z0, z1, f8, f9, f20, f21⟩ := nodeR rz n0 low hw
  obtain ⟨g1, g2, g3, g4, g5, -⟩ := nE_at hw
  have rzw := (RP_nE rz.2.1 hn hw).1
  refine ⟨⟨z0, z1⟩, by rw [g1]; exact hq, ?_⟩
  rw [g1, g2, g3, g4, g5]
  exact wD_keep (Int.le_refl _) (NX_RP _ (z.1 0 13).toInt rzw) (fun _ _ _ g => wS_RP (Int.le_refl _) rzw g) (fun _ _ g => wS_at g) (Int.le_refl _) hd
theorem nE_lts {x x' : gd} {w a b c t : Int32} (h : nE x x' w a b c t) : lts x' = lts x := by
  unfold lts; rw [h.1.1 21 (by decide)]
theorem SS_lts {x x' : gd} (h : SS x x') : lts x' = lts x := by
  unfold lts; rw [h.1.1 21 (by decide)]
theorem FXs_fi {x y : gd} (h : nwo y = nwo x) (hl : lts y = lts x) : FXs x y (fun c i L => pfi (c, i, L)) [(63, 0, 0)] := by
  intro L
  rw [h, hl]
  cases nwo x with
  | none => rfl
  | some i => rfl
