/-! the machine: every choice keeps it -/
section PIO
variable {C : gCo} {M : gMa} {w t i : Nat} {wk : Option Nat}
theorem lkM_rs (w0 : (M.2.2 t).2.2.2.1 = 0) (h : (lkM C w M t).1 = 0) : rsF C w M t (stN C (M.2.2 t).2.2.1).1 (lkM C w M t).2.1.toNatClampNeg = 0 := by
  obtain ⟨p1, p2⟩ := lkM_pl w0 h
  cases e1 : evO (M.2.2 t).2.2.2.2.2.2.2 (Int32.ofNat t) (stN C (M.2.2 t).2.2.1).2.2.2.2.2.2.2.2.1 with
  | none =>
    rw [lkM_1 w0 p1 e1] at h
    exact absurd h (by show ¬ 1 = 0; decide)
  | some e =>
    cases e2 : evO (M.2.2 t).2.2.2.2.2.2.2 (Int32.ofNat t) (stN C (M.2.2 t).2.2.1).2.2.2.2.2.2.2.2.2 with
    | none =>
      rw [lkM_2 w0 p1 e1 e2] at h
      exact absurd h (by show ¬ 1 = 0; decide)
    | some f =>
      rw [lkM_3 w0 p1 e1 e2] at h ⊢
      exact h
theorem so_0 (n : ¬ soM C (M.2.2 t) = 15) : (M.2.2 t).2.2.2.1 = 0 ∧ soM C (M.2.2 t) = (stN C (M.2.2 t).2.2.1).1 := by
  unfold soM at n ⊢
  by_cases c : (M.2.2 t).2.2.2.1 = 0
  · exact ⟨c, if_pos c⟩
  · rw [if_neg c] at n
    exact absurd rfl n
theorem WMw_ac (q : WMw w M) (t6 : t < 6) (h1 : (M.2.2 t).1 = 1) : WMw w (acM C w M t wk) := by
  by_cases L0 : (lkM C w M t).1 = 0
  · by_cases c7 : soM C (M.2.2 t) = 7
    · rw [acM_7 L0 c7, ef_7]
      intro t' ht'
      show wTq w (upf M.2.2 t _ t')
      by_cases z : t' = t
      · rw [z, upf_eq]
        obtain ⟨a1, a2, a3, a4⟩ := q t t6
        exact ⟨a1, (fun z => nomatch z), fun z => absurd h1 z, a4⟩
      · rw [upf_ne z]; exact q t' ht'
    · have st9 : soM C (M.2.2 t) = 9 → (M.2.2 (lkM C w M t).2.1.toNatClampNeg).1 = 0 := fun e9 => by
        obtain ⟨w0, es⟩ := so_0 (C := C) (M := M) (t := t) (by omega)
        have rs := lkM_rs w0 L0
        rw [← es, e9] at rs
        unfold rsF at rs
        rw [if_neg (fun z => nomatch z.1), if_neg (fun z => z.1.elim (fun z => nomatch z) (fun z => nomatch z))] at rs
        exact Classical.byContradiction (fun n => by rw [if_pos ⟨rfl, n⟩] at rs; exact nomatch rs)
      obtain ⟨a, b1, b2, b3⟩ := WMw_ef (C := C) (s := soM C (M.2.2 t)) (c := (lkM C w M t).2.1.toNatClampNeg) (e := (lkM C w M t).2.2.1) (f := (lkM C w M t).2.2.2) (wk := wk) q t6 h1 (Classical.byCases Or.inl (fun n => Or.inr (so_0 n).1)) (fun e9 _ => st9 e9) (fun e9 z => by have := st9 e9; rw [z] at this; omega) c7
      rw [acM_is (E := (efM C w M t (soM C (M.2.2 t)) (lkM C w M t).2.1.toNatClampNeg (lkM C w M t).2.2.1 (lkM C w M t).2.2.2 wk).1) (v := (efM C w M t (soM C (M.2.2 t)) (lkM C w M t).2.1.toNatClampNeg (lkM C w M t).2.2.1 (lkM C w M t).2.2.2 wk).2) L0 c7 rfl]
      intro t' ht'
      show wTq w (upf _ t _ t')
      by_cases z : t' = t
      · rw [z, upf_eq]; exact wT_thN b1 b2 b3
      · rw [upf_ne z]; exact a t' ht' z
  · have w0 : (M.2.2 t).2.2.2.1 = 0 := Classical.byContradiction (fun n0 => L0 (by rw [lkM_15 n0]))
    rw [acM_F L0]
    intro t' ht'
    show wTq w (upf M.2.2 t _ t')
    by_cases z : t' = t
    · rw [z, upf_eq]
      obtain ⟨a1, a2, a3, a4⟩ := q t t6
      exact ⟨fun z => absurd rfl z, a2, fun _ => w0, a4⟩
    · rw [upf_ne z]; exact q t' ht'
theorem WMw_la (q : WMw w M) (t6 : t < 6) : WMw w (laM M t i) := by
  unfold laM
  cases hq : (M.2.2 t).2.2.2.2.2.2.1[i]? with
  | none => exact q
  | some z9 =>
    intro t' ht'
    show wTq w (upf M.2.2 t _ t')
    by_cases z : t' = t
    · rw [z, upf_eq]
      obtain ⟨a1, a2, a3, a4⟩ := q t t6
      refine ⟨a1, a2, a3, fun w0 => ?_⟩
      rw [a4 w0] at hq
      exact nomatch hq
    · rw [upf_ne z]; exact q t' ht'
end PIO
