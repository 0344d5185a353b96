/-! what statements leave known, and laying a block -/
def sufE (E E' : gV) : Prop := (∃ new, E'.1 = new ++ E.1) ∧ E'.2.1 = E.2.1
theorem sufE_rf {E : gV} : sufE E E := ⟨⟨[], rfl⟩, rfl⟩
theorem sufE_tr {E E' E2 : gV} (a : sufE E E') (b : sufE E' E2) : sufE E E2 := by
  obtain ⟨⟨n, a1⟩, a2⟩ := a
  obtain ⟨⟨m, b1⟩, b2⟩ := b
  exact ⟨⟨m ++ n, by rw [b1, a1, List.append_assoc]⟩, by rw [b2, a2]⟩
theorem sufE_len {E E' : gV} (a : sufE E E') : E.1.length ≤ E'.1.length := by
  obtain ⟨⟨n, a1⟩, -⟩ := a
  rw [a1, List.length_append]
  omega
/-- a row of uses behind which the same locals are known -/
def nl (L : gU) : Prop := ∀ E : gV, (exs L E).1 = E.1 ∧ (exs L E).2.1 = E.2.1
theorem nl_still {L : gU} (h : still L) : nl L := fun E => by rw [exs_still h]; exact ⟨rfl, rfl⟩
theorem nl_app {L M : gU} (h : nl L) (g : nl M) : nl (L ++ M) := fun E => by
  rw [exs_app]
  exact ⟨(g _).1.trans (h E).1, (g _).2.trans (h E).2⟩
theorem nl_suf {L : gU} (h : nl L) (E : gV) : sufE E (exs L E) := ⟨⟨[], by rw [(h E).1]; rfl⟩, (h E).2⟩
theorem wB_mid {x : gd} {m : Int} {V : Int32 → gU → Prop} (hV : ∀ e M, V e M → ∀ E, sufE E (exs M E)) : ∀ R : gR, (∀ q ∈ R, V q.1.1 q.2) → ∀ E, sufE E (exs (R.flatMap Prod.snd) E) := by
  intro R
  induction R with
  | nil => intro _ E; exact sufE_rf
  | cons a r ih =>
    intro h E
    show sufE E (exs (a.2 ++ r.flatMap Prod.snd) E)
    rw [exs_app]
    exact sufE_tr (hV _ _ (h a List.mem_cons_self) E) (ih (fun q hq => h q (List.mem_cons_of_mem _ hq)) _)
theorem ex_20 {E : gV} {z : Nat} : exV E (20, z, 0) = (E.1, E.1.length :: E.2.1, E.2.2) := rfl
theorem ex_21 {E : gV} {z : Nat} : exV E (21, z, 0) = (E.1.drop (E.1.length - E.2.1.headD 0), E.2.1.tail, E.2.2) := rfl
theorem ex_close {E E2 : gV} {z : Nat} (h : sufE (exV E (20, z, 0)) E2) : exV E2 (21, z, 0) = (E.1, E.2.1, E2.2.2) := by
  obtain ⟨⟨n, h1⟩, h2⟩ := h
  rw [ex_20] at h1 h2
  have h1 : E2.1 = n ++ E.1 := h1
  have h2 : E2.2.1 = E.1.length :: E.2.1 := h2
  rw [ex_21, h1, h2]
  show ((n ++ E.1).drop ((n ++ E.1).length - E.1.length), E.2.1, E2.2.2) = _
  rw [List.length_append, Nat.add_sub_cancel, List.drop_left]
theorem wB_nl {x : gd} {m : Int} {V : Int32 → gU → Prop} {z : Nat} {e : Int32} {M : gU} (hV : ∀ e M, V e M → ∀ E, sufE E (exs M E)) (h : wB x m V z e M) : nl M := by
  obtain ⟨-, -, R, -, h5, rfl⟩ := h
  intro E
  rw [exs_app, exs_app, exs_one, exs_one, ex_close (wB_mid (x := x) (m := m) hV R (fun q hq => (h5 q hq).1) (exV E (20, z, 0)))]
  exact ⟨rfl, rfl⟩
section WDS
variable {x : gd} {m : Int} {V : Int32 → gU → Prop} {i : Nat} {w a b d e : Int32} {M : gU}
theorem wD_20 (h : w = 20) (q : wD x m V i w a b d e M) : ∃ N, vRs x b none N ∧ M = [(23, a.toNatClampNeg, 0)] ++ (N ++ [(22, a.toNatClampNeg, i)]) := by
  rw [h] at q
  unfold wD at q
  rcases q with ⟨g, q⟩ | ⟨g, q⟩ | ⟨g, q⟩ | ⟨g, q⟩ | ⟨g, q⟩ | ⟨g, q⟩ | ⟨g, q⟩ | ⟨g, q⟩ | ⟨g, q⟩ | ⟨g, q⟩ | ⟨g, q⟩
  all_goals first | exact absurd g (by decide) | exact q
theorem wD_21 (h : w = 21) (q : wD x m V i w a b d e M) : a.toNatClampNeg = i ∧ ∃ N, vRs x b (some i) N ∧ M = N ++ [(77, i, 0)] := by
  rw [h] at q
  unfold wD at q
  rcases q with ⟨g, q⟩ | ⟨g, q⟩ | ⟨g, q⟩ | ⟨g, q⟩ | ⟨g, q⟩ | ⟨g, q⟩ | ⟨g, q⟩ | ⟨g, q⟩ | ⟨g, q⟩ | ⟨g, q⟩ | ⟨g, q⟩
  all_goals first | exact absurd g (by decide) | exact q
theorem wD_22 (h : w = 22) (q : wD x m V i w a b d e M) : a.toNatClampNeg = i ∧ ∃ n1 n2 N1 N2, vV x false n1 b N1 ∧ vV x false n2 d N2 ∧ M = [(7, i, 0)] ++ ((N1 ++ [(54, 0, 0)]) ++ ((N2 ++ [(54, 0, 0)]) ++ [(78, i, 0)])) := by
  rw [h] at q
  unfold wD at q
  rcases q with ⟨g, q⟩ | ⟨g, q⟩ | ⟨g, q⟩ | ⟨g, q⟩ | ⟨g, q⟩ | ⟨g, q⟩ | ⟨g, q⟩ | ⟨g, q⟩ | ⟨g, q⟩ | ⟨g, q⟩ | ⟨g, q⟩
  all_goals first | exact absurd g (by decide) | exact q
theorem wD_23 (h : w = 23) (q : wD x m V i w a b d e M) : ∃ n1 N1 N2 N3, vV x false n1 a N1 ∧ wB x m V 3 b N2 ∧ b.toInt < e.toInt ∧ ((d = -1 ∧ N3 = []) ∨ (d.toInt < e.toInt ∧ 0 ≤ d.toInt ∧ ∃ j N4, N3 = [(62, j, 0)] ++ N4 ∧ (wB x m V 4 d N4 ∨ (¬ x.1 15 d.toNatClampNeg = 32 ∧ V d N4 ∧ ∃ N5, N4 = N5 ++ [(63, 0, 0)])))) ∧ M = (N1 ++ [(54, 0, 0)]) ++ ([(60, i, 0)] ++ (N2 ++ (N3 ++ [(63, 0, 0)]))) := by
  rw [h] at q
  unfold wD at q
  rcases q with ⟨g, q⟩ | ⟨g, q⟩ | ⟨g, q⟩ | ⟨g, q⟩ | ⟨g, q⟩ | ⟨g, q⟩ | ⟨g, q⟩ | ⟨g, q⟩ | ⟨g, q⟩ | ⟨g, q⟩ | ⟨g, q⟩
  all_goals first | exact absurd g (by decide) | exact q
theorem wD_24 (h : w = 24) (q : wD x m V i w a b d e M) : ∃ n1 N1 N2, vV x false n1 a N1 ∧ wB x m V 1 b N2 ∧ b.toInt < e.toInt ∧ M = (N1 ++ [(54, 0, 0)]) ++ ([(61, i, 0)] ++ N2) := by
  rw [h] at q
  unfold wD at q
  rcases q with ⟨g, q⟩ | ⟨g, q⟩ | ⟨g, q⟩ | ⟨g, q⟩ | ⟨g, q⟩ | ⟨g, q⟩ | ⟨g, q⟩ | ⟨g, q⟩ | ⟨g, q⟩ | ⟨g, q⟩ | ⟨g, q⟩
  all_goals first | exact absurd g (by decide) | exact q
theorem wD_25 (h : w = 25) (q : wD x m V i w a b d e M) : ∃ N2, wB x m V 2 b N2 ∧ b.toInt < e.toInt ∧ M = [(65, i, a.toNatClampNeg)] ++ N2 := by
  rw [h] at q
  unfold wD at q
  rcases q with ⟨g, q⟩ | ⟨g, q⟩ | ⟨g, q⟩ | ⟨g, q⟩ | ⟨g, q⟩ | ⟨g, q⟩ | ⟨g, q⟩ | ⟨g, q⟩ | ⟨g, q⟩ | ⟨g, q⟩ | ⟨g, q⟩
  all_goals first | exact absurd g (by decide) | exact q
theorem wD_26 (h : w = 26) (q : wD x m V i w a b d e M) : a = x.1 5 i ∧ ((¬ (a = 33 ∨ a = 25) ∧ M = [(66, i, b.toNatClampNeg)]) ∨ ((a = 33 ∨ a = 25) ∧ M = [(67, i, b.toNatClampNeg)])) := by
  rw [h] at q
  unfold wD at q
  rcases q with ⟨g, q⟩ | ⟨g, q⟩ | ⟨g, q⟩ | ⟨g, q⟩ | ⟨g, q⟩ | ⟨g, q⟩ | ⟨g, q⟩ | ⟨g, q⟩ | ⟨g, q⟩ | ⟨g, q⟩ | ⟨g, q⟩
  all_goals first | exact absurd g (by decide) | exact q
theorem wD_27 (h : w = 27) (q : wD x m V i w a b d e M) : (a = x.1 5 i ∧ (a = 20 ∨ a = 31)) ∧ M = [(68, i, 0)] := by
  rw [h] at q
  unfold wD at q
  rcases q with ⟨g, q⟩ | ⟨g, q⟩ | ⟨g, q⟩ | ⟨g, q⟩ | ⟨g, q⟩ | ⟨g, q⟩ | ⟨g, q⟩ | ⟨g, q⟩ | ⟨g, q⟩ | ⟨g, q⟩ | ⟨g, q⟩
  all_goals first | exact absurd g (by decide) | exact q
theorem wD_28 (h : w = 28 ∨ w = 30) (q : wD x m V i w a b d e M) : ∃ n1 N1, vV x false n1 a N1 ∧ M = (N1 ++ [(54, 0, 0)]) ++ [(69, i, 0)] := by
  rcases h with h | h
  all_goals
    rw [h] at q
    unfold wD at q
    rcases q with ⟨g, q⟩ | ⟨g, q⟩ | ⟨g, q⟩ | ⟨g, q⟩ | ⟨g, q⟩ | ⟨g, q⟩ | ⟨g, q⟩ | ⟨g, q⟩ | ⟨g, q⟩ | ⟨g, q⟩ | ⟨g, q⟩
    all_goals first | exact absurd g (by decide) | exact q.2
theorem wD_29 (h : w = 29) (q : wD x m V i w a b d e M) : ∃ n1 N1, vV x false n1 b N1 ∧ M = (N1 ++ [(54, 0, 0)]) ++ [(70, i, a.toNatClampNeg)] := by
  rw [h] at q
  unfold wD at q
  rcases q with ⟨g, q⟩ | ⟨g, q⟩ | ⟨g, q⟩ | ⟨g, q⟩ | ⟨g, q⟩ | ⟨g, q⟩ | ⟨g, q⟩ | ⟨g, q⟩ | ⟨g, q⟩ | ⟨g, q⟩ | ⟨g, q⟩
  all_goals first | exact absurd g (by decide) | exact q
theorem wD_31 (h : ∀ k ∈ [(20 : Int32), 21, 22, 23, 24, 25, 26, 27, 28, 29, 30], ¬ w = k) (q : wD x m V i w a b d e M) : M = [(68, i, 0)] := by
  unfold wD at q
  rcases q with ⟨g, q⟩ | ⟨g, q⟩ | ⟨g, q⟩ | ⟨g, q⟩ | ⟨g, q⟩ | ⟨g, q⟩ | ⟨g, q⟩ | ⟨g, q⟩ | ⟨g, q⟩ | ⟨g, q⟩ | ⟨g, q⟩
  · exact absurd g (h _ (by decide))
  · exact absurd g (h _ (by decide))
  · exact absurd g (h _ (by decide))
  · exact absurd g (h _ (by decide))
  · exact absurd g (h _ (by decide))
  · exact absurd g (h _ (by decide))
  · exact absurd g (h _ (by decide))
  · exact absurd g (h _ (by decide))
  · exact g.elim (fun g => absurd g (h _ (by decide))) (fun g => absurd g (h _ (by decide)))
  · exact absurd g (h _ (by decide))
  · exact q.2
/-- only an if's uses end so -/
theorem wD_63 {N : gU} (q : wD x m V i w a b d e (N ++ [(63, 0, 0)])) : w = 23 := by
  have key : ∀ {L : gU} {v : Nat × Nat × Nat}, N ++ [(63, 0, 0)] = L ++ [v] → (63, 0, 0) = v := fun e => by
    have := List.append_inj_right' e rfl
    simpa using this
  have no : ∀ {L : gU} {k p r : Nat}, ¬ 63 = k → N ++ [(63, 0, 0)] = L ++ [(k, p, r)] → w = 23 := fun hk e => absurd (congrArg Prod.fst (key e)) hk
  have wb : ∀ {z : Nat} {e' : Int32} {N2 : gU}, wB x m V z e' N2 → ∃ L, N2 = L ++ [(21, z, 0)] := fun h => by
    obtain ⟨-, -, R, -, -, h⟩ := h
    exact ⟨_, by rw [h, ← List.append_assoc]⟩
  unfold wD at q
  rcases q with ⟨g, N1, _, q⟩ | ⟨g, _, N1, _, q⟩ | ⟨g, _, _, _, N1, N2, _, _, q⟩ | ⟨g, _⟩ | ⟨g, _, N1, N2, _, q1, _, q⟩ | ⟨g, N2, q1, _, q⟩ | ⟨g, _, ⟨_, q⟩ | ⟨_, q⟩⟩ | ⟨g, _, q⟩ | ⟨g, _, _, N1, _, q⟩ | ⟨g, _, N1, _, q⟩ | ⟨g, _, q⟩
  · exact no (k := 22) (by decide) (q.trans (List.append_assoc _ _ _).symm)
  · exact no (k := 77) (by decide) q
  · exact no (k := 78) (p := i) (r := 0) (L := ([(7, i, 0)] ++ ((N1 ++ [(54, 0, 0)]) ++ (N2 ++ [(54, 0, 0)])))) (by decide) (q.trans (by simp only [List.append_assoc]))
  · exact g
  · obtain ⟨L, e1⟩ := wb q1
    exact no (k := 21) (p := 1) (r := 0) (L := ((N1 ++ [(54, 0, 0)]) ++ ([(61, i, 0)] ++ L))) (by decide) (q.trans (by rw [e1]; simp only [List.append_assoc]))
  · obtain ⟨L, e1⟩ := wb q1
    exact no (k := 21) (p := 2) (r := 0) (L := [(65, i, a.toNatClampNeg)] ++ L) (by decide) (q.trans (by rw [e1, List.append_assoc]))
  · exact no (k := 66) (L := []) (by decide) q
  · exact no (k := 67) (L := []) (by decide) q
  · exact no (k := 68) (L := []) (by decide) q
  · exact no (k := 69) (by decide) q
  · exact no (k := 70) (by decide) q
  · exact no (k := 68) (L := []) (by decide) q
end WDS
theorem wS_env {x : gd} {m : Int} : ∀ (k : Nat) (e : Int32) (M : gU), wSt x m k e M → (∀ E, sufE E (exs M E)) ∧ (¬ x.1 15 e.toNatClampNeg = 20 → nl M) := by
  intro k
  induction k with
  | zero => intro e M h; exact h.elim
  | succ k ih =>
    intro e M h
    obtain ⟨-, -, h⟩ := h
    have hV : ∀ e M, wSt x m k e M → ∀ E, sufE E (exs M E) := fun e M g => (ih e M g).1
    by_cases c20 : x.1 15 e.toNatClampNeg = 20
    · obtain ⟨N, h1, h2⟩ := wD_20 c20 h
      refine ⟨fun E => ?_, fun q => absurd c20 q⟩
      rw [h2, exs_app, exs_app, exs_still (E := E) (still_k (k := 23) (a := (x.1 16 e.toNatClampNeg).toNatClampNeg) (b := 0) rfl), exs_still (vRr_st h1.1), exs_one]
      exact ⟨⟨[((x.1 16 e.toNatClampNeg).toNatClampNeg, E.2.2)], rfl⟩, rfl⟩
    · have key : nl M := by
        unfold wD at h
        rcases h with ⟨g, _⟩ | ⟨g, _, N1, q1, q⟩ | ⟨g, _, _, _, N1, N2, q1, q2, q⟩ | ⟨g, n1, N1, N2, N3, q1, q2, _, q3, q⟩ | ⟨g, _, N1, N2, q1, q2, _, q⟩ | ⟨g, N2, q1, _, q⟩ | ⟨g, _, ⟨_, q⟩ | ⟨_, q⟩⟩ | ⟨g, _, q⟩ | ⟨g, _, _, N1, q1, q⟩ | ⟨g, _, N1, q1, q⟩ | ⟨g, _, q⟩
        · exact absurd g c20
        · rw [q]; exact nl_still (still_app (vRr_st q1.1) (still_k rfl))
        · rw [q]; exact nl_still (still_app (still_k rfl) (still_app (still_54 (vV_st q1)) (still_app (still_54 (vV_st q2)) (still_k rfl))))
        · rw [q]
          have n3 : nl N3 := by
            rcases q3 with ⟨_, q3⟩ | ⟨_, _, j, N4, q4, q5 | ⟨_, q5, N5, q6⟩⟩
            · rw [q3]; exact nl_still still_nil
            · rw [q4]; exact nl_app (nl_still (still_k rfl)) (wB_nl hV q5)
            · rw [q4]
              refine nl_app (nl_still (still_k rfl)) ((ih _ _ q5).2 (fun z => ?_))
              cases k with
              | zero => exact q5.elim
              | succ k =>
                rw [q6] at q5
                have := wD_63 q5.2.2
                rw [z] at this
                exact absurd this (by decide)
          exact nl_app (nl_still (still_54 (vV_st q1))) (nl_app (nl_still (still_k rfl)) (nl_app (wB_nl hV q2) (nl_app n3 (nl_still (still_k rfl)))))
        · rw [q]; exact nl_app (nl_still (still_54 (vV_st q1))) (nl_app (nl_still (still_k rfl)) (wB_nl hV q2))
        · rw [q]; exact nl_app (nl_still (still_k rfl)) (wB_nl hV q1)
        · rw [q]; exact nl_still (still_k rfl)
        · rw [q]; exact nl_still (still_k rfl)
        · rw [q]; exact nl_still (still_k rfl)
        · rw [q]; exact nl_still (still_app (still_54 (vV_st q1)) (still_k rfl))
        · rw [q]; exact nl_still (still_app (still_54 (vV_st q1)) (still_k rfl))
        · rw [q]; exact nl_still (still_k rfl)
      exact ⟨nl_suf key, fun _ => key⟩
/-! laying with what is known: XP before, XQ what it leaves -/
def XP (sN : Nat → Nat → Bool) (T : gTd) (V K : Nat → Int32) (x : gd) (E : gV) : Prop := KEn x E ∧ (x.1 0 48).toInt = E.2.2 ∧ CT sN T V K x ∧ (∀ p : Nat, p < E.1.length → (x.1 47 p).toInt ≤ (x.1 0 47).toInt) ∧ 0 ≤ (x.1 0 47).toInt
def XQ (sN : Nat → Nat → Bool) (T : gTd) (V K : Nat → Int32) (x x' : gd) (E : gV) (M : gU) (b : Int32) (s : Nat) : Prop := LX x x' (flt sN T V M E) ∧ XP sN T V K x' (exs M E) ∧ (∀ p : Nat, p < E.1.length → x'.1 47 p = x.1 47 p) ∧ (∀ p : Nat, E.1.length ≤ p → p < (exs M E).1.length → x'.1 47 p = b) ∧ (x.1 0 47).toInt ≤ (x'.1 0 47).toInt ∧ (x'.1 0 47).toInt ≤ (x.1 0 47).toInt + s
section XQS
variable {sN : Nat → Nat → Bool} {T : gTd} {V K : Nat → Int32} {x y z : gd} {E : gV} {M N : gU} {b : Int32} {s s' : Nat}
theorem XP_md {L A : List Nat} (h : md L A x y) (hL : [28, 43, 47, 48].all (fun k => !L.elem k) = true) (hA : [2, 5, 6, 7, 8, 30, 31, 32, 33, 34, 35, 45, 46, 47].all (fun k => !A.elem k) = true) (q : XP sN T V K x E) : XP sN T V K y E := by
  have f := fun k hk => h.1 k (all_no' hL k hk)
  have g := fun k (h0 : k ≠ 0) hk => h.2.1 k h0 (all_no' hA k hk)
  have hA2 : [2, 5, 6, 7, 8, 30, 31, 32, 33, 34, 35].all (fun k => !A.elem k) = true := by
    rw [List.all_eq_true]
    intro k hk
    have hk2 : k ∈ [2, 5, 6, 7, 8, 30, 31, 32, 33, 34, 35, 45, 46, 47] := by
      simp only [List.mem_cons, List.not_mem_nil, or_false] at hk ⊢
      omega
    exact List.all_eq_true.mp hA k hk2
  obtain ⟨q1, q2, q3, q4, q5⟩ := q
  refine ⟨KEn_md h (all_no' hL 43 (by decide)) (all_no' hA 45 (by decide)) (all_no' hA 46 (by decide)) q1, by rw [f 48 (by decide)]; exact q2, CT_md h (all_no' hL 28 (by decide)) hA2 q3, fun p hp => ?_, by rw [f 47 (by decide)]; exact q5⟩
  rw [g 47 (by decide) (by decide), f 47 (by decide)]
  exact q4 p hp
/-- a statement of no block, no let -/
theorem XQ_md (h : md pL pA x y) (xp : XP sN T V K x E) (lx : LX x y (flt sN T V M E)) (st : still M) : XQ sN T V K x y E M b s := by
  have e47 : y.1 0 47 = x.1 0 47 := h.1 47 (by decide)
  refine ⟨lx, ?_, fun p _ => by rw [h.2.1 47 (by decide) (by decide)], fun p h1 h2 => ?_, by rw [e47]; omega, by rw [e47]; omega⟩
  · rw [exs_still st]
    exact XP_md h rfl rfl xp
  · rw [exs_still st] at h2; omega
theorem XQ_tr (a : XQ sN T V K x y E M b s) (c : XQ sN T V K y z (exs M E) N b s') (h : E.1.length ≤ (exs M E).1.length) : XQ sN T V K x z E (M ++ N) b (s + s') := by
  obtain ⟨a1, a2, a3, a4, a5, a6⟩ := a
  obtain ⟨c1, c2, c3, c4, c5, c6⟩ := c
  refine ⟨LX_eq (LX_tr a1 c1) flt_app.symm, by rw [exs_app]; exact c2, fun p hp => by rw [c3 p (by omega), a3 p hp], fun p h1 h2 => ?_, by omega, by omega⟩
  rw [exs_app] at h2
  by_cases q : p < (exs M E).1.length
  · rw [c3 p q]; exact a4 p h1 q
  · exact c4 p (by omega) h2
theorem XQ_eq {M' : gU} (a : XQ sN T V K x y E M b s) (h : M = M') (hs : s ≤ s') : XQ sN T V K x y E M' b s' := by
  subst h
  obtain ⟨a1, a2, a3, a4, a5, a6⟩ := a
  exact ⟨a1, a2, a3, a4, a5, by omega⟩
theorem XQ_b {b' : Int32} (a : XQ sN T V K x y E M b s) (h : nl M) : XQ sN T V K x y E M b' s := by
  obtain ⟨a1, a2, a3, a4, a5, a6⟩ := a
  refine ⟨a1, a2, a3, fun p h1 h2 => ?_, a5, a6⟩
  rw [(h E).1] at h2
  omega
/-- nothing but steps behind it -/
theorem XQ_to {L A : List Nat} (a : XQ sN T V K x y E M b s) (h : md L A y z) (hL : [28, 41, 43, 47, 48].all (fun k => !L.elem k) = true) (hA : [2, 5, 6, 7, 8, 30, 31, 32, 33, 34, 35, 45, 46, 47].all (fun k => !A.elem k) = true) : XQ sN T V K x z E M b s := by
  have hL2 : [28, 43, 47, 48].all (fun k => !L.elem k) = true := by
    rw [List.all_eq_true]
    intro k hk
    have hk2 : k ∈ [28, 41, 43, 47, 48] := by
      simp only [List.mem_cons, List.not_mem_nil, or_false] at hk ⊢
      omega
    exact List.all_eq_true.mp hL k hk2
  obtain ⟨a1, a2, a3, a4, a5, a6⟩ := a
  have e47 : z.1 0 47 = y.1 0 47 := h.1 47 (all_no' hL 47 (by decide))
  have g47 : z.1 47 = y.1 47 := h.2.1 47 (by decide) (all_no' hA 47 (by decide))
  exact ⟨LX_md a1 h (all_no' hL 41 (by decide)), XP_md h hL2 hA a2, fun p hp => by rw [g47]; exact a3 p hp, fun p h1 h2 => by rw [g47]; exact a4 p h1 h2, by rw [e47]; exact a5, by rw [e47]; exact a6⟩
end XQS
theorem KL_suf {x : gd} {ks : gK} : ∀ {new : gK}, KL x (new ++ ks) → KL x ks := by
  intro new
  induction new with
  | nil => intro h; exact h
  | cons a n ih => intro h; exact ih h.2
def SfLS (sN : Nat → Nat → Bool) (T : gTd) (V K : Nat → Int32) (k : Nat) : Prop := ∀ (G : mG) (D : Nat) (x : gd) (Fv : gd → Prop) (m : Int) (s c : Nat) (e blk : Int32) (M : gU) (E : gV), 2 * k + 710 ≤ D → s ≤ 700 → vS x m k s c e → wSt x m k e M → PL x → KS x → XP sN T V K x E → (x.1 15 e.toNatClampNeg = 20 → ∀ p : Nat, p < E.1.length → (x.1 47 p = blk ↔ E.2.1.headD 0 ≤ p)) → blk.toInt ≤ (x.1 0 47).toInt → (x.1 0 47).toInt + s ≤ 5000 → (x.1 0 48).toInt + c ≤ 8 → (x.1 0 49).toInt + 2 * s ≤ 5980 → (x.1 0 52).toInt + s ≤ 1499 → (∀ x', QL x x' s c → XQ sN T V K x x' E M blk s → CQ sN T V K x x' E M → Fv x') → MT G D z_layS 0 [(0, vr 0), (1, vi e), (2, vi blk)] [] x (rv Fv)
theorem wS_LF {x y : gd} {n w : Nat} (f : LF x y n w) {m : Int} {k : Nat} {e : Int32} {M : gU} (q : wSt x m k e M) : wSt y m k e M := wS_keep (Int.le_refl _) (l := e.toInt) ⟨NN_NL m e.toInt (NN_LF f), f.1.2.1 5 (by decide) (by decide), f.1.2.1 7 (by decide) (by decide)⟩ k e M (Int.le_refl _) q
theorem wB_LF {x y : gd} {n w : Nat} (f : LF x y n w) {m : Int} {k z : Nat} {e : Int32} {M : gU} (q : wB x m (wSt x m k) z e M) : wB y m (wSt y m k) z e M := wB_keep (Int.le_refl _) (l := e.toInt) ⟨NN_NL m e.toInt (NN_LF f), f.1.2.1 5 (by decide) (by decide), f.1.2.1 7 (by decide) (by decide)⟩ (fun _ _ he g => wS_keep (Int.le_refl _) (l := e.toInt) ⟨NN_NL m e.toInt (NN_LF f), f.1.2.1 5 (by decide) (by decide), f.1.2.1 7 (by decide) (by decide)⟩ _ _ _ he g) (Int.le_refl _) q
theorem sf_layBlock {sN : Nat → Nat → Bool} {T : gTd} {V K : Nat → Int32} (k : Nat) (ih : SfLS sN T V K k) {G : mG} {D : Nat} {x : gd} {Fv : gd → Prop} {m : Int} {s c z0 : Nat} {e : Int32} {M : gU} {E : gV} (hD : 2 * k + 711 ≤ D) (hs : s ≤ 700) (v : vB x m (vS x m k) s c e) (wv : wB x m (wSt x m k) z0 e M) (p : PL x) (ks : KS x) (xp : XP sN T V K x E) (hb2 : (x.1 0 47).toInt + s ≤ 5000) (hc : (x.1 0 48).toInt + c ≤ 8) (hw : (x.1 0 49).toInt + 2 * s ≤ 5980) (hn : (x.1 0 52).toInt + s ≤ 1499) (h : ∀ x', QLB x x' s c → (∀ b, XQ sN T V K x x' E M b s) → CB sN T V K x x' E z0 M → Fv x') : MT G D z_layBlock 0 [(0, vr 0), (1, vi e)] [] x (rv Fv) := by
  obtain ⟨D, rfl⟩ : ∃ D', D = D' + 1 := ⟨D - 1, by omega⟩
  obtain ⟨v1, v2, v3, L, v4, v5, v6, v7⟩ := v
  obtain ⟨-, -, R, w4, w5, eM⟩ := wv
  obtain ⟨ke, sl, ct, ids, bl0⟩ := id xp
  have k1 : (1 : Int32).toInt = 1 := rfl
  have ev : vp_in e 3000 := by rw [vp_in_iff]; have := p.2.2.2.1; omega
  have hV : ∀ e M, wSt x m k e M → ∀ E, sufE E (exs M E) := fun e M g => (wS_env k e M g).1
  obtain ⟨E1, eE1⟩ : ∃ E1, E1 = exV E (20, z0, 0) := ⟨_, rfl⟩
  have E1a : E1.1 = E.1 := by rw [eE1]; rfl
  have E1b : E1.2.1 = E.1.length :: E.2.1 := by rw [eE1]; rfl
  have E1c : E1.2.2 = E.2.2 := by rw [eE1]; rfl
  obtain ⟨b, eb⟩ : ∃ b, b = x.1 0 47 + 1 := ⟨_, rfl⟩
  have hb : b.toInt = (x.1 0 47).toInt + 1 := by rw [eb, t_add (by omega) (by omega), k1]
  have loop : ∀ (L : List (Int32 × Nat × Nat)) (R : gR) (y : gd) (e4 : Int32) (s1 c1 : Nat) (N : gU), QL x y s1 c1 → ln y e4 L → ln y e4 (R.map Prod.fst) → (∀ q ∈ L, vS y m k q.2.1 q.2.2 q.1) → (∀ q ∈ R, wSt y m k q.1.1 q.2) → s1 + sm (fun q => q.2.1) L + 2 ≤ s → c1 + sm (fun q => q.2.2) L ≤ c → LX x y (flt sN T V N E1) → XP sN T V K y (exs N E1) → sufE E1 (exs N E1) → (∀ q : Nat, q < E.1.length → y.1 47 q = x.1 47 q) → (∀ q : Nat, E.1.length ≤ q → q < (exs N E1).1.length → y.1 47 q = b) → b.toInt ≤ (y.1 0 47).toInt → (y.1 0 47).toInt ≤ b.toInt + s1 → M = [(20, z0, 0)] ++ ((N ++ R.flatMap Prod.snd) ++ [(21, z0, 0)]) → (¬ flt sN T V N E1 → ∀ S k w, SR sN T V K x S → ∃ S', cds sN K ([(20, z0, 0)] ++ N) (E, S, k, rg0, w) = (exs N E1, S', k, rg0, w) ∧ SR sN T V K y S' ∧ xtS S S') → MT G (D + 1) z_layBlock 28 [(0, vr 0), (2, vi (x.1 0 43)), (3, vi b), (4, vi e4)] [] y (rv Fv) := by
    intro L
    induction L with
    | nil =>
      intro R y e4 s1 c1 N q l l2 _ _ h1 h2 lx xy su f1 f2 f3 f4 eM cq
      have l : e4 = -1 := l
      have h1 : s1 + 0 + 2 ≤ s := h1
      have h2 : c1 + 0 ≤ c := h2
      have eR : R = [] := by
        cases R with
        | nil => rfl
        | cons a r => rw [l] at l2; exact absurd l2.2.1.1 (by decide)
      rw [eR] at eM
      have eM : M = [(20, z0, 0)] ++ (N ++ [(21, z0, 0)]) := by rw [eM]; simp
      refine sg_layBlock_28 _ _ _ ⟨fun _ z ez => rv_i (h z ?_ (fun b' => ?_) ?_), fun q => absurd l q⟩
      rotate_left 2
      · intro nf S k w hS
        have mz := md_f y 43 (x.1 0 43)
        rw [← ez] at mz
        have lfz := LF_fr (md_w mz (by decide) (by decide)) q.1.1.2.1
        have nf2 : ¬ flt sN T V N E1 := fun w => nf (by
          rw [eM, flt_app, flt_app, exs_one, ← eE1]
          exact Or.inr (Or.inl w))
        obtain ⟨S', e9, s9, x9⟩ := cq nf2 S k w hS
        refine ⟨S', ?_, SR_keep lfz s9, x9⟩
        rw [eM, ← List.append_assoc, cds_app, e9, cds_one, cd_21, exs_app, exs_app, exs_one, exs_one, ← eE1]
      · obtain ⟨q1, q2, q3, q4, q5⟩ := q
        have mz := md_f y 43 (x.1 0 43)
        rw [← ez] at mz
        have e43 : z.1 0 43 = x.1 0 43 := by rw [ez, si_get, if_pos ⟨rfl, rfl⟩]
        have e48 : z.1 0 48 = y.1 0 48 := mz.1 48 (by decide)
        have lf := LF_fr (md_w mz (by decide) (by decide)) q1.1.2.1
        refine ⟨LQ_mono (by omega) (by omega) (LQ_tr q1 (LQ_0 lf)), ?_, e43, by rw [e48]; exact q4, by rw [e48]; omega⟩
        obtain ⟨k1, k2, k3, k4⟩ := q2
        have := ks.1
        refine ⟨by rw [e43]; exact ks.1, by rw [e43, e48]; omega, by rw [e48]; exact k3, fun j hj => ?_⟩
        rw [e43] at hj
        rw [mz.2.1 45 (by decide) (by decide), mz.2.1 46 (by decide) (by decide)]
        exact k4 j (by omega)
      · have mz := md_f y 43 (x.1 0 43)
        rw [← ez] at mz
        have e43 : z.1 0 43 = x.1 0 43 := by rw [ez, si_get, if_pos ⟨rfl, rfl⟩]
        have ex : exs M E = (E.1, E.2.1, (exs N E1).2.2) := by
          rw [eM, exs_app, exs_app, exs_one, exs_one, ← eE1]
          exact ex_close (by rw [← eE1]; exact su)
        obtain ⟨x1, x2, x3, x4, x5⟩ := xy
        obtain ⟨⟨new, su1⟩, su2⟩ := id su
        rw [E1a] at su1
        have kl : KL z E.1 := KL_e (mz.2.1 45 (by decide) (by decide)) (mz.2.1 46 (by decide) (by decide)) (KL_suf (new := new) (by rw [← su1]; exact x1.2.2))
        have e47 : z.1 0 47 = y.1 0 47 := mz.1 47 (by decide)
        have g47 : z.1 47 = y.1 47 := mz.2.1 47 (by decide) (by decide)
        have hl : E.1.length ≤ (exs N E1).1.length := by rw [su1, List.length_append]; omega
        refine ⟨LX_md (LX_eq lx ?_) mz (by decide), ?_, fun p hp => by rw [g47]; exact f1 p hp, fun p h1 h2 => ?_, by rw [e47]; omega, by rw [e47]; omega⟩
        · rw [eM, flt_app, flt_app, exs_one, ← eE1]
          exact ⟨fun w => Or.inr (Or.inl w), fun w => w.elim (fun w => absurd w (flt_k rfl)) (fun w => w.elim id (fun w => absurd w (flt_k rfl)))⟩
        · rw [ex]
          refine ⟨⟨by rw [e43]; exact ke.1, ke.2.1, kl⟩, by rw [mz.1 48 (by decide)]; exact x2, CT_md mz (by decide) rfl x3, fun p hp => ?_, by rw [e47]; exact x5⟩
          rw [g47, e47]
          exact x4 p (by show p < _; have : p < E.1.length := hp; omega)
        · rw [ex] at h2
          exact absurd h2 (by show ¬ p < E.1.length; omega)
    | cons a r ih2 =>
      intro R y e4 s1 c1 N q l l2 vs ws h1 h2 lx xy su f1 f2 f3 f4 eM cq
      obtain ⟨l1, l2a, l3⟩ := l
      have h1 : s1 + (a.2.1 + sm (fun q => q.2.1) r) + 2 ≤ s := h1
      have h2 : c1 + (a.2.2 + sm (fun q => q.2.2) r) ≤ c := h2
      have nm : ¬ e4 = -1 := fun z => by rw [z] at l2a; exact absurd l2a.1 (by decide)
      cases R with
      | nil => exact absurd l2 nm
      | cons aR rR =>
        obtain ⟨l1R, -, l3R⟩ := l2
        have wa := ws aR List.mem_cons_self
        rw [← l1R] at wa
        have py := PL_LF p q.1.1 (KS_KB q.2.1)
        have a48 := q.2.2.2.2
        have a4 := q.1.1.2.2.2.1
        have a6 := q.1.1.2.2.2.2.2.1
        obtain ⟨⟨new, su1⟩, su2⟩ := id su
        rw [E1a] at su1
        rw [E1b] at su2
        refine sg_layBlock_28 _ _ _ ⟨fun z => absurd z nm, fun _ => ih G D y _ m a.2.1 a.2.2 e4 b aR.2 (exs N E1) (by omega) (by omega) (by rw [l1]; exact vs a List.mem_cons_self) wa py q.2.1 xy (fun _ t ht => ?_) f3 (by omega) (by omega) (by omega) (by omega) (fun z qz xq cqz => ⟨by rw [vp_in_iff]; have := py.2.2.2.1; omega, ?_⟩)⟩
        · rw [su2]
          show y.1 47 t = b ↔ E.1.length ≤ t
          by_cases ct : t < E.1.length
          · rw [f1 t ct]
            refine ⟨fun w => ?_, fun w => by omega⟩
            have := ids t ct
            rw [w] at this
            omega
          · exact ⟨fun _ => by omega, fun w => f2 t w ht⟩
        have lf := qz.1.1
        have e20 : z.1 20 = y.1 20 := lf.1.2.1 20 (by decide) (by decide)
        rw [e20]
        obtain ⟨xq1, xq2, xq3, xq4, xq5, xq6⟩ := xq
        have sua := (wS_env k e4 aR.2 wa).1 (exs N E1)
        have hl : E.1.length ≤ (exs N E1).1.length := by rw [su1, List.length_append]; omega
        refine ih2 rR z _ (s1 + a.2.1) (c1 + a.2.2) (N ++ aR.2) (QL_tr q qz) (ln_LF lf l3) (ln_LF lf l3R) (fun q hq => vS_LF lf (vs q (List.mem_cons_of_mem _ hq))) (fun q hq => wS_LF lf (ws q (List.mem_cons_of_mem _ hq))) (by omega) (by omega) (LX_eq (LX_tr lx xq1) flt_app.symm) (by rw [exs_app]; exact xq2) (by rw [exs_app]; exact sufE_tr su sua) (fun t ht => by rw [xq3 t (by omega)]; exact f1 t ht) (fun t t1 t2 => ?_) (by omega) (by omega) ?_ ?_
        · rw [exs_app] at t2
          by_cases ct : t < (exs N E1).1.length
          · rw [xq3 t ct]; exact f2 t t1 ct
          · exact xq4 t (by omega) t2
        rotate_left
        · intro nf S k w hS
          rw [flt_app] at nf
          obtain ⟨S1, e1, s1, x1⟩ := cq (fun q => nf (Or.inl q)) S k w hS
          obtain ⟨S2, e2, s2, x2⟩ := cqz (fun q => nf (Or.inr q)) (by rw [su2]; exact List.cons_ne_nil _ _) S1 k w s1
          exact ⟨S2, by rw [← List.append_assoc, cds_app, e1, e2, exs_app], s2, xtS_tr x1 x2⟩
        · rw [eM]
          show _ = [(20, z0, 0)] ++ (((N ++ aR.2) ++ rR.flatMap Prod.snd) ++ [(21, z0, 0)])
          show [(20, z0, 0)] ++ ((N ++ (aR.2 ++ rR.flatMap Prod.snd)) ++ [(21, z0, 0)]) = _
          simp only [List.append_assoc]
  refine sg_layBlock_0 _ (fun y ey => ⟨ev, ?_⟩)
  have my := md_f x 47 (x.1 0 47 + 1)
  rw [← ey] at my
  have lf := LF_fr (md_w my (by decide) (by decide)) p.2.1
  have e43 : y.1 0 43 = x.1 0 43 := my.1 43 (by decide)
  have e48 : y.1 0 48 = x.1 0 48 := my.1 48 (by decide)
  have y47 : y.1 0 47 = b := by rw [ey, si_get, if_pos ⟨rfl, rfl⟩, eb]
  rw [my.2.1 16 (by decide) (by decide), y47]
  have xy : XP sN T V K y E1 := by
    refine ⟨⟨by rw [E1a, e43]; exact ke.1, by rw [E1a]; exact ke.2.1, by rw [E1a]; exact KL_e (my.2.1 45 (by decide) (by decide)) (my.2.1 46 (by decide) (by decide)) ke.2.2⟩, by rw [E1c, e48]; exact sl, CT_md my (by decide) rfl ct, fun t ht => ?_, by rw [y47]; omega⟩
    rw [E1a] at ht
    rw [my.2.1 47 (by decide) (by decide), y47]
    have := ids t ht
    omega
  refine loop L R y _ 0 0 [] ⟨LQ_mono (by omega) (by omega) (LQ_0 lf), KS_md my (by decide) (by decide) (by decide) (by decide) ks, by rw [e43]; omega, by rw [e48]; omega, by rw [e48]; omega⟩ (ln_LF lf v4) (ln_LF lf w4) (fun q hq => vS_LF lf (v5 q hq).1) (fun q hq => wS_LF lf (w5 q hq).1) (by omega) (by omega) (LX_md (LX_no (fun w => w)) my (by decide)) xy sufE_rf (fun t _ => by rw [my.2.1 47 (by decide) (by decide)]) (fun t t1 t2 => ?_) (by rw [y47]; omega) (by rw [y47]; omega) ?_ (fun _ S k w hS => ⟨S, by rw [List.append_nil, cds_one, cd_20, ← eE1]; rfl, SR_keep lf hS, xtS_rf⟩)
  · rw [exs_nil, E1a] at t2; omega
  · rw [eM, List.nil_append]
