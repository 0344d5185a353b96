/-! the code of a text, by the grammar: what its sums and steps are like -/
/-- a sum's events -/
def sVv (K : Nat → Int32) (v : Nat × Nat × Nat) : Prop := (v.1 = 50 → K v.2.1 = 29 ∨ K v.2.1 = 58) ∧ (v.1 = 51 → ¬ pst (K v.2.1) = 0) ∧ (v.1 = 52 → K v.2.1 = 2) ∧ (v.1 = 3 ∨ v.1 = 6 ∨ v.1 = 7 → K v.2.1 = 1) ∧ (v.1 = 12 → K v.2.1 = 2 ∧ K v.2.2 = 1)
/-- how high the values stand: h before the events, 1 behind them, never above 40 -/
def okE : gU → Nat → Prop
  | [], h => h = 1
  | v :: N, h => if v.1 = 7 then okE N h else if v.1 = 50 then 1 ≤ h ∧ okE N h else if v.1 = 51 then 2 ≤ h ∧ okE N (h - 1) else h < 40 ∧ okE N (h + 1)
/-- a cell of a row is told by two events, the one behind the other -/
def ajE (N : gU) : Prop := ∀ (f g : Nat × Nat × Nat → Option (Int32 × Int32)), (∀ v ∈ N, ¬ v.1 = 7 → ¬ v.1 = 12 → f v = g v) → (∀ i, (7, i, 0) ∈ N → (12, i + 2, i) ∈ N → f (7, i, 0) = g (12, i + 2, i)) → (∀ i j, f (12, i, j) = none) → (∀ i j, g (7, i, j) = none) → N.filterMap f = N.filterMap g
def sW (K : Nat → Int32) (d : Nat) (N : gU) : Prop := (∀ v ∈ N, sVv K v) ∧ (∀ R h, h + d ≤ 40 → okE R (h + 1) → okE (N ++ R) h) ∧ ajE N
section SWL
variable {K V : Nat → Int32} {sN : Nat → Nat → Bool} {T : gTd} {L M N R : gU} {d e i j f : Nat} {v : Nat × Nat × Nat} {o : Bool} {E : gV}
theorem ajE_app (a : ajE N) (b : ajE M) : ajE (N ++ M) := fun f g h1 h2 h3 h4 => by
  rw [List.filterMap_append, List.filterMap_append, a f g (fun v hv => h1 v (List.mem_append_left _ hv)) (fun i a1 a2 => h2 i (List.mem_append_left _ a1) (List.mem_append_left _ a2)) h3 h4, b f g (fun v hv => h1 v (List.mem_append_right _ hv)) (fun i a1 a2 => h2 i (List.mem_append_right _ a1) (List.mem_append_right _ a2)) h3 h4]
theorem ajE_one (h : ¬ v.1 = 7 ∧ ¬ v.1 = 12) : ajE [v] := fun f g h1 _ _ _ => by
  simp only [List.filterMap_cons, List.filterMap_nil, h1 v List.mem_cons_self h.1 h.2]
theorem ajE_row : ajE [(7, i, 0), (12, i + 2, i)] := fun f g h1 h2 h3 h4 => by
  have e := h2 i List.mem_cons_self (List.mem_cons_of_mem _ List.mem_cons_self)
  simp only [List.filterMap_cons, List.filterMap_nil, e, h3, h4]
theorem sVv_50 (k : K i = 29 ∨ K i = 58) : sVv K (50, i, j) := ⟨fun _ => k, fun c => absurd c (show ¬ 50 = 51 by decide), fun c => absurd c (show ¬ 50 = 52 by decide), fun c => absurd c (show ¬ (50 = 3 ∨ 50 = 6 ∨ 50 = 7) by decide), fun c => absurd c (show ¬ 50 = 12 by decide)⟩
theorem sVv_51 (k : ¬ pst (K i) = 0) : sVv K (51, i, j) := ⟨fun c => absurd c (show ¬ 51 = 50 by decide), fun _ => k, fun c => absurd c (show ¬ 51 = 52 by decide), fun c => absurd c (show ¬ (51 = 3 ∨ 51 = 6 ∨ 51 = 7) by decide), fun c => absurd c (show ¬ 51 = 12 by decide)⟩
theorem sVv_52 (k : K i = 2) : sVv K (52, i, j) := ⟨fun c => absurd c (show ¬ 52 = 50 by decide), fun c => absurd c (show ¬ 52 = 51 by decide), fun _ => k, fun c => absurd c (show ¬ (52 = 3 ∨ 52 = 6 ∨ 52 = 7) by decide), fun c => absurd c (show ¬ 52 = 12 by decide)⟩
theorem sVv_53 : sVv K (53, i, j) := ⟨fun c => absurd c (show ¬ 53 = 50 by decide), fun c => absurd c (show ¬ 53 = 51 by decide), fun c => absurd c (show ¬ 53 = 52 by decide), fun c => absurd c (show ¬ (53 = 3 ∨ 53 = 6 ∨ 53 = 7) by decide), fun c => absurd c (show ¬ 53 = 12 by decide)⟩
theorem sVv_nm {k : Nat} (hk : k = 3 ∨ k = 6 ∨ k = 7) (k1 : K i = 1) : sVv K (k, i, j) := by
  have c0 : ¬ k = 50 := by omega
  have c1 : ¬ k = 51 := by omega
  have c2 : ¬ k = 52 := by omega
  have c3 : ¬ k = 12 := by omega
  exact ⟨fun c => absurd c c0, fun c => absurd c c1, fun c => absurd c c2, fun _ => k1, fun c => absurd c c3⟩
theorem sVv_12 (k2 : K i = 2) (k1 : K j = 1) : sVv K (12, i, j) := ⟨fun c => absurd c (show ¬ 12 = 50 by decide), fun c => absurd c (show ¬ 12 = 51 by decide), fun c => absurd c (show ¬ 12 = 52 by decide), fun c => absurd c (show ¬ (12 = 3 ∨ 12 = 6 ∨ 12 = 7) by decide), fun _ => ⟨k2, k1⟩⟩
theorem sW_up (h : sW K d N) (hd : d ≤ e) : sW K e N := ⟨h.1, fun R h' hh hR => h.2.1 R h' (by omega) hR, h.2.2⟩
theorem sW_leaf (hv : sVv K v) (h : ¬ v.1 = 7 ∧ ¬ v.1 = 12 ∧ ¬ v.1 = 50 ∧ ¬ v.1 = 51) (hd : 1 ≤ d) : sW K d [v] := ⟨fun w hw => by rw [List.mem_singleton.mp hw]; exact hv, fun R h' hh hR => by
  show okE (v :: R) h'
  rw [okE, if_neg h.1, if_neg h.2.2.1, if_neg h.2.2.2]
  exact ⟨by omega, hR⟩, ajE_one ⟨h.1, h.2.1⟩⟩
theorem sW_row (k1 : K i = 1) (k2 : K (i + 2) = 2) (hd : 1 ≤ d) : sW K d [(7, i, 0), (12, i + 2, i)] := ⟨fun w hw => by
  rcases List.mem_cons.mp hw with e | hw
  · rw [e]; exact sVv_nm (Or.inr (Or.inr rfl)) k1
  · rw [List.mem_singleton.mp hw]; exact sVv_12 k2 k1, fun R h' hh hR => by
  show okE ((7, i, 0) :: (12, i + 2, i) :: R) h'
  rw [okE, if_pos rfl, okE, if_neg (show ¬ 12 = 7 by decide), if_neg (show ¬ 12 = 50 by decide), if_neg (show ¬ 12 = 51 by decide)]
  exact ⟨by omega, hR⟩, ajE_row⟩
theorem sW_un (a : sW K d N) (k : K i = 29 ∨ K i = 58) : sW K d (N ++ [(50, i, 0)]) := ⟨fun w hw => (List.mem_append.mp hw).elim (a.1 w) (fun hw => by rw [List.mem_singleton.mp hw]; exact sVv_50 k), fun R h' hh hR => by
  rw [List.append_assoc]
  refine a.2.1 _ h' hh ?_
  show okE ((50, i, 0) :: R) (h' + 1)
  rw [okE, if_neg (show ¬ 50 = 7 by decide), if_pos rfl]
  exact ⟨by omega, hR⟩, ajE_app a.2.2 (ajE_one ⟨show ¬ 50 = 7 by decide, show ¬ 50 = 12 by decide⟩)⟩
theorem sW_bin (a : sW K d N) (b : sW K e M) (he : e < d) (k : ¬ pst (K j) = 0) : sW K d (N ++ M ++ [(51, j, 0)]) := ⟨fun w hw => (List.mem_append.mp hw).elim (fun hw => (List.mem_append.mp hw).elim (a.1 w) (b.1 w)) (fun hw => by rw [List.mem_singleton.mp hw]; exact sVv_51 k), fun R h' hh hR => by
  rw [List.append_assoc, List.append_assoc]
  refine a.2.1 _ h' hh (b.2.1 _ (h' + 1) (by omega) ?_)
  show okE ((51, j, 0) :: R) (h' + 1 + 1)
  rw [okE, if_neg (show ¬ 51 = 7 by decide), if_neg (show ¬ 51 = 50 by decide), if_pos rfl, Nat.add_sub_cancel]
  exact ⟨by omega, hR⟩, ajE_app (ajE_app a.2.2 b.2.2) (ajE_one ⟨show ¬ 51 = 7 by decide, show ¬ 51 = 12 by decide⟩)⟩
abbrev swo (K : Nat → Int32) (o : Bool) (d : Nat) (rE : Nat → Nat → gU → gOp) : Prop := ∀ s i L q, rE s i L = some q → ∃ N, q.2 = L ++ N ∧ sEv o N ∧ sW K d N
theorem pW_sW {rE : Nat → Nat → gU → gOp} {th : Nat} (hr : swo K o f rE) : ∀ (n j : Nat) (L N : gU) (q : Nat × gU), sEv o N → sW K (f + 1) N → pW rE K th n j (L ++ N) = some q → ∃ N', q.2 = L ++ N' ∧ sEv o N' ∧ sW K (f + 1) N' := by
  intro n
  induction n with
  | zero => intro j L N q _ _ h; exact absurd h (by simp [pW])
  | succ n ih =>
    intro j L N q hs hN h
    rw [pW] at h
    split at h
    · next c =>
      split at h
      · obtain ⟨z, hz, h2⟩ := Option.bind_eq_some_iff.mp h
        have h2 : pW rE K th n z.1 (z.2 ++ [(51, j, 0)]) = some q := h2
        obtain ⟨M, eM, sM, wM⟩ := hr _ _ _ _ hz
        have e : z.2 ++ [(51, j, 0)] = L ++ (N ++ M ++ [(51, j, 0)]) := by rw [eM]; simp only [List.append_assoc]
        rw [e] at h2
        exact ih _ _ _ _ (sEv_app (sEv_app hs sM) (sEv_one (Or.inr (Or.inl rfl)))) (sW_bin hN wM (Nat.lt_succ_self _) (by omega)) h2
      · exact absurd h (by simp)
    · cases Option.some.inj h; exact ⟨N, rfl, hs, hN⟩
theorem pO_sW {rE : Nat → Nat → gU → gOp} (hr : swo K o f rE) {q : Nat × gU} (h : pO rE K o i L = some q) : ∃ N, q.2 = L ++ N ∧ sEv o N ∧ sW K (f + 1) N := by
  have h1 : 1 ≤ f + 1 := Nat.succ_le_succ (Nat.zero_le _)
  unfold pO at h
  split at h
  · exact absurd h (by simp)
  · split at h
    · next k => cases Option.some.inj h; exact ⟨_, rfl, sEv_one (Or.inr (Or.inr (Or.inl rfl))), sW_leaf (sVv_52 k) ⟨show ¬ 52 = 7 by decide, show ¬ 52 = 12 by decide, show ¬ 52 = 50 by decide, show ¬ 52 = 51 by decide⟩ h1⟩
    · split at h
      · cases Option.some.inj h; exact ⟨_, rfl, sEv_one (Or.inr (Or.inr (Or.inr (Or.inl rfl)))), sW_leaf sVv_53 ⟨show ¬ 53 = 7 by decide, show ¬ 53 = 12 by decide, show ¬ 53 = 50 by decide, show ¬ 53 = 51 by decide⟩ h1⟩
      · split at h
        · obtain ⟨z, hz, h2⟩ := Option.bind_eq_some_iff.mp h
          obtain ⟨N, eN, sN', wN⟩ := hr _ _ _ _ hz
          obtain ⟨-, -, e2⟩ := pt_is h2
          rw [e2]
          exact ⟨N, eN, sN', sW_up wN (Nat.le_succ _)⟩
        · split at h
          · next k1 =>
            split at h
            · next ho =>
              split at h
              · split at h
                · next c =>
                  cases Option.some.inj h
                  exact ⟨_, rfl, sEv_app (N := [_]) (M := [_]) (sEv_one (Or.inr (Or.inr (Or.inr (Or.inr (Or.inr ⟨ho, Or.inr (Or.inl rfl)⟩)))))) (sEv_one (Or.inr (Or.inr (Or.inr (Or.inr (Or.inr ⟨ho, Or.inr (Or.inr rfl)⟩)))))), sW_row k1 c.2.1.1 h1⟩
                · exact absurd h (by simp)
              · cases Option.some.inj h; exact ⟨_, rfl, sEv_one (Or.inr (Or.inr (Or.inr (Or.inr (Or.inr ⟨ho, Or.inl rfl⟩))))), sW_leaf (sVv_nm (Or.inr (Or.inl rfl)) k1) ⟨show ¬ 6 = 7 by decide, show ¬ 6 = 12 by decide, show ¬ 6 = 50 by decide, show ¬ 6 = 51 by decide⟩ h1⟩
            · next ho =>
              cases Option.some.inj h
              exact ⟨_, rfl, sEv_one (Or.inr (Or.inr (Or.inr (Or.inr (Or.inl ⟨by cases o with | false => rfl | true => exact absurd rfl ho, rfl⟩))))), sW_leaf (sVv_nm (Or.inl rfl) k1) ⟨show ¬ 3 = 7 by decide, show ¬ 3 = 12 by decide, show ¬ 3 = 50 by decide, show ¬ 3 = 51 by decide⟩ h1⟩
          · exact absurd h (by simp)
theorem pE_sW : ∀ f : Nat, swo K o f (pE K o f) := by
  intro f
  induction f with
  | zero => intro s i L q h; exact absurd h (by simp [pE])
  | succ f ih =>
    intro s i L q h
    rw [pE] at h
    split at h
    · obtain ⟨z, hz, h2⟩ := Option.bind_eq_some_iff.mp h
      have a : ∃ N, z.2 = L ++ N ∧ sEv o N ∧ sW K (f + 1) N := by
        split at hz
        · next k =>
          split at hz
          · obtain ⟨y, hy, h3⟩ := Option.bind_eq_some_iff.mp hz
            obtain ⟨N, eN, sN', wN⟩ := ih _ _ _ _ hy
            cases Option.some.inj h3
            exact ⟨N ++ [(50, i, 0)], by show y.2 ++ [(50, i, 0)] = _; rw [eN, List.append_assoc], sEv_app sN' (sEv_one (Or.inl rfl)), sW_up (sW_un wN k) (Nat.le_succ _)⟩
          · exact absurd hz (by simp)
        · exact pO_sW ih hz
      obtain ⟨N, eN, sN', wN⟩ := a
      have h2 : pW (pE K o f) K s 701 z.1 z.2 = some q := h2
      rw [eN] at h2
      exact pW_sW ih _ _ _ _ _ sN' wN h2
    · exact absurd h (by simp)
theorem pX_sW {q : Nat × gU} (h : pX K o f i L = some q) : ∃ N, q.2 = L ++ (N ++ [(54, 0, 0)]) ∧ sEv o N ∧ sW K f N := by
  obtain ⟨z, hz, h2⟩ := Option.bind_eq_some_iff.mp h
  obtain ⟨N, eN, hs, hw⟩ := pE_sW f _ _ _ _ hz
  unfold pan at h2
  cases Option.some.inj h2
  exact ⟨N, by show z.2 ++ [(54, 0, 0)] = _; rw [eN, List.append_assoc], hs, hw⟩
theorem sW_ok (h : sW K d N) (hd : d ≤ 40) : okE N 0 := by
  have a := h.2.1 [] 0 (by omega) rfl
  rw [List.append_nil] at a
  exact a
theorem flt_mem : ∀ {N : gU}, still N → ∀ {v : Nat × Nat × Nat}, v ∈ N → fv sN T V E v → flt sN T V N E := by
  intro N
  induction N with
  | nil => intro _ v hv _; cases hv
  | cons w N ih =>
    intro hs v hv hf
    rcases List.mem_cons.mp hv with e | hv
    · rw [e] at hf; exact Or.inl hf
    · refine Or.inr ?_
      rw [exV_still (hs w List.mem_cons_self)]
      exact ih (fun u hu => hs u (List.mem_cons_of_mem _ hu)) hv hf
theorem sEv_st (h : sEv o N) : still N := fun v hv => by
  have := h v hv
  refine ⟨by omega, by omega, by omega⟩
/-- a sum of a thread: well formed, its names known -/
def sOo (sN : Nat → Nat → Bool) (K : Nat → Int32) (E : gV) (o : Option gU) : Prop := ∀ N, o = some N → sEv false N ∧ (∀ v ∈ N, sVv K v) ∧ okE N 0 ∧ ∀ v ∈ N, v.1 = 3 → ∃ p, kfi sN E.1 v.2.1 = some p
theorem sOo_no : sOo sN K E none := fun N h => by cases h
theorem sOo_so (hs : sEv false N) (hw : sW K d N) (hd : d ≤ 40) (nf : ¬ flt sN T V N E) : sOo sN K E (some N) := fun M hM => by
  cases Option.some.inj hM
  refine ⟨hs, hw.1, sW_ok hw hd, fun v hv h3 => ?_⟩
  cases c : kfi sN E.1 v.2.1 with
  | some p => exact ⟨p, rfl⟩
  | none => exact absurd (flt_mem (sEv_st hs) hv (Or.inl ⟨h3, c⟩)) nf
theorem sOo_one (k : K i = 1) (hk : ¬ kfi sN E.1 i = none) : sOo sN K E (some [(3, i, 0)]) := fun M hM => by
  cases Option.some.inj hM
  refine ⟨sEv_one (Or.inr (Or.inr (Or.inr (Or.inr (Or.inl ⟨rfl, rfl⟩))))), fun v hv => by rw [List.mem_singleton.mp hv]; exact sVv_nm (Or.inl rfl) k, ?_, fun v hv _ => ?_⟩
  · rw [okE, if_neg (show ¬ 3 = 7 by decide), if_neg (show ¬ 3 = 50 by decide), if_neg (show ¬ 3 = 51 by decide)]
    exact ⟨by decide, rfl⟩
  · rw [List.mem_singleton.mp hv]
    cases c : kfi sN E.1 i with
    | some p => exact ⟨p, rfl⟩
    | none => exact absurd c hk
end SWL
/-- one step, where E is known -/
def pOk (E : gV) (p : Nat) : Prop := p < E.1.length ∨ (p = E.1.length ∧ E.2.2 < 8)
/-- what belongs where: the second sum, the first, the target -/
def nxL (st : gSt) : Prop := (¬ st.1 = 4 → st.2.2.2.2.2.2.2.2 = none) ∧ (¬ ((1 ≤ st.1 ∧ st.1 ≤ 4) ∨ st.1 = 13 ∨ st.1 = 14 ∨ (16 ≤ st.1 ∧ st.1 ≤ 18)) → st.2.2.2.2.2.2.2.1 = none) ∧ (¬ (st.1 = 0 ∨ (2 ≤ st.1 ∧ st.1 ≤ 4) ∨ st.1 = 16 ∨ st.1 = 17 ∨ st.1 = 20) → st.2.2.2.1 = none)
theorem nxL_of {op tk : Nat} {kn : gK × Nat} {to tn : Option Nat} {fl : Bool} {ix e1 e2 : Option gU} (a : ¬ op = 4 → e2 = none) (b : ¬ ((1 ≤ op ∧ op ≤ 4) ∨ op = 13 ∨ op = 14 ∨ (16 ≤ op ∧ op ≤ 18)) → e1 = none) (c : ¬ (op = 0 ∨ (2 ≤ op ∧ op ≤ 4) ∨ op = 16 ∨ op = 17 ∨ op = 20) → to = none) : nxL (op, tk, kn, to, tn, fl, ix, e1, e2) := ⟨a, b, c⟩
def stLk (sN : Nat → Nat → Bool) (K : Nat → Int32) (E : gV) (st : gSt) : Prop :=
  st.2.2.1 = knw E ∧ (st.1 < 22 ∧ ¬ st.1 = 15) ∧
  ((st.1 = 0 ∨ (2 ≤ st.1 ∧ st.1 ≤ 4) ∨ st.1 = 16) → ∃ p, st.2.2.2.1 = some p ∧ pOk E p) ∧
  (st.1 ≤ 10 → ∃ t, st.2.2.2.2.1 = some t ∧ K t = 1) ∧ (st.1 = 13 → ∃ t, st.2.2.2.2.1 = some t ∧ K t = 2) ∧ (10 < st.1 → ¬ st.1 = 13 → st.2.2.2.2.1 = none) ∧
  (st.1 ≤ 4 → (st.2.2.2.2.2.1 = true ↔ ¬ st.2.2.2.2.2.2.1 = none)) ∧ (5 ≤ st.1 → st.2.2.2.2.2.2.1 = none) ∧
  ((1 ≤ st.1 ∧ st.1 ≤ 4) ∨ st.1 = 13 ∨ st.1 = 14 ∨ (16 ≤ st.1 ∧ st.1 ≤ 18) → ¬ st.2.2.2.2.2.2.2.1 = none) ∧
  (st.1 = 4 → ¬ st.2.2.2.2.2.2.2.2 = none) ∧
  sOo sN K E st.2.2.2.2.2.2.1 ∧ sOo sN K E st.2.2.2.2.2.2.2.1 ∧ sOo sN K E st.2.2.2.2.2.2.2.2 ∧ (19 ≤ st.1 → st.2.2.2.2.2.2.2.1 = none) ∧ nxL st
section STL
variable {K V : Nat → Int32} {sN : Nat → Nat → Bool} {E : gV} {op tk t p : Nat} {to : Option Nat} {fl : Bool} {ix e1 e2 : Option gU} {N : gU}
theorem stLk_x (ho : op ≤ 4) (hp : op = 1 ∨ ∃ p, to = some p ∧ pOk E p) (hk : K t = 1) (hr : fl = true ↔ ¬ ix = none) (h1 : ¬ op = 0 → ¬ e1 = none) (h2 : op = 4 → ¬ e2 = none) (s0 : sOo sN K E ix) (s1 : sOo sN K E e1) (s2 : sOo sN K E e2) (hz : op = 1 → to = none) (hy : op = 0 → e1 = none) (hw : ¬ op = 4 → e2 = none) : stLk sN K E (op, tk, knw E, to, some t, fl, ix, e1, e2) := by
  refine ⟨rfl, ⟨by show op < 22; omega, by show ¬ op = 15; omega⟩, fun c => ?_, fun _ => ⟨t, rfl, hk⟩, fun c => absurd c (by show ¬ op = 13; omega), fun c => absurd c (by show ¬ 10 < op; omega), fun _ => hr, fun c => absurd c (by show ¬ 5 ≤ op; omega), fun c => h1 ?_, h2, s0, s1, s2, fun c => absurd c (by show ¬ 19 ≤ op; omega), nxL_of hw (fun c => hy (by omega)) (fun c => hz (by omega))⟩
  · have c : op = 0 ∨ (2 ≤ op ∧ op ≤ 4) ∨ op = 16 := c
    exact hp.elim (fun z => absurd c (by omega)) id
  · have c : (1 ≤ op ∧ op ≤ 4) ∨ op = 13 ∨ op = 14 ∨ (16 ≤ op ∧ op ≤ 18) := c
    omega
theorem stLk_16 (hp : pOk E p) (s1 : sOo sN K E (some N)) : stLk sN K E (16, tk, knw E, some p, none, false, none, some N, none) := ⟨rfl, ⟨show 16 < 22 by decide, show ¬ 16 = 15 by decide⟩, fun _ => ⟨p, rfl, hp⟩, fun c => absurd c (show ¬ 16 ≤ 10 by decide), fun c => absurd c (show ¬ 16 = 13 by decide), fun _ _ => rfl, fun c => absurd c (show ¬ 16 ≤ 4 by decide), fun _ => rfl, fun _ => Option.some_ne_none _, fun c => absurd c (show ¬ 16 = 4 by decide), sOo_no, s1, sOo_no, fun c => absurd c (show ¬ 19 ≤ 16 by decide), nxL_of (fun _ => rfl) (fun c => absurd (by decide) c) (fun c => absurd (by decide) c)⟩
theorem stLk_p (h : op = 11 ∨ op = 12 ∨ op = 19 ∨ op = 20 ∨ op = 21) (hz : ¬ op = 20 → to = none) : stLk sN K E (op, tk, knw E, to, none, false, none, none, none) := by
  refine ⟨rfl, ⟨by show op < 22; omega, by show ¬ op = 15; omega⟩, fun c => ?_, fun c => absurd c (by show ¬ op ≤ 10; omega), fun c => absurd c (by show ¬ op = 13; omega), fun _ _ => rfl, fun c => absurd c (by show ¬ op ≤ 4; omega), fun _ => rfl, fun c => ?_, fun c => absurd c (by show ¬ op = 4; omega), sOo_no, sOo_no, sOo_no, fun _ => rfl, nxL_of (fun _ => rfl) (fun _ => rfl) (fun c => hz (by omega))⟩
  · have c : op = 0 ∨ (2 ≤ op ∧ op ≤ 4) ∨ op = 16 := c
    omega
  · have c : (1 ≤ op ∧ op ≤ 4) ∨ op = 13 ∨ op = 14 ∨ (16 ≤ op ∧ op ≤ 18) := c
    omega
theorem stLk_w (h : 5 ≤ op ∧ op ≤ 10) (hk : K t = 1) : stLk sN K E (op, tk, knw E, none, some t, fl, none, none, none) := by
  refine ⟨rfl, ⟨by show op < 22; omega, by show ¬ op = 15; omega⟩, fun c => ?_, fun _ => ⟨t, rfl, hk⟩, fun c => absurd c (by show ¬ op = 13; omega), fun c => absurd c (by show ¬ 10 < op; omega), fun c => absurd c (by show ¬ op ≤ 4; omega), fun _ => rfl, fun c => ?_, fun c => absurd c (by show ¬ op = 4; omega), sOo_no, sOo_no, sOo_no, fun _ => rfl, nxL_of (fun _ => rfl) (fun _ => rfl) (fun _ => rfl)⟩
  · have c : op = 0 ∨ (2 ≤ op ∧ op ≤ 4) ∨ op = 16 := c
    omega
  · have c : (1 ≤ op ∧ op ≤ 4) ∨ op = 13 ∨ op = 14 ∨ (16 ≤ op ∧ op ≤ 18) := c
    omega
theorem stLk_s (h : op = 14 ∨ op = 17 ∨ op = 18) (s1 : sOo sN K E (some N)) : stLk sN K E (op, tk, knw E, none, none, false, none, some N, none) := by
  refine ⟨rfl, ⟨by show op < 22; omega, by show ¬ op = 15; omega⟩, fun c => ?_, fun c => absurd c (by show ¬ op ≤ 10; omega), fun c => absurd c (by show ¬ op = 13; omega), fun _ _ => rfl, fun c => absurd c (by show ¬ op ≤ 4; omega), fun _ => rfl, fun _ => Option.some_ne_none _, fun c => absurd c (by show ¬ op = 4; omega), sOo_no, s1, sOo_no, fun c => absurd c (by show ¬ 19 ≤ op; omega), nxL_of (fun _ => rfl) (fun c => absurd (by omega) c) (fun _ => rfl)⟩
  have c : op = 0 ∨ (2 ≤ op ∧ op ≤ 4) ∨ op = 16 := c
  omega
theorem stLk_13 (hk : K t = 2) (s1 : sOo sN K E (some N)) : stLk sN K E (13, tk, knw E, none, some t, false, none, some N, none) := ⟨rfl, ⟨show 13 < 22 by decide, show ¬ 13 = 15 by decide⟩, fun c => absurd c (show ¬ (13 = 0 ∨ (2 ≤ 13 ∧ 13 ≤ 4) ∨ 13 = 16) by decide), fun c => absurd c (show ¬ 13 ≤ 10 by decide), fun _ => ⟨t, rfl, hk⟩, fun _ c => absurd rfl c, fun c => absurd c (show ¬ 13 ≤ 4 by decide), fun _ => rfl, fun _ => Option.some_ne_none _, fun c => absurd c (show ¬ 13 = 4 by decide), sOo_no, s1, sOo_no, fun c => absurd c (show ¬ 19 ≤ 13 by decide), nxL_of (fun _ => rfl) (fun c => absurd (by decide) c) (fun _ => rfl)⟩
/-- a step whose target is set -/
theorem stLk_to {st : gSt} {n : Nat} (h : stLk sN K E st) (ho : st.1 = 17 ∨ st.1 = 20) : stLk sN K E (stS st n) := by
  obtain ⟨h1, h2, h3, h4, h5, h6, h7, h8, h9, h10, h11, h12, h13, h14, h15, h16, h17⟩ := h
  refine ⟨h1, h2, fun c => ?_, h4, h5, h6, h7, h8, h9, h10, h11, h12, h13, h14, h15, h16, fun c => ?_⟩
  · have c : st.1 = 0 ∨ (2 ≤ st.1 ∧ st.1 ≤ 4) ∨ st.1 = 16 := c
    omega
  · have c : ¬ (st.1 = 0 ∨ (2 ≤ st.1 ∧ st.1 ≤ 4) ∨ st.1 = 16 ∨ st.1 = 17 ∨ st.1 = 20) := c
    omega
end STL
