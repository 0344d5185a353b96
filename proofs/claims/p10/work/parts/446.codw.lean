/-! the fold: threads and claims are only added to; the whole row, chunk by chunk -/
theorem snoc_ind {α : Type} {P : List α → Prop} (h0 : P []) (hs : ∀ l a, P l → P (l ++ [a])) (l : List α) : P l := by
  have h : ∀ r : List α, P r.reverse := by
    intro r
    induction r with
    | nil => exact h0
    | cons a r ih => rw [List.reverse_cons]; exact hs _ _ ih
  have q := h l.reverse
  rw [List.reverse_reverse] at q
  exact q
/-- c's threads and claims behind others -/
def cW2 (b : List (Nat × Nat)) (l : List (Nat × gU)) (c : gCd) : gCd := (c.1, c.2.1, c.2.2.1, c.2.2.2.1, b ++ c.2.2.2.2.1, l ++ c.2.2.2.2.2)
section CWS
variable {sN : Nat → Nat → Bool} {K V : Nat → Int32} {E : gV} {S : List gSt} {k : List Nat} {r : gRg} {b b' : List (Nat × Nat)} {l l' : List (Nat × gU)} {v : Nat × Nat × Nat} {tg : Option Nat} {tk i : Nat} {N L : gU}
theorem cEm_w {st : gSt} : cEm (cW2 b l (E, S, k, r, b', l')) st = cW2 b l (cEm (E, S, k, r, b', l') st) := rfl
theorem cSe_w : cSe sN (cW2 b l (E, S, k, r, b', l')) tg tk N = cW2 b l (cSe sN (E, S, k, r, b', l') tg tk N) := by
  show (match toL sN E.1 tg with | some p => _ | none => _) = cW2 b l (match toL sN E.1 tg with | some p => _ | none => _)
  cases toL sN E.1 tg <;> rfl
theorem cAl_w : cAl sN (cW2 b l (E, S, k, r, b', l')) tg tk i = cW2 b l (cAl sN (E, S, k, r, b', l') tg tk i) := by
  show (match kfi sN E.1 i with | some _ => cSe sN (cW2 b l (E, S, k, r, b', l')) tg tk [(3, i, 0)] | none => _) = cW2 b l (match kfi sN E.1 i with | some _ => cSe sN (E, S, k, r, b', l') tg tk [(3, i, 0)] | none => _)
  cases kfi sN E.1 i with
  | none => rfl
  | some p => exact cSe_w
theorem cXc_w : cXc sN K (cW2 b l (E, S, k, r, b', l')) i = cW2 b l (cXc sN K (E, S, k, r, b', l') i) := by
  unfold cXc
  by_cases c : r.2.2.2.1 = true
  · rw [if_pos (show (cW2 b l (E, S, k, r, b', l')).2.2.2.1.2.2.2.1 = true from c), if_pos (show (E, S, k, r, b', l').2.2.2.1.2.2.2.1 = true from c)]; rfl
  · rw [if_neg (show ¬ (cW2 b l (E, S, k, r, b', l')).2.2.2.1.2.2.2.1 = true from c), if_neg (show ¬ (E, S, k, r, b', l').2.2.2.1.2.2.2.1 = true from c)]; rfl
theorem cCl_w : cCl (cW2 b l (E, S, k, r, b', l')) i = cW2 b l (cCl (E, S, k, r, b', l') i) := by
  unfold cCl
  by_cases c0 : i = 0
  · rw [if_pos c0, if_pos c0]; rfl
  · rw [if_neg c0, if_neg c0]
    by_cases c1 : i = 1
    · rw [if_pos c1, if_pos c1]; rfl
    · rw [if_neg c1, if_neg c1]
      by_cases c2 : i = 2
      · rw [if_pos c2, if_pos c2]; rfl
      · rw [if_neg c2, if_neg c2]
theorem ite_w {p : Prop} [Decidable p] {a a' : gCd} {d d' : gCd} (h1 : p → a = cW2 b l a') (h2 : ¬ p → d = cW2 b l d') : (if p then a else d) = cW2 b l (if p then a' else d') := by
  by_cases c : p
  · rw [if_pos c, if_pos c]; exact h1 c
  · rw [if_neg c, if_neg c]; exact h2 c
theorem cdV_w : cdV sN K (cW2 b l (E, S, k, r, b', l')) v = cW2 b l (cdV sN K (E, S, k, r, b', l') v) := by
  unfold cdV
  refine ite_w (fun _ => rfl) (fun _ => ?_)
  refine ite_w (fun _ => ite_w (fun _ => rfl) (fun _ => rfl)) (fun _ => ?_)
  refine ite_w (fun _ => ite_w (fun _ => ?_) (fun _ => rfl)) (fun _ => ?_)
  · show (E, S, k, ([], r.2), b ++ b', (l ++ l') ++ [(r.2.2.1, r.1)]) = (E, S, k, ([], r.2), b ++ b', l ++ (l' ++ [(r.2.2.1, r.1)]))
    rw [List.append_assoc]
  refine ite_w (fun _ => rfl) (fun _ => ?_)
  refine ite_w (fun _ => cCl_w) (fun _ => ?_)
  refine ite_w (fun _ => rfl) (fun _ => ?_)
  refine ite_w (fun _ => rfl) (fun _ => ?_)
  refine ite_w (fun _ => rfl) (fun _ => ?_)
  refine ite_w (fun _ => cAl_w) (fun _ => ?_)
  refine ite_w (fun _ => cAl_w) (fun _ => ?_)
  refine ite_w (fun _ => cSe_w) (fun _ => ?_)
  refine ite_w (fun _ => rfl) (fun _ => ?_)
  refine ite_w (fun _ => cXc_w) (fun _ => ?_)
  refine ite_w (fun _ => rfl) (fun _ => ?_)
  refine ite_w (fun _ => rfl) (fun _ => ?_)
  refine ite_w (fun _ => rfl) (fun _ => ?_)
  refine ite_w (fun _ => rfl) (fun _ => ?_)
  refine ite_w (fun _ => rfl) (fun _ => ?_)
  refine ite_w (fun _ => rfl) (fun _ => ?_)
  refine ite_w (fun _ => rfl) (fun _ => ?_)
  refine ite_w (fun _ => rfl) (fun _ => ?_)
  refine ite_w (fun _ => rfl) (fun _ => ?_)
  refine ite_w (fun _ => ?_) (fun _ => ?_)
  · show (E0v, S, k, rg0, (b ++ b') ++ [(S.length, v.2.2)], l ++ l') = (E0v, S, k, rg0, b ++ (b' ++ [(S.length, v.2.2)]), l ++ l')
    rw [List.append_assoc]
  refine ite_w (fun _ => rfl) (fun _ => ?_)
  rfl
theorem cds_w : ∀ {L : gU} {c : gCd}, cds sN K L (cW2 b l c) = cW2 b l (cds sN K L c) := by
  intro L
  induction L with
  | nil => intro c; rfl
  | cons v L ih =>
    intro c
    rw [cds_cons, cds_cons]
    have e : cdV sN K (cW2 b l c) v = cW2 b l (cdV sN K c v) := cdV_w (E := c.1) (S := c.2.1) (k := c.2.2.1) (r := c.2.2.2.1) (b' := c.2.2.2.2.1) (l' := c.2.2.2.2.2)
    rw [e]
    exact ih
/-- a thread's steps behind others -/
def stT (sN : Nat → Nat → Bool) (K : Nat → Int32) (S : List gSt) (N : gU) : List gSt := (cds sN K N (E0v, S, [], rg0, [], [])).2.1
def stTs (sN : Nat → Nat → Bool) (K : Nat → Int32) (Ts : List gU) : List gSt := Ts.foldl (stT sN K) []
theorem stTs_up {Ts : List gU} {n : Nat} (h : Ts[n]? = some N) : stTs sN K (Ts.take (n + 1)) = stT sN K (stTs sN K (Ts.take n)) N := by
  unfold stTs
  rw [List.take_succ, h, List.foldl_append]
  rfl
/-- a thread's block, well read -/
def okT (sN : Nat → Nat → Bool) (K : Nat → Int32) (S : List gSt) (N : gU) : Prop := ∃ E', E'.2.1 = [] ∧ cds sN K N (E0v, S, [], rg0, [], []) = (E', stT sN K S N, [], rg0, [], [])
theorem okT_w (h : okT sN K S N) : ∃ E', E'.2.1 = [] ∧ cds sN K N (E0v, S, [], rg0, b, l) = (E', stT sN K S N, [], rg0, b, l) := by
  obtain ⟨E', h1, h2⟩ := h
  refine ⟨E', h1, ?_⟩
  have e : (E0v, S, ([] : List Nat), rg0, b, l) = cW2 b l (E0v, S, [], rg0, [], []) := by
    show _ = (E0v, S, [], rg0, b ++ [], l ++ [])
    rw [List.append_nil, List.append_nil]
  rw [e, cds_w, h2]
  show (E', stT sN K S N, [], rg0, b ++ [], l ++ []) = _
  rw [List.append_nil, List.append_nil]
/-- events of definitions that add no code -/
theorem cdV_no {c : gCd} (h : v.1 = 31 ∨ v.1 = 32 ∨ v.1 = 33 ∨ 80 ≤ v.1) : cdV sN K c v = c := by
  unfold cdV
  iterate 24 rw [if_neg (by omega)]
theorem cds_no {c : gCd} : ∀ {L : gU}, (∀ v ∈ L, v.1 = 31 ∨ v.1 = 32 ∨ v.1 = 33 ∨ 80 ≤ v.1) → cds sN K L c = c := by
  intro L
  induction L with
  | nil => intro _; rfl
  | cons v L ih =>
    intro h
    rw [cds_cons, cdV_no (h v List.mem_cons_self)]
    exact ih (fun w hw => h w (List.mem_cons_of_mem _ hw))
/-- the text's chunks -/
def chk (M : gU) : Prop := ∃ v N, M = v :: N ∧ (((v.1 = 31 ∨ v.1 = 32 ∨ v.1 = 33) ∧ ∀ w ∈ N, 80 ≤ w.1) ∨ v.1 = 34 ∨ ((v.1 = 35 ∨ v.1 = 36) ∧ ∃ N', sEv true N' ∧ N = N' ++ [(54, 0, 0)]))
def bN2 (u : Nat) : gU → Option gU
  | [] => none
  | v :: M => if v.1 = u then some M else none
def clE : gU → Option (Nat × gU)
  | [] => none
  | v :: M => if v.1 = 35 ∨ v.1 = 36 then some (v.1, M.dropLast) else none
theorem cds_flat : ∀ {Ds : List gU}, (∀ M ∈ Ds, chk M) → (∀ i N, (Ds.filterMap (bN2 34))[i]? = some N → okT sN K (stTs sN K ((Ds.filterMap (bN2 34)).take i)) N) → ∃ E r, E.2.1 = [] ∧ r.1 = [] ∧ cds sN K Ds.flatten cd0 = (E, stTs sN K (Ds.filterMap (bN2 34)), [], r, (cds sN K Ds.flatten cd0).2.2.2.2.1, Ds.filterMap clE) ∧ ((cds sN K Ds.flatten cd0).2.2.2.2.1.length = (Ds.filterMap (bN2 34)).length ∧ ∀ (t : Nat) (q : Nat × Nat), (cds sN K Ds.flatten cd0).2.2.2.2.1[t]? = some q → q.1 = (stTs sN K ((Ds.filterMap (bN2 34)).take t)).length ∧ (Ds.filterMap (fun M => M.head?.bind idE))[t]? = some q.2) := by
  intro Ds
  induction Ds using snoc_ind with
  | h0 => intro _ _; exact ⟨E0v, rg0, rfl, rfl, rfl, rfl, fun t q h => absurd h (by simp [cds])⟩
  | hs Ds M ih =>
    intro hM hT
    have hpre : ∀ i N, (Ds.filterMap (bN2 34))[i]? = some N → okT sN K (stTs sN K ((Ds.filterMap (bN2 34)).take i)) N := fun i N h => by
      have hi := List.getElem?_eq_some_iff.mp h
      obtain ⟨hi, -⟩ := hi
      have := hT i N (by rw [List.filterMap_append, List.getElem?_append_left hi]; exact h)
      rw [List.filterMap_append, List.take_append_of_le_length (by omega)] at this
      exact this
    obtain ⟨E, r, hE, hr, e, hl, hq⟩ := ih (fun M' h => hM M' (List.mem_append_left _ h)) hpre
    obtain ⟨v, N, eM, hv⟩ := hM M (List.mem_append_right _ (List.mem_singleton.mpr rfl))
    have ef : (Ds ++ [M]).flatten = Ds.flatten ++ M := by rw [List.flatten_append]; simp
    rw [ef, cds_app, e]
    obtain ⟨bg, ebg⟩ : ∃ bg, bg = (cds sN K Ds.flatten cd0).2.2.2.2.1 := ⟨_, rfl⟩
    rw [← ebg] at hl hq ⊢
    rcases hv with ⟨h1, h2⟩ | h1 | ⟨h1, N', h2, h3⟩
    · have n34 : bN2 34 M = none := by rw [eM]; exact if_neg (by omega)
      have ncl : clE M = none := by rw [eM]; exact if_neg (by omega)
      have nid : M.head?.bind idE = none := by rw [eM]; exact if_neg (by omega)
      have ec : cds sN K M (E, stTs sN K (Ds.filterMap (bN2 34)), [], r, bg, Ds.filterMap clE) = (E, stTs sN K (Ds.filterMap (bN2 34)), [], r, bg, Ds.filterMap clE) := cds_no (fun w hw => by
        rw [eM] at hw
        rcases List.mem_cons.mp hw with hw | hw
        · rw [hw]; omega
        · have := h2 w hw; omega)
      refine ⟨E, r, hE, hr, ?_, ?_⟩
      · rw [ec, List.filterMap_append, List.filterMap_append]
        simp [n34, ncl]
      · rw [ec, List.filterMap_append, List.filterMap_append]
        simp only [List.filterMap_cons, n34, nid, List.filterMap_nil, List.append_nil]
        exact ⟨hl, hq⟩
    · have n34 : bN2 34 M = some N := by rw [eM]; exact if_pos h1
      have ncl : clE M = none := by rw [eM]; exact if_neg (by omega)
      have nid : M.head?.bind idE = some v.2.2 := by rw [eM]; exact if_pos h1
      have hN := hT (Ds.filterMap (bN2 34)).length N (by rw [List.filterMap_append, List.getElem?_append_right (Nat.le_refl _), Nat.sub_self]; simp [n34])
      rw [List.filterMap_append, List.take_left] at hN
      obtain ⟨E', e1, e2⟩ := okT_w (b := bg ++ [((stTs sN K (Ds.filterMap (bN2 34))).length, v.2.2)]) (l := Ds.filterMap clE) hN
      have ec : cds sN K M (E, stTs sN K (Ds.filterMap (bN2 34)), [], r, bg, Ds.filterMap clE) = (E', stT sN K (stTs sN K (Ds.filterMap (bN2 34))) N, [], rg0, bg ++ [((stTs sN K (Ds.filterMap (bN2 34))).length, v.2.2)], Ds.filterMap clE) := by
        rw [eM, cds_cons, ← e2]
        congr 1
        obtain ⟨v1, v2, v3⟩ := v
        have h1 : v1 = 34 := h1
        subst h1
        rfl
      have es : stTs sN K ((Ds ++ [M]).filterMap (bN2 34)) = stT sN K (stTs sN K (Ds.filterMap (bN2 34))) N := by
        rw [List.filterMap_append]
        unfold stTs
        rw [List.foldl_append]
        simp [n34]
      refine ⟨E', rg0, e1, rfl, ?_, ?_⟩
      · rw [ec, es, List.filterMap_append]
        simp [ncl]
      · rw [ec]
        show (bg ++ [((stTs sN K (Ds.filterMap (bN2 34))).length, v.2.2)]).length = _ ∧ ∀ t q, (bg ++ [((stTs sN K (Ds.filterMap (bN2 34))).length, v.2.2)])[t]? = some q → _
        have hidl : (Ds.filterMap (fun M => M.head?.bind idE)).length = bg.length := by
          rw [hl]
          clear hq hl hN ih e hpre hT ec e2 ebg ef es
          induction Ds with
          | nil => rfl
          | cons D Ds ihd =>
            have hD := hM D (List.mem_append_left _ List.mem_cons_self)
            obtain ⟨u, U, eU, _⟩ := hD
            have ihd := ihd (fun M' h' => by
              rcases List.mem_append.mp h' with h' | h'
              · exact hM M' (List.mem_append_left _ (List.mem_cons_of_mem _ h'))
              · exact hM M' (List.mem_append_right _ h'))
            rw [List.filterMap_cons, List.filterMap_cons, eU]
            by_cases c : u.1 = 34
            · rw [show bN2 34 (u :: U) = some U from if_pos c, show (u :: U).head?.bind idE = some u.2.2 from if_pos c]
              show _ + 1 = _ + 1
              rw [ihd]
            · rw [show bN2 34 (u :: U) = none from if_neg c, show (u :: U).head?.bind idE = none from if_neg c]
              exact ihd
        refine ⟨?_, fun t q ht => ?_⟩
        · rw [List.length_append, List.filterMap_append, List.length_append, hl]
          simp [n34]
        · rw [List.filterMap_append, List.filterMap_append]
          by_cases c : t < bg.length
          · rw [List.getElem?_append_left c] at ht
            have a := hq t q ht
            rw [List.take_append_of_le_length (by omega), List.getElem?_append_left (by omega)]
            exact a
          · have hlt := List.getElem?_eq_some_iff.mp ht
            obtain ⟨hlt, -⟩ := hlt
            rw [List.length_append] at hlt
            have hlt : t < bg.length + 1 := hlt
            have et : t = bg.length := by omega
            rw [et, List.getElem?_append_right (Nat.le_refl _), Nat.sub_self] at ht
            have eq : ((stTs sN K (Ds.filterMap (bN2 34))).length, v.2.2) = q := Option.some.inj ht
            rw [← eq, et]
            refine ⟨?_, ?_⟩
            · rw [hl, List.take_left]
            · rw [← hidl, List.getElem?_append_right (Nat.le_refl _), Nat.sub_self]
              simp [nid]
    · have n34 : bN2 34 M = none := by rw [eM]; exact if_neg (by omega)
      have ncl : clE M = some (v.1, N') := by
        rw [eM, h3]
        show (if v.1 = 35 ∨ v.1 = 36 then some (v.1, (N' ++ [(54, 0, 0)]).dropLast) else none) = _
        rw [if_pos h1, List.dropLast_concat]
      have nid : M.head?.bind idE = none := by rw [eM]; exact if_neg (by omega)
      obtain ⟨cu, r2⟩ := r
      have hr : cu = [] := hr
      subst hr
      obtain ⟨su, pl, r3⟩ := r2
      have ec : cds sN K M (E, stTs sN K (Ds.filterMap (bN2 34)), [], ([], su, pl, r3), bg, Ds.filterMap clE) = (E, stTs sN K (Ds.filterMap (bN2 34)), [], ([], su, v.1, r3), bg, Ds.filterMap clE ++ [(v.1, N')]) := by
        have e0 : cdV sN K (E, stTs sN K (Ds.filterMap (bN2 34)), [], ([], su, pl, r3), bg, Ds.filterMap clE) v = (E, stTs sN K (Ds.filterMap (bN2 34)), [], ([], su, v.1, r3), bg, Ds.filterMap clE) := by
          obtain ⟨v1, v2, v3⟩ := v
          rcases h1 with h1 | h1
          · have h1 : v1 = 35 := h1
            subst h1; rfl
          · have h1 : v1 = 36 := h1
            subst h1; rfl
        rw [eM, cds_cons, e0, h3, cds_app, cds_sum (r := ([], su, v.1, r3)) h2 (fun _ => hE), cds_one]
        show cdV sN K (E, _, [], ([] ++ N', su, v.1, r3), bg, _) (54, 0, 0) = _
        rw [List.nil_append]
        unfold cdV
        rw [if_neg (by decide), if_neg (by decide), if_pos rfl, if_pos hE]
      refine ⟨E, ([], su, v.1, r3), hE, rfl, ?_, ?_⟩
      · rw [ec, List.filterMap_append, List.filterMap_append]
        simp [n34, ncl]
      · rw [ec, List.filterMap_append, List.filterMap_append]
        simp only [List.filterMap_cons, n34, nid, List.filterMap_nil, List.append_nil]
        exact ⟨hl, hq⟩
end CWS
