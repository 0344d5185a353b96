/-! a trying: each state comes from an earlier one by a choice; the way to it -/
def TW (C : gCo) (w : Nat) (T : gTy) : Prop := ∀ s p, T.1[s]? = some p → (s = 0 → p.1 = fsM C) ∧ (0 < s → p.2.1 < s ∧ ∃ p' ch, T.1[p.2.1]? = some p' ∧ (chM C w p'.1)[p.2.2]? = some ch ∧ p.1 = doM C w p'.1 ch)
/-- the choices that lead to a state -/
def pthF (T : gTy) : Nat → Nat → List Nat
  | 0, _ => []
  | _ + 1, 0 => []
  | f + 1, s + 1 => match T.1[s + 1]? with
    | none => []
    | some p => pthF T f p.2.1 ++ [p.2.2]
def pth (T : gTy) (s : Nat) : List Nat := pthF T s s
section PTW
variable {C : gCo} {M : gMa} {T T' : gTy} {w lim s i n m k f : Nat} {p : gMa × Nat × Nat}
theorem TW_ad (h : TW C w T) (hp : T.1[k]? = some p) {ch : gCh} (hc : (chM C w p.1)[i]? = some ch) : TW C w (adS lim k i T (doM C w p.1 ch)) := by
  by_cases c : ∃ q ∈ T.1, q.1 = doM C w p.1 ch
  · rw [adS_old c]; exact h
  · by_cases c2 : lim ≤ T.1.length
    · rw [adS_full c c2]; exact h
    · rw [adS_new c c2]
      have hk := gt_lt hp
      intro s r hr
      have hr : (T.1 ++ [(doM C w p.1 ch, k, i)])[s]? = some r := hr
      show _ ∧ (0 < s → r.2.1 < s ∧ ∃ p' ch', (T.1 ++ [(doM C w p.1 ch, k, i)])[r.2.1]? = some p' ∧ _)
      by_cases cs : s < T.1.length
      · rw [List.getElem?_append_left cs] at hr
        obtain ⟨h1, h2⟩ := h s r hr
        refine ⟨h1, fun s0 => ?_⟩
        obtain ⟨h3, p', ch', h4, h5⟩ := h2 s0
        exact ⟨h3, p', ch', by rw [List.getElem?_append_left (by omega)]; exact h4, h5⟩
      · have hl := gt_lt hr
        rw [List.length_append, List.length_singleton] at hl
        have es : s = T.1.length := by omega
        rw [es, List.getElem?_append_right (Nat.le_refl _), Nat.sub_self] at hr
        have hr : (doM C w p.1 ch, k, i) = r := Option.some.inj hr
        rw [← hr, es]
        refine ⟨fun z => by omega, fun _ => ⟨hk, p, ch, ?_, hc, rfl⟩⟩
        show (T.1 ++ _)[k]? = _
        rw [List.getElem?_append_left hk]; exact hp
theorem TW_on (h : TW C w T) (hp : T.1[k]? = some p) : ∀ n, n ≤ (chM C w p.1).length → TW C w (onS C w lim k p.1 n T) := by
  intro n
  induction n with
  | zero => intro _; exact h
  | succ n ih =>
    intro hn
    by_cases c : (onS C w lim k p.1 n T).2 = true
    · rw [onS, if_pos c]; exact ih (by omega)
    · have hch := List.getElem?_eq_getElem (show n < (chM C w p.1).length by omega)
      rw [onS_go c hch]
      exact TW_ad (ih (by omega)) (by rw [(onS_pre (gt_lt hp) k n).1]; exact hp) hch
theorem TW_bf : ∀ f s (T : gTy), TW C w T → TW C w (bfS C w lim f s T) := by
  intro f
  induction f with
  | zero => intro s T h; exact h
  | succ f ih =>
    intro s T h
    cases hs : T.1[s]? with
    | none => rw [bfS_end hs]; exact h
    | some p => rw [bfS_go hs]; exact ih _ _ (TW_on h hs _ (Nat.le_refl _))
theorem TW_try : TW C w (tryM C w lim) := TW_bf _ _ _ (fun s p hp => by
  cases s with
  | zero =>
    have hp : (fsM C, 0, 0) = p := Option.some.inj hp
    rw [← hp]
    exact ⟨fun _ => rfl, fun z => absurd z (Nat.lt_irrefl _)⟩
  | succ s => exact nomatch hp)
theorem pthF_eq (h : TW C w T) : ∀ f g s, s ≤ f → s ≤ g → pthF T f s = pthF T g s := by
  intro f
  induction f with
  | zero =>
    intro g s h1 h2
    rw [show s = 0 by omega]
    cases g <;> rfl
  | succ f ih =>
    intro g s h1 h2
    cases s with
    | zero => cases g <;> rfl
    | succ s =>
      cases g with
      | zero => omega
      | succ g =>
        rw [pthF, pthF]
        cases hs : T.1[s + 1]? with
        | none => rfl
        | some p =>
          have := ((h (s + 1) p hs).2 (by omega)).1
          show pthF T f p.2.1 ++ _ = pthF T g p.2.1 ++ _
          rw [ih g p.2.1 (by omega) (by omega)]
theorem pth_0 : pth T 0 = [] := rfl
theorem pth_s (h : TW C w T) (hs : 0 < s) (hp : T.1[s]? = some p) : pth T s = pth T p.2.1 ++ [p.2.2] := by
  have hl := ((h s p hp).2 hs).1
  obtain ⟨r, rfl⟩ : ∃ r, s = r + 1 := ⟨s - 1, by omega⟩
  unfold pth
  rw [pthF, hp]
  show pthF T r p.2.1 ++ _ = _
  rw [pthF_eq h r p.2.1 p.2.1 (by omega) (Nat.le_refl _)]
/-- the choices lead to it -/
theorem pth_run (h : TW C w T) : ∀ n s p, s ≤ n → T.1[s]? = some p → ∀ c : Nat → Nat, (∀ k v, (pth T s)[k]? = some v → c k = v) → runM C w c (pth T s).length = p.1 ∧ ∀ k, k < (pth T s).length → c k < (chM C w (runM C w c k)).length := by
  intro n
  induction n with
  | zero =>
    intro s p hs hp c hc
    have e : s = 0 := by omega
    rw [e] at hp ⊢
    exact ⟨((h 0 p hp).1 rfl).symm, fun k hk => absurd hk (Nat.not_lt_zero _)⟩
  | succ n ih =>
    intro s p hs hp c hc
    by_cases s0 : s = 0
    · rw [s0] at hp ⊢
      exact ⟨((h 0 p hp).1 rfl).symm, fun k hk => absurd hk (Nat.not_lt_zero _)⟩
    · obtain ⟨hl, p', ch, h1, h2, h3⟩ := (h s p hp).2 (by omega)
      have e := pth_s h (by omega) hp
      rw [e] at hc ⊢
      have cl : c (pth T p.2.1).length = p.2.2 := hc _ _ (by rw [List.getElem?_append_right (Nat.le_refl _), Nat.sub_self]; rfl)
      obtain ⟨i1, i2⟩ := ih p.2.1 p' (by omega) h1 c (fun k v hk => hc k v (by rw [List.getElem?_append_left (gt_lt hk)]; exact hk))
      rw [List.length_append, List.length_singleton]
      have hch : (chM C w (runM C w c (pth T p.2.1).length))[c (pth T p.2.1).length]? = some ch := by rw [i1, cl]; exact h2
      refine ⟨by rw [runM_s hch, i1, h3], fun k hk => ?_⟩
      by_cases e9 : k = (pth T p.2.1).length
      · rw [e9]; exact gt_lt hch
      · exact i2 k (by omega)
end PTW
section KPTH
variable {x : gd} {C : gCo} {T : gTy} {w nl o s : Nat} {p : gMa × Nat × Nat}
/-- how far a state is -/
theorem KX3_d (h : TW C w T) (g : KX3 C nl w x o T) : ∀ n s p, s ≤ n → T.1[s]? = some p → (x.1 (o + 12) s).toInt = ((pth T s).length : Nat) := by
  intro n
  induction n with
  | zero =>
    intro s p hs hp
    have e : s = 0 := by omega
    rw [e] at hp ⊢
    exact (g.2.2.2 0 p hp).1 rfl
  | succ n ih =>
    intro s p hs hp
    by_cases s0 : s = 0
    · rw [s0] at hp ⊢
      exact (g.2.2.2 0 p hp).1 rfl
    · obtain ⟨a1, a2, a3, a4⟩ := (g.2.2.2 s p hp).2 (by omega)
      obtain ⟨hl, p', ch, h1, h2, h3⟩ := (h s p hp).2 (by omega)
      rw [a4, ih p.2.1 p' (by omega) h1, pth_s h (by omega) hp, List.length_append, List.length_singleton]
      rfl
end KPTH
