/-! the class: what stands behind = -/
section KSO2
variable {sN : Nat → Nat → Bool} {U : Nat → Int32} {n : Nat} {Ev : gV} {a b j : Nat} {u : Int32}
theorem HA_24 : HAw sN U n Ev (24, a, b) ↔ a < n ∧ (kfi sN Ev.1 a = none → U a = 6) := by unfold HAw; simp
theorem HA_25 : HAw sN U n Ev (25, a, b) ↔ a < n ∧ (kfi sN Ev.1 a = none → U a = 6) := by unfold HAw; simp
theorem HA_26 : HAw sN U n Ev (26, a, b) ↔ (kfi sN Ev.1 a = none → ∃ j, j < n ∧ (U j = 9 ∨ U j = 10)) := by unfold HAw; simp
theorem HA_27 : HAw sN U n Ev (27, a, b) ↔ (b < n ∧ (kfi sN Ev.1 b = none → (kfi sN Ev.1 a = none → U b = 8) ∧ (¬ kfi sN Ev.1 a = none → U b = 6))) ∧ a < n ∧ (kfi sN Ev.1 a = none → U a = 6) := by unfold HAw; simp
theorem HB_6 : HB sN Ev (6, a, b) a 6 := by unfold HB; simp
theorem HB_7 : HB sN Ev (7, a, b) a 7 := by unfold HB; simp
theorem HB_24 (h : kfi sN Ev.1 a = none) : HB sN Ev (24, a, b) a 6 := by unfold HB; simp [h]
theorem HB_25 (h : kfi sN Ev.1 a = none) : HB sN Ev (25, a, b) a 6 := by unfold HB; simp [h]
theorem HB_26 (h : kfi sN Ev.1 a = none) (hu : u = 6 ∨ u = 9 ∨ u = 10) : HB sN Ev (26, a, b) j u := by unfold HB; simp [h, hu]
theorem HB_27a (h : kfi sN Ev.1 b = none) (g : kfi sN Ev.1 a = none) : HB sN Ev (27, a, b) j 8 := by unfold HB; simp [h, g]
theorem HB_27b (h : kfi sN Ev.1 b = none) (g : ¬ kfi sN Ev.1 a = none) : HB sN Ev (27, a, b) b 6 := Or.inr (Or.inr (Or.inr (Or.inr (Or.inr (Or.inr (Or.inr (Or.inr (Or.inl ⟨rfl, rfl, rfl, h, g⟩))))))))
theorem HB_27c (g : kfi sN Ev.1 a = none) : HB sN Ev (27, a, b) a 6 := Or.inr (Or.inr (Or.inr (Or.inr (Or.inr (Or.inr (Or.inr (Or.inr (Or.inr (Or.inl ⟨rfl, rfl, rfl, g⟩)))))))))
theorem pme_still {t : Option Nat} : still (pme t) := by
  cases t with
  | none => exact still_nil
  | some t => exact stl_k (by decide)
theorem pma_still {t : Option Nat} : still (pma t) := by
  cases t with
  | none => exact still_nil
  | some t => exact stl_k (by decide)
theorem pal_still {t : Option Nat} {i : Nat} : still [pal t i] := by
  cases t with
  | none => exact stl_k (by decide)
  | some t => exact stl_k (by decide)
theorem pme_6 {t : Option Nat} {M : gU} : ∀ t0, t = some t0 → kfi sN Ev.1 t0 = none → HBs sN (pme t ++ M) Ev t0 6 := fun t0 e h => by
  rw [e]
  exact HBs_app.mpr (Or.inl (HBs_one.mpr (HB_26 h (Or.inl rfl))))
theorem pma_6 {t : Option Nat} {M : gU} : ∀ t0, t = some t0 → kfi sN Ev.1 t0 = none → HBs sN (pma t ++ M) Ev t0 6 := fun t0 e h => by
  rw [e]
  exact HBs_app.mpr (Or.inl (HBs_one.mpr (HB_25 h)))
theorem pal_6 {t : Option Nat} {i : Nat} : ∀ t0, t = some t0 → kfi sN Ev.1 t0 = none → HBs sN [pal t i] Ev t0 6 := fun t0 e h => by
  rw [e]
  exact HBs_one.mpr (HB_27c h)
end KSO2
/-- where it goes: a local, or a cell by its name -/
def TGT (sN : Nat → Nat → Bool) (Ev : gV) (x : gd) (t : Option Nat) (a : Int32) : Prop := (t = none ∧ ¬ a = -1) ∨ ∃ t0, t = some t0 ∧ t0 < nn x ∧ ((a = -1 ∧ kfi sN Ev.1 t0 = none ∧ x.1 42 t0 = 6) ∨ (¬ a = -1 ∧ ¬ kfi sN Ev.1 t0 = none))
section KSO3
variable {G : kG} {q : kP} {d : Nat} {x x0 y z xs : gd} {F : Int32 → gd → Prop} {Fv : gd → Prop} {X : String → gd → Prop} {P : Option gv → gd → Prop} {M : Int} {E : Nat → Prop} {K V : Nat → Int32} {sN : Nat → Nat → Bool} {e : Nat} {Ev : gV} {L : gU} {f : Nat} {t : Option Nat} {a : Int32}
theorem TGT_me (h : TGT sN Ev x t a) {U : Nat → Int32} {n : Nat} (h2 : a = -1 → ∃ j, j < n ∧ (U j = 9 ∨ U j = 10)) : HAs sN U n (pme t) Ev := by
  rcases h with ⟨e, -⟩ | ⟨t0, e, -, h⟩
  · rw [e]; exact trivial
  · rw [e]
    refine HAs_one.mpr (HA_26.mpr (fun hk => ?_))
    rcases h with ⟨ea, -⟩ | ⟨-, ek⟩
    · exact h2 ea
    · exact absurd hk ek
theorem TGT_meB (h : TGT sN Ev x t a) (ha : a = -1) {j : Nat} {u : Int32} (hu : u = 6 ∨ u = 9 ∨ u = 10) : HBs sN (pme t) Ev j u := by
  rcases h with ⟨-, e⟩ | ⟨t0, e, -, h⟩
  · exact absurd ha e
  · rw [e]
    rcases h with ⟨-, ek, -⟩ | ⟨ea, -⟩
    · exact HBs_one.mpr (HB_26 ek hu)
    · exact absurd ha ea
theorem TGT_ma (h : TGT sN Ev x t a) (h0 : 0 ≤ nx x) (l : La x y) : HAs sN (y.1 42) (nn y) (pma t) Ev := by
  obtain ⟨n1, n2⟩ := La_nn h0 l
  rcases h with ⟨e, -⟩ | ⟨t0, e, h1, h⟩
  · rw [e]; exact trivial
  · rw [e]
    refine HAs_one.mpr (HA_25.mpr ⟨by omega, fun hk => ?_⟩)
    rcases h with ⟨-, -, e6⟩ | ⟨-, ek⟩
    · rw [n2 _ h1]; exact e6
    · exact absurd hk ek
/-- a name alone: a cell's (use u), or a local's (u = 0) -/
theorem TGT_al (h : TGT sN Ev x t a) (h0 : 0 ≤ nx x) (l : La x y) (en : nn y = nn x + 1) {u : Int32} (hu : y.1 42 (nn x) = u) (hc : (kfi sN Ev.1 (nn x) = none ∧ ((a = -1 ∧ u = 8) ∨ (¬ a = -1 ∧ u = 6))) ∨ (¬ kfi sN Ev.1 (nn x) = none ∧ u = 0)) : UR sN Ev x y [pal t (nn x)] := by
  obtain ⟨n1, n2⟩ := La_nn h0 l
  have one : ∀ j, nn x ≤ j → j < nn y → j = nn x := fun j h1 h2 => by omega
  rcases h with ⟨e, na⟩ | ⟨t0, e, h1, h⟩
  · rw [e]
    refine ⟨HAs_one.mpr (HA_24.mpr ⟨by omega, fun hk => ?_⟩), fun j j1 j2 j3 => HBs_one.mpr ?_⟩
    · rcases hc with ⟨-, ⟨ea, -⟩ | ⟨-, eu⟩⟩ | ⟨ek, -⟩
      · exact absurd ea na
      · rw [hu]; exact eu
      · exact absurd hk ek
    · rw [one j j1 j2, hu] at j3 ⊢
      rcases hc with ⟨ek, ⟨ea, -⟩ | ⟨-, eu⟩⟩ | ⟨-, eu⟩
      · exact absurd ea na
      · rw [eu]; exact HB_24 ek
      · exact absurd eu j3
  · rw [e]
    have kt : a = -1 ↔ kfi sN Ev.1 t0 = none := by
      rcases h with ⟨e1, e2, -⟩ | ⟨e1, e2⟩
      · exact ⟨fun _ => e2, fun _ => e1⟩
      · exact ⟨fun q => absurd q e1, fun q => absurd q e2⟩
    refine ⟨HAs_one.mpr (HA_27.mpr ⟨⟨by omega, fun hk => ⟨fun hk2 => ?_, fun hk2 => ?_⟩⟩, by omega, fun hk => ?_⟩), fun j j1 j2 j3 => HBs_one.mpr ?_⟩
    · rw [hu]
      rcases hc with ⟨-, ⟨-, eu⟩ | ⟨ea, -⟩⟩ | ⟨ek, -⟩
      · exact eu
      · exact absurd (kt.mpr hk2) ea
      · exact absurd hk ek
    · rw [hu]
      rcases hc with ⟨-, ⟨ea, -⟩ | ⟨-, eu⟩⟩ | ⟨ek, -⟩
      · exact absurd (kt.mp ea) hk2
      · exact eu
      · exact absurd hk ek
    · rcases h with ⟨-, -, e6⟩ | ⟨-, ek⟩
      · rw [n2 _ h1]; exact e6
      · exact absurd hk ek
    · rw [one j j1 j2, hu] at j3 ⊢
      rcases hc with ⟨ek, ⟨ea, eu⟩ | ⟨ea, eu⟩⟩ | ⟨-, eu⟩
      · rw [eu]; exact HB_27a ek (kt.mp ea)
      · rw [eu]; exact HB_27b ek (fun q => ea (kt.mpr q))
      · exact absurd eu j3
end KSO3
