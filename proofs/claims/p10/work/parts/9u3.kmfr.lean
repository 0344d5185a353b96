/-! the class: what other calls leave of a run, of a trying -/
section KFR
variable {x y : gd} {q : kP} {o : Nat} {C : gCo} {T : gTy} {w n : Nat} {c : Nat → Nat}
theorem KRun_f (hK : CK x C) (hc : agC x y) (f : ∀ c k, 120 ≤ c → c < 180 → y.1 c k = x.1 c k) (r : KRun C w n c x) : KRun C w n c y := by
  obtain ⟨r1, ⟨r2, r3, r4⟩, ⟨r5, r6⟩, r7, r8⟩ := r
  refine ⟨RUN_o hc f r1, ⟨KMm_ag (Or.inl rfl) r1.1 hK (hc 60 6 (by omega)) (hc 60 9 (by omega)) (hc 60 13 (by omega)) (fun k hk => f _ _ (by omega) (by omega)) (fun k => f _ _ (by omega) (by omega)) r2, r3, kchL_ag (f _ _ (by omega) (by omega)) (fun c k h => f _ _ (by omega) (by omega)) r4⟩, ⟨r5, by rw [f _ _ (by omega) (by omega)]; exact r6⟩, by rw [f _ _ (by omega) (by omega)]; exact r7, fun k hk => by rw [f 162 k (by omega) (by omega)]; exact r8 k hk⟩
/-- a trying leaves the run -/
theorem KRun_at (hO : o = 260 ∨ o = 280) (hK : CK x C) (f : fm (sAt o) x y) (r : KRun C w n c x) : KRun C w n c y := KRun_f hK (fun c k hc => f c k (by unfold sAt; omega)) (fun c k h1 h2 => f c k (by unfold sAt; omega)) r
/-- a run leaves the tryings -/
theorem TR3_rn (hO : o = 260 ∨ o = 280) (f : fm sRn x y) (h : TR3 C w x o T) : TR3 C w y o T := TR3_f (f _ _ (by unfold sRn; omega)) (f _ _ (by unfold sRn; omega)) (fun c k hc => f _ _ (by unfold sRn; omega)) h
/-- one way's trying leaves the other's -/
theorem TR3_at {p : Nat} (hO : o = 260 ∨ o = 280) (hp : p = 260 ∨ p = 280) (ne : ¬ o = p) (f : fm (sAt p) x y) (h : TR3 C w x o T) : TR3 C w y o T := TR3_f (f _ _ (by unfold sAt; omega)) (f _ _ (by unfold sAt; omega)) (fun c k hc => f _ _ (by unfold sAt; omega)) h
end KFR
