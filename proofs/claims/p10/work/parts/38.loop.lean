/-- the definitions one behind the other -/
def mQ (x x' : gd) : Prop := md [8, 9, 10, 13, 20, 21, 23, 24, 25, 26, 27, 28] [15, 16, 17, 18, 19, 20, 30, 31, 32, 33, 34, 35, 36, 37, 38, 39, 40, 41] x x'
theorem sp_defs {G : mG} {D : Nat} {x : gd} {P : Option gv → gd → Prop} (hD : 87 ≤ D) (pn : PN x) (pg : (x.1 0 9).toInt = 0 → PG x) (next : ∀ z, mQ x z → PN z → ((z.1 0 9).toInt = 0 → PG z) → MT G D z_compile 69 [(0, vr 0)] [] z P) : MT G D z_compile 48 [(0, vr 0)] [] x P := by
  obtain ⟨D, rfl⟩ : ∃ m, D = m + 87 := ⟨D - 87, by omega⟩
  have loop : ∀ (n : Nat) (z : gd), mQ x z → PN z → ((z.1 0 9).toInt = 0 → PG z) → ((z.1 0 9).toInt = 0 → 700 - (z.1 0 8).toInt < n) → MT G (D + 87) z_compile 48 [(0, vr 0)] [] z P := by
    intro n
    induction n with
    | zero =>
      intro z mz pz gz hn
      refine sg_compile_48 ⟨fun _ => next z mz pz gz, fun c => ?_⟩
      have bz : (z.1 0 9).toInt = 0 := by rw [c]; rfl
      have := hn bz
      have := pz.2.1
      omega
    | succ n ih =>
      intro z mz pz gz hn
      refine sg_compile_48 ⟨fun _ => next z mz pz gz, fun c => sp_here pz (fun r _ _ => ⟨fun _ => next z mz pz gz, fun _ => ?_⟩)⟩
      have bz : (z.1 0 9).toInt = 0 := by rw [c]; rfl
      refine sp_readDef (by omega) pz (gz bz) bz (fun y hy => ih y (md_tr mz hy.1 rfl rfl) hy.2.1 (fun q => (hy.2.2 q).1) (fun q => ?_))
      have := (hy.2.2 q).2
      have := hn bz
      omega
  exact loop 701 x (md_w (md_rf x) (by decide) (by decide)) pn pg (fun _ => by have := pn.1; omega)
