section SPX
variable {G : mG} {d : Nat} {x : gd} {F : Int32 → gd → Prop} {Fv : gd → Prop}
theorem LB_v (lb : LB x) {r : Int32} (h : 0 ≤ r.toInt ∧ r.toInt < (x.1 0 28).toInt) : vp_in r 40 := by
  have hv := vp_in_iff.mp (GB_v lb.2.1)
  rw [vp_in_iff]; omega
theorem LB_t (lb : LB x) {r : Int32} (h : 0 ≤ r.toInt ∧ r.toInt < (x.1 0 28).toInt) : tE x r.toNatClampNeg := lb.2.2 _ (by rw [t_cl]; omega)
/-- a cell's name: -1, or what is told of it -/
theorem sp_cellOf (t w : Int32) (ht : vp_in t 710) (lb : LB x) (wb : WB x) (h : ∀ (r : Int32) (x' : gd), md [41, 42] [] x x' → WB x' → (r = -1 ∨ ((0 ≤ r.toInt ∧ r.toInt < (x.1 0 28).toInt) ∧ x.1 31 r.toNatClampNeg = 0 ∧ x.1 34 r.toNatClampNeg = w)) → F r x') : MT G (d + 2) z_cellOf 0 [(0, vr 0), (1, vi t), (2, vi w)] [] x (ri F) := by
  have p22 : MT G (d + 2) z_cellOf 22 [(0, vr 0), (1, vi t)] [] x (ri F) := sg_cellOf_22 _ (sp_wrongAt _ _ (by decide) ht lb.1 wb (fun x' m w' => ri_i (h _ x' m w' (Or.inl rfl))))
  refine sg_cellOf_0 _ _ (sp_meant _ _ ht lb (fun r hr => ⟨fun _ => p22, fun c => ?_⟩))
  obtain ⟨h1, h2⟩ := hr.resolve_left c
  exact ⟨LB_v lb h1, fun e => ri_i (h _ x (md_w (md_rf x) (by decide) (by decide)) wb (Or.inr ⟨h1, h2, e⟩)), fun _ => p22⟩
theorem sp_numberOf (t w : Int32) (ht : vp_in t 710) (lb : LB x) (wb : WB x) (h : ∀ (r : Int32) (x' : gd), md [41, 42] [] x x' → WB x' → (r = 0 ∨ ∃ k : Int32, (0 ≤ k.toInt ∧ k.toInt < (x.1 0 28).toInt) ∧ x.1 31 k.toNatClampNeg = w ∧ r = x.1 32 k.toNatClampNeg) → F r x') : MT G (d + 2) z_numberOf 0 [(0, vr 0), (1, vi t), (2, vi w)] [] x (ri F) := by
  refine sg_numberOf_0 _ _ (sp_meant _ _ ht lb (fun r hr => ⟨fun c => ?_, fun _ => sp_wrongAt _ _ (by decide) ht lb.1 wb (fun x' m w' => ri_i (h _ x' m w' (Or.inl rfl)))⟩))
  obtain ⟨h1, h2⟩ := hr.resolve_left c
  exact ⟨LB_v lb h1, ri_i (h _ x (md_w (md_rf x) (by decide) (by decide)) wb (Or.inr ⟨r, h1, h2, rfl⟩))⟩
theorem sp_isCellName (t : Int32) (ht : vp_in t 710) (lb : LB x) (h : ∀ r : Int32, F r x) : MT G (d + 2) z_isCellName 0 [(0, vr 0), (1, vi t)] [] x (ri F) :=
  sg_isCellName_0 _ (sp_meant _ _ ht lb (fun _ hr => ⟨fun _ => ri_i (h _), fun c => ⟨LB_v lb (hr.resolve_left c).1, fun _ => ri_i (h _), fun _ => ri_i (h _)⟩⟩))
end SPX
