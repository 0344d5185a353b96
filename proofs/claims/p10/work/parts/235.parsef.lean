/-! the reader's small steps, what they do: nwo: where the reader stands, none with a fault -/
def nwo (x : gd) : Option Nat := if (x.1 0 9).toInt = 0 then some (x.1 0 8).toNatClampNeg else none
theorem nwo_b {x : gd} (h : 0 < (x.1 0 9).toInt) : nwo x = none := if_neg (by omega)
theorem nwo_o {x : gd} (h : (x.1 0 9).toInt = 0) : nwo x = some (x.1 0 8).toNatClampNeg := if_pos h
theorem nwo_e {x x' : gd} (h8 : x'.1 0 8 = x.1 0 8) (h9 : x'.1 0 9 = x.1 0 9) : nwo x' = nwo x := by
  unfold nwo
  rw [h8, h9]
def ps1 (i : Nat) : Option Nat := if i < 700 then some (i + 1) else none
def psw (K : Nat → Int32) (w : Int32) (i : Nat) : Option Nat := if K i = w ∧ i < 700 then some (i + 1) else none
section SFC
variable {G : mG} {d : Nat} {x : gd} {F : Int32 → gd → Prop} {Fv : gd → Prop}
theorem sf_step (hp : PN x) (h : ∀ x', SS x x' → ((x'.1 0 9).toInt = 0 → (x'.1 0 8).toInt = (x.1 0 8).toInt + 1) → nwo x' = (nwo x).bind ps1 → Fv x') : MT G (d + 1) z_step 0 [(0, vr 0)] [] x (rv Fv) := by
  have k0 : (0 : Int32).toInt = 0 := rfl
  have k1 : (1 : Int32).toInt = 1 := rfl
  have k7 : (700 : Int32).toInt = 700 := rfl
  obtain ⟨p1, p2, p3, p4⟩ := id hp
  refine sg_step_0 ⟨fun c => ⟨fun c2 x3 e3 => rv_i ?_, fun c2 => sp_fault _ _ (by decide) (PN_v hp) hp (fun x' hs hb e8 _ => rv_i (h x' hs (fun q => by omega) ?_))⟩, fun c => rv_i (h x (SS_rf hp) (fun q => ?_) ?_)⟩
  · have m3 := md_f x 8 (x.1 0 8 + 1)
    rw [← e3] at m3
    rw [t_eq, k7] at c2
    have b8 : (x3.1 0 8).toInt = (x.1 0 8).toInt + 1 := by rw [e3, si_get, if_pos ⟨rfl, rfl⟩, t_add (by omega) (by omega), k1]
    have b9 : x3.1 0 9 = x.1 0 9 := m3.1 9 (by decide)
    rw [t_le, k0] at c
    have b0 : (x.1 0 9).toInt = 0 := by omega
    refine h x3 ⟨md_w m3 (by decide) (by decide), ⟨by omega, by omega, by rw [b9]; exact p3, TX_md m3 (by decide) (by decide) (by decide) (by decide) p4⟩, by omega, fun q => by omega, fun q => by rw [← b9]; exact q⟩ (fun _ => b8) ?_
    rw [nwo_o (by rw [b9]; exact b0), nwo_o b0, Option.bind_some, ps1, t_cl, t_cl, if_pos (by omega), b8]
    congr 1
    omega
  · rw [t_le, k0] at c
    rw [t_eq, k7] at c2
    rw [nwo_b hb, nwo_o (by omega), Option.bind_some, ps1, t_cl, if_neg (by omega)]
  · rw [t_le, k0] at c; omega
  · rw [t_le, k0] at c
    rw [nwo_b (by omega)]; rfl
theorem sf_pass (w : Int32) (hp : PN x) (h : ∀ x', SS x x' → ((x'.1 0 9).toInt = 0 → (x'.1 0 8).toInt = (x.1 0 8).toInt + 1) → nwo x' = (nwo x).bind (psw (x.1 5) w) → Fv x') : MT G (d + 2) z_pass 0 [(0, vr 0), (1, vi w)] [] x (rv Fv) := by
  have k0 : (0 : Int32).toInt = 0 := rfl
  have p3 := hp.2.2.1
  refine sg_pass_0 _ ⟨fun c => ⟨PN_v hp, fun c2 => sf_step hp (fun x' hs hb e => rv_i (h x' hs hb ?_)), fun c2 => sp_fault _ _ (by decide) (PN_v hp) hp (fun x' hs hb _ _ => rv_i (h x' hs (fun q => by omega) ?_))⟩, fun c => rv_i (h x (SS_rf hp) (fun q => ?_) ?_)⟩
  · rw [t_le, k0] at c
    rw [e, nwo_o (by omega), Option.bind_some, Option.bind_some, ps1, psw]
    by_cases q : (x.1 0 8).toNatClampNeg < 700
    · rw [if_pos q, if_pos ⟨c2, q⟩]
    · rw [if_neg q, if_neg (fun z => q z.2)]
  · rw [t_le, k0] at c
    rw [nwo_b hb, nwo_o (by omega), Option.bind_some, psw, if_neg (fun z => c2 z.1)]
  · rw [t_le, k0] at c; omega
  · rw [t_le, k0] at c
    rw [nwo_b (by omega)]; rfl
theorem sf_take (w : Int32) (hp : PN x) (h0 : (∀ i, nwo x = some i → ¬ x.1 5 i = w) → F 0 x) (h1 : ∀ x' i, nwo x = some i → x.1 5 i = w → (x.1 0 9).toInt = 0 → SS x x' → ((x'.1 0 9).toInt = 0 → (x'.1 0 8).toInt = (x.1 0 8).toInt + 1) → nwo x' = ps1 i → F 1 x') : MT G (d + 2) z_take 0 [(0, vr 0), (1, vi w)] [] x (ri F) := by
  have k0 : (0 : Int32).toInt = 0 := rfl
  have p3 := hp.2.2.1
  refine sg_take_0 _ ⟨fun c => ri_i (h0 (fun i e => ?_)), fun c => ⟨PN_v hp, fun c2 => sf_step hp (fun x' hs hb e => ri_i (h1 x' (x.1 0 8).toNatClampNeg ?_ c2 ?_ hs hb ?_)), fun c2 => ri_i (h0 (fun i e => ?_))⟩⟩
  · rw [t_lt, k0] at c
    rw [nwo_b c] at e
    exact absurd e (by simp)
  · rw [t_lt, k0] at c
    exact nwo_o (by omega)
  · rw [t_lt, k0] at c
    omega
  · rw [t_lt, k0] at c
    rw [e, nwo_o (by omega)]; rfl
  · rw [t_lt, k0] at c
    rw [nwo_o (by omega)] at e
    cases Option.some.inj e
    exact c2
theorem sf_passName (hp : PN x) (h : ∀ x', SS x x' → ((x'.1 0 9).toInt = 0 → (x'.1 0 8).toInt = (x.1 0 8).toInt + 1) → nwo x' = (nwo x).bind (psw (x.1 5) 1) → F (x.1 0 8) x') : MT G (d + 3) z_passName 0 [(0, vr 0)] [] x (ri F) :=
  sg_passName_0 (sf_pass _ hp (fun x' hs hb e => ri_i (h x' hs hb e)))
theorem sf_strength (k : Int32) (h : F (Int32.ofNat (pst k)) x) : MT G (d + 1) z_strength 0 [(0, vi k)] [] x (ri F) := by
  have key : ∀ (n : Nat) (v : Int32), pst k = n → Int32.ofNat n = v → F v x := fun n v e1 e2 => by rw [← e2, ← e1]; exact h
  refine sg_strength_0 _ ⟨fun c1 => ⟨fun c2 => sp_in _ _ _ ⟨fun c3 => ⟨fun c4 => ri_i (key 4 _ ?_ rfl), fun c4 => ⟨fun c5 => ⟨fun c6 => ri_i (key 5 _ ?_ rfl), fun c6 => ⟨fun c7 => ri_i (key 5 _ ?_ rfl), fun c7 => ⟨fun c8 => ri_i (key 0 _ ?_ rfl), fun c8 => ri_i (key 5 _ ?_ rfl)⟩⟩⟩, fun c5 => ri_i (key 4 _ ?_ rfl)⟩⟩, fun c3 => ri_i (key 3 _ ?_ rfl)⟩, fun c2 => ri_i (key 2 _ ?_ rfl)⟩, fun c1 => ri_i (key 1 _ ?_ rfl)⟩
  · rw [pst, if_neg c1, if_neg c2, if_neg (bi_eq.mp c3), if_pos (Or.inl c4)]
  · rw [pst, if_neg c1, if_neg c2, if_neg (bi_eq.mp c3), if_neg (fun q => q.elim c4 c5), if_pos (Or.inl c6)]
  · rw [pst, if_neg c1, if_neg c2, if_neg (bi_eq.mp c3), if_neg (fun q => q.elim c4 c5), if_pos (Or.inr (Or.inl c7))]
  · rw [pst, if_neg c1, if_neg c2, if_neg (bi_eq.mp c3), if_neg (fun q => q.elim c4 c5), if_neg (fun q => q.elim c6 (fun q => q.elim c7 c8))]
  · rw [pst, if_neg c1, if_neg c2, if_neg (bi_eq.mp c3), if_neg (fun q => q.elim c4 c5), if_pos (Or.inr (Or.inr c8))]
  · rw [pst, if_neg c1, if_neg c2, if_neg (bi_eq.mp c3), if_pos (Or.inr c5)]
  · rw [pst, if_neg c1, if_neg c2, if_pos (bi_ne.mp c3)]
  · rw [pst, if_neg c1, if_pos c2]
  · rw [pst, if_pos c1]
/-- whether a sum may begin here -/
def pbx (x : gd) (o : Int32) : Prop := ∃ i, nwo x = some i ∧ pbg (decide (¬ o = 0)) (x.1 5 i)
theorem sf_beginsE (o : Int32) (hp : PN x) (h1 : pbx x o → F 1 x) (h0 : ¬ pbx x o → F 0 x) : MT G (d + 1) z_beginsE 0 [(0, vr 0), (1, vi o)] [] x (ri F) := by
  have b0 := hp.2.2.1
  refine sg_beginsE_0 _ (sp_here hp (fun r r0 r1 => ?_))
  by_cases cb : (x.1 0 9).toInt = 0
  · have er := r1 cb
    have en := nwo_o cb
    have no : ¬ pbg (decide (¬ o = 0)) r → ¬ pbx x o := fun q ⟨i, e, z⟩ => by
      rw [en] at e
      cases Option.some.inj e
      exact q (er ▸ z)
    have yes : pbg (decide (¬ o = 0)) r → pbx x o := fun q => ⟨_, en, er ▸ q⟩
    have a20 : ¬ r = 2 → ¬ (r = 32 ∧ o = 0) → MT G (d + 1) z_beginsE 20 [(0, vr 0), (2, vi r)] [] x (ri F) := fun q2 q32 =>
      sg_beginsE_20 _ ⟨fun c => ri_i (h1 (yes (Or.inr (Or.inr (Or.inl c))))), fun c1 => ⟨fun c => ri_i (h1 (yes (Or.inr (Or.inr (Or.inr (Or.inl c)))))), fun c2 => ⟨fun c => ri_i (h1 (yes (Or.inr (Or.inr (Or.inr (Or.inr (Or.inl c))))))), fun c3 => ⟨fun c4 => ri_i (h0 (no (fun z => by
        rcases z with z | ⟨z, z2⟩ | z | z | z | z
        · exact q2 z
        · exact q32 ⟨z, by simpa using z2⟩
        · exact c1 z
        · exact c2 z
        · exact c3 z
        · exact c4 z))), fun c => ri_i (h1 (yes (Or.inr (Or.inr (Or.inr (Or.inr (Or.inr c)))))))⟩⟩⟩⟩
    exact ⟨fun c => ri_i (h1 (yes (Or.inl c))), fun c => ⟨fun c2 => a20 c (fun z => c2 z.1), fun c2 => ⟨fun c3 => ri_i (h1 (yes (Or.inr (Or.inl ⟨c2, by simp [c3]⟩)))), fun c3 => a20 c (fun z => c3 z.2)⟩⟩⟩
  · have er := r0 (by omega)
    have no : ¬ pbx x o := fun ⟨i, e, _⟩ => by rw [nwo_b (by omega)] at e; exact absurd e (by simp)
    subst er
    have a20 : MT G (d + 1) z_beginsE 20 [(0, vr 0), (2, vi 0)] [] x (ri F) := sg_beginsE_20 _ ⟨fun c => absurd c (by decide), fun _ => ⟨fun c => absurd c (by decide), fun _ => ⟨fun c => absurd c (by decide), fun _ => ⟨fun _ => ri_i (h0 no), fun c => absurd c (by decide)⟩⟩⟩⟩
    exact ⟨fun c => absurd c (by decide), fun _ => ⟨fun _ => a20, fun c => absurd c (by decide)⟩⟩
end SFC
