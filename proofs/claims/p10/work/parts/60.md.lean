/-! runs that are alike: MD says that a method, from every memory that is like x (on the core cells and on S), comes to an end that is like one and the same x' -/
abbrev gS : Type := Nat → Nat → Prop
abbrev coreF : List Nat := [23, 24, 25, 26, 27, 68]
abbrev coreL : List (Nat × Nat) := [(36, 24), (37, 24), (38, 6), (51, 6000), (52, 6000), (54, 1500), (55, 1500), (56, 1500), (57, 1500), (58, 1500), (59, 1500), (60, 1500), (61, 1500), (62, 1500), (64, 6), (65, 4), (66, 4), (70, 24), (71, 6), (72, 6), (73, 6), (74, 6), (75, 6), (76, 48), (77, 6), (78, 6), (79, 6), (80, 6)]
abbrev rL : List Nat := [82, 84, 88, 89, 90, 91, 92, 93]
abbrev rA : List Nat := [70, 71, 72, 73, 74, 75, 76, 77, 78, 79, 80, 81, 82, 84, 86, 87, 88]
def coreP (c j : Nat) : Prop := (c = 0 ∧ j ∈ coreF) ∨ ∃ n, (c, n) ∈ coreL ∧ j < n
def eqS (S : gS) (x z : gd) : Prop := ∀ c j : Nat, (coreP c j ∨ S c j) → z.1 c j = x.1 c j
theorem core_f {k : Nat} (h : k ∈ coreF) : coreP 0 k := Or.inl ⟨rfl, h⟩
theorem core_a {c n : Nat} {j : Int32} (h : (c, n) ∈ coreL) (hj : vp_in j n) : coreP c j.toNatClampNeg := Or.inr ⟨n, h, vp_lt hj⟩
def sadd (S : gS) (c j : Nat) : gS := fun c' j' => (c' = c ∧ j' = j) ∨ S c' j'
def ssub (S S' : gS) : Prop := ∀ c j, S c j → S' c j
theorem ssub_rf (S : gS) : ssub S S := fun _ _ h => h
theorem ssub_tr {S S' S2 : gS} (a : ssub S S') (b : ssub S' S2) : ssub S S2 := fun c j h => b c j (a c j h)
theorem ssub_ad (S : gS) (c j : Nat) : ssub S (sadd S c j) := fun _ _ h => Or.inr h
theorem eqS_rf (S : gS) (x : gd) : eqS S x x := fun _ _ _ => rfl
theorem eqS_w {S S' : gS} {x z : gd} (h : ssub S' S) (q : eqS S x z) : eqS S' x z := fun c j g => q c j (g.imp id (h c j))
theorem eqS_ad {S : gS} {x z : gd} (c j : Nat) (v : Int32) (q : eqS S x z) : eqS (sadd S c j) (si x c j v) (si z c j v) := by
  intro c' j' g
  rw [si_get, si_get]
  by_cases e : c' = c ∧ j' = j
  · rw [if_pos e, if_pos e]
  · rw [if_neg e, if_neg e]
    exact q c' j' (g.imp id (fun q => q.resolve_left e))
def MD (d : Nat) (y : gy) (pc : Nat) (lv : List (Nat × gv)) (st : List gv) (S : gS) (x : gd) (P : Option gv → gd → gS → Prop) : Prop :=
  ∃ (o : Option gv) (x' : gd) (S' : gS), P o x' S' ∧ md rL rA x x' ∧ ∀ (G : mG) (z : gd), eqS S x z → MT G d y pc lv st z (fun o2 z' => o2 = o ∧ eqS S' x' z' ∧ md rL rA z z')
def Di (F : Int32 → gd → gS → Prop) : Option gv → gd → gS → Prop := fun v x S => ∃ r : Int32, v = some (vi r) ∧ F r x S
def Dv (F : gd → gS → Prop) : Option gv → gd → gS → Prop := fun v x S => v = none ∧ F x S
theorem Di_i {F : Int32 → gd → gS → Prop} {r : Int32} {x : gd} {S : gS} (h : F r x S) : Di F (some (vi r)) x S := ⟨r, rfl, h⟩
theorem Dv_i {F : gd → gS → Prop} {x : gd} {S : gS} (h : F x S) : Dv F none x S := ⟨rfl, h⟩
section MDR
variable {d : Nat} {y : gy} {pc pc2 : Nat} {lv lv2 : List (Nat × gv)} {st st2 : List gv} {S : gS} {x : gd} {P P' : Option gv → gd → gS → Prop}
theorem MD_mono (h : MD d y pc lv st S x P) (hp : ∀ v x' S', P v x' S' → P' v x' S') : MD d y pc lv st S x P' := by
  obtain ⟨o, x', S', h1, h2, h3⟩ := h
  exact ⟨o, x', S', hp _ _ _ h1, h2, h3⟩
theorem MD_lift (row : ∀ (G : mG) (z : gd) (Q : Option gv → gd → Prop), MT G d y pc2 lv2 st2 z Q → MT G d y pc lv st z Q) (h : MD d y pc2 lv2 st2 S x P) : MD d y pc lv st S x P := by
  obtain ⟨o, x', S', h1, h2, h3⟩ := h
  exact ⟨o, x', S', h1, h2, fun G z e => row G z _ (h3 G z e)⟩
theorem MD_read (v : gd → Int32) (row : ∀ (G : mG) (z : gd) (Q : Option gv → gd → Prop), MT G d y pc2 lv2 (vi (v z) :: st2) z Q → MT G d y pc lv st z Q) (hv : ∀ z, eqS S x z → v z = v x) (h : MD d y pc2 lv2 (vi (v x) :: st2) S x P) : MD d y pc lv st S x P := by
  obtain ⟨o, x', S', h1, h2, h3⟩ := h
  refine ⟨o, x', S', h1, h2, fun G z e => row G z _ ?_⟩
  rw [hv z e]
  exact h3 G z e
theorem md_rt {x y z : gd} (a : md rL rA x y) (b : md rL rA y z) : md rL rA x z := md_tr a b rfl rfl
theorem md_rr (x : gd) : md rL rA x x := md_w (md_rf x) (by decide) (by decide)
theorem MD_wr (c j : Nat) (v : Int32) (row : ∀ (G : mG) (z : gd) (Q : Option gv → gd → Prop), MT G d y pc2 lv2 st2 (si z c j v) Q → MT G d y pc lv st z Q) (hm : ∀ z, md rL rA z (si z c j v)) (h : MD d y pc2 lv2 st2 (sadd S c j) (si x c j v) P) : MD d y pc lv st S x P := by
  obtain ⟨o, x', S', h1, h2, h3⟩ := h
  refine ⟨o, x', S', h1, md_rt (hm x) h2, fun G z e => row G z _ (MT_mono (h3 G _ (eqS_ad c j v e)) (fun o2 z' q => ⟨q.1, q.2.1, md_rt (hm z) q.2.2⟩))⟩
theorem MD_wk (c j : Nat) (v : Int32) (row : ∀ (G : mG) (z : gd) (Q : Option gv → gd → Prop), MT G d y pc2 lv2 st2 (si z c j v) Q → MT G d y pc lv st z Q) (hm : ∀ z, md rL rA z (si z c j v)) (h : MD d y pc2 lv2 st2 S (si x c j v) P) : MD d y pc lv st S x P := by
  obtain ⟨o, x', S', h1, h2, h3⟩ := h
  refine ⟨o, x', S', h1, md_rt (hm x) h2, fun G z e => row G z _ (MT_mono (h3 G _ (eqS_w (ssub_ad S c j) (eqS_ad c j v e))) (fun o2 z' q => ⟨q.1, q.2.1, md_rt (hm z) q.2.2⟩))⟩
theorem hm_f {k : Nat} (h : k ∈ rL) (v : Int32) (z : gd) : md rL rA z (si z 0 k v) := md_w (md_f z k v) (fun i hi => by rw [List.mem_singleton.mp hi]; exact h) (fun i hi => nomatch hi)
theorem hm_a {c : Nat} (h : c ∈ rA) (j : Nat) (v : Int32) (z : gd) : md rL rA z (si z c j v) := md_w (md_a z c j v (fun e => by rw [e] at h; exact absurd h (by decide))) (fun i hi => nomatch hi) (fun i hi => by rw [List.mem_singleton.mp hi]; exact h)
theorem MD_ret {o9 : Option gv} (row : ∀ (G : mG) (z : gd) (Q : Option gv → gd → Prop), Q o9 z → MT G d y pc lv st z Q) (h : P o9 x S) : MD d y pc lv st S x P := ⟨o9, x, S, h, md_rr x, fun G z e => row G z _ ⟨rfl, e, md_rr z⟩⟩
theorem MD_calli {z9 : gy} {l9 : List (Nat × gv)} {d9 : Nat} {rest : List gv} {F : Int32 → gd → gS → Prop} (row : ∀ (G : mG) (z : gd) (F : Int32 → gd → Prop) (Q : Option gv → gd → Prop), MT G d9 z9 0 l9 [] z (ri F) → (∀ r x1, F r x1 → MT G d y pc2 lv2 (vi r :: rest) x1 Q) → MT G d y pc lv st z Q) (k : MD d9 z9 0 l9 [] S x (Di F)) (kk : ∀ r x1 S1, F r x1 S1 → MD d y pc2 lv2 (vi r :: rest) S1 x1 P) : MD d y pc lv st S x P := by
  obtain ⟨o1, x1, S1, ⟨r, e1, h1⟩, h2, h3⟩ := k
  obtain ⟨o, x', S', g1, g2, g3⟩ := kk r x1 S1 h1
  refine ⟨o, x', S', g1, md_rt h2 g2, fun G z e => ?_⟩
  refine row G z (fun r2 z1 => r2 = r ∧ eqS S1 x1 z1 ∧ md rL rA z z1) _ (MT_mono (h3 G z e) (fun o2 z1 q => ⟨r, by rw [q.1, e1], rfl, q.2⟩)) (fun r2 z1 q => ?_)
  rw [q.1]
  exact MT_mono (g3 G z1 q.2.1) (fun o2 z2 w => ⟨w.1, w.2.1, md_rt q.2.2 w.2.2⟩)
theorem MD_callv {z9 : gy} {l9 : List (Nat × gv)} {d9 : Nat} {rest : List gv} {F : gd → gS → Prop} (row : ∀ (G : mG) (z : gd) (F : gd → Prop) (Q : Option gv → gd → Prop), MT G d9 z9 0 l9 [] z (rv F) → (∀ x1, F x1 → MT G d y pc2 lv2 rest x1 Q) → MT G d y pc lv st z Q) (k : MD d9 z9 0 l9 [] S x (Dv F)) (kk : ∀ x1 S1, F x1 S1 → MD d y pc2 lv2 rest S1 x1 P) : MD d y pc lv st S x P := by
  obtain ⟨o1, x1, S1, ⟨e1, h1⟩, h2, h3⟩ := k
  obtain ⟨o, x', S', g1, g2, g3⟩ := kk x1 S1 h1
  refine ⟨o, x', S', g1, md_rt h2 g2, fun G z e => ?_⟩
  refine row G z (fun z1 => eqS S1 x1 z1 ∧ md rL rA z z1) _ (MT_mono (h3 G z e) (fun o2 z1 q => ⟨by rw [q.1, e1], q.2⟩)) (fun z1 q => ?_)
  exact MT_mono (g3 G z1 q.1) (fun o2 z2 w => ⟨w.1, w.2.1, md_rt q.2 w.2.2⟩)
/-- a method that answers and changes nothing -/
theorem MD_pure {r : Int32} {F : Int32 → gd → gS → Prop} (h : ∀ (G : mG) (z : gd), MT G d y pc lv st z (ri (fun r2 z2 => r2 = r ∧ z2 = z))) (hF : F r x S) : MD d y pc lv st S x (Di F) :=
  ⟨some (vi r), x, S, ⟨r, rfl, hF⟩, md_rr x, fun G z e => MT_mono (h G z) (fun o z2 q => by
    obtain ⟨r2, q1, q2, q3⟩ := q
    rw [q1, q2, q3]
    exact ⟨rfl, e, md_rr z⟩)⟩
end MDR
theorem ds_in {d : Nat} {S : gS} {x : gd} {F : Int32 → gd → gS → Prop} (v a b : Int32) (h : F (bi (a ≤ v ∧ v ≤ b)) x S) : MD d z_in 0 [(0, vi v), (1, vi a), (2, vi b)] [] S x (Di F) := MD_pure (fun _ z => sp_in v a b ⟨rfl, rfl⟩) h
