section
/-! runs that are alike: MD says that a method, from every memory that is like x (on the core cells and on S), comes to an end that is like one and the same x' -/
abbrev gS : Type := Nat → Nat → Prop
abbrev coreF : List Nat := [23, 24, 25, 26, 27, 68]
abbrev coreL : List (Nat × Nat) := [(36, 24), (37, 24), (38, 6), (51, 6000), (52, 6000), (54, 1500), (55, 1500), (56, 1500), (57, 1500), (58, 1500), (59, 1500), (60, 1500), (61, 1500), (62, 1500), (64, 6), (65, 4), (66, 4), (70, 24), (71, 6), (72, 6), (73, 6), (74, 6), (75, 6), (76, 48), (77, 6), (78, 6), (79, 6), (80, 6)]
abbrev rL : List Nat := [82, 84, 88, 89, 90, 91, 92, 93]
abbrev rA : List Nat := [70, 71, 72, 73, 74, 75, 76, 77, 78, 79, 80, 81, 82, 84, 86, 87, 88]
def coreP (c j : Nat) : Prop := (c = 0 ∧ j ∈ coreF) ∨ ∃ n, (c, n) ∈ coreL ∧ j < n
def eqS (S : gS) (x z : gd) : Prop := ∀ c j : Nat, (coreP c j ∨ S c j) → z.1 c j = x.1 c j
theorem core_f {k : Nat} (h : k ∈ coreF) : coreP 0 k := Or.inl ⟨rfl, h⟩
theorem core_a {c n : Nat} {j : Int32} (h : (c, n) ∈ coreL) (hj : vp_in j n) : coreP c j.toNatClampNeg := Or.inr ⟨n, h, vp_lt hj⟩
def sadd (S : gS) (c j : Nat) : gS := fun c' j' => (c' = c ∧ j' = j) ∨ S c' j'
def ssub (S S' : gS) : Prop := ∀ c j, S c j → S' c j
theorem ssub_rf (S : gS) : ssub S S := fun _ _ h => h
theorem ssub_tr {S S' S2 : gS} (a : ssub S S') (b : ssub S' S2) : ssub S S2 := fun c j h => b c j (a c j h)
theorem ssub_ad (S : gS) (c j : Nat) : ssub S (sadd S c j) := fun _ _ h => Or.inr h
theorem eqS_rf (S : gS) (x : gd) : eqS S x x := fun _ _ _ => rfl
theorem eqS_w {S S' : gS} {x z : gd} (h : ssub S' S) (q : eqS S x z) : eqS S' x z := fun c j g => q c j (g.imp id (h c j))
theorem eqS_ad {S : gS} {x z : gd} (c j : Nat) (v : Int32) (q : eqS S x z) : eqS (sadd S c j) (si x c j v) (si z c j v) := by
  intro c' j' g
  rw [si_get, si_get]
  by_cases e : c' = c ∧ j' = j
  · rw [if_pos e, if_pos e]
  · rw [if_neg e, if_neg e]
    exact q c' j' (g.imp id (fun q => q.resolve_left e))
def MD (d : Nat) (y : gy) (pc : Nat) (lv : List (Nat × gv)) (st : List gv) (S : gS) (x : gd) (P : Option gv → gd → gS → Prop) : Prop :=
  ∃ (o : Option gv) (x' : gd) (S' : gS), P o x' S' ∧ md rL rA x x' ∧ ∀ (G : mG) (z : gd), eqS S x z → MT G d y pc lv st z (fun o2 z' => o2 = o ∧ eqS S' x' z' ∧ md rL rA z z')
def Di (F : Int32 → gd → gS → Prop) : Option gv → gd → gS → Prop := fun v x S => ∃ r : Int32, v = some (vi r) ∧ F r x S
def Dv (F : gd → gS → Prop) : Option gv → gd → gS → Prop := fun v x S => v = none ∧ F x S
theorem Di_i {F : Int32 → gd → gS → Prop} {r : Int32} {x : gd} {S : gS} (h : F r x S) : Di F (some (vi r)) x S := ⟨r, rfl, h⟩
theorem Dv_i {F : gd → gS → Prop} {x : gd} {S : gS} (h : F x S) : Dv F none x S := ⟨rfl, h⟩
section MDR
variable {d : Nat} {y : gy} {pc pc2 : Nat} {lv lv2 : List (Nat × gv)} {st st2 : List gv} {S : gS} {x : gd} {P P' : Option gv → gd → gS → Prop}
theorem MD_lift (row : ∀ (G : mG) (z : gd) (Q : Option gv → gd → Prop), MT G d y pc2 lv2 st2 z Q → MT G d y pc lv st z Q) (h : MD d y pc2 lv2 st2 S x P) : MD d y pc lv st S x P := by
  obtain ⟨o, x', S', h1, h2, h3⟩ := h
  exact ⟨o, x', S', h1, h2, fun G z e => row G z _ (h3 G z e)⟩
theorem MD_read (v : gd → Int32) (row : ∀ (G : mG) (z : gd) (Q : Option gv → gd → Prop), MT G d y pc2 lv2 (vi (v z) :: st2) z Q → MT G d y pc lv st z Q) (hv : ∀ z, eqS S x z → v z = v x) (h : MD d y pc2 lv2 (vi (v x) :: st2) S x P) : MD d y pc lv st S x P := by
  obtain ⟨o, x', S', h1, h2, h3⟩ := h
  refine ⟨o, x', S', h1, h2, fun G z e => row G z _ ?_⟩
  rw [hv z e]
  exact h3 G z e
theorem md_rt {x y z : gd} (a : md rL rA x y) (b : md rL rA y z) : md rL rA x z := md_tr a b rfl rfl
theorem md_rr (x : gd) : md rL rA x x := md_w (md_rf x) (by decide) (by decide)
theorem MD_wr (c j : Nat) (v : Int32) (row : ∀ (G : mG) (z : gd) (Q : Option gv → gd → Prop), MT G d y pc2 lv2 st2 (si z c j v) Q → MT G d y pc lv st z Q) (hm : ∀ z, md rL rA z (si z c j v)) (h : MD d y pc2 lv2 st2 (sadd S c j) (si x c j v) P) : MD d y pc lv st S x P := by
  obtain ⟨o, x', S', h1, h2, h3⟩ := h
  refine ⟨o, x', S', h1, md_rt (hm x) h2, fun G z e => row G z _ (MT_mono (h3 G _ (eqS_ad c j v e)) (fun o2 z' q => ⟨q.1, q.2.1, md_rt (hm z) q.2.2⟩))⟩
theorem MD_wk (c j : Nat) (v : Int32) (row : ∀ (G : mG) (z : gd) (Q : Option gv → gd → Prop), MT G d y pc2 lv2 st2 (si z c j v) Q → MT G d y pc lv st z Q) (hm : ∀ z, md rL rA z (si z c j v)) (h : MD d y pc2 lv2 st2 S (si x c j v) P) : MD d y pc lv st S x P := by
  obtain ⟨o, x', S', h1, h2, h3⟩ := h
  refine ⟨o, x', S', h1, md_rt (hm x) h2, fun G z e => row G z _ (MT_mono (h3 G _ (eqS_w (ssub_ad S c j) (eqS_ad c j v e))) (fun o2 z' q => ⟨q.1, q.2.1, md_rt (hm z) q.2.2⟩))⟩
theorem hm_f {k : Nat} (h : k ∈ rL) (v : Int32) (z : gd) : md rL rA z (si z 0 k v) := md_w (md_f z k v) (fun i hi => by rw [List.mem_singleton.mp hi]; exact h) (fun i hi => nomatch hi)
theorem hm_a {c : Nat} (h : c ∈ rA) (j : Nat) (v : Int32) (z : gd) : md rL rA z (si z c j v) := md_w (md_a z c j v (fun e => by rw [e] at h; exact absurd h (by decide))) (fun i hi => nomatch hi) (fun i hi => by rw [List.mem_singleton.mp hi]; exact h)
theorem MD_ret {o9 : Option gv} (row : ∀ (G : mG) (z : gd) (Q : Option gv → gd → Prop), Q o9 z → MT G d y pc lv st z Q) (h : P o9 x S) : MD d y pc lv st S x P := ⟨o9, x, S, h, md_rr x, fun G z e => row G z _ ⟨rfl, e, md_rr z⟩⟩
theorem MD_calli {z9 : gy} {l9 : List (Nat × gv)} {d9 : Nat} {rest : List gv} {F : Int32 → gd → gS → Prop} (row : ∀ (G : mG) (z : gd) (F : Int32 → gd → Prop) (Q : Option gv → gd → Prop), MT G d9 z9 0 l9 [] z (ri F) → (∀ r x1, F r x1 → MT G d y pc2 lv2 (vi r :: rest) x1 Q) → MT G d y pc lv st z Q) (k : MD d9 z9 0 l9 [] S x (Di F)) (kk : ∀ r x1 S1, F r x1 S1 → MD d y pc2 lv2 (vi r :: rest) S1 x1 P) : MD d y pc lv st S x P := by
  obtain ⟨o1, x1, S1, ⟨r, e1, h1⟩, h2, h3⟩ := k
  obtain ⟨o, x', S', g1, g2, g3⟩ := kk r x1 S1 h1
  refine ⟨o, x', S', g1, md_rt h2 g2, fun G z e => ?_⟩
  refine row G z (fun r2 z1 => r2 = r ∧ eqS S1 x1 z1 ∧ md rL rA z z1) _ (MT_mono (h3 G z e) (fun o2 z1 q => ⟨r, by rw [q.1, e1], rfl, q.2⟩)) (fun r2 z1 q => ?_)
  rw [q.1]
  exact MT_mono (g3 G z1 q.2.1) (fun o2 z2 w => ⟨w.1, w.2.1, md_rt q.2.2 w.2.2⟩)
theorem MD_callv {z9 : gy} {l9 : List (Nat × gv)} {d9 : Nat} {rest : List gv} {F : gd → gS → Prop} (row : ∀ (G : mG) (z : gd) (F : gd → Prop) (Q : Option gv → gd → Prop), MT G d9 z9 0 l9 [] z (rv F) → (∀ x1, F x1 → MT G d y pc2 lv2 rest x1 Q) → MT G d y pc lv st z Q) (k : MD d9 z9 0 l9 [] S x (Dv F)) (kk : ∀ x1 S1, F x1 S1 → MD d y pc2 lv2 rest S1 x1 P) : MD d y pc lv st S x P := by
  obtain ⟨o1, x1, S1, ⟨e1, h1⟩, h2, h3⟩ := k
  obtain ⟨o, x', S', g1, g2, g3⟩ := kk x1 S1 h1
  refine ⟨o, x', S', g1, md_rt h2 g2, fun G z e => ?_⟩
  refine row G z (fun z1 => eqS S1 x1 z1 ∧ md rL rA z z1) _ (MT_mono (h3 G z e) (fun o2 z1 q => ⟨by rw [q.1, e1], q.2⟩)) (fun z1 q => ?_)
  exact MT_mono (g3 G z1 q.1) (fun o2 z2 w => ⟨w.1, w.2.1, md_rt q.2 w.2.2⟩)
/-- a method that answers and changes nothing -/
theorem MD_pure {r : Int32} {F : Int32 → gd → gS → Prop} (h : ∀ (G : mG) (z : gd), MT G d y pc lv st z (ri (fun r2 z2 => r2 = r ∧ z2 = z))) (hF : F r x S) : MD d y pc lv st S x (Di F) :=
  ⟨some (vi r), x, S, ⟨r, rfl, hF⟩, md_rr x, fun G z e => MT_mono (h G z) (fun o z2 q => by
    obtain ⟨r2, q1, q2, q3⟩ := q
    rw [q1, q2, q3]
    exact ⟨rfl, e, md_rr z⟩)⟩
end MDR
theorem ds_in {d : Nat} {S : gS} {x : gd} {F : Int32 → gd → gS → Prop} (v a b : Int32) (h : F (bi (a ≤ v ∧ v ≤ b)) x S) : MD d z_in 0 [(0, vi v), (1, vi a), (2, vi b)] [] S x (Di F) := MD_pure (fun _ z => sp_in v a b ⟨rfl, rfl⟩) h
end
section
set_option maxRecDepth 100000 in
set_option maxHeartbeats 4000000 in
theorem sd_one_0 {d : Nat} {S : gS} {x : gd} {P : Option gv → gd → gS → Prop} (l0 : Int32)
    (h : ((l0 = (0 : Int32) → P (some (vi 0)) x S) ∧ (¬ (l0 = (0 : Int32)) → P (some (vi 1)) x S))) :
    MD d z_one 0 [(0, vi l0)] [] S x P := by
  refine MD_lift (fun G z Q k => T_iload_n 0 (dk dt_one 0 rfl) rfl rfl k) ?_
  by_cases c1 : l0 = (0 : Int32)
  · have h := h.1 c1
    refine MD_lift (fun G z Q k => T_if_eq 8 (dk dt_one 1 rfl) (by decide) (fun _ => k) (fun q => absurd c1 q)) ?_
    refine MD_lift (fun G z Q k => T_iconst (v := 0) (dk dt_one 4 rfl) (by decide +kernel) k) ?_
    exact MD_ret (fun G z Q k => MT_iret (dk dt_one 5 rfl) rfl rfl k) h
  · have h := h.2 c1
    refine MD_lift (fun G z Q k => T_if_eq 8 (dk dt_one 1 rfl) (by decide) (fun q => absurd q c1) (fun _ => k)) ?_
    refine MD_lift (fun G z Q k => T_iconst (v := 1) (dk dt_one 2 rfl) (by decide +kernel) k) ?_
    refine MD_lift (fun G z Q k => T_goto 9 (dk dt_one 3 rfl) (by decide) k) ?_
    exact MD_ret (fun G z Q k => MT_iret (dk dt_one 5 rfl) rfl rfl k) h
set_option maxRecDepth 100000 in
set_option maxHeartbeats 4000000 in
theorem sd_isAccess_0 {d : Nat} {S : gS} {x : gd} {P : Option gv → gd → gS → Prop} (l1 : Int32)
    (h : ((l1 = (0 : Int32) → P (some (vi 1)) x S) ∧ (¬ (l1 = (0 : Int32)) → ((l1 = (1 : Int32) → P (some (vi 1)) x S) ∧ (¬ (l1 = (1 : Int32)) → ((l1 = (2 : Int32) → P (some (vi 1)) x S) ∧ (¬ (l1 = (2 : Int32)) → ((l1 = (3 : Int32) → P (some (vi 1)) x S) ∧ (¬ (l1 = (3 : Int32)) → ((¬ (l1 = (4 : Int32)) → P (some (vi 0)) x S) ∧ (l1 = (4 : Int32) → P (some (vi 1)) x S))))))))))) :
    MD d z_isAccess 0 [(0, vr 0), (1, vi l1)] [] S x P := by
  refine MD_lift (fun G z Q k => T_iload_n 1 (dk dt_isAccess 0 rfl) rfl rfl k) ?_
  by_cases c1 : l1 = (0 : Int32)
  · have h := h.1 c1
    refine MD_lift (fun G z Q k => T_if_eq 24 (dk dt_isAccess 1 rfl) (by decide) (fun _ => k) (fun q => absurd c1 q)) ?_
    refine MD_lift (fun G z Q k => T_iconst (v := 1) (dk dt_isAccess 14 rfl) (by decide +kernel) k) ?_
    refine MD_lift (fun G z Q k => T_goto 29 (dk dt_isAccess 15 rfl) (by decide) k) ?_
    exact MD_ret (fun G z Q k => MT_iret (dk dt_isAccess 17 rfl) rfl rfl k) h
  · have h := h.2 c1
    refine MD_lift (fun G z Q k => T_if_eq 24 (dk dt_isAccess 1 rfl) (by decide) (fun q => absurd q c1) (fun _ => k)) ?_
    refine MD_lift (fun G z Q k => T_iload_n 1 (dk dt_isAccess 2 rfl) rfl rfl k) ?_
    refine MD_lift (fun G z Q k => T_iconst (v := 1) (dk dt_isAccess 3 rfl) (by decide +kernel) k) ?_
    by_cases c2 : l1 = (1 : Int32)
    · have h := h.1 c2
      refine MD_lift (fun G z Q k => T_icmp_eq 24 (dk dt_isAccess 4 rfl) (by decide) (fun _ => k) (fun q => absurd c2 q)) ?_
      refine MD_lift (fun G z Q k => T_iconst (v := 1) (dk dt_isAccess 14 rfl) (by decide +kernel) k) ?_
      refine MD_lift (fun G z Q k => T_goto 29 (dk dt_isAccess 15 rfl) (by decide) k) ?_
      exact MD_ret (fun G z Q k => MT_iret (dk dt_isAccess 17 rfl) rfl rfl k) h
    · have h := h.2 c2
      refine MD_lift (fun G z Q k => T_icmp_eq 24 (dk dt_isAccess 4 rfl) (by decide) (fun q => absurd q c2) (fun _ => k)) ?_
      refine MD_lift (fun G z Q k => T_iload_n 1 (dk dt_isAccess 5 rfl) rfl rfl k) ?_
      refine MD_lift (fun G z Q k => T_iconst (v := 2) (dk dt_isAccess 6 rfl) (by decide +kernel) k) ?_
      by_cases c3 : l1 = (2 : Int32)
      · have h := h.1 c3
        refine MD_lift (fun G z Q k => T_icmp_eq 24 (dk dt_isAccess 7 rfl) (by decide) (fun _ => k) (fun q => absurd c3 q)) ?_
        refine MD_lift (fun G z Q k => T_iconst (v := 1) (dk dt_isAccess 14 rfl) (by decide +kernel) k) ?_
        refine MD_lift (fun G z Q k => T_goto 29 (dk dt_isAccess 15 rfl) (by decide) k) ?_
        exact MD_ret (fun G z Q k => MT_iret (dk dt_isAccess 17 rfl) rfl rfl k) h
      · have h := h.2 c3
        refine MD_lift (fun G z Q k => T_icmp_eq 24 (dk dt_isAccess 7 rfl) (by decide) (fun q => absurd q c3) (fun _ => k)) ?_
        refine MD_lift (fun G z Q k => T_iload_n 1 (dk dt_isAccess 8 rfl) rfl rfl k) ?_
        refine MD_lift (fun G z Q k => T_iconst (v := 3) (dk dt_isAccess 9 rfl) (by decide +kernel) k) ?_
        by_cases c4 : l1 = (3 : Int32)
        · have h := h.1 c4
          refine MD_lift (fun G z Q k => T_icmp_eq 24 (dk dt_isAccess 10 rfl) (by decide) (fun _ => k) (fun q => absurd c4 q)) ?_
          refine MD_lift (fun G z Q k => T_iconst (v := 1) (dk dt_isAccess 14 rfl) (by decide +kernel) k) ?_
          refine MD_lift (fun G z Q k => T_goto 29 (dk dt_isAccess 15 rfl) (by decide) k) ?_
          exact MD_ret (fun G z Q k => MT_iret (dk dt_isAccess 17 rfl) rfl rfl k) h
        · have h := h.2 c4
          refine MD_lift (fun G z Q k => T_icmp_eq 24 (dk dt_isAccess 10 rfl) (by decide) (fun q => absurd q c4) (fun _ => k)) ?_
          refine MD_lift (fun G z Q k => T_iload_n 1 (dk dt_isAccess 11 rfl) rfl rfl k) ?_
          refine MD_lift (fun G z Q k => T_iconst (v := 4) (dk dt_isAccess 12 rfl) (by decide +kernel) k) ?_
          by_cases c5 : l1 = (4 : Int32)
          · have h := h.2 c5
            refine MD_lift (fun G z Q k => T_icmp_ne 28 (dk dt_isAccess 13 rfl) (by decide) (fun q => absurd c5 q) (fun _ => k)) ?_
            refine MD_lift (fun G z Q k => T_iconst (v := 1) (dk dt_isAccess 14 rfl) (by decide +kernel) k) ?_
            refine MD_lift (fun G z Q k => T_goto 29 (dk dt_isAccess 15 rfl) (by decide) k) ?_
            exact MD_ret (fun G z Q k => MT_iret (dk dt_isAccess 17 rfl) rfl rfl k) h
          · have h := h.1 c5
            refine MD_lift (fun G z Q k => T_icmp_ne 28 (dk dt_isAccess 13 rfl) (by decide) (fun _ => k) (fun q => absurd q c5)) ?_
            refine MD_lift (fun G z Q k => T_iconst (v := 0) (dk dt_isAccess 16 rfl) (by decide +kernel) k) ?_
            exact MD_ret (fun G z Q k => MT_iret (dk dt_isAccess 17 rfl) rfl rfl k) h
set_option maxRecDepth 100000 in
set_option maxHeartbeats 4000000 in
theorem sd_reckon_0 {d : Nat} {S : gS} {x : gd} {P : Option gv → gd → gS → Prop} (l1 : Int32) (l2 : Int32) (l3 : Int32)
    (h : (((l1 = 30) → ((¬ (l2 = (0 : Int32)) → MD (d + 1) z_reckon 113 [(0, vr 0)] [vi 1] S x P) ∧ (l2 = (0 : Int32) → ((l3 = (0 : Int32) → MD (d + 1) z_reckon 113 [(0, vr 0)] [vi 0] S x P) ∧ (¬ (l3 = (0 : Int32)) → MD (d + 1) z_reckon 113 [(0, vr 0)] [vi 1] S x P))))) ∧ ((l1 = 12) → ((l2 = (0 : Int32) → MD (d + 1) z_reckon 130 [(0, vr 0)] [vi 0] S x P) ∧ (¬ (l2 = (0 : Int32)) → ((l3 = (0 : Int32) → MD (d + 1) z_reckon 130 [(0, vr 0)] [vi 0] S x P) ∧ (¬ (l3 = (0 : Int32)) → MD (d + 1) z_reckon 130 [(0, vr 0)] [vi 1] S x P))))) ∧ ((l1 = 51) → ((¬ (l2 = l3) → MD (d + 1) z_reckon 144 [(0, vr 0)] [vi 0] S x P) ∧ (l2 = l3 → MD (d + 1) z_reckon 144 [(0, vr 0)] [vi 1] S x P))) ∧ ((l1 = 52) → ((l2 = l3 → MD (d + 1) z_reckon 158 [(0, vr 0)] [vi 0] S x P) ∧ (¬ (l2 = l3) → MD (d + 1) z_reckon 158 [(0, vr 0)] [vi 1] S x P))) ∧ ((l1 = 53) → ((l3 ≤ l2 → MD (d + 1) z_reckon 172 [(0, vr 0)] [vi 0] S x P) ∧ (¬ (l3 ≤ l2) → MD (d + 1) z_reckon 172 [(0, vr 0)] [vi 1] S x P))) ∧ ((l1 = 54) → ((l3 < l2 → MD (d + 1) z_reckon 186 [(0, vr 0)] [vi 0] S x P) ∧ (¬ (l3 < l2) → MD (d + 1) z_reckon 186 [(0, vr 0)] [vi 1] S x P))) ∧ ((l1 = 55) → ((l2 ≤ l3 → MD (d + 1) z_reckon 200 [(0, vr 0)] [vi 0] S x P) ∧ (¬ (l2 ≤ l3) → MD (d + 1) z_reckon 200 [(0, vr 0)] [vi 1] S x P))) ∧ ((l1 = 56) → ((l2 < l3 → MD (d + 1) z_reckon 214 [(0, vr 0)] [vi 0] S x P) ∧ (¬ (l2 < l3) → MD (d + 1) z_reckon 214 [(0, vr 0)] [vi 1] S x P))) ∧ ((l1 = 57) → P (some (vi (l2 + l3))) x S) ∧ ((l1 = 58) → P (some (vi (l2 - l3))) x S) ∧ ((l1 = 59) → P (some (vi (l2 * l3))) x S) ∧ ((∀ k ∈ [(30 : Int32), (12 : Int32), (51 : Int32), (52 : Int32), (53 : Int32), (54 : Int32), (55 : Int32), (56 : Int32), (57 : Int32), (58 : Int32), (59 : Int32)], ¬ l1 = k) → ((¬ (l3 = (0 : Int32)) → ((¬ (l1 = (60 : Int32)) → ((¬ (l3 = (-1 : Int32)) → ¬ l3 = 0 ∧ P (some (vi (l2 - l2 / l3 * l3))) x S) ∧ (l3 = (-1 : Int32) → P (some (vi 0)) x S))) ∧ (l1 = (60 : Int32) → ((¬ (l3 = (-1 : Int32)) → ¬ l3 = 0 ∧ P (some (vi (l2 / l3))) x S) ∧ (l3 = (-1 : Int32) → P (some (vi (-l2))) x S))))) ∧ (l3 = (0 : Int32) → (∀ x24 : gd, x24 = si x 0 82 1 → P (some (vi 0)) x24 (sadd S 0 82))))))) :
    MD (d + 1) z_reckon 0 [(0, vr 0), (1, vi l1), (2, vi l2), (3, vi l3)] [] S x P := by
  refine MD_lift (fun G z Q k => T_iload_n 1 (dk dt_reckon 0 rfl) rfl rfl k) ?_
  by_cases c1 : l1 = 30
  · have h := h.1 c1
    refine MD_lift (fun G z Q k => T_lookup 99 100 (dk dt_reckon 1 rfl) (by decide +kernel) (by rw [c1]; decide +kernel) (by decide) k) ?_
    refine MD_lift (fun G z Q k => T_iload_n 2 (dk dt_reckon 2 rfl) rfl rfl k) ?_
    by_cases c2 : l2 = (0 : Int32)
    · have h := h.2 c2
      refine MD_lift (fun G z Q k => T_if_ne 108 (dk dt_reckon 3 rfl) (by decide) (fun q => absurd c2 q) (fun _ => k)) ?_
      refine MD_lift (fun G z Q k => T_iload_n 3 (dk dt_reckon 4 rfl) rfl rfl k) ?_
      by_cases c3 : l3 = (0 : Int32)
      · have h := h.1 c3
        refine MD_lift (fun G z Q k => T_if_eq 112 (dk dt_reckon 5 rfl) (by decide) (fun _ => k) (fun q => absurd c3 q)) ?_
        refine MD_lift (fun G z Q k => T_iconst (v := 0) (dk dt_reckon 8 rfl) (by decide +kernel) k) ?_
        exact MD_lift (fun G z Q k => T_sub [0] rfl k) h
      · have h := h.2 c3
        refine MD_lift (fun G z Q k => T_if_eq 112 (dk dt_reckon 5 rfl) (by decide) (fun q => absurd q c3) (fun _ => k)) ?_
        refine MD_lift (fun G z Q k => T_iconst (v := 1) (dk dt_reckon 6 rfl) (by decide +kernel) k) ?_
        refine MD_lift (fun G z Q k => T_goto 113 (dk dt_reckon 7 rfl) (by decide) k) ?_
        exact MD_lift (fun G z Q k => T_sub [0] rfl k) h
    · have h := h.1 c2
      refine MD_lift (fun G z Q k => T_if_ne 108 (dk dt_reckon 3 rfl) (by decide) (fun _ => k) (fun q => absurd q c2)) ?_
      refine MD_lift (fun G z Q k => T_iconst (v := 1) (dk dt_reckon 6 rfl) (by decide +kernel) k) ?_
      refine MD_lift (fun G z Q k => T_goto 113 (dk dt_reckon 7 rfl) (by decide) k) ?_
      exact MD_lift (fun G z Q k => T_sub [0] rfl k) h
  · have h := h.2
    by_cases c4 : l1 = 12
    · have h := h.1 c4
      refine MD_lift (fun G z Q k => T_lookup 116 117 (dk dt_reckon 1 rfl) (by decide +kernel) (by rw [c4]; decide +kernel) (by decide) k) ?_
      refine MD_lift (fun G z Q k => T_iload_n 2 (dk dt_reckon 11 rfl) rfl rfl k) ?_
      by_cases c5 : l2 = (0 : Int32)
      · have h := h.1 c5
        refine MD_lift (fun G z Q k => T_if_eq 129 (dk dt_reckon 12 rfl) (by decide) (fun _ => k) (fun q => absurd c5 q)) ?_
        refine MD_lift (fun G z Q k => T_iconst (v := 0) (dk dt_reckon 17 rfl) (by decide +kernel) k) ?_
        exact MD_lift (fun G z Q k => T_sub [0] rfl k) h
      · have h := h.2 c5
        refine MD_lift (fun G z Q k => T_if_eq 129 (dk dt_reckon 12 rfl) (by decide) (fun q => absurd q c5) (fun _ => k)) ?_
        refine MD_lift (fun G z Q k => T_iload_n 3 (dk dt_reckon 13 rfl) rfl rfl k) ?_
        by_cases c6 : l3 = (0 : Int32)
        · have h := h.1 c6
          refine MD_lift (fun G z Q k => T_if_eq 129 (dk dt_reckon 14 rfl) (by decide) (fun _ => k) (fun q => absurd c6 q)) ?_
          refine MD_lift (fun G z Q k => T_iconst (v := 0) (dk dt_reckon 17 rfl) (by decide +kernel) k) ?_
          exact MD_lift (fun G z Q k => T_sub [0] rfl k) h
        · have h := h.2 c6
          refine MD_lift (fun G z Q k => T_if_eq 129 (dk dt_reckon 14 rfl) (by decide) (fun q => absurd q c6) (fun _ => k)) ?_
          refine MD_lift (fun G z Q k => T_iconst (v := 1) (dk dt_reckon 15 rfl) (by decide +kernel) k) ?_
          refine MD_lift (fun G z Q k => T_goto 130 (dk dt_reckon 16 rfl) (by decide) k) ?_
          exact MD_lift (fun G z Q k => T_sub [0] rfl k) h
    · have h := h.2
      by_cases c7 : l1 = 51
      · have h := h.1 c7
        refine MD_lift (fun G z Q k => T_lookup 133 134 (dk dt_reckon 1 rfl) (by decide +kernel) (by rw [c7]; decide +kernel) (by decide) k) ?_
        refine MD_lift (fun G z Q k => T_iload_n 2 (dk dt_reckon 20 rfl) rfl rfl k) ?_
        refine MD_lift (fun G z Q k => T_iload_n 3 (dk dt_reckon 21 rfl) rfl rfl k) ?_
        by_cases c8 : l2 = l3
        · have h := h.2 c8
          refine MD_lift (fun G z Q k => T_icmp_ne 143 (dk dt_reckon 22 rfl) (by decide) (fun q => absurd c8 q) (fun _ => k)) ?_
          refine MD_lift (fun G z Q k => T_iconst (v := 1) (dk dt_reckon 23 rfl) (by decide +kernel) k) ?_
          refine MD_lift (fun G z Q k => T_goto 144 (dk dt_reckon 24 rfl) (by decide) k) ?_
          exact MD_lift (fun G z Q k => T_sub [0] rfl k) h
        · have h := h.1 c8
          refine MD_lift (fun G z Q k => T_icmp_ne 143 (dk dt_reckon 22 rfl) (by decide) (fun _ => k) (fun q => absurd q c8)) ?_
          refine MD_lift (fun G z Q k => T_iconst (v := 0) (dk dt_reckon 25 rfl) (by decide +kernel) k) ?_
          exact MD_lift (fun G z Q k => T_sub [0] rfl k) h
      · have h := h.2
        by_cases c9 : l1 = 52
        · have h := h.1 c9
          refine MD_lift (fun G z Q k => T_lookup 147 148 (dk dt_reckon 1 rfl) (by decide +kernel) (by rw [c9]; decide +kernel) (by decide) k) ?_
          refine MD_lift (fun G z Q k => T_iload_n 2 (dk dt_reckon 28 rfl) rfl rfl k) ?_
          refine MD_lift (fun G z Q k => T_iload_n 3 (dk dt_reckon 29 rfl) rfl rfl k) ?_
          by_cases c10 : l2 = l3
          · have h := h.1 c10
            refine MD_lift (fun G z Q k => T_icmp_eq 157 (dk dt_reckon 30 rfl) (by decide) (fun _ => k) (fun q => absurd c10 q)) ?_
            refine MD_lift (fun G z Q k => T_iconst (v := 0) (dk dt_reckon 33 rfl) (by decide +kernel) k) ?_
            exact MD_lift (fun G z Q k => T_sub [0] rfl k) h
          · have h := h.2 c10
            refine MD_lift (fun G z Q k => T_icmp_eq 157 (dk dt_reckon 30 rfl) (by decide) (fun q => absurd q c10) (fun _ => k)) ?_
            refine MD_lift (fun G z Q k => T_iconst (v := 1) (dk dt_reckon 31 rfl) (by decide +kernel) k) ?_
            refine MD_lift (fun G z Q k => T_goto 158 (dk dt_reckon 32 rfl) (by decide) k) ?_
            exact MD_lift (fun G z Q k => T_sub [0] rfl k) h
        · have h := h.2
          by_cases c11 : l1 = 53
          · have h := h.1 c11
            refine MD_lift (fun G z Q k => T_lookup 161 162 (dk dt_reckon 1 rfl) (by decide +kernel) (by rw [c11]; decide +kernel) (by decide) k) ?_
            refine MD_lift (fun G z Q k => T_iload_n 2 (dk dt_reckon 36 rfl) rfl rfl k) ?_
            refine MD_lift (fun G z Q k => T_iload_n 3 (dk dt_reckon 37 rfl) rfl rfl k) ?_
            by_cases c12 : l3 ≤ l2
            · have h := h.1 c12
              refine MD_lift (fun G z Q k => T_icmp_ge 171 (dk dt_reckon 38 rfl) (by decide) (fun _ => k) (fun q => absurd c12 q)) ?_
              refine MD_lift (fun G z Q k => T_iconst (v := 0) (dk dt_reckon 41 rfl) (by decide +kernel) k) ?_
              exact MD_lift (fun G z Q k => T_sub [0] rfl k) h
            · have h := h.2 c12
              refine MD_lift (fun G z Q k => T_icmp_ge 171 (dk dt_reckon 38 rfl) (by decide) (fun q => absurd q c12) (fun _ => k)) ?_
              refine MD_lift (fun G z Q k => T_iconst (v := 1) (dk dt_reckon 39 rfl) (by decide +kernel) k) ?_
              refine MD_lift (fun G z Q k => T_goto 172 (dk dt_reckon 40 rfl) (by decide) k) ?_
              exact MD_lift (fun G z Q k => T_sub [0] rfl k) h
          · have h := h.2
            by_cases c13 : l1 = 54
            · have h := h.1 c13
              refine MD_lift (fun G z Q k => T_lookup 175 176 (dk dt_reckon 1 rfl) (by decide +kernel) (by rw [c13]; decide +kernel) (by decide) k) ?_
              refine MD_lift (fun G z Q k => T_iload_n 2 (dk dt_reckon 44 rfl) rfl rfl k) ?_
              refine MD_lift (fun G z Q k => T_iload_n 3 (dk dt_reckon 45 rfl) rfl rfl k) ?_
              by_cases c14 : l3 < l2
              · have h := h.1 c14
                refine MD_lift (fun G z Q k => T_icmp_gt 185 (dk dt_reckon 46 rfl) (by decide) (fun _ => k) (fun q => absurd c14 q)) ?_
                refine MD_lift (fun G z Q k => T_iconst (v := 0) (dk dt_reckon 49 rfl) (by decide +kernel) k) ?_
                exact MD_lift (fun G z Q k => T_sub [0] rfl k) h
              · have h := h.2 c14
                refine MD_lift (fun G z Q k => T_icmp_gt 185 (dk dt_reckon 46 rfl) (by decide) (fun q => absurd q c14) (fun _ => k)) ?_
                refine MD_lift (fun G z Q k => T_iconst (v := 1) (dk dt_reckon 47 rfl) (by decide +kernel) k) ?_
                refine MD_lift (fun G z Q k => T_goto 186 (dk dt_reckon 48 rfl) (by decide) k) ?_
                exact MD_lift (fun G z Q k => T_sub [0] rfl k) h
            · have h := h.2
              by_cases c15 : l1 = 55
              · have h := h.1 c15
                refine MD_lift (fun G z Q k => T_lookup 189 190 (dk dt_reckon 1 rfl) (by decide +kernel) (by rw [c15]; decide +kernel) (by decide) k) ?_
                refine MD_lift (fun G z Q k => T_iload_n 2 (dk dt_reckon 52 rfl) rfl rfl k) ?_
                refine MD_lift (fun G z Q k => T_iload_n 3 (dk dt_reckon 53 rfl) rfl rfl k) ?_
                by_cases c16 : l2 ≤ l3
                · have h := h.1 c16
                  refine MD_lift (fun G z Q k => T_icmp_le 199 (dk dt_reckon 54 rfl) (by decide) (fun _ => k) (fun q => absurd c16 q)) ?_
                  refine MD_lift (fun G z Q k => T_iconst (v := 0) (dk dt_reckon 57 rfl) (by decide +kernel) k) ?_
                  exact MD_lift (fun G z Q k => T_sub [0] rfl k) h
                · have h := h.2 c16
                  refine MD_lift (fun G z Q k => T_icmp_le 199 (dk dt_reckon 54 rfl) (by decide) (fun q => absurd q c16) (fun _ => k)) ?_
                  refine MD_lift (fun G z Q k => T_iconst (v := 1) (dk dt_reckon 55 rfl) (by decide +kernel) k) ?_
                  refine MD_lift (fun G z Q k => T_goto 200 (dk dt_reckon 56 rfl) (by decide) k) ?_
                  exact MD_lift (fun G z Q k => T_sub [0] rfl k) h
              · have h := h.2
                by_cases c17 : l1 = 56
                · have h := h.1 c17
                  refine MD_lift (fun G z Q k => T_lookup 203 204 (dk dt_reckon 1 rfl) (by decide +kernel) (by rw [c17]; decide +kernel) (by decide) k) ?_
                  refine MD_lift (fun G z Q k => T_iload_n 2 (dk dt_reckon 60 rfl) rfl rfl k) ?_
                  refine MD_lift (fun G z Q k => T_iload_n 3 (dk dt_reckon 61 rfl) rfl rfl k) ?_
                  by_cases c18 : l2 < l3
                  · have h := h.1 c18
                    refine MD_lift (fun G z Q k => T_icmp_lt 213 (dk dt_reckon 62 rfl) (by decide) (fun _ => k) (fun q => absurd c18 q)) ?_
                    refine MD_lift (fun G z Q k => T_iconst (v := 0) (dk dt_reckon 65 rfl) (by decide +kernel) k) ?_
                    exact MD_lift (fun G z Q k => T_sub [0] rfl k) h
                  · have h := h.2 c18
                    refine MD_lift (fun G z Q k => T_icmp_lt 213 (dk dt_reckon 62 rfl) (by decide) (fun q => absurd q c18) (fun _ => k)) ?_
                    refine MD_lift (fun G z Q k => T_iconst (v := 1) (dk dt_reckon 63 rfl) (by decide +kernel) k) ?_
                    refine MD_lift (fun G z Q k => T_goto 214 (dk dt_reckon 64 rfl) (by decide) k) ?_
                    exact MD_lift (fun G z Q k => T_sub [0] rfl k) h
                · have h := h.2
                  by_cases c19 : l1 = 57
                  · have h := h.1 c19
                    refine MD_lift (fun G z Q k => T_lookup 217 218 (dk dt_reckon 1 rfl) (by decide +kernel) (by rw [c19]; decide +kernel) (by decide) k) ?_
                    refine MD_lift (fun G z Q k => T_iload_n 2 (dk dt_reckon 68 rfl) rfl rfl k) ?_
                    refine MD_lift (fun G z Q k => T_iload_n 3 (dk dt_reckon 69 rfl) rfl rfl k) ?_
                    refine MD_lift (fun G z Q k => T_iadd (dk dt_reckon 70 rfl) k) ?_
                    exact MD_ret (fun G z Q k => MT_iret (dk dt_reckon 71 rfl) rfl rfl k) h
                  · have h := h.2
                    by_cases c20 : l1 = 58
                    · have h := h.1 c20
                      refine MD_lift (fun G z Q k => T_lookup 221 222 (dk dt_reckon 1 rfl) (by decide +kernel) (by rw [c20]; decide +kernel) (by decide) k) ?_
                      refine MD_lift (fun G z Q k => T_iload_n 2 (dk dt_reckon 72 rfl) rfl rfl k) ?_
                      refine MD_lift (fun G z Q k => T_iload_n 3 (dk dt_reckon 73 rfl) rfl rfl k) ?_
                      refine MD_lift (fun G z Q k => T_isub (dk dt_reckon 74 rfl) k) ?_
                      exact MD_ret (fun G z Q k => MT_iret (dk dt_reckon 75 rfl) rfl rfl k) h
                    · have h := h.2
                      by_cases c21 : l1 = 59
                      · have h := h.1 c21
                        refine MD_lift (fun G z Q k => T_lookup 225 226 (dk dt_reckon 1 rfl) (by decide +kernel) (by rw [c21]; decide +kernel) (by decide) k) ?_
                        refine MD_lift (fun G z Q k => T_iload_n 2 (dk dt_reckon 76 rfl) rfl rfl k) ?_
                        refine MD_lift (fun G z Q k => T_iload_n 3 (dk dt_reckon 77 rfl) rfl rfl k) ?_
                        refine MD_lift (fun G z Q k => T_imul (dk dt_reckon 78 rfl) k) ?_
                        exact MD_ret (fun G z Q k => MT_iret (dk dt_reckon 79 rfl) rfl rfl k) h
                      · have h := h.2
                        have n22 : ∀ k ∈ [(30 : Int32), (12 : Int32), (51 : Int32), (52 : Int32), (53 : Int32), (54 : Int32), (55 : Int32), (56 : Int32), (57 : Int32), (58 : Int32), (59 : Int32)], ¬ l1 = k := (gno c1 (gno c4 (gno c7 (gno c9 (gno c11 (gno c13 (gno c15 (gno c17 (gno c19 (gno c20 (gno c21 gno0)))))))))))
                        have h := h n22
                        refine MD_lift (fun G z Q k => T_lookup 229 230 (dk dt_reckon 1 rfl) (by decide +kernel) (glk_d [(30 : Int32), (12 : Int32), (51 : Int32), (52 : Int32), (53 : Int32), (54 : Int32), (55 : Int32), (56 : Int32), (57 : Int32), (58 : Int32), (59 : Int32)] (by decide +kernel) n22) (by decide) k) ?_
                        refine MD_lift (fun G z Q k => T_iload_n 3 (dk dt_reckon 80 rfl) rfl rfl k) ?_
                        by_cases c23 : l3 = (0 : Int32)
                        · have h := h.2 c23
                          refine MD_lift (fun G z Q k => T_if_ne 241 (dk dt_reckon 81 rfl) (by decide) (fun q => absurd c23 q) (fun _ => k)) ?_
                          refine MD_lift (fun G z Q k => T_aload_n 0 (dk dt_reckon 82 rfl) rfl rfl k) ?_
                          refine MD_lift (fun G z Q k => T_iconst (v := 1) (dk dt_reckon 83 rfl) (by decide +kernel) k) ?_
                          obtain ⟨x24, ex24⟩ : ∃ z, z = si x 0 82 1 := ⟨_, rfl⟩
                          have h := h x24 ex24
                          refine MD_wr 0 82 1 (fun G z Q k => T_putI 0 82 (dk dt_reckon 84 rfl) fl_581 mk_0 ml_0 (by decide) rfl ⟨rfl, rfl⟩ k) (hm_f (by decide) _) ?_
                          rw [← ex24]
                          refine MD_lift (fun G z Q k => T_iconst (v := 0) (dk dt_reckon 85 rfl) (by decide +kernel) k) ?_
                          exact MD_ret (fun G z Q k => MT_iret (dk dt_reckon 86 rfl) rfl rfl k) h
                        · have h := h.1 c23
                          refine MD_lift (fun G z Q k => T_if_ne 241 (dk dt_reckon 81 rfl) (by decide) (fun _ => k) (fun q => absurd q c23)) ?_
                          refine MD_lift (fun G z Q k => T_iload_n 1 (dk dt_reckon 87 rfl) rfl rfl k) ?_
                          refine MD_lift (fun G z Q k => T_bipush (v := 60) (dk dt_reckon 88 rfl) (by decide +kernel) k) ?_
                          by_cases c25 : l1 = (60 : Int32)
                          · have h := h.2 c25
                            refine MD_lift (fun G z Q k => T_icmp_ne 263 (dk dt_reckon 89 rfl) (by decide) (fun q => absurd c25 q) (fun _ => k)) ?_
                            refine MD_lift (fun G z Q k => T_iload_n 3 (dk dt_reckon 90 rfl) rfl rfl k) ?_
                            refine MD_lift (fun G z Q k => T_iconst (v := (-1)) (dk dt_reckon 91 rfl) (by decide +kernel) k) ?_
                            by_cases c26 : l3 = (-1 : Int32)
                            · have h := h.2 c26
                              refine MD_lift (fun G z Q k => T_icmp_ne 257 (dk dt_reckon 92 rfl) (by decide) (fun q => absurd c26 q) (fun _ => k)) ?_
                              refine MD_lift (fun G z Q k => T_iload_n 2 (dk dt_reckon 93 rfl) rfl rfl k) ?_
                              refine MD_lift (fun G z Q k => T_ineg (dk dt_reckon 94 rfl) k) ?_
                              refine MD_lift (fun G z Q k => T_goto 275 (dk dt_reckon 95 rfl) (by decide) k) ?_
                              exact MD_ret (fun G z Q k => MT_iret (dk dt_reckon 108 rfl) rfl rfl k) h
                            · have h := h.1 c26
                              refine MD_lift (fun G z Q k => T_icmp_ne 257 (dk dt_reckon 92 rfl) (by decide) (fun _ => k) (fun q => absurd q c26)) ?_
                              refine MD_lift (fun G z Q k => T_iload_n 2 (dk dt_reckon 96 rfl) rfl rfl k) ?_
                              refine MD_lift (fun G z Q k => T_iload_n 3 (dk dt_reckon 97 rfl) rfl rfl k) ?_
                              obtain ⟨h27, h⟩ := h
                              refine MD_lift (fun G z Q k => T_idiv (dk dt_reckon 98 rfl) h27 k) ?_
                              refine MD_lift (fun G z Q k => T_goto 275 (dk dt_reckon 99 rfl) (by decide) k) ?_
                              exact MD_ret (fun G z Q k => MT_iret (dk dt_reckon 108 rfl) rfl rfl k) h
                          · have h := h.1 c25
                            refine MD_lift (fun G z Q k => T_icmp_ne 263 (dk dt_reckon 89 rfl) (by decide) (fun _ => k) (fun q => absurd q c25)) ?_
                            refine MD_lift (fun G z Q k => T_iload_n 3 (dk dt_reckon 100 rfl) rfl rfl k) ?_
                            refine MD_lift (fun G z Q k => T_iconst (v := (-1)) (dk dt_reckon 101 rfl) (by decide +kernel) k) ?_
                            by_cases c28 : l3 = (-1 : Int32)
                            · have h := h.2 c28
                              refine MD_lift (fun G z Q k => T_icmp_ne 272 (dk dt_reckon 102 rfl) (by decide) (fun q => absurd c28 q) (fun _ => k)) ?_
                              refine MD_lift (fun G z Q k => T_iconst (v := 0) (dk dt_reckon 103 rfl) (by decide +kernel) k) ?_
                              refine MD_lift (fun G z Q k => T_goto 275 (dk dt_reckon 104 rfl) (by decide) k) ?_
                              exact MD_ret (fun G z Q k => MT_iret (dk dt_reckon 108 rfl) rfl rfl k) h
                            · have h := h.1 c28
                              refine MD_lift (fun G z Q k => T_icmp_ne 272 (dk dt_reckon 102 rfl) (by decide) (fun _ => k) (fun q => absurd q c28)) ?_
                              refine MD_lift (fun G z Q k => T_iload_n 2 (dk dt_reckon 105 rfl) rfl rfl k) ?_
                              refine MD_lift (fun G z Q k => T_iload_n 3 (dk dt_reckon 106 rfl) rfl rfl k) ?_
                              obtain ⟨h29, h⟩ := h
                              refine MD_lift (fun G z Q k => T_irem (dk dt_reckon 107 rfl) h29 k) ?_
                              exact MD_ret (fun G z Q k => MT_iret (dk dt_reckon 108 rfl) rfl rfl k) h
set_option maxRecDepth 100000 in
set_option maxHeartbeats 4000000 in
theorem sd_reckon_113 {d : Nat} {S : gS} {x : gd} {P : Option gv → gd → gS → Prop} (s0 : Int32)
    (h : MD d z_one 0 [(0, vi s0)] [] S x (Di (fun r2 x1 S1 => P (some (vi r2)) x1 S1))) :
    MD (d + 1) z_reckon 113 [(0, vr 0)] [vi s0] S x P := by
  refine MD_calli (fun G z F Q k kk => MT_callSi [vi s0] [] rfl (dk dt_reckon 9 rfl) cs_587 rfl (Nat.le_of_ble_eq_true rfl) (Nat.le_of_ble_eq_true rfl) rfl rfl k kk) h (fun r2 x1 S1 h => ?_)
  exact MD_ret (fun G z Q k => MT_iret (dk dt_reckon 10 rfl) rfl rfl k) h
set_option maxRecDepth 100000 in
set_option maxHeartbeats 4000000 in
theorem sd_reckon_130 {d : Nat} {S : gS} {x : gd} {P : Option gv → gd → gS → Prop} (s0 : Int32)
    (h : MD d z_one 0 [(0, vi s0)] [] S x (Di (fun r2 x1 S1 => P (some (vi r2)) x1 S1))) :
    MD (d + 1) z_reckon 130 [(0, vr 0)] [vi s0] S x P := by
  refine MD_calli (fun G z F Q k kk => MT_callSi [vi s0] [] rfl (dk dt_reckon 18 rfl) cs_587 rfl (Nat.le_of_ble_eq_true rfl) (Nat.le_of_ble_eq_true rfl) rfl rfl k kk) h (fun r2 x1 S1 h => ?_)
  exact MD_ret (fun G z Q k => MT_iret (dk dt_reckon 19 rfl) rfl rfl k) h
set_option maxRecDepth 100000 in
set_option maxHeartbeats 4000000 in
theorem sd_reckon_144 {d : Nat} {S : gS} {x : gd} {P : Option gv → gd → gS → Prop} (s0 : Int32)
    (h : MD d z_one 0 [(0, vi s0)] [] S x (Di (fun r2 x1 S1 => P (some (vi r2)) x1 S1))) :
    MD (d + 1) z_reckon 144 [(0, vr 0)] [vi s0] S x P := by
  refine MD_calli (fun G z F Q k kk => MT_callSi [vi s0] [] rfl (dk dt_reckon 26 rfl) cs_587 rfl (Nat.le_of_ble_eq_true rfl) (Nat.le_of_ble_eq_true rfl) rfl rfl k kk) h (fun r2 x1 S1 h => ?_)
  exact MD_ret (fun G z Q k => MT_iret (dk dt_reckon 27 rfl) rfl rfl k) h
set_option maxRecDepth 100000 in
set_option maxHeartbeats 4000000 in
theorem sd_reckon_158 {d : Nat} {S : gS} {x : gd} {P : Option gv → gd → gS → Prop} (s0 : Int32)
    (h : MD d z_one 0 [(0, vi s0)] [] S x (Di (fun r2 x1 S1 => P (some (vi r2)) x1 S1))) :
    MD (d + 1) z_reckon 158 [(0, vr 0)] [vi s0] S x P := by
  refine MD_calli (fun G z F Q k kk => MT_callSi [vi s0] [] rfl (dk dt_reckon 34 rfl) cs_587 rfl (Nat.le_of_ble_eq_true rfl) (Nat.le_of_ble_eq_true rfl) rfl rfl k kk) h (fun r2 x1 S1 h => ?_)
  exact MD_ret (fun G z Q k => MT_iret (dk dt_reckon 35 rfl) rfl rfl k) h
set_option maxRecDepth 100000 in
set_option maxHeartbeats 4000000 in
theorem sd_reckon_172 {d : Nat} {S : gS} {x : gd} {P : Option gv → gd → gS → Prop} (s0 : Int32)
    (h : MD d z_one 0 [(0, vi s0)] [] S x (Di (fun r2 x1 S1 => P (some (vi r2)) x1 S1))) :
    MD (d + 1) z_reckon 172 [(0, vr 0)] [vi s0] S x P := by
  refine MD_calli (fun G z F Q k kk => MT_callSi [vi s0] [] rfl (dk dt_reckon 42 rfl) cs_587 rfl (Nat.le_of_ble_eq_true rfl) (Nat.le_of_ble_eq_true rfl) rfl rfl k kk) h (fun r2 x1 S1 h => ?_)
  exact MD_ret (fun G z Q k => MT_iret (dk dt_reckon 43 rfl) rfl rfl k) h
set_option maxRecDepth 100000 in
set_option maxHeartbeats 4000000 in
theorem sd_reckon_186 {d : Nat} {S : gS} {x : gd} {P : Option gv → gd → gS → Prop} (s0 : Int32)
    (h : MD d z_one 0 [(0, vi s0)] [] S x (Di (fun r2 x1 S1 => P (some (vi r2)) x1 S1))) :
    MD (d + 1) z_reckon 186 [(0, vr 0)] [vi s0] S x P := by
  refine MD_calli (fun G z F Q k kk => MT_callSi [vi s0] [] rfl (dk dt_reckon 50 rfl) cs_587 rfl (Nat.le_of_ble_eq_true rfl) (Nat.le_of_ble_eq_true rfl) rfl rfl k kk) h (fun r2 x1 S1 h => ?_)
  exact MD_ret (fun G z Q k => MT_iret (dk dt_reckon 51 rfl) rfl rfl k) h
set_option maxRecDepth 100000 in
set_option maxHeartbeats 4000000 in
theorem sd_reckon_200 {d : Nat} {S : gS} {x : gd} {P : Option gv → gd → gS → Prop} (s0 : Int32)
    (h : MD d z_one 0 [(0, vi s0)] [] S x (Di (fun r2 x1 S1 => P (some (vi r2)) x1 S1))) :
    MD (d + 1) z_reckon 200 [(0, vr 0)] [vi s0] S x P := by
  refine MD_calli (fun G z F Q k kk => MT_callSi [vi s0] [] rfl (dk dt_reckon 58 rfl) cs_587 rfl (Nat.le_of_ble_eq_true rfl) (Nat.le_of_ble_eq_true rfl) rfl rfl k kk) h (fun r2 x1 S1 h => ?_)
  exact MD_ret (fun G z Q k => MT_iret (dk dt_reckon 59 rfl) rfl rfl k) h
set_option maxRecDepth 100000 in
set_option maxHeartbeats 4000000 in
theorem sd_reckon_214 {d : Nat} {S : gS} {x : gd} {P : Option gv → gd → gS → Prop} (s0 : Int32)
    (h : MD d z_one 0 [(0, vi s0)] [] S x (Di (fun r2 x1 S1 => P (some (vi r2)) x1 S1))) :
    MD (d + 1) z_reckon 214 [(0, vr 0)] [vi s0] S x P := by
  refine MD_calli (fun G z F Q k kk => MT_callSi [vi s0] [] rfl (dk dt_reckon 66 rfl) cs_587 rfl (Nat.le_of_ble_eq_true rfl) (Nat.le_of_ble_eq_true rfl) rfl rfl k kk) h (fun r2 x1 S1 h => ?_)
  exact MD_ret (fun G z Q k => MT_iret (dk dt_reckon 67 rfl) rfl rfl k) h
end
section
set_option maxRecDepth 100000 in
set_option maxHeartbeats 4000000 in
theorem sd_worked_0 {d : Nat} {S : gS} {x : gd} {P : Option gv → gd → gS → Prop} (l1 : Int32) (l2 : Int32)
    (h : (∀ x1 : gd, x1 = si x 0 82 0 → MD (d + 1) z_worked 10 [(0, vr 0), (2, vi l2), (3, vi 0), (4, vi l1)] [] (sadd S 0 82) x1 P)) :
    MD (d + 1) z_worked 0 [(0, vr 0), (1, vi l1), (2, vi l2)] [] S x P := by
  refine MD_lift (fun G z Q k => T_iconst (v := 0) (dk dt_worked 0 rfl) (by decide +kernel) k) ?_
  refine MD_lift (fun G z Q k => T_istore_n (lv2 := [(3, vi 0), (0, vr 0), (1, vi l1), (2, vi l2)]) (dk dt_worked 1 rfl) rfl (by decide) rfl k) ?_
  refine MD_lift (fun G z Q k => T_aload_n 1 (dk dt_worked 2 rfl) rfl rfl k) ?_
  refine MD_lift (fun G z Q k => T_iconst (v := 0) (dk dt_worked 3 rfl) (by decide +kernel) k) ?_
  obtain ⟨x1, ex1⟩ : ∃ z, z = si x 0 82 0 := ⟨_, rfl⟩
  have h := h x1 ex1
  refine MD_wr 0 82 0 (fun G z Q k => T_putI 0 82 (dk dt_worked 4 rfl) fl_581 mk_0 ml_0 (by decide) rfl ⟨rfl, rfl⟩ k) (hm_f (by decide) _) ?_
  rw [← ex1]
  refine MD_lift (fun G z Q k => T_iload_n 2 (dk dt_worked 5 rfl) rfl rfl k) ?_
  refine MD_lift (fun G z Q k => T_istore (lv2 := [(4, vi l1), (3, vi 0), (0, vr 0), (1, vi l1), (2, vi l2)]) (dk dt_worked 6 rfl) (by decide) rfl k) ?_
  exact MD_lift (fun G z Q k => T_sub [2, 4, 1, 0] rfl k) h
set_option maxRecDepth 100000 in
set_option maxHeartbeats 4000000 in
theorem sd_worked_10 {d : Nat} {S : gS} {x : gd} {P : Option gv → gd → gS → Prop} (l2 : Int32) (l3 : Int32) (l4 : Int32)
    (h : vp_in l4 6000 ∧ (((x.1 51 (l4 : Int32).toNatClampNeg) = (0 : Int32) → vp_in 0 60 ∧ S 84 (0 : Int32).toNatClampNeg ∧ P (some (vi (x.1 84 (0 : Int32).toNatClampNeg))) x S) ∧ (¬ ((x.1 51 (l4 : Int32).toNatClampNeg) = (0 : Int32)) → vp_in l4 6000 ∧ vp_in l4 6000 ∧ ((((x.1 51 (l4 : Int32).toNatClampNeg) = 1) → vp_in l3 60 ∧ (∀ x9 : gd, x9 = si x 84 (l3 : Int32).toNatClampNeg (x.1 52 (l4 : Int32).toNatClampNeg) → MD (d + 1) z_worked 10 [(0, vr 0), (2, vi l2), (3, vi (l3 + 1)), (4, vi (l4 + 1))] [] (sadd S 84 ((l3 : Int32).toNatClampNeg)) x9 P)) ∧ (((x.1 51 (l4 : Int32).toNatClampNeg) = 2) → vp_in ((8 * l2) + (x.1 52 (l4 : Int32).toNatClampNeg)) 48 ∧ vp_in l3 60 ∧ (∀ x13 : gd, x13 = si x 84 (l3 : Int32).toNatClampNeg (x.1 76 ((8 * l2) + (x.1 52 (l4 : Int32).toNatClampNeg) : Int32).toNatClampNeg) → MD (d + 1) z_worked 10 [(0, vr 0), (2, vi l2), (3, vi (l3 + 1)), (4, vi (l4 + 1))] [] (sadd S 84 ((l3 : Int32).toNatClampNeg)) x13 P)) ∧ (((x.1 51 (l4 : Int32).toNatClampNeg) = 3) → vp_in l3 60 ∧ (∀ x16 : gd, x16 = si x 84 (l3 : Int32).toNatClampNeg l2 → MD (d + 1) z_worked 10 [(0, vr 0), (2, vi l2), (3, vi (l3 + 1)), (4, vi (l4 + 1))] [] (sadd S 84 ((l3 : Int32).toNatClampNeg)) x16 P)) ∧ (((x.1 51 (l4 : Int32).toNatClampNeg) = 4) → vp_in (x.1 52 (l4 : Int32).toNatClampNeg) 24 ∧ vp_in l3 60 ∧ (∀ x20 : gd, x20 = si x 84 (l3 : Int32).toNatClampNeg (x.1 70 (x.1 52 (l4 : Int32).toNatClampNeg : Int32).toNatClampNeg) → MD (d + 1) z_worked 10 [(0, vr 0), (2, vi l2), (3, vi (l3 + 1)), (4, vi (l4 + 1))] [] (sadd S 84 ((l3 : Int32).toNatClampNeg)) x20 P)) ∧ (((x.1 51 (l4 : Int32).toNatClampNeg) = 5) → ((¬ ((x.1 52 (l4 : Int32).toNatClampNeg) = (29 : Int32)) → vp_in (l3 - 1) 60 ∧ S 84 (l3 - 1 : Int32).toNatClampNeg ∧ vp_in (l3 - 1) 60 ∧ (∀ x33 : gd, x33 = si x 84 (l3 - 1 : Int32).toNatClampNeg (-(x.1 84 (l3 - 1 : Int32).toNatClampNeg)) → MD (d + 1) z_worked 10 [(0, vr 0), (2, vi l2), (3, vi l3), (4, vi (l4 + 1))] [] (sadd S 84 ((l3 - 1 : Int32).toNatClampNeg)) x33 P)) ∧ ((x.1 52 (l4 : Int32).toNatClampNeg) = (29 : Int32) → vp_in (l3 - 1) 60 ∧ S 84 (l3 - 1 : Int32).toNatClampNeg ∧ ((¬ ((x.1 84 (l3 - 1 : Int32).toNatClampNeg) = (0 : Int32)) → vp_in (l3 - 1) 60 ∧ (∀ x29 : gd, x29 = si x 84 (l3 - 1 : Int32).toNatClampNeg 0 → MD (d + 1) z_worked 10 [(0, vr 0), (2, vi l2), (3, vi l3), (4, vi (l4 + 1))] [] (sadd S 84 ((l3 - 1 : Int32).toNatClampNeg)) x29 P)) ∧ ((x.1 84 (l3 - 1 : Int32).toNatClampNeg) = (0 : Int32) → vp_in (l3 - 1) 60 ∧ (∀ x27 : gd, x27 = si x 84 (l3 - 1 : Int32).toNatClampNeg 1 → MD (d + 1) z_worked 10 [(0, vr 0), (2, vi l2), (3, vi l3), (4, vi (l4 + 1))] [] (sadd S 84 ((l3 - 1 : Int32).toNatClampNeg)) x27 P)))))) ∧ ((∀ k ∈ [(1 : Int32), (2 : Int32), (3 : Int32), (4 : Int32), (5 : Int32)], ¬ (x.1 51 (l4 : Int32).toNatClampNeg) = k) → vp_in ((l3 + (-1)) - 1) 60 ∧ S 84 ((l3 + (-1)) - 1 : Int32).toNatClampNeg ∧ vp_in (l3 + (-1)) 60 ∧ S 84 (l3 + (-1) : Int32).toNatClampNeg ∧ MD d z_reckon 0 [(0, vr 0), (1, vi (x.1 52 (l4 : Int32).toNatClampNeg)), (2, vi (x.1 84 ((l3 + (-1)) - 1 : Int32).toNatClampNeg)), (3, vi (x.1 84 (l3 + (-1) : Int32).toNatClampNeg))] [] S x (Di (fun r40 x39 S39 => vp_in ((l3 + (-1)) - 1) 60 ∧ (∀ x42 : gd, x42 = si x39 84 ((l3 + (-1)) - 1 : Int32).toNatClampNeg r40 → (sadd S39 84 (((l3 + (-1)) - 1 : Int32).toNatClampNeg)) 0 82 ∧ (((x42.1 0 82) ≤ (0 : Int32) → MD (d + 1) z_worked 10 [(0, vr 0), (2, vi l2), (3, vi (l3 + (-1))), (4, vi (l4 + 1))] [] (sadd S39 84 (((l3 + (-1)) - 1 : Int32).toNatClampNeg)) x42 P) ∧ (¬ ((x42.1 0 82) ≤ (0 : Int32)) → P (some (vi 0)) x42 (sadd S39 84 (((l3 + (-1)) - 1 : Int32).toNatClampNeg)))))))))))) :
    MD (d + 1) z_worked 10 [(0, vr 0), (2, vi l2), (3, vi l3), (4, vi l4)] [] S x P := by
  refine MD_lift (fun G z Q k => T_aload_n 0 (dk dt_worked 7 rfl) rfl rfl k) ?_
  refine MD_lift (fun G z Q k => T_getR 0 50 51 (dk dt_worked 8 rfl) fl_97 mk_0 ml_0 (by decide) rfl rfl k) ?_
  refine MD_lift (fun G z Q k => T_iload 3 (dk dt_worked 9 rfl) rfl k) ?_
  obtain ⟨h1, h⟩ := h
  refine MD_read (fun z => z.1 51 (l4 : Int32).toNatClampNeg) (fun G z Q k => T_iald 51 6000 (dk dt_worked 10 rfl) mk_51 ml_51 h1 k) (fun z e => e 51 _ (Or.inl (core_a (by decide) h1))) ?_
  by_cases c2 : (x.1 51 (l4 : Int32).toNatClampNeg) = (0 : Int32)
  · have h := h.1 c2
    refine MD_lift (fun G z Q k => T_if_eq 234 (dk dt_worked 11 rfl) (by decide) (fun _ => k) (fun q => absurd c2 q)) ?_
    refine MD_lift (fun G z Q k => T_aload_n 0 (dk dt_worked 115 rfl) rfl rfl k) ?_
    refine MD_lift (fun G z Q k => T_getR 0 83 84 (dk dt_worked 116 rfl) fl_181 mk_0 ml_0 (by decide) rfl rfl k) ?_
    refine MD_lift (fun G z Q k => T_iconst (v := 0) (dk dt_worked 117 rfl) (by decide +kernel) k) ?_
    obtain ⟨h3, h⟩ := h
    obtain ⟨h4, h⟩ := h
    refine MD_read (fun z => z.1 84 (0 : Int32).toNatClampNeg) (fun G z Q k => T_iald 84 60 (dk dt_worked 118 rfl) mk_84 ml_84 h3 k) (fun z e => e 84 _ (Or.inr h4)) ?_
    exact MD_ret (fun G z Q k => MT_iret (dk dt_worked 119 rfl) rfl rfl k) h
  · have h := h.2 c2
    refine MD_lift (fun G z Q k => T_if_eq 234 (dk dt_worked 11 rfl) (by decide) (fun q => absurd q c2) (fun _ => k)) ?_
    refine MD_lift (fun G z Q k => T_aload_n 0 (dk dt_worked 12 rfl) rfl rfl k) ?_
    refine MD_lift (fun G z Q k => T_getR 0 51 52 (dk dt_worked 13 rfl) fl_100 mk_0 ml_0 (by decide) rfl rfl k) ?_
    refine MD_lift (fun G z Q k => T_iload 3 (dk dt_worked 14 rfl) rfl k) ?_
    obtain ⟨h5, h⟩ := h
    refine MD_read (fun z => z.1 52 (l4 : Int32).toNatClampNeg) (fun G z Q k => T_iald 52 6000 (dk dt_worked 15 rfl) mk_52 ml_52 h5 k) (fun z e => e 52 _ (Or.inl (core_a (by decide) h5))) ?_
    refine MD_lift (fun G z Q k => T_istore (lv2 := [(5, vi (x.1 52 (l4 : Int32).toNatClampNeg)), (0, vr 0), (2, vi l2), (3, vi l3), (4, vi l4)]) (dk dt_worked 16 rfl) (by decide) rfl k) ?_
    refine MD_lift (fun G z Q k => T_aload_n 1 (dk dt_worked 17 rfl) rfl rfl k) ?_
    refine MD_lift (fun G z Q k => T_getR 0 50 51 (dk dt_worked 18 rfl) fl_97 mk_0 ml_0 (by decide) rfl rfl k) ?_
    refine MD_lift (fun G z Q k => T_iload 4 (dk dt_worked 19 rfl) rfl k) ?_
    obtain ⟨h6, h⟩ := h
    refine MD_read (fun z => z.1 51 (l4 : Int32).toNatClampNeg) (fun G z Q k => T_iald 51 6000 (dk dt_worked 20 rfl) mk_51 ml_51 h6 k) (fun z e => e 51 _ (Or.inl (core_a (by decide) h6))) ?_
    by_cases c7 : (x.1 51 (l4 : Int32).toNatClampNeg) = 1
    · have h := h.1 c7
      refine MD_lift (fun G z Q k => T_table 36 72 (dk dt_worked 21 rfl) (by decide) (by rw [c7]; decide +kernel) (by decide) k) ?_
      refine MD_lift (fun G z Q k => T_aload_n 1 (dk dt_worked 22 rfl) rfl rfl k) ?_
      refine MD_lift (fun G z Q k => T_getR 0 83 84 (dk dt_worked 23 rfl) fl_181 mk_0 ml_0 (by decide) rfl rfl k) ?_
      refine MD_lift (fun G z Q k => T_iload_n 3 (dk dt_worked 24 rfl) rfl rfl k) ?_
      refine MD_lift (fun G z Q k => T_iload 0 (dk dt_worked 25 rfl) rfl k) ?_
      obtain ⟨h8, h⟩ := h
      obtain ⟨x9, ex9⟩ : ∃ z, z = si x 84 (l3 : Int32).toNatClampNeg (x.1 52 (l4 : Int32).toNatClampNeg) := ⟨_, rfl⟩
      have h := h x9 ex9
      refine MD_wr 84 ((l3 : Int32).toNatClampNeg) (x.1 52 (l4 : Int32).toNatClampNeg) (fun G z Q k => T_iast 84 60 (dk dt_worked 26 rfl) mk_84 ml_84 h8 k) (hm_a (by decide) _ _) ?_
      rw [← ex9]
      refine MD_lift (fun G z Q k => T_iinc (v := l3 + 1) (lv2 := [(3, vi (l3 + 1)), (5, vi (x.1 52 (l4 : Int32).toNatClampNeg)), (0, vr 0), (2, vi l2), (4, vi l4)]) 3 (dk dt_worked 27 rfl) rfl rfl (by decide) rfl k) ?_
      refine MD_lift (fun G z Q k => T_goto 228 (dk dt_worked 28 rfl) (by decide) k) ?_
      refine MD_lift (fun G z Q k => T_iinc (v := l4 + 1) (lv2 := [(4, vi (l4 + 1)), (3, vi (l3 + 1)), (5, vi (x.1 52 (l4 : Int32).toNatClampNeg)), (0, vr 0), (2, vi l2)]) 4 (dk dt_worked 113 rfl) rfl rfl (by decide) rfl k) ?_
      refine MD_lift (fun G z Q k => T_goto 10 (dk dt_worked 114 rfl) (by decide) k) ?_
      exact MD_lift (fun G z Q k => T_sub [3, 4, 1, 0] rfl k) h
    · have h := h.2
      by_cases c10 : (x.1 51 (l4 : Int32).toNatClampNeg) = 2
      · have h := h.1 c10
        refine MD_lift (fun G z Q k => T_table 50 86 (dk dt_worked 21 rfl) (by decide) (by rw [c10]; decide +kernel) (by decide) k) ?_
        refine MD_lift (fun G z Q k => T_aload_n 1 (dk dt_worked 29 rfl) rfl rfl k) ?_
        refine MD_lift (fun G z Q k => T_getR 0 83 84 (dk dt_worked 30 rfl) fl_181 mk_0 ml_0 (by decide) rfl rfl k) ?_
        refine MD_lift (fun G z Q k => T_iload_n 3 (dk dt_worked 31 rfl) rfl rfl k) ?_
        refine MD_lift (fun G z Q k => T_aload_n 1 (dk dt_worked 32 rfl) rfl rfl k) ?_
        refine MD_lift (fun G z Q k => T_getR 0 75 76 (dk dt_worked 33 rfl) fl_160 mk_0 ml_0 (by decide) rfl rfl k) ?_
        refine MD_lift (fun G z Q k => T_bipush (v := 8) (dk dt_worked 34 rfl) (by decide +kernel) k) ?_
        refine MD_lift (fun G z Q k => T_iload_n 2 (dk dt_worked 35 rfl) rfl rfl k) ?_
        refine MD_lift (fun G z Q k => T_imul (dk dt_worked 36 rfl) k) ?_
        refine MD_lift (fun G z Q k => T_iload 0 (dk dt_worked 37 rfl) rfl k) ?_
        refine MD_lift (fun G z Q k => T_iadd (dk dt_worked 38 rfl) k) ?_
        obtain ⟨h11, h⟩ := h
        refine MD_read (fun z => z.1 76 ((8 * l2) + (x.1 52 (l4 : Int32).toNatClampNeg) : Int32).toNatClampNeg) (fun G z Q k => T_iald 76 48 (dk dt_worked 39 rfl) mk_76 ml_76 h11 k) (fun z e => e 76 _ (Or.inl (core_a (by decide) h11))) ?_
        obtain ⟨h12, h⟩ := h
        obtain ⟨x13, ex13⟩ : ∃ z, z = si x 84 (l3 : Int32).toNatClampNeg (x.1 76 ((8 * l2) + (x.1 52 (l4 : Int32).toNatClampNeg) : Int32).toNatClampNeg) := ⟨_, rfl⟩
        have h := h x13 ex13
        refine MD_wr 84 ((l3 : Int32).toNatClampNeg) (x.1 76 ((8 * l2) + (x.1 52 (l4 : Int32).toNatClampNeg) : Int32).toNatClampNeg) (fun G z Q k => T_iast 84 60 (dk dt_worked 40 rfl) mk_84 ml_84 h12 k) (hm_a (by decide) _ _) ?_
        rw [← ex13]
        refine MD_lift (fun G z Q k => T_iinc (v := l3 + 1) (lv2 := [(3, vi (l3 + 1)), (5, vi (x.1 52 (l4 : Int32).toNatClampNeg)), (0, vr 0), (2, vi l2), (4, vi l4)]) 3 (dk dt_worked 41 rfl) rfl rfl (by decide) rfl k) ?_
        refine MD_lift (fun G z Q k => T_goto 228 (dk dt_worked 42 rfl) (by decide) k) ?_
        refine MD_lift (fun G z Q k => T_iinc (v := l4 + 1) (lv2 := [(4, vi (l4 + 1)), (3, vi (l3 + 1)), (5, vi (x.1 52 (l4 : Int32).toNatClampNeg)), (0, vr 0), (2, vi l2)]) 4 (dk dt_worked 113 rfl) rfl rfl (by decide) rfl k) ?_
        refine MD_lift (fun G z Q k => T_goto 10 (dk dt_worked 114 rfl) (by decide) k) ?_
        exact MD_lift (fun G z Q k => T_sub [3, 4, 1, 0] rfl k) h
      · have h := h.2
        by_cases c14 : (x.1 51 (l4 : Int32).toNatClampNeg) = 3
        · have h := h.1 c14
          refine MD_lift (fun G z Q k => T_table 74 110 (dk dt_worked 21 rfl) (by decide) (by rw [c14]; decide +kernel) (by decide) k) ?_
          refine MD_lift (fun G z Q k => T_aload_n 1 (dk dt_worked 43 rfl) rfl rfl k) ?_
          refine MD_lift (fun G z Q k => T_getR 0 83 84 (dk dt_worked 44 rfl) fl_181 mk_0 ml_0 (by decide) rfl rfl k) ?_
          refine MD_lift (fun G z Q k => T_iload_n 3 (dk dt_worked 45 rfl) rfl rfl k) ?_
          refine MD_lift (fun G z Q k => T_iload_n 2 (dk dt_worked 46 rfl) rfl rfl k) ?_
          obtain ⟨h15, h⟩ := h
          obtain ⟨x16, ex16⟩ : ∃ z, z = si x 84 (l3 : Int32).toNatClampNeg l2 := ⟨_, rfl⟩
          have h := h x16 ex16
          refine MD_wr 84 ((l3 : Int32).toNatClampNeg) l2 (fun G z Q k => T_iast 84 60 (dk dt_worked 47 rfl) mk_84 ml_84 h15 k) (hm_a (by decide) _ _) ?_
          rw [← ex16]
          refine MD_lift (fun G z Q k => T_iinc (v := l3 + 1) (lv2 := [(3, vi (l3 + 1)), (5, vi (x.1 52 (l4 : Int32).toNatClampNeg)), (0, vr 0), (2, vi l2), (4, vi l4)]) 3 (dk dt_worked 48 rfl) rfl rfl (by decide) rfl k) ?_
          refine MD_lift (fun G z Q k => T_goto 228 (dk dt_worked 49 rfl) (by decide) k) ?_
          refine MD_lift (fun G z Q k => T_iinc (v := l4 + 1) (lv2 := [(4, vi (l4 + 1)), (3, vi (l3 + 1)), (5, vi (x.1 52 (l4 : Int32).toNatClampNeg)), (0, vr 0), (2, vi l2)]) 4 (dk dt_worked 113 rfl) rfl rfl (by decide) rfl k) ?_
          refine MD_lift (fun G z Q k => T_goto 10 (dk dt_worked 114 rfl) (by decide) k) ?_
          exact MD_lift (fun G z Q k => T_sub [3, 4, 1, 0] rfl k) h
        · have h := h.2
          by_cases c17 : (x.1 51 (l4 : Int32).toNatClampNeg) = 4
          · have h := h.1 c17
            refine MD_lift (fun G z Q k => T_table 87 123 (dk dt_worked 21 rfl) (by decide) (by rw [c17]; decide +kernel) (by decide) k) ?_
            refine MD_lift (fun G z Q k => T_aload_n 1 (dk dt_worked 50 rfl) rfl rfl k) ?_
            refine MD_lift (fun G z Q k => T_getR 0 83 84 (dk dt_worked 51 rfl) fl_181 mk_0 ml_0 (by decide) rfl rfl k) ?_
            refine MD_lift (fun G z Q k => T_iload_n 3 (dk dt_worked 52 rfl) rfl rfl k) ?_
            refine MD_lift (fun G z Q k => T_aload_n 1 (dk dt_worked 53 rfl) rfl rfl k) ?_
            refine MD_lift (fun G z Q k => T_getR 0 69 70 (dk dt_worked 54 rfl) fl_142 mk_0 ml_0 (by decide) rfl rfl k) ?_
            refine MD_lift (fun G z Q k => T_iload 0 (dk dt_worked 55 rfl) rfl k) ?_
            obtain ⟨h18, h⟩ := h
            refine MD_read (fun z => z.1 70 (x.1 52 (l4 : Int32).toNatClampNeg : Int32).toNatClampNeg) (fun G z Q k => T_iald 70 24 (dk dt_worked 56 rfl) mk_70 ml_70 h18 k) (fun z e => e 70 _ (Or.inl (core_a (by decide) h18))) ?_
            obtain ⟨h19, h⟩ := h
            obtain ⟨x20, ex20⟩ : ∃ z, z = si x 84 (l3 : Int32).toNatClampNeg (x.1 70 (x.1 52 (l4 : Int32).toNatClampNeg : Int32).toNatClampNeg) := ⟨_, rfl⟩
            have h := h x20 ex20
            refine MD_wr 84 ((l3 : Int32).toNatClampNeg) (x.1 70 (x.1 52 (l4 : Int32).toNatClampNeg : Int32).toNatClampNeg) (fun G z Q k => T_iast 84 60 (dk dt_worked 57 rfl) mk_84 ml_84 h19 k) (hm_a (by decide) _ _) ?_
            rw [← ex20]
            refine MD_lift (fun G z Q k => T_iinc (v := l3 + 1) (lv2 := [(3, vi (l3 + 1)), (5, vi (x.1 52 (l4 : Int32).toNatClampNeg)), (0, vr 0), (2, vi l2), (4, vi l4)]) 3 (dk dt_worked 58 rfl) rfl rfl (by decide) rfl k) ?_
            refine MD_lift (fun G z Q k => T_goto 228 (dk dt_worked 59 rfl) (by decide) k) ?_
            refine MD_lift (fun G z Q k => T_iinc (v := l4 + 1) (lv2 := [(4, vi (l4 + 1)), (3, vi (l3 + 1)), (5, vi (x.1 52 (l4 : Int32).toNatClampNeg)), (0, vr 0), (2, vi l2)]) 4 (dk dt_worked 113 rfl) rfl rfl (by decide) rfl k) ?_
            refine MD_lift (fun G z Q k => T_goto 10 (dk dt_worked 114 rfl) (by decide) k) ?_
            exact MD_lift (fun G z Q k => T_sub [3, 4, 1, 0] rfl k) h
          · have h := h.2
            by_cases c21 : (x.1 51 (l4 : Int32).toNatClampNeg) = 5
            · have h := h.1 c21
              refine MD_lift (fun G z Q k => T_table 106 142 (dk dt_worked 21 rfl) (by decide) (by rw [c21]; decide +kernel) (by decide) k) ?_
              refine MD_lift (fun G z Q k => T_aload_n 1 (dk dt_worked 60 rfl) rfl rfl k) ?_
              refine MD_lift (fun G z Q k => T_getR 0 83 84 (dk dt_worked 61 rfl) fl_181 mk_0 ml_0 (by decide) rfl rfl k) ?_
              refine MD_lift (fun G z Q k => T_iload_n 3 (dk dt_worked 62 rfl) rfl rfl k) ?_
              refine MD_lift (fun G z Q k => T_iconst (v := 1) (dk dt_worked 63 rfl) (by decide +kernel) k) ?_
              refine MD_lift (fun G z Q k => T_isub (dk dt_worked 64 rfl) k) ?_
              refine MD_lift (fun G z Q k => T_iload 0 (dk dt_worked 65 rfl) rfl k) ?_
              refine MD_lift (fun G z Q k => T_bipush (v := 29) (dk dt_worked 66 rfl) (by decide +kernel) k) ?_
              by_cases c22 : (x.1 52 (l4 : Int32).toNatClampNeg) = (29 : Int32)
              · have h := h.2 c22
                refine MD_lift (fun G z Q k => T_icmp_ne 175 (dk dt_worked 67 rfl) (by decide) (fun q => absurd c22 q) (fun _ => k)) ?_
                refine MD_lift (fun G z Q k => T_aload_n 1 (dk dt_worked 68 rfl) rfl rfl k) ?_
                refine MD_lift (fun G z Q k => T_getR 0 83 84 (dk dt_worked 69 rfl) fl_181 mk_0 ml_0 (by decide) rfl rfl k) ?_
                refine MD_lift (fun G z Q k => T_iload_n 3 (dk dt_worked 70 rfl) rfl rfl k) ?_
                refine MD_lift (fun G z Q k => T_iconst (v := 1) (dk dt_worked 71 rfl) (by decide +kernel) k) ?_
                refine MD_lift (fun G z Q k => T_isub (dk dt_worked 72 rfl) k) ?_
                obtain ⟨h23, h⟩ := h
                obtain ⟨h24, h⟩ := h
                refine MD_read (fun z => z.1 84 (l3 - 1 : Int32).toNatClampNeg) (fun G z Q k => T_iald 84 60 (dk dt_worked 73 rfl) mk_84 ml_84 h23 k) (fun z e => e 84 _ (Or.inr h24)) ?_
                by_cases c25 : (x.1 84 (l3 - 1 : Int32).toNatClampNeg) = (0 : Int32)
                · have h := h.2 c25
                  refine MD_lift (fun G z Q k => T_if_ne 171 (dk dt_worked 74 rfl) (by decide) (fun q => absurd c25 q) (fun _ => k)) ?_
                  refine MD_lift (fun G z Q k => T_iconst (v := 1) (dk dt_worked 75 rfl) (by decide +kernel) k) ?_
                  refine MD_lift (fun G z Q k => T_goto 184 (dk dt_worked 76 rfl) (by decide) k) ?_
                  obtain ⟨h26, h⟩ := h
                  obtain ⟨x27, ex27⟩ : ∃ z, z = si x 84 (l3 - 1 : Int32).toNatClampNeg 1 := ⟨_, rfl⟩
                  have h := h x27 ex27
                  refine MD_wr 84 ((l3 - 1 : Int32).toNatClampNeg) 1 (fun G z Q k => T_iast 84 60 (dk dt_worked 86 rfl) mk_84 ml_84 h26 k) (hm_a (by decide) _ _) ?_
                  rw [← ex27]
                  refine MD_lift (fun G z Q k => T_goto 228 (dk dt_worked 87 rfl) (by decide) k) ?_
                  refine MD_lift (fun G z Q k => T_iinc (v := l4 + 1) (lv2 := [(4, vi (l4 + 1)), (5, vi (x.1 52 (l4 : Int32).toNatClampNeg)), (0, vr 0), (2, vi l2), (3, vi l3)]) 4 (dk dt_worked 113 rfl) rfl rfl (by decide) rfl k) ?_
                  refine MD_lift (fun G z Q k => T_goto 10 (dk dt_worked 114 rfl) (by decide) k) ?_
                  exact MD_lift (fun G z Q k => T_sub [2, 3, 4, 0] rfl k) h
                · have h := h.1 c25
                  refine MD_lift (fun G z Q k => T_if_ne 171 (dk dt_worked 74 rfl) (by decide) (fun _ => k) (fun q => absurd q c25)) ?_
                  refine MD_lift (fun G z Q k => T_iconst (v := 0) (dk dt_worked 77 rfl) (by decide +kernel) k) ?_
                  refine MD_lift (fun G z Q k => T_goto 184 (dk dt_worked 78 rfl) (by decide) k) ?_
                  obtain ⟨h28, h⟩ := h
                  obtain ⟨x29, ex29⟩ : ∃ z, z = si x 84 (l3 - 1 : Int32).toNatClampNeg 0 := ⟨_, rfl⟩
                  have h := h x29 ex29
                  refine MD_wr 84 ((l3 - 1 : Int32).toNatClampNeg) 0 (fun G z Q k => T_iast 84 60 (dk dt_worked 86 rfl) mk_84 ml_84 h28 k) (hm_a (by decide) _ _) ?_
                  rw [← ex29]
                  refine MD_lift (fun G z Q k => T_goto 228 (dk dt_worked 87 rfl) (by decide) k) ?_
                  refine MD_lift (fun G z Q k => T_iinc (v := l4 + 1) (lv2 := [(4, vi (l4 + 1)), (5, vi (x.1 52 (l4 : Int32).toNatClampNeg)), (0, vr 0), (2, vi l2), (3, vi l3)]) 4 (dk dt_worked 113 rfl) rfl rfl (by decide) rfl k) ?_
                  refine MD_lift (fun G z Q k => T_goto 10 (dk dt_worked 114 rfl) (by decide) k) ?_
                  exact MD_lift (fun G z Q k => T_sub [2, 3, 4, 0] rfl k) h
              · have h := h.1 c22
                refine MD_lift (fun G z Q k => T_icmp_ne 175 (dk dt_worked 67 rfl) (by decide) (fun _ => k) (fun q => absurd q c22)) ?_
                refine MD_lift (fun G z Q k => T_aload_n 1 (dk dt_worked 79 rfl) rfl rfl k) ?_
                refine MD_lift (fun G z Q k => T_getR 0 83 84 (dk dt_worked 80 rfl) fl_181 mk_0 ml_0 (by decide) rfl rfl k) ?_
                refine MD_lift (fun G z Q k => T_iload_n 3 (dk dt_worked 81 rfl) rfl rfl k) ?_
                refine MD_lift (fun G z Q k => T_iconst (v := 1) (dk dt_worked 82 rfl) (by decide +kernel) k) ?_
                refine MD_lift (fun G z Q k => T_isub (dk dt_worked 83 rfl) k) ?_
                obtain ⟨h30, h⟩ := h
                obtain ⟨h31, h⟩ := h
                refine MD_read (fun z => z.1 84 (l3 - 1 : Int32).toNatClampNeg) (fun G z Q k => T_iald 84 60 (dk dt_worked 84 rfl) mk_84 ml_84 h30 k) (fun z e => e 84 _ (Or.inr h31)) ?_
                refine MD_lift (fun G z Q k => T_ineg (dk dt_worked 85 rfl) k) ?_
                obtain ⟨h32, h⟩ := h
                obtain ⟨x33, ex33⟩ : ∃ z, z = si x 84 (l3 - 1 : Int32).toNatClampNeg (-(x.1 84 (l3 - 1 : Int32).toNatClampNeg)) := ⟨_, rfl⟩
                have h := h x33 ex33
                refine MD_wr 84 ((l3 - 1 : Int32).toNatClampNeg) (-(x.1 84 (l3 - 1 : Int32).toNatClampNeg)) (fun G z Q k => T_iast 84 60 (dk dt_worked 86 rfl) mk_84 ml_84 h32 k) (hm_a (by decide) _ _) ?_
                rw [← ex33]
                refine MD_lift (fun G z Q k => T_goto 228 (dk dt_worked 87 rfl) (by decide) k) ?_
                refine MD_lift (fun G z Q k => T_iinc (v := l4 + 1) (lv2 := [(4, vi (l4 + 1)), (5, vi (x.1 52 (l4 : Int32).toNatClampNeg)), (0, vr 0), (2, vi l2), (3, vi l3)]) 4 (dk dt_worked 113 rfl) rfl rfl (by decide) rfl k) ?_
                refine MD_lift (fun G z Q k => T_goto 10 (dk dt_worked 114 rfl) (by decide) k) ?_
                exact MD_lift (fun G z Q k => T_sub [2, 3, 4, 0] rfl k) h
            · have h := h.2
              have n34 : ∀ k ∈ [(1 : Int32), (2 : Int32), (3 : Int32), (4 : Int32), (5 : Int32)], ¬ (x.1 51 (l4 : Int32).toNatClampNeg) = k := (gno c7 (gno c10 (gno c14 (gno c17 (gno c21 gno0)))))
              have h := h n34
              refine MD_lift (fun G z Q k => T_table 152 188 (dk dt_worked 21 rfl) (by decide) (gtab_d [(1 : Int32), (2 : Int32), (3 : Int32), (4 : Int32), (5 : Int32)] (by decide +kernel) n34) (by decide) k) ?_
              refine MD_lift (fun G z Q k => T_iinc (v := l3 + (-1)) (lv2 := [(3, vi (l3 + (-1))), (5, vi (x.1 52 (l4 : Int32).toNatClampNeg)), (0, vr 0), (2, vi l2), (4, vi l4)]) 3 (dk dt_worked 88 rfl) rfl rfl (by decide) rfl k) ?_
              refine MD_lift (fun G z Q k => T_aload_n 2 (dk dt_worked 89 rfl) rfl rfl k) ?_
              refine MD_lift (fun G z Q k => T_getR 0 83 84 (dk dt_worked 90 rfl) fl_181 mk_0 ml_0 (by decide) rfl rfl k) ?_
              refine MD_lift (fun G z Q k => T_iload_n 0 (dk dt_worked 91 rfl) rfl rfl k) ?_
              refine MD_lift (fun G z Q k => T_iconst (v := 1) (dk dt_worked 92 rfl) (by decide +kernel) k) ?_
              refine MD_lift (fun G z Q k => T_isub (dk dt_worked 93 rfl) k) ?_
              refine MD_lift (fun G z Q k => T_aload_n 2 (dk dt_worked 94 rfl) rfl rfl k) ?_
              refine MD_lift (fun G z Q k => T_iload 1 (dk dt_worked 95 rfl) rfl k) ?_
              refine MD_lift (fun G z Q k => T_aload_n 2 (dk dt_worked 96 rfl) rfl rfl k) ?_
              refine MD_lift (fun G z Q k => T_getR 0 83 84 (dk dt_worked 97 rfl) fl_181 mk_0 ml_0 (by decide) rfl rfl k) ?_
              refine MD_lift (fun G z Q k => T_iload_n 0 (dk dt_worked 98 rfl) rfl rfl k) ?_
              refine MD_lift (fun G z Q k => T_iconst (v := 1) (dk dt_worked 99 rfl) (by decide +kernel) k) ?_
              refine MD_lift (fun G z Q k => T_isub (dk dt_worked 100 rfl) k) ?_
              obtain ⟨h35, h⟩ := h
              obtain ⟨h36, h⟩ := h
              refine MD_read (fun z => z.1 84 ((l3 + (-1)) - 1 : Int32).toNatClampNeg) (fun G z Q k => T_iald 84 60 (dk dt_worked 101 rfl) mk_84 ml_84 h35 k) (fun z e => e 84 _ (Or.inr h36)) ?_
              refine MD_lift (fun G z Q k => T_aload_n 2 (dk dt_worked 102 rfl) rfl rfl k) ?_
              refine MD_lift (fun G z Q k => T_getR 0 83 84 (dk dt_worked 103 rfl) fl_181 mk_0 ml_0 (by decide) rfl rfl k) ?_
              refine MD_lift (fun G z Q k => T_iload_n 0 (dk dt_worked 104 rfl) rfl rfl k) ?_
              obtain ⟨h37, h⟩ := h
              obtain ⟨h38, h⟩ := h
              refine MD_read (fun z => z.1 84 (l3 + (-1) : Int32).toNatClampNeg) (fun G z Q k => T_iald 84 60 (dk dt_worked 105 rfl) mk_84 ml_84 h37 k) (fun z e => e 84 _ (Or.inr h38)) ?_
              refine MD_calli (fun G z F Q k kk => MT_callVi [vi (x.1 52 (l4 : Int32).toNatClampNeg), vi (x.1 84 ((l3 + (-1)) - 1 : Int32).toNatClampNeg), vi (x.1 84 (l3 + (-1) : Int32).toNatClampNeg)] [vi ((l3 + (-1)) - 1), vr 84] rfl (dk dt_worked 106 rfl) cv_584 rfl rfl (Nat.le_of_ble_eq_true rfl) (Nat.le_of_ble_eq_true rfl) rfl rfl k kk) h (fun r40 x39 S39 h => ?_)
              obtain ⟨h41, h⟩ := h
              obtain ⟨x42, ex42⟩ : ∃ z, z = si x39 84 ((l3 + (-1)) - 1 : Int32).toNatClampNeg r40 := ⟨_, rfl⟩
              have h := h x42 ex42
              refine MD_wr 84 (((l3 + (-1)) - 1 : Int32).toNatClampNeg) r40 (fun G z Q k => T_iast 84 60 (dk dt_worked 107 rfl) mk_84 ml_84 h41 k) (hm_a (by decide) _ _) ?_
              rw [← ex42]
              refine MD_lift (fun G z Q k => T_aload_n 2 (dk dt_worked 108 rfl) rfl rfl k) ?_
              obtain ⟨h43, h⟩ := h
              refine MD_read (fun z => z.1 0 82) (fun G z Q k => T_getI 0 82 (dk dt_worked 109 rfl) fl_581 mk_0 ml_0 (by decide) rfl k) (fun z e => e 0 82 (Or.inr h43)) ?_
              by_cases c44 : (x42.1 0 82) ≤ (0 : Int32)
              · have h := h.1 c44
                refine MD_lift (fun G z Q k => T_if_le 228 (dk dt_worked 110 rfl) (by decide) (fun _ => k) (fun q => absurd c44 q)) ?_
                refine MD_lift (fun G z Q k => T_iinc (v := l4 + 1) (lv2 := [(4, vi (l4 + 1)), (3, vi (l3 + (-1))), (5, vi (x.1 52 (l4 : Int32).toNatClampNeg)), (0, vr 0), (2, vi l2)]) 4 (dk dt_worked 113 rfl) rfl rfl (by decide) rfl k) ?_
                refine MD_lift (fun G z Q k => T_goto 10 (dk dt_worked 114 rfl) (by decide) k) ?_
                exact MD_lift (fun G z Q k => T_sub [3, 4, 1, 0] rfl k) h
              · have h := h.2 c44
                refine MD_lift (fun G z Q k => T_if_le 228 (dk dt_worked 110 rfl) (by decide) (fun q => absurd q c44) (fun _ => k)) ?_
                refine MD_lift (fun G z Q k => T_iconst (v := 0) (dk dt_worked 111 rfl) (by decide +kernel) k) ?_
                exact MD_ret (fun G z Q k => MT_iret (dk dt_worked 112 rfl) rfl rfl k) h
set_option maxRecDepth 100000 in
set_option maxHeartbeats 4000000 in
theorem sd_failThread_0 {d : Nat} {S : gS} {x : gd} {P : Option gv → gd → gS → Prop} (l1 : Int32) (l2 : Int32)
    (h : vp_in l1 6 ∧ (∀ x2 : gd, x2 = si x 73 (l1 : Int32).toNatClampNeg 3 → vp_in l1 6 ∧ (∀ x4 : gd, x4 = si x2 75 (l1 : Int32).toNatClampNeg l2 → vp_in l1 6 ∧ (∀ x6 : gd, x6 = si x4 77 (l1 : Int32).toNatClampNeg 0 → vp_in l1 6 ∧ (∀ x8 : gd, x8 = si x6 78 (l1 : Int32).toNatClampNeg 0 → P none x8 S))))) :
    MD d z_failThread 0 [(0, vr 0), (1, vi l1), (2, vi l2)] [] S x P := by
  refine MD_lift (fun G z Q k => T_aload_n 0 (dk dt_failThread 0 rfl) rfl rfl k) ?_
  refine MD_lift (fun G z Q k => T_getR 0 72 73 (dk dt_failThread 1 rfl) fl_151 mk_0 ml_0 (by decide) rfl rfl k) ?_
  refine MD_lift (fun G z Q k => T_iload_n 1 (dk dt_failThread 2 rfl) rfl rfl k) ?_
  refine MD_lift (fun G z Q k => T_iconst (v := 3) (dk dt_failThread 3 rfl) (by decide +kernel) k) ?_
  obtain ⟨h1, h⟩ := h
  obtain ⟨x2, ex2⟩ : ∃ z, z = si x 73 (l1 : Int32).toNatClampNeg 3 := ⟨_, rfl⟩
  have h := h x2 ex2
  refine MD_wk 73 ((l1 : Int32).toNatClampNeg) 3 (fun G z Q k => T_iast 73 6 (dk dt_failThread 4 rfl) mk_73 ml_73 h1 k) (hm_a (by decide) _ _) ?_
  rw [← ex2]
  refine MD_lift (fun G z Q k => T_aload_n 0 (dk dt_failThread 5 rfl) rfl rfl k) ?_
  refine MD_lift (fun G z Q k => T_getR 0 74 75 (dk dt_failThread 6 rfl) fl_157 mk_0 ml_0 (by decide) rfl rfl k) ?_
  refine MD_lift (fun G z Q k => T_iload_n 1 (dk dt_failThread 7 rfl) rfl rfl k) ?_
  refine MD_lift (fun G z Q k => T_iload_n 2 (dk dt_failThread 8 rfl) rfl rfl k) ?_
  obtain ⟨h3, h⟩ := h
  obtain ⟨x4, ex4⟩ : ∃ z, z = si x2 75 (l1 : Int32).toNatClampNeg l2 := ⟨_, rfl⟩
  have h := h x4 ex4
  refine MD_wk 75 ((l1 : Int32).toNatClampNeg) l2 (fun G z Q k => T_iast 75 6 (dk dt_failThread 9 rfl) mk_75 ml_75 h3 k) (hm_a (by decide) _ _) ?_
  rw [← ex4]
  refine MD_lift (fun G z Q k => T_aload_n 0 (dk dt_failThread 10 rfl) rfl rfl k) ?_
  refine MD_lift (fun G z Q k => T_getR 0 76 77 (dk dt_failThread 11 rfl) fl_163 mk_0 ml_0 (by decide) rfl rfl k) ?_
  refine MD_lift (fun G z Q k => T_iload_n 1 (dk dt_failThread 12 rfl) rfl rfl k) ?_
  refine MD_lift (fun G z Q k => T_iconst (v := 0) (dk dt_failThread 13 rfl) (by decide +kernel) k) ?_
  obtain ⟨h5, h⟩ := h
  obtain ⟨x6, ex6⟩ : ∃ z, z = si x4 77 (l1 : Int32).toNatClampNeg 0 := ⟨_, rfl⟩
  have h := h x6 ex6
  refine MD_wk 77 ((l1 : Int32).toNatClampNeg) 0 (fun G z Q k => T_iast 77 6 (dk dt_failThread 14 rfl) mk_77 ml_77 h5 k) (hm_a (by decide) _ _) ?_
  rw [← ex6]
  refine MD_lift (fun G z Q k => T_aload_n 0 (dk dt_failThread 15 rfl) rfl rfl k) ?_
  refine MD_lift (fun G z Q k => T_getR 0 77 78 (dk dt_failThread 16 rfl) fl_166 mk_0 ml_0 (by decide) rfl rfl k) ?_
  refine MD_lift (fun G z Q k => T_iload_n 1 (dk dt_failThread 17 rfl) rfl rfl k) ?_
  refine MD_lift (fun G z Q k => T_iconst (v := 0) (dk dt_failThread 18 rfl) (by decide +kernel) k) ?_
  obtain ⟨h7, h⟩ := h
  obtain ⟨x8, ex8⟩ : ∃ z, z = si x6 78 (l1 : Int32).toNatClampNeg 0 := ⟨_, rfl⟩
  have h := h x8 ex8
  refine MD_wk 78 ((l1 : Int32).toNatClampNeg) 0 (fun G z Q k => T_iast 78 6 (dk dt_failThread 19 rfl) mk_78 ml_78 h7 k) (hm_a (by decide) _ _) ?_
  rw [← ex8]
  exact MD_ret (fun G z Q k => MT_vret (dk dt_failThread 20 rfl) rfl k) h
set_option maxRecDepth 100000 in
set_option maxHeartbeats 4000000 in
theorem sd_clean_0 {d : Nat} {S : gS} {x : gd} {P : Option gv → gd → gS → Prop} (l1 : Int32)
    (h : vp_in l1 6 ∧ (((x.1 73 (l1 : Int32).toNatClampNeg) = (1 : Int32) → MD d z_clean 20 [(0, vr 0), (1, vi l1)] [] S x P) ∧ (¬ ((x.1 73 (l1 : Int32).toNatClampNeg) = (1 : Int32)) → vp_in l1 6 ∧ ((¬ ((x.1 73 (l1 : Int32).toNatClampNeg) = (3 : Int32)) → MD d z_clean 38 [(0, vr 0), (1, vi l1), (2, vi 0), (3, vi 0)] [] S x P) ∧ ((x.1 73 (l1 : Int32).toNatClampNeg) = (3 : Int32) → MD d z_clean 20 [(0, vr 0), (1, vi l1)] [] S x P))))) :
    MD d z_clean 0 [(0, vr 0), (1, vi l1)] [] S x P := by
  refine MD_lift (fun G z Q k => T_aload_n 0 (dk dt_clean 0 rfl) rfl rfl k) ?_
  refine MD_lift (fun G z Q k => T_getR 0 72 73 (dk dt_clean 1 rfl) fl_151 mk_0 ml_0 (by decide) rfl rfl k) ?_
  refine MD_lift (fun G z Q k => T_iload_n 1 (dk dt_clean 2 rfl) rfl rfl k) ?_
  obtain ⟨h1, h⟩ := h
  refine MD_read (fun z => z.1 73 (l1 : Int32).toNatClampNeg) (fun G z Q k => T_iald 73 6 (dk dt_clean 3 rfl) mk_73 ml_73 h1 k) (fun z e => e 73 _ (Or.inl (core_a (by decide) h1))) ?_
  refine MD_lift (fun G z Q k => T_iconst (v := 1) (dk dt_clean 4 rfl) (by decide +kernel) k) ?_
  by_cases c2 : (x.1 73 (l1 : Int32).toNatClampNeg) = (1 : Int32)
  · have h := h.1 c2
    refine MD_lift (fun G z Q k => T_icmp_eq 20 (dk dt_clean 5 rfl) (by decide) (fun _ => k) (fun q => absurd c2 q)) ?_
    exact h
  · have h := h.2 c2
    refine MD_lift (fun G z Q k => T_icmp_eq 20 (dk dt_clean 5 rfl) (by decide) (fun q => absurd q c2) (fun _ => k)) ?_
    refine MD_lift (fun G z Q k => T_aload_n 0 (dk dt_clean 6 rfl) rfl rfl k) ?_
    refine MD_lift (fun G z Q k => T_getR 0 72 73 (dk dt_clean 7 rfl) fl_151 mk_0 ml_0 (by decide) rfl rfl k) ?_
    refine MD_lift (fun G z Q k => T_iload_n 1 (dk dt_clean 8 rfl) rfl rfl k) ?_
    obtain ⟨h3, h⟩ := h
    refine MD_read (fun z => z.1 73 (l1 : Int32).toNatClampNeg) (fun G z Q k => T_iald 73 6 (dk dt_clean 9 rfl) mk_73 ml_73 h3 k) (fun z e => e 73 _ (Or.inl (core_a (by decide) h3))) ?_
    refine MD_lift (fun G z Q k => T_iconst (v := 3) (dk dt_clean 10 rfl) (by decide +kernel) k) ?_
    by_cases c4 : (x.1 73 (l1 : Int32).toNatClampNeg) = (3 : Int32)
    · have h := h.2 c4
      refine MD_lift (fun G z Q k => T_icmp_ne 34 (dk dt_clean 11 rfl) (by decide) (fun q => absurd c4 q) (fun _ => k)) ?_
      exact h
    · have h := h.1 c4
      refine MD_lift (fun G z Q k => T_icmp_ne 34 (dk dt_clean 11 rfl) (by decide) (fun _ => k) (fun q => absurd q c4)) ?_
      refine MD_lift (fun G z Q k => T_iconst (v := 0) (dk dt_clean 20 rfl) (by decide +kernel) k) ?_
      refine MD_lift (fun G z Q k => T_istore_n (lv2 := [(2, vi 0), (0, vr 0), (1, vi l1)]) (dk dt_clean 21 rfl) rfl (by decide) rfl k) ?_
      refine MD_lift (fun G z Q k => T_iconst (v := 0) (dk dt_clean 22 rfl) (by decide +kernel) k) ?_
      refine MD_lift (fun G z Q k => T_istore_n (lv2 := [(3, vi 0), (2, vi 0), (0, vr 0), (1, vi l1)]) (dk dt_clean 23 rfl) rfl (by decide) rfl k) ?_
      exact MD_lift (fun G z Q k => T_sub [2, 3, 1, 0] rfl k) h
set_option maxRecDepth 100000 in
set_option maxHeartbeats 4000000 in
theorem sd_clean_20 {d : Nat} {S : gS} {x : gd} {P : Option gv → gd → gS → Prop} (l1 : Int32)
    (h : vp_in l1 6 ∧ vp_in (x.1 74 (l1 : Int32).toNatClampNeg) 1500 ∧ MD d z_clean 38 [(0, vr 0), (1, vi l1), (2, vi (x.1 62 (x.1 74 (l1 : Int32).toNatClampNeg : Int32).toNatClampNeg)), (3, vi 0)] [] S x P) :
    MD d z_clean 20 [(0, vr 0), (1, vi l1)] [] S x P := by
  refine MD_lift (fun G z Q k => T_aload_n 0 (dk dt_clean 12 rfl) rfl rfl k) ?_
  refine MD_lift (fun G z Q k => T_getR 0 61 62 (dk dt_clean 13 rfl) fl_127 mk_0 ml_0 (by decide) rfl rfl k) ?_
  refine MD_lift (fun G z Q k => T_aload_n 0 (dk dt_clean 14 rfl) rfl rfl k) ?_
  refine MD_lift (fun G z Q k => T_getR 0 73 74 (dk dt_clean 15 rfl) fl_154 mk_0 ml_0 (by decide) rfl rfl k) ?_
  refine MD_lift (fun G z Q k => T_iload_n 1 (dk dt_clean 16 rfl) rfl rfl k) ?_
  obtain ⟨h1, h⟩ := h
  refine MD_read (fun z => z.1 74 (l1 : Int32).toNatClampNeg) (fun G z Q k => T_iald 74 6 (dk dt_clean 17 rfl) mk_74 ml_74 h1 k) (fun z e => e 74 _ (Or.inl (core_a (by decide) h1))) ?_
  obtain ⟨h2, h⟩ := h
  refine MD_read (fun z => z.1 62 (x.1 74 (l1 : Int32).toNatClampNeg : Int32).toNatClampNeg) (fun G z Q k => T_iald 62 1500 (dk dt_clean 18 rfl) mk_62 ml_62 h2 k) (fun z e => e 62 _ (Or.inl (core_a (by decide) h2))) ?_
  refine MD_lift (fun G z Q k => T_goto 35 (dk dt_clean 19 rfl) (by decide) k) ?_
  refine MD_lift (fun G z Q k => T_istore_n (lv2 := [(2, vi (x.1 62 (x.1 74 (l1 : Int32).toNatClampNeg : Int32).toNatClampNeg)), (0, vr 0), (1, vi l1)]) (dk dt_clean 21 rfl) rfl (by decide) rfl k) ?_
  refine MD_lift (fun G z Q k => T_iconst (v := 0) (dk dt_clean 22 rfl) (by decide +kernel) k) ?_
  refine MD_lift (fun G z Q k => T_istore_n (lv2 := [(3, vi 0), (2, vi (x.1 62 (x.1 74 (l1 : Int32).toNatClampNeg : Int32).toNatClampNeg)), (0, vr 0), (1, vi l1)]) (dk dt_clean 23 rfl) rfl (by decide) rfl k) ?_
  exact MD_lift (fun G z Q k => T_sub [2, 3, 1, 0] rfl k) h
set_option maxRecDepth 100000 in
set_option maxHeartbeats 4000000 in
theorem sd_clean_38 {d : Nat} {S : gS} {x : gd} {P : Option gv → gd → gS → Prop} (l1 : Int32) (l2 : Int32) (l3 : Int32)
    (h : (((8 : Int32) ≤ l3 → vp_in l1 6 ∧ (((x.1 73 (l1 : Int32).toNatClampNeg) = (0 : Int32) → vp_in l1 6 ∧ (∀ x5 : gd, x5 = si x 74 (l1 : Int32).toNatClampNeg 0 → P none x5 S)) ∧ (¬ ((x.1 73 (l1 : Int32).toNatClampNeg) = (0 : Int32)) → vp_in l1 6 ∧ ((¬ ((x.1 73 (l1 : Int32).toNatClampNeg) = (2 : Int32)) → P none x S) ∧ ((x.1 73 (l1 : Int32).toNatClampNeg) = (2 : Int32) → vp_in l1 6 ∧ (∀ x9 : gd, x9 = si x 74 (l1 : Int32).toNatClampNeg 0 → P none x9 S)))))) ∧ (¬ ((8 : Int32) ≤ l3) → ((¬ (((l2 >>> (l3 &&& 31 : Int32)) &&& 1) = (0 : Int32)) → MD d z_clean 38 [(0, vr 0), (1, vi l1), (2, vi l2), (3, vi (l3 + 1))] [] S x P) ∧ (((l2 >>> (l3 &&& 31 : Int32)) &&& 1) = (0 : Int32) → vp_in ((8 * l1) + l3) 48 ∧ (∀ x12 : gd, x12 = si x 76 ((8 * l1) + l3 : Int32).toNatClampNeg 0 → MD d z_clean 38 [(0, vr 0), (1, vi l1), (2, vi l2), (3, vi (l3 + 1))] [] S x12 P)))))) :
    MD d z_clean 38 [(0, vr 0), (1, vi l1), (2, vi l2), (3, vi l3)] [] S x P := by
  refine MD_lift (fun G z Q k => T_iload_n 3 (dk dt_clean 24 rfl) rfl rfl k) ?_
  refine MD_lift (fun G z Q k => T_bipush (v := 8) (dk dt_clean 25 rfl) (by decide +kernel) k) ?_
  by_cases c1 : (8 : Int32) ≤ l3
  · have h := h.1 c1
    refine MD_lift (fun G z Q k => T_icmp_ge 70 (dk dt_clean 26 rfl) (by decide) (fun _ => k) (fun q => absurd c1 q)) ?_
    refine MD_lift (fun G z Q k => T_aload_n 0 (dk dt_clean 44 rfl) rfl rfl k) ?_
    refine MD_lift (fun G z Q k => T_getR 0 72 73 (dk dt_clean 45 rfl) fl_151 mk_0 ml_0 (by decide) rfl rfl k) ?_
    refine MD_lift (fun G z Q k => T_iload_n 1 (dk dt_clean 46 rfl) rfl rfl k) ?_
    obtain ⟨h2, h⟩ := h
    refine MD_read (fun z => z.1 73 (l1 : Int32).toNatClampNeg) (fun G z Q k => T_iald 73 6 (dk dt_clean 47 rfl) mk_73 ml_73 h2 k) (fun z e => e 73 _ (Or.inl (core_a (by decide) h2))) ?_
    by_cases c3 : (x.1 73 (l1 : Int32).toNatClampNeg) = (0 : Int32)
    · have h := h.1 c3
      refine MD_lift (fun G z Q k => T_if_eq 89 (dk dt_clean 48 rfl) (by decide) (fun _ => k) (fun q => absurd c3 q)) ?_
      refine MD_lift (fun G z Q k => T_aload_n 0 (dk dt_clean 55 rfl) rfl rfl k) ?_
      refine MD_lift (fun G z Q k => T_getR 0 73 74 (dk dt_clean 56 rfl) fl_154 mk_0 ml_0 (by decide) rfl rfl k) ?_
      refine MD_lift (fun G z Q k => T_iload_n 1 (dk dt_clean 57 rfl) rfl rfl k) ?_
      refine MD_lift (fun G z Q k => T_iconst (v := 0) (dk dt_clean 58 rfl) (by decide +kernel) k) ?_
      obtain ⟨h4, h⟩ := h
      obtain ⟨x5, ex5⟩ : ∃ z, z = si x 74 (l1 : Int32).toNatClampNeg 0 := ⟨_, rfl⟩
      have h := h x5 ex5
      refine MD_wk 74 ((l1 : Int32).toNatClampNeg) 0 (fun G z Q k => T_iast 74 6 (dk dt_clean 59 rfl) mk_74 ml_74 h4 k) (hm_a (by decide) _ _) ?_
      rw [← ex5]
      exact MD_ret (fun G z Q k => MT_vret (dk dt_clean 60 rfl) rfl k) h
    · have h := h.2 c3
      refine MD_lift (fun G z Q k => T_if_eq 89 (dk dt_clean 48 rfl) (by decide) (fun q => absurd q c3) (fun _ => k)) ?_
      refine MD_lift (fun G z Q k => T_aload_n 0 (dk dt_clean 49 rfl) rfl rfl k) ?_
      refine MD_lift (fun G z Q k => T_getR 0 72 73 (dk dt_clean 50 rfl) fl_151 mk_0 ml_0 (by decide) rfl rfl k) ?_
      refine MD_lift (fun G z Q k => T_iload_n 1 (dk dt_clean 51 rfl) rfl rfl k) ?_
      obtain ⟨h6, h⟩ := h
      refine MD_read (fun z => z.1 73 (l1 : Int32).toNatClampNeg) (fun G z Q k => T_iald 73 6 (dk dt_clean 52 rfl) mk_73 ml_73 h6 k) (fun z e => e 73 _ (Or.inl (core_a (by decide) h6))) ?_
      refine MD_lift (fun G z Q k => T_iconst (v := 2) (dk dt_clean 53 rfl) (by decide +kernel) k) ?_
      by_cases c7 : (x.1 73 (l1 : Int32).toNatClampNeg) = (2 : Int32)
      · have h := h.2 c7
        refine MD_lift (fun G z Q k => T_icmp_ne 96 (dk dt_clean 54 rfl) (by decide) (fun q => absurd c7 q) (fun _ => k)) ?_
        refine MD_lift (fun G z Q k => T_aload_n 0 (dk dt_clean 55 rfl) rfl rfl k) ?_
        refine MD_lift (fun G z Q k => T_getR 0 73 74 (dk dt_clean 56 rfl) fl_154 mk_0 ml_0 (by decide) rfl rfl k) ?_
        refine MD_lift (fun G z Q k => T_iload_n 1 (dk dt_clean 57 rfl) rfl rfl k) ?_
        refine MD_lift (fun G z Q k => T_iconst (v := 0) (dk dt_clean 58 rfl) (by decide +kernel) k) ?_
        obtain ⟨h8, h⟩ := h
        obtain ⟨x9, ex9⟩ : ∃ z, z = si x 74 (l1 : Int32).toNatClampNeg 0 := ⟨_, rfl⟩
        have h := h x9 ex9
        refine MD_wk 74 ((l1 : Int32).toNatClampNeg) 0 (fun G z Q k => T_iast 74 6 (dk dt_clean 59 rfl) mk_74 ml_74 h8 k) (hm_a (by decide) _ _) ?_
        rw [← ex9]
        exact MD_ret (fun G z Q k => MT_vret (dk dt_clean 60 rfl) rfl k) h
      · have h := h.1 c7
        refine MD_lift (fun G z Q k => T_icmp_ne 96 (dk dt_clean 54 rfl) (by decide) (fun _ => k) (fun q => absurd q c7)) ?_
        exact MD_ret (fun G z Q k => MT_vret (dk dt_clean 60 rfl) rfl k) h
  · have h := h.2 c1
    refine MD_lift (fun G z Q k => T_icmp_ge 70 (dk dt_clean 26 rfl) (by decide) (fun q => absurd q c1) (fun _ => k)) ?_
    refine MD_lift (fun G z Q k => T_iload_n 2 (dk dt_clean 27 rfl) rfl rfl k) ?_
    refine MD_lift (fun G z Q k => T_iload_n 3 (dk dt_clean 28 rfl) rfl rfl k) ?_
    refine MD_lift (fun G z Q k => T_ishr (dk dt_clean 29 rfl) k) ?_
    refine MD_lift (fun G z Q k => T_iconst (v := 1) (dk dt_clean 30 rfl) (by decide +kernel) k) ?_
    refine MD_lift (fun G z Q k => T_iand (dk dt_clean 31 rfl) k) ?_
    by_cases c10 : ((l2 >>> (l3 &&& 31 : Int32)) &&& 1) = (0 : Int32)
    · have h := h.2 c10
      refine MD_lift (fun G z Q k => T_if_ne 64 (dk dt_clean 32 rfl) (by decide) (fun q => absurd c10 q) (fun _ => k)) ?_
      refine MD_lift (fun G z Q k => T_aload_n 0 (dk dt_clean 33 rfl) rfl rfl k) ?_
      refine MD_lift (fun G z Q k => T_getR 0 75 76 (dk dt_clean 34 rfl) fl_160 mk_0 ml_0 (by decide) rfl rfl k) ?_
      refine MD_lift (fun G z Q k => T_bipush (v := 8) (dk dt_clean 35 rfl) (by decide +kernel) k) ?_
      refine MD_lift (fun G z Q k => T_iload_n 1 (dk dt_clean 36 rfl) rfl rfl k) ?_
      refine MD_lift (fun G z Q k => T_imul (dk dt_clean 37 rfl) k) ?_
      refine MD_lift (fun G z Q k => T_iload_n 3 (dk dt_clean 38 rfl) rfl rfl k) ?_
      refine MD_lift (fun G z Q k => T_iadd (dk dt_clean 39 rfl) k) ?_
      refine MD_lift (fun G z Q k => T_iconst (v := 0) (dk dt_clean 40 rfl) (by decide +kernel) k) ?_
      obtain ⟨h11, h⟩ := h
      obtain ⟨x12, ex12⟩ : ∃ z, z = si x 76 ((8 * l1) + l3 : Int32).toNatClampNeg 0 := ⟨_, rfl⟩
      have h := h x12 ex12
      refine MD_wk 76 (((8 * l1) + l3 : Int32).toNatClampNeg) 0 (fun G z Q k => T_iast 76 48 (dk dt_clean 41 rfl) mk_76 ml_76 h11 k) (hm_a (by decide) _ _) ?_
      rw [← ex12]
      refine MD_lift (fun G z Q k => T_iinc (v := l3 + 1) (lv2 := [(3, vi (l3 + 1)), (0, vr 0), (1, vi l1), (2, vi l2)]) 3 (dk dt_clean 42 rfl) rfl rfl (by decide) rfl k) ?_
      refine MD_lift (fun G z Q k => T_goto 38 (dk dt_clean 43 rfl) (by decide) k) ?_
      exact MD_lift (fun G z Q k => T_sub [1, 2, 3, 0] rfl k) h
    · have h := h.1 c10
      refine MD_lift (fun G z Q k => T_if_ne 64 (dk dt_clean 32 rfl) (by decide) (fun _ => k) (fun q => absurd q c10)) ?_
      refine MD_lift (fun G z Q k => T_iinc (v := l3 + 1) (lv2 := [(3, vi (l3 + 1)), (0, vr 0), (1, vi l1), (2, vi l2)]) 3 (dk dt_clean 42 rfl) rfl rfl (by decide) rfl k) ?_
      refine MD_lift (fun G z Q k => T_goto 38 (dk dt_clean 43 rfl) (by decide) k) ?_
      exact MD_lift (fun G z Q k => T_sub [1, 2, 3, 0] rfl k) h
end
