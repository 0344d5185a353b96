theorem RP_link {x y z : gd} {l v : Int32} (h : RP x y) (hl : (x.1 0 13).toInt ≤ l.toInt) (h0 : 0 ≤ (x.1 0 13).toInt) (e : z = si y 20 l.toNatClampNeg v) : RP x z ∧ (∀ m : Int, NL m l.toInt y z) ∧ cr z = cr y ∧ z.1 0 8 = y.1 0 8 ∧ z.1 0 9 = y.1 0 9 ∧ z.1 0 13 = y.1 0 13 ∧ z.1 0 20 = y.1 0 20 ∧ z.1 0 21 = y.1 0 21 ∧ z.1 20 l.toNatClampNeg = v ∧ ∀ j : Nat, ¬ j = l.toNatClampNeg → z.1 20 j = y.1 20 j := by
  have m := md_a y 20 l.toNatClampNeg v (by decide)
  rw [← e] at m
  have c8 : z.1 0 8 = y.1 0 8 := m.1 8 (by decide)
  have c9 : z.1 0 9 = y.1 0 9 := m.1 9 (by decide)
  have c13 : z.1 0 13 = y.1 0 13 := m.1 13 (by decide)
  have hne : ∀ j : Nat, ¬ j = l.toNatClampNeg → z.1 20 j = y.1 20 j := fun j hj => by rw [e, si_get, if_neg (fun q => hj q.2)]
  refine ⟨⟨md_tr h.1 m rfl rfl, ⟨by rw [c8]; exact h.2.1.1, by rw [c8]; exact h.2.1.2.1, by rw [c9]; exact h.2.1.2.2.1, TX_md m (by decide) (by decide) (by decide) (by decide) h.2.1.2.2.2⟩, by rw [c8]; exact h.2.2.1, by rw [c9]; exact h.2.2.2.1, by rw [c13]; exact h.2.2.2.2.1, fun c h1 h2 j hj => ?_⟩, fun m' => ⟨⟨by rw [c13]; exact Int.le_refl _, fun c h1 h2 j hj => ?_⟩, fun j hj _ hjl => ?_⟩, by unfold cr; rw [c8, c13], c8, c9, c13, m.1 20 (by decide), m.1 21 (by decide), by rw [e, si_get, if_pos ⟨rfl, rfl⟩], hne⟩
  · by_cases q : c = 20
    · subst q
      rw [hne j (by rw [t_cl]; omega)]
      exact h.2.2.2.2.2 20 (by decide) (by decide) j hj
    · rw [e, si_cell q]
      exact h.2.2.2.2.2 c h1 h2 j hj
  · rw [e, si_cell (by omega)]
  · exact hne j (by rw [t_cl]; omega)
/-- the row of statements that a block has so far -/
def BL (k : Nat) (x z : gd) (fi la : Int32) (s c : Nat) : Prop := ∃ L : List (Int32 × Nat × Nat), ((L = [] ∧ la = -1) ∨ ∃ (L' : List (Int32 × Nat × Nat)) (q : Int32 × Nat × Nat), L = L' ++ [q] ∧ la = q.1 ∧ (x.1 0 13).toInt ≤ la.toInt ∧ la.toInt < (z.1 0 13).toInt ∧ z.1 20 la.toNatClampNeg = -1 ∧ ∀ p ∈ L', p.1.toInt < q.1.toInt) ∧ ln z fi L ∧ (∀ q ∈ L, vS z (x.1 0 13).toInt (k + 1) q.2.1 q.2.2 q.1 ∧ (x.1 0 13).toInt ≤ q.1.toInt) ∧ sm (fun q => q.2.1) L ≤ s ∧ sm (fun q => q.2.2) L ≤ c
theorem ln_mem {x : gd} : ∀ (L : List (Int32 × Nat × Nat)) (e : Int32), ln x e L → ∀ q ∈ L, 0 ≤ q.1.toInt ∧ q.1.toInt < (x.1 0 13).toInt := by
  intro L
  induction L with
  | nil => intro e _ q hq; cases hq
  | cons a r ih =>
    intro e h q hq
    obtain ⟨h1, h2, h3⟩ := h
    rcases List.mem_cons.mp hq with rfl | hq
    · rw [← h1]; exact h2
    · exact ih _ h3 q hq
theorem BL_RP {k s c : Nat} {x y z : gd} {fi la : Int32} (h : RP y z) (n0 : 0 ≤ (x.1 0 13).toInt) (q : BL k x y fi la s c) : BL k x z fi la s c := by
  obtain ⟨L, q1, q2, q3, q4, q5⟩ := q
  have hm := ln_mem L fi q2
  refine ⟨L, ?_, ln_keep (NL_RP 0 (y.1 0 13).toInt h) L fi (fun z hz => hm z hz) q2, fun z hz => ⟨vS_RP (Int.le_refl _) h (q3 z hz).1, (q3 z hz).2⟩, q4, q5⟩
  rcases q1 with q1 | ⟨L', p, g1, g2, g3, g3b, g4, g5⟩
  · exact Or.inl q1
  · have mono := h.2.2.2.2.1
    exact Or.inr ⟨L', p, g1, g2, g3, by omega, by rw [h.2.2.2.2.2 20 (by decide) (by decide) _ (by rw [t_cl]; omega)]; exact g4, g5⟩
theorem sp_beginsS {G : mG} {d : Nat} {x : gd} {F : Int32 → gd → Prop} (hp : PN x) (h : ∀ r : Int32, F r x) : MT G (d + 1) z_beginsS 0 [(0, vr 0)] [] x (ri F) := by
  refine sg_beginsS_0 (sp_here hp (fun r _ _ => ?_))
  (repeat' (first | apply And.intro | with_reducible intro _))
  all_goals exact ri_i (h _)
theorem sp_readBlock (k : Nat) (ihS : SpS k) {G : mG} {D : Nat} {x : gd} {F : Int32 → gd → Prop} (hD : 4 * k + 21 ≤ D) (hpre : PreK k (-700) x) (hlt : (x.1 0 9).toInt = 0 → LT x) (hF : ∀ r x', QB k x r x' → F r x') : MT G D z_readBlock 0 [(0, vr 0)] [] x (ri F) := by
  obtain ⟨D, rfl⟩ : ∃ m, D = m + 21 := ⟨D - 21, by omega⟩
  obtain ⟨pn, n0, c0, k16, nst⟩ := id hpre
  have k0 : (0 : Int32).toInt = 0 := rfl
  have km : (-1 : Int32).toInt = -1 := rfl
  -- the invariant
  obtain ⟨BI, hBI⟩ : ∃ BI : gd → Int32 → Int32 → Prop, ∀ z fi la, BI z fi la ↔ (RP x z ∧ (0 < (x.1 0 9).toInt → cr x ≤ cr z) ∧ ((x.1 0 9).toInt = 0 → -(3 * ((k : Int) + 1)) ≤ cr z) ∧ ((z.1 0 9).toInt = 0 → z.1 0 20 = x.1 0 20 ∧ (x.1 0 8).toInt + 1 ≤ (z.1 0 8).toInt ∧ cr x + 2 ≤ cr z ∧ (x.1 0 21).toInt ≤ (z.1 0 21).toInt ∧ LT z ∧ BL k x z fi la ((z.1 0 8).toInt - (x.1 0 8).toInt - 1).toNat ((z.1 0 21).toInt - (x.1 0 21).toInt).toNat)) := ⟨_, fun _ _ _ => Iff.rfl⟩
  have p81 : ∀ z fi la, BI z fi la → MT G (D + 21) z_readBlock 81 [(0, vr 0), (1, vi (x.1 0 8)), (2, vi fi)] [] z (ri F) := by
    intro z fi la hz
    obtain ⟨rz, bz, cz, okz⟩ := (hBI z fi la).mp hz
    refine sg_readBlock_81 _ _ (sp_pass _ rz.2.1 (fun y hs hst => ?_))
    have cy := (cr_ss hs).1
    have rxy := RP_tr rz (RP_ss hs)
    have low : -1000 ≤ cr y := by
      by_cases q : 0 < (x.1 0 9).toInt
      · have := bz q; omega
      · have := cz (by have := pn.2.2; omega); omega
    refine sp_node _ _ _ _ _ (nodeV rxy n0 low) (fun w hw => ri_i (hF _ _ ?_))
    obtain ⟨hn, rw1, nk, cw, z0, z1, f8, f9, f20, f21⟩ := nodeR rxy n0 low hw
    refine ⟨rw1, fun q => by have := cz q; omega, fun q => by have := bz q; omega, z0, fun q => ?_⟩
    rw [f9] at q
    have qz := hs.2.2.2.2 q
    obtain ⟨o1, o2, o3, o4, o5, o6⟩ := okz qz
    have st := hst q
    have cy2 := (cr_ss hs).2 q st
    have e21 : y.1 0 21 = z.1 0 21 := hs.1.1 21 (by decide)
    obtain ⟨g1, g2, g3, g4, g5, -⟩ := nE_at hw
    have hRw : RP z w := RP_tr (RP_ss hs) (RP_nE hs.2.1 hn hw).1
    obtain ⟨L, q1, q2z, q3z, q4, q5⟩ := o6
    have e13 : y.1 0 13 = z.1 0 13 := hs.1.1 13 (by decide)
    have hm := ln_mem L fi q2z
    have q2 := ln_keep (NL_RP 0 (z.1 0 13).toInt hRw) L fi (fun p hp => hm p hp) q2z
    have q3 : ∀ p ∈ L, vS w (x.1 0 13).toInt (k + 1) p.2.1 p.2.2 p.1 := fun p hp => vS_RP (Int.le_refl _) hRw (q3z p hp).1
    have hmz : ∀ p ∈ L, p.1.toInt < (y.1 0 13).toInt := fun p hp => by rw [e13]; exact (hm p hp).2
    rw [f8, f21, e21]
    refine ⟨by rw [f20, hs.1.1 20 (by decide), o1], by omega, by omega, o4, by unfold LT; rw [f21, e21]; exact o5, ⟨z0, z1⟩, by rw [g5]; exact PN_v pn, g1, L, by rw [g2]; exact q2, fun p hp => ⟨q3 p hp, hmz p hp, (q3z p hp).2⟩, by omega, q5⟩
  have body : ∀ z fi la, BI z fi la → (∀ z' fi' la', BI z' fi' la' → ((z'.1 0 9).toInt = 0 → (z.1 0 8).toInt + 1 ≤ (z'.1 0 8).toInt) → MT G (D + 21) z_readBlock 15 [(0, vr 0), (1, vi (x.1 0 8)), (2, vi fi'), (3, vi la')] [] z' (ri F)) → MT G (D + 21) z_readBlock 15 [(0, vr 0), (1, vi (x.1 0 8)), (2, vi fi), (3, vi la)] [] z (ri F) := by
    intro z fi la hz next
    obtain ⟨rz, bz, cz, okz⟩ := (hBI z fi la).mp hz
    refine sg_readBlock_15 _ _ _ ⟨fun _ => p81 z fi la hz, fun cb => ?_⟩
    have b0 : (z.1 0 9).toInt = 0 := by rw [cb]; rfl
    have x0 := rz.2.2.2.1 b0
    obtain ⟨o1, o2, o3, o4, o5, o6⟩ := okz b0
    obtain ⟨nx1, nx2⟩ := nst x0
    have pz := rz.2.1
    have pz2 := pz.2.1
    have mono := rz.2.2.2.2.1
    refine sp_here pz (fun r _ _ => ⟨fun _ => p81 z fi la hz, fun _ => sp_beginsS pz (fun r6 => ⟨fun _ => ?_, fun _ => ?_⟩)⟩)
    · refine ihS G (D + 20) z _ (by omega) ⟨pz, by omega, by omega, k16, fun _ => ⟨by rw [o1]; exact nx1, by omega⟩⟩ b0 o5 (fun r9 y hy => ?_)
      obtain ⟨ry, cy, rr, oky⟩ := hy
      have rxy := RP_tr rz ry
      obtain ⟨L, q1, q2, q3, q4, q5⟩ := o6
      have hm := ln_mem L fi q2
      refine ⟨fun nl => ?_, fun el => ?_⟩
      · rcases q1 with ⟨-, q1⟩ | ⟨L', p, g1, g2, g3, g3b, g4, g5⟩
        · exact absurd q1 nl
        · have hv : vp_in la 3000 := by
            unfold cr at o3
            rw [vp_in_iff]
            unfold cr at nx2
            omega
          refine ⟨hv, fun w ew => next w fi r9 ?_ (fun q => ?_)⟩
          · obtain ⟨rw1, nl2, cw, f8, f9, f13, f20, f21, fl, fo⟩ := RP_link rxy g3 n0 ew
            refine (hBI w fi r9).mpr ⟨rw1, fun q => by omega, fun _ => by omega, fun q => ?_⟩
            rw [f9] at q
            obtain ⟨u1, u2, u3, u4, u5, u6, u7, u8⟩ := oky q
            rw [f8, f20, f21]
            have myz := ry.2.2.2.2.1
            have hry : 0 ≤ r9.toInt ∧ r9.toInt < (y.1 0 13).toInt := u6.1
            refine ⟨by rw [u1, o1], by omega, by omega, by omega, by unfold LT; rw [f21]; exact u5, L ++ [(r9, ((y.1 0 8).toInt - (z.1 0 8).toInt).toNat, ((y.1 0 21).toInt - (z.1 0 21).toInt).toNat)], Or.inr ⟨L, _, rfl, rfl, by omega, by rw [f13]; exact hry.2, ?_, ?_⟩, ?_, ?_, ?_, ?_⟩
            · rw [fo _ (by rw [t_cl, t_cl]; omega)]; exact u7
            · intro p2 hp2
              have := (hm p2 hp2).2
              show p2.1.toInt < r9.toInt
              omega
            · rw [g1] at q2 ⊢
              rw [List.append_assoc]
              have hk : ∀ j : Nat, (j : Int) < p.1.toInt → w.1 20 j = z.1 20 j := by
                intro j hj
                rw [← g2] at hj
                rw [fo j (by rw [t_cl]; omega)]
                exact ry.2.2.2.2.2 20 (by decide) (by decide) j (by omega)
              refine ln_snoc L' fi p _ q2 w (by rw [f13]; exact myz) (by rw [f13]; exact hry) hk (by rw [← g2]; exact fl) ?_ g5
              show w.1 20 r9.toNatClampNeg = -1
              rw [fo _ (by rw [t_cl, t_cl]; omega)]; exact u7
            · intro p2 hp2
              rcases List.mem_append.mp hp2 with hp2 | hp2
              · have hle : p2.1.toInt ≤ la.toInt := by
                  rw [g1] at hp2
                  rcases List.mem_append.mp hp2 with hp3 | hp3
                  · have := g5 p2 hp3
                    rw [← g2] at this
                    omega
                  · rw [List.mem_singleton.mp hp3, ← g2]; exact Int.le_refl _
                exact ⟨vS_keep (Int.le_refl _) (nl2 _) _ _ _ _ hle (vS_RP (Int.le_refl _) ry (q3 p2 hp2).1), (q3 p2 hp2).2⟩
              · rw [List.mem_singleton.mp hp2]
                refine ⟨vS_keep mono (l := r9.toInt) ⟨(nl2 0).1, fun j hj hj3 hj2 => fo j (by rw [t_cl]; omega)⟩ _ _ _ _ (Int.le_refl _) u6, ?_⟩
                show (x.1 0 13).toInt ≤ r9.toInt
                omega
            · rw [sm_app]
              show sm (fun q => q.2.1) L + ((y.1 0 8).toInt - (z.1 0 8).toInt).toNat ≤ _
              omega
            · rw [sm_app]
              show sm (fun q => q.2.2) L + ((y.1 0 21).toInt - (z.1 0 21).toInt).toNat ≤ _
              omega
          · obtain ⟨rw1, nl2, cw, f8, f9, f13, f20, f21, fl, fo⟩ := RP_link rxy g3 n0 ew
            rw [f9] at q
            obtain ⟨u1, u2, -⟩ := oky q
            rw [f8]; omega
      · refine next y r9 r9 ((hBI y r9 r9).mpr ⟨rxy, fun q => by omega, fun _ => cy, fun q => ?_⟩) (fun q => ?_)
        · obtain ⟨u1, u2, u3, u4, u5, u6, u7, u8⟩ := oky q
          have hry : 0 ≤ r9.toInt ∧ r9.toInt < (y.1 0 13).toInt := u6.1
          refine ⟨by rw [u1, o1], by omega, by omega, by omega, u5, [(r9, ((y.1 0 8).toInt - (z.1 0 8).toInt).toNat, ((y.1 0 21).toInt - (z.1 0 21).toInt).toNat)], Or.inr ⟨[], _, rfl, rfl, by omega, hry.2, u7, fun p hp => absurd hp List.not_mem_nil⟩, ⟨rfl, hry, u7⟩, ?_, ?_, ?_⟩
          · intro p2 hp2
            rw [List.mem_singleton.mp hp2]
            refine ⟨vS_low mono u6, ?_⟩
            show (x.1 0 13).toInt ≤ r9.toInt
            omega
          · show ((y.1 0 8).toInt - (z.1 0 8).toInt).toNat + 0 ≤ _
            omega
          · show ((y.1 0 21).toInt - (z.1 0 21).toInt).toNat + 0 ≤ _
            omega
        · obtain ⟨u1, u2, -⟩ := oky q
          omega
    · refine sp_fault _ _ (by decide) (PN_v pz) pz (fun y hs hb e8 m => next y fi la ((hBI y fi la).mpr ⟨RP_tr rz (RP_ss hs), fun q => by omega, fun q => ?_, fun q => by omega⟩) (fun q => by omega))
      have := (cr_ss hs).1
      have := cz q
      omega
  have exit : ∀ z fi la, BI z fi la → ¬ (z.1 0 9).toInt = 0 → MT G (D + 21) z_readBlock 15 [(0, vr 0), (1, vi (x.1 0 8)), (2, vi fi), (3, vi la)] [] z (ri F) := by
    intro z fi la hz hb
    refine sg_readBlock_15 _ _ _ ⟨fun _ => p81 z fi la hz, fun cb => ?_⟩
    rw [t_eq, k0] at cb
    exact absurd cb hb
  have loop : ∀ (n : Nat) (z : gd) (fi la : Int32), BI z fi la → 700 - (z.1 0 8).toInt ≤ n → MT G (D + 21) z_readBlock 15 [(0, vr 0), (1, vi (x.1 0 8)), (2, vi fi), (3, vi la)] [] z (ri F) := by
    intro n
    induction n with
    | zero =>
      intro z fi la hz hn
      refine body z fi la hz (fun z' fi' la' hz' hp' => exit z' fi' la' hz' (fun q => ?_))
      have := hp' q
      have := ((hBI z' fi' la').mp hz').1.2.1.2.1
      omega
    | succ n ihn =>
      intro z fi la hz hn
      refine body z fi la hz (fun z' fi' la' hz' hp' => ?_)
      by_cases q : (z'.1 0 9).toInt = 0
      · exact ihn z' fi' la' hz' (by have := hp' q; omega)
      · exact exit z' fi' la' hz' q
  refine sg_readBlock_0 (sp_pass _ pn (fun y hs hst => loop _ y _ _ ((hBI y (-1) (-1)).mpr ⟨RP_ss hs, fun _ => (cr_ss hs).1, fun q => ?_, fun q => ?_⟩) (Int.self_le_toNat _)))
  · have := (cr_ss hs).1
    have := nst q
    omega
  · have st := hst q
    have x0 := hs.2.2.2.2 q
    have c2 := (cr_ss hs).2 q st
    have e21 : y.1 0 21 = x.1 0 21 := hs.1.1 21 (by decide)
    exact ⟨hs.1.1 20 (by decide), by omega, by omega, by rw [e21]; exact Int.le_refl _, by unfold LT; rw [e21]; exact hlt x0, [], Or.inl ⟨rfl, rfl⟩, rfl, fun p hp => absurd hp List.not_mem_nil, Nat.zero_le _, Nat.zero_le _⟩
