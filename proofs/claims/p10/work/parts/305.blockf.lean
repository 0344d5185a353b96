/-! readBlock: what it reads -/
theorem pS_no {K : Nat → Int32} {k c i : Nat} {L : gU} (h : ¬ pbs (K i)) : pS K k c i L = none := by
  unfold pbs at h
  cases k with
  | zero => rfl
  | succ f =>
    rw [pS]
    split
    · rfl
    · rw [if_neg (fun q => h (by simp [q])), if_neg (fun q => h (by simp [q])), if_neg (fun q => h (by simp [q])), pS1, if_neg (fun q => h (by simp [q])), if_neg (fun q => h (by simp [q])), if_neg (fun q => h (by rcases q with q | q | q <;> simp [q])), if_neg (fun q => h (by rcases q with q | q <;> simp [q])), if_neg (fun q => h (by simp [q])), if_neg (fun q => h (by rcases q with q | q | q | q | q <;> simp [q])), if_neg (fun q => h (by rcases q with q | q <;> simp [q]))]
theorem sf_beginsS {G : mG} {d : Nat} {x : gd} {F : Int32 → gd → Prop} (hp : PN x) (h : ∀ r : Int32, (r = 0 → (x.1 0 9).toInt = 0 → ¬ pbs (x.1 5 (x.1 0 8).toNatClampNeg)) → (¬ r = 0 → (x.1 0 9).toInt = 0 → pbs (x.1 5 (x.1 0 8).toNatClampNeg)) → F r x) : MT G (d + 1) z_beginsS 0 [(0, vr 0)] [] x (ri F) := by
  refine sg_beginsS_0 (sp_here hp (fun r _ h1 => ?_))
  (repeat' (first | apply And.intro | with_reducible intro _))
  all_goals first | (refine ri_i (h 1 (fun q => absurd q (by decide)) (fun _ hb => ?_)); rw [← h1 hb]; unfold pbs; first | exact Or.inl ‹_› | exact Or.inr (Or.inl ‹_›) | exact Or.inr (Or.inr (Or.inl ‹_›)) | exact Or.inr (Or.inr (Or.inr (Or.inl ‹_›))) | exact Or.inr (Or.inr (Or.inr (Or.inr (Or.inl ‹_›)))) | exact Or.inr (Or.inr (Or.inr (Or.inr (Or.inr (Or.inl ‹_›))))) | exact Or.inr (Or.inr (Or.inr (Or.inr (Or.inr (Or.inr (Or.inl ‹_›)))))) | exact Or.inr (Or.inr (Or.inr (Or.inr (Or.inr (Or.inr (Or.inr (Or.inl ‹_›))))))) | exact Or.inr (Or.inr (Or.inr (Or.inr (Or.inr (Or.inr (Or.inr (Or.inr (Or.inl ‹_›)))))))) | exact Or.inr (Or.inr (Or.inr (Or.inr (Or.inr (Or.inr (Or.inr (Or.inr (Or.inr (Or.inl ‹_›))))))))) | exact Or.inr (Or.inr (Or.inr (Or.inr (Or.inr (Or.inr (Or.inr (Or.inr (Or.inr (Or.inr (Or.inl ‹_›)))))))))) | exact Or.inr (Or.inr (Or.inr (Or.inr (Or.inr (Or.inr (Or.inr (Or.inr (Or.inr (Or.inr (Or.inr (Or.inl ‹_›))))))))))) | exact Or.inr (Or.inr (Or.inr (Or.inr (Or.inr (Or.inr (Or.inr (Or.inr (Or.inr (Or.inr (Or.inr (Or.inr (Or.inl ‹_›)))))))))))) | exact Or.inr (Or.inr (Or.inr (Or.inr (Or.inr (Or.inr (Or.inr (Or.inr (Or.inr (Or.inr (Or.inr (Or.inr (Or.inr (Or.inl ‹_›))))))))))))) | exact Or.inr (Or.inr (Or.inr (Or.inr (Or.inr (Or.inr (Or.inr (Or.inr (Or.inr (Or.inr (Or.inr (Or.inr (Or.inr (Or.inr (Or.inl ‹_›)))))))))))))) | exact Or.inr (Or.inr (Or.inr (Or.inr (Or.inr (Or.inr (Or.inr (Or.inr (Or.inr (Or.inr (Or.inr (Or.inr (Or.inr (Or.inr (Or.inr (Or.inl ‹_›))))))))))))))) | exact Or.inr (Or.inr (Or.inr (Or.inr (Or.inr (Or.inr (Or.inr (Or.inr (Or.inr (Or.inr (Or.inr (Or.inr (Or.inr (Or.inr (Or.inr (Or.inr (Or.inl ‹_›)))))))))))))))) | exact Or.inr (Or.inr (Or.inr (Or.inr (Or.inr (Or.inr (Or.inr (Or.inr (Or.inr (Or.inr (Or.inr (Or.inr (Or.inr (Or.inr (Or.inr (Or.inr (Or.inr (‹_›)))))))))))))))))) | (refine ri_i (h 0 (fun _ hb q => ?_) (fun q => absurd rfl q)); rw [← h1 hb] at q; unfold pbs at q; rcases q with q | q | q | q | q | q | q | q | q | q | q | q | q | q | q | q | q | q <;> contradiction)
/-- the row of statements that a block has so far, with what they tell -/
def BLf (k : Nat) (x z : gd) (fi la : Int32) (s c : Nat) (R : gR) : Prop := ((R = [] ∧ la = -1) ∨ ∃ (R' : gR) (q : (Int32 × Nat × Nat) × gU), R = R' ++ [q] ∧ la = q.1.1 ∧ (x.1 0 13).toInt ≤ la.toInt ∧ la.toInt < (z.1 0 13).toInt ∧ z.1 20 la.toNatClampNeg = -1 ∧ ∀ p ∈ R', p.1.1.toInt < q.1.1.toInt) ∧ ln z fi (R.map Prod.fst) ∧ (∀ q ∈ R, vS z (x.1 0 13).toInt (k + 1) q.1.2.1 q.1.2.2 q.1.1 ∧ (x.1 0 13).toInt ≤ q.1.1.toInt ∧ wSt z (x.1 0 13).toInt (k + 1) q.1.1 q.2) ∧ sm (fun q => q.2.1) (R.map Prod.fst) ≤ s ∧ sm (fun q => q.2.2) (R.map Prod.fst) ≤ c
theorem sf_readBlock (k : Nat) (ihS : SfS k) {G : mG} {D : Nat} {x : gd} {F : Int32 → gd → Prop} (hD : 4 * k + 21 ≤ D) (hpre : PreK k (-700) x) (hlt : (x.1 0 9).toInt = 0 → LT x) (hF : ∀ r x', QB k x r x' → FB k x r x' → F r x') : MT G D z_readBlock 0 [(0, vr 0)] [] x (ri F) := by
  obtain ⟨D, rfl⟩ : ∃ m, D = m + 21 := ⟨D - 21, by omega⟩
  obtain ⟨pn, n0, c0, k16, nst⟩ := id hpre
  have k0 : (0 : Int32).toInt = 0 := rfl
  have km : (-1 : Int32).toInt = -1 := rfl
  obtain ⟨K, eK⟩ : ∃ K, K = x.1 5 := ⟨_, rfl⟩
  -- the invariant
  obtain ⟨BI, hBI⟩ : ∃ BI : gd → Int32 → Int32 → gR → Nat → Prop, ∀ z fi la R f, BI z fi la R f ↔ (RP x z ∧ (0 < (x.1 0 9).toInt → cr x ≤ cr z) ∧ ((x.1 0 9).toInt = 0 → -(3 * ((k : Int) + 1)) ≤ cr z) ∧ ((z.1 0 9).toInt = 0 → z.1 0 20 = x.1 0 20 ∧ (x.1 0 8).toInt + 1 ≤ (z.1 0 8).toInt ∧ cr x + 2 ≤ cr z ∧ (x.1 0 21).toInt ≤ (z.1 0 21).toInt ∧ LT z ∧ BLf k x z fi la ((z.1 0 8).toInt - (x.1 0 8).toInt - 1).toNat ((z.1 0 21).toInt - (x.1 0 21).toInt).toNat R ∧ 701 ≤ f + (z.1 0 8).toNatClampNeg) ∧ (∀ (v : Nat) (L : gU), (nwo x).bind (fun i => pBk (pS K k) K v (lts x) i L) = (nwo z).bind (fun j => pBl (pS K k) K v f (lts z) j (L ++ ([(20, v, 0)] ++ R.flatMap Prod.snd))))) := ⟨_, fun _ _ _ _ _ => Iff.rfl⟩
  have p81 : ∀ z fi la R f, BI z fi la R f → ((z.1 0 9).toInt = 0 → K (z.1 0 8).toNatClampNeg = 64) → MT G (D + 21) z_readBlock 81 [(0, vr 0), (1, vi (x.1 0 8)), (2, vi fi)] [] z (ri F) := by
    intro z fi la R f hz h64
    obtain ⟨rz, bz, cz, okz, hE⟩ := (hBI z fi la R f).mp hz
    refine sg_readBlock_81 _ _ (sf_pass _ rz.2.1 (fun y hs hst hy => ?_))
    have z5 : z.1 5 = K := by rw [eK]; exact rz.1.2.1 5 (by decide) (by decide)
    rw [z5] at hy
    have cy := (cr_ss hs).1
    have rxy := RP_tr rz (RP_ss hs)
    have low : -1000 ≤ cr y := by
      by_cases q : 0 < (x.1 0 9).toInt
      · have := bz q; omega
      · have := cz (by have := pn.2.2; omega); omega
    refine sp_node _ _ _ _ _ (nodeV rxy n0 low) (fun w hw => ri_i (hF _ _ ?_ (fun v => ?_)))
    · obtain ⟨hn, rw1, nk, cw, z0, z1, f8, f9, f20, f21⟩ := nodeR rxy n0 low hw
      refine ⟨rw1, fun q => by have := cz q; omega, fun q => by have := bz q; omega, z0, fun q => ?_⟩
      rw [f9] at q
      have qz := hs.2.2.2.2 q
      obtain ⟨o1, o2, o3, o4, o5, o6, o7⟩ := okz qz
      have st := hst q
      have cy2 := (cr_ss hs).2 q st
      have e21 : y.1 0 21 = z.1 0 21 := hs.1.1 21 (by decide)
      obtain ⟨g1, g2, g3, g4, g5, -⟩ := nE_at hw
      have hRw : RP z w := RP_tr (RP_ss hs) (RP_nE hs.2.1 hn hw).1
      obtain ⟨q1, q2z, q3z, q4, q5⟩ := o6
      have e13 : y.1 0 13 = z.1 0 13 := hs.1.1 13 (by decide)
      have hm := ln_mem _ fi q2z
      have q2 := ln_keep (NL_RP 0 (z.1 0 13).toInt hRw) _ fi (fun p hp => hm p hp) q2z
      rw [f8, f21, e21]
      refine ⟨by rw [f20, hs.1.1 20 (by decide), o1], by omega, by omega, o4, by unfold LT; rw [f21, e21]; exact o5, ⟨z0, z1⟩, by rw [g5]; exact PN_v pn, g1, R.map Prod.fst, by rw [g2]; exact q2, fun p hp => ?_, by omega, q5⟩
      obtain ⟨p', hp', rfl⟩ := List.mem_map.mp hp
      exact ⟨vS_RP (Int.le_refl _) hRw (q3z p' hp').1, by rw [e13]; exact (hm _ hp).2, (q3z p' hp').2.1⟩
    · obtain ⟨hn, rw1, nk, cw, z0, z1, f8, f9, f20, f21⟩ := nodeR rxy n0 low hw
      have e21 : y.1 0 21 = z.1 0 21 := hs.1.1 21 (by decide)
      have ltw : lts w = lts z := by unfold lts; rw [f21, e21]
      rw [← eK]
      refine ⟨[(20, v, 0)] ++ (R.flatMap Prod.snd ++ [(21, v, 0)]), fun L => ?_, fun q => ?_⟩
      · rw [hE v L, nE_nwo hw, hy, ltw]
        cases hz9 : nwo z with
        | none => rfl
        | some j =>
          obtain ⟨b9, b8⟩ := nwo_is hz9
          have h1 := (okz b9).2.2.2.2.2.2
          have h2 := h64 b9
          rw [b8] at h1 h2
          have jl : j ≤ 700 := by have := rz.2.1.2.1; rw [← b8, t_cl]; omega
          obtain ⟨f, rfl⟩ : ∃ m, f = m + 1 := ⟨f - 1, by omega⟩
          show pBl (pS K k) K v (f + 1) (lts z) j _ = (psw K 64 j).map _
          rw [pBl, if_pos h2, psw]
          by_cases c : j < 700
          · rw [if_pos c, if_pos (show K j = 64 ∧ j < 700 from ⟨h2, c⟩)]
            show some (lts z, j + 1, _) = some (lts z, j + 1, _)
            rw [List.append_assoc, List.append_assoc]
          · rw [if_neg c, if_neg (fun z => c z.2)]
            rfl
      · rw [f9] at q
        have qz := hs.2.2.2.2 q
        obtain ⟨o1, o2, o3, o4, o5, o6, o7⟩ := okz qz
        obtain ⟨q1, q2z, q3z, q4, q5⟩ := o6
        obtain ⟨g1, g2, g3, g4, g5, -⟩ := nE_at hw
        have hRw : RP z w := RP_tr (RP_ss hs) (RP_nE hs.2.1 hn hw).1
        have e13 : y.1 0 13 = z.1 0 13 := hs.1.1 13 (by decide)
        have hm := ln_mem _ fi q2z
        have q2 := ln_keep (NL_RP 0 (z.1 0 13).toInt hRw) _ fi (fun p hp => hm p hp) q2z
        refine ⟨⟨z0, z1⟩, g1, R, by rw [g2]; exact q2, fun p hp => ⟨wS_RP (Int.le_refl _) hRw (q3z p hp).2.2, ?_, (q3z p hp).2.1⟩, rfl⟩
        rw [e13]; exact (hm _ (List.mem_map.mpr ⟨p, hp, rfl⟩)).2
  have body : ∀ z fi la R f, BI z fi la R f → (∀ z' fi' la' R' f', BI z' fi' la' R' f' → ((z'.1 0 9).toInt = 0 → (z.1 0 8).toInt + 1 ≤ (z'.1 0 8).toInt) → MT G (D + 21) z_readBlock 15 [(0, vr 0), (1, vi (x.1 0 8)), (2, vi fi'), (3, vi la')] [] z' (ri F)) → MT G (D + 21) z_readBlock 15 [(0, vr 0), (1, vi (x.1 0 8)), (2, vi fi), (3, vi la)] [] z (ri F) := by
    intro z fi la R f hz next
    obtain ⟨rz, bz, cz, okz, hE⟩ := (hBI z fi la R f).mp hz
    refine sg_readBlock_15 _ _ _ ⟨fun cb => p81 z fi la R f hz (fun q => absurd (t_eq.mpr (q.trans k0.symm)) cb), fun cb => ?_⟩
    have b0 : (z.1 0 9).toInt = 0 := by rw [cb]; rfl
    have x0 := rz.2.2.2.1 b0
    obtain ⟨o1, o2, o3, o4, o5, o6, o7⟩ := okz b0
    obtain ⟨nx1, nx2⟩ := nst x0
    have pz := rz.2.1
    have pz2 := pz.2.1
    have pz1 := pz.1
    have mono := rz.2.2.2.2.1
    have z5 : z.1 5 = K := by rw [eK]; exact rz.1.2.1 5 (by decide) (by decide)
    obtain ⟨j, ej⟩ : ∃ j, j = (z.1 0 8).toNatClampNeg := ⟨_, rfl⟩
    have hj : nwo z = some j := by rw [ej]; exact nwo_o b0
    have jl : j ≤ 700 := by rw [ej, t_cl]; omega
    rw [← ej] at o7
    obtain ⟨f, rfl⟩ : ∃ m, f = m + 1 := ⟨f - 1, by omega⟩
    refine sp_here pz (fun r _ hr => ⟨fun c => p81 z fi la R (f + 1) hz (fun _ => by rw [← z5, ← hr b0]; exact c), fun c => sf_beginsS pz (fun r6 h6 h6b => ⟨fun c6 => ?_, fun c6 => ?_⟩)⟩)
    · have n64 : ¬ K j = 64 := by rw [ej, ← z5, ← hr b0]; exact c
      refine ihS G (D + 20) z _ (by omega) ⟨pz, by omega, by omega, k16, fun _ => ⟨by rw [o1]; exact nx1, by omega⟩⟩ b0 o5 (h6b c6 b0) (fun r9 y hy hfy => ?_)
      obtain ⟨ry, cy, rr, oky⟩ := hy
      obtain ⟨M9, f9, v9⟩ := hfy
      rw [z5] at f9
      have rxy := RP_tr rz ry
      obtain ⟨q1, q2, q3, q4, q5⟩ := o6
      have hm := ln_mem _ fi q2
      have eq : ∀ (w : gd) (p : Int32 × Nat × Nat), nwo w = nwo y → lts w = lts y → ∀ (v : Nat) (L : gU), (nwo x).bind (fun i => pBk (pS K k) K v (lts x) i L) = (nwo w).bind (fun j => pBl (pS K k) K v f (lts w) j (L ++ ([(20, v, 0)] ++ (R ++ [(p, M9)]).flatMap Prod.snd))) := by
        intro w p e1 e2 v L
        rw [hE v L, hj, e1, e2]
        show pBl (pS K k) K v (f + 1) (lts z) j _ = _
        rw [pBl, if_neg n64]
        have f9L := f9 (L ++ ([(20, v, 0)] ++ R.flatMap Prod.snd))
        rw [hj] at f9L
        have f9M : pS K k (lts z) j (L ++ ([(20, v, 0)] ++ R.flatMap Prod.snd)) = (nwo y).map (fun j => (lts y, j, L ++ ([(20, v, 0)] ++ R.flatMap Prod.snd) ++ M9)) := f9L
        rw [f9M]
        cases nwo y with
        | none => rfl
        | some j2 =>
          have e9 : (R ++ [(p, M9)]).flatMap Prod.snd = R.flatMap Prod.snd ++ M9 := by
            rw [List.flatMap_append]
            show _ ++ (M9 ++ []) = _
            rw [List.append_nil]
          show pBl (pS K k) K v f (lts y) j2 (L ++ ([(20, v, 0)] ++ R.flatMap Prod.snd) ++ M9) = pBl (pS K k) K v f (lts y) j2 (L ++ ([(20, v, 0)] ++ (R ++ [(p, M9)]).flatMap Prod.snd))
          rw [e9, List.append_assoc, List.append_assoc]
      refine ⟨fun nl => ?_, fun el => ?_⟩
      · rcases q1 with ⟨-, q1⟩ | ⟨R', p, g1, g2, g3, g3b, g4, g5⟩
        · exact absurd q1 nl
        · have hv : vp_in la 3000 := by
            unfold cr at o3
            rw [vp_in_iff]
            unfold cr at nx2
            omega
          refine ⟨hv, fun w ew => next w fi r9 (R ++ [((r9, ((y.1 0 8).toInt - (z.1 0 8).toInt).toNat, ((y.1 0 21).toInt - (z.1 0 21).toInt).toNat), M9)]) f ?_ (fun q => ?_)⟩
          · obtain ⟨rw1, nl2, cw, f8, f9', f13, f20, f21, fl, fo⟩ := RP_link rxy g3 n0 ew
            have mw := md_a y 20 la.toNatClampNeg r9 (by decide)
            rw [← ew] at mw
            refine (hBI w fi r9 _ f).mpr ⟨rw1, fun q => by omega, fun _ => by omega, fun q => ?_, eq w _ (nwo_e f8 f9') (by unfold lts; rw [f21])⟩
            rw [f9'] at q
            obtain ⟨u1, u2, u3, u4, u5, u6, u7, u8⟩ := oky q
            rw [f8, f20, f21]
            have myz := ry.2.2.2.2.1
            have hry : 0 ≤ r9.toInt ∧ r9.toInt < (y.1 0 13).toInt := u6.1
            refine ⟨by rw [u1, o1], by omega, by omega, by omega, by unfold LT; rw [f21]; exact u5, ⟨Or.inr ⟨R, _, rfl, rfl, by omega, by rw [f13]; exact hry.2, ?_, ?_⟩, ?_, ?_, ?_, ?_⟩, by rw [ej, t_cl] at o7; rw [t_cl]; omega⟩
            · rw [fo _ (by rw [t_cl, t_cl]; omega)]; exact u7
            · intro p2 hp2
              have := (hm p2.1 (List.mem_map.mpr ⟨p2, hp2, rfl⟩)).2
              show p2.1.1.toInt < r9.toInt
              omega
            · rw [g1] at q2 ⊢
              rw [List.map_append, List.map_append, List.append_assoc]
              rw [List.map_append] at q2
              have hk : ∀ j : Nat, (j : Int) < p.1.1.toInt → w.1 20 j = z.1 20 j := by
                intro j hj
                rw [← g2] at hj
                rw [fo j (by rw [t_cl]; omega)]
                exact ry.2.2.2.2.2 20 (by decide) (by decide) j (by omega)
              refine ln_snoc (R'.map Prod.fst) fi p.1 _ q2 w (by rw [f13]; exact myz) (by rw [f13]; exact hry) hk (by rw [← g2]; exact fl) ?_ (fun a ha => ?_)
              · show w.1 20 r9.toNatClampNeg = -1
                rw [fo _ (by rw [t_cl, t_cl]; omega)]; exact u7
              · obtain ⟨a', ha', rfl⟩ := List.mem_map.mp ha
                exact g5 a' ha'
            · intro p2 hp2
              rcases List.mem_append.mp hp2 with hp2 | hp2
              · have hle : p2.1.1.toInt ≤ la.toInt := by
                  rw [g1] at hp2
                  rcases List.mem_append.mp hp2 with hp3 | hp3
                  · have := g5 p2 hp3
                    rw [← g2] at this
                    omega
                  · rw [List.mem_singleton.mp hp3, ← g2]; exact Int.le_refl _
                exact ⟨vS_keep (Int.le_refl _) (nl2 _) _ _ _ _ hle (vS_RP (Int.le_refl _) ry (q3 p2 hp2).1), (q3 p2 hp2).2.1, wS_keep (Int.le_refl _) ⟨nl2 _, mw.2.1 5 (by decide) (by decide), mw.2.1 7 (by decide) (by decide)⟩ _ _ _ hle (wS_RP (Int.le_refl _) ry (q3 p2 hp2).2.2)⟩
              · rw [List.mem_singleton.mp hp2]
                refine ⟨vS_keep mono (l := r9.toInt) ⟨(nl2 0).1, fun j hj hj3 hj2 => fo j (by rw [t_cl]; omega)⟩ _ _ _ _ (Int.le_refl _) u6, ?_, wS_keep mono (l := r9.toInt) ⟨⟨(nl2 0).1, fun j hj hj3 hj2 => fo j (by rw [t_cl]; omega)⟩, mw.2.1 5 (by decide) (by decide), mw.2.1 7 (by decide) (by decide)⟩ _ _ _ (Int.le_refl _) (v9 q)⟩
                show (x.1 0 13).toInt ≤ r9.toInt
                omega
            · rw [List.map_append]
              show sm (fun q => q.2.1) (R.map Prod.fst ++ [(r9, ((y.1 0 8).toInt - (z.1 0 8).toInt).toNat, ((y.1 0 21).toInt - (z.1 0 21).toInt).toNat)]) ≤ _
              rw [sm_app]
              show sm (fun q => q.2.1) (R.map Prod.fst) + ((y.1 0 8).toInt - (z.1 0 8).toInt).toNat ≤ _
              omega
            · rw [List.map_append]
              show sm (fun q => q.2.2) (R.map Prod.fst ++ [(r9, ((y.1 0 8).toInt - (z.1 0 8).toInt).toNat, ((y.1 0 21).toInt - (z.1 0 21).toInt).toNat)]) ≤ _
              rw [sm_app]
              show sm (fun q => q.2.2) (R.map Prod.fst) + ((y.1 0 21).toInt - (z.1 0 21).toInt).toNat ≤ _
              omega
          · obtain ⟨rw1, nl2, cw, f8, f9', f13, f20, f21, fl, fo⟩ := RP_link rxy g3 n0 ew
            rw [f9'] at q
            obtain ⟨u1, u2, -⟩ := oky q
            rw [f8]; omega
      · have hR : R = [] := by
          rcases q1 with ⟨q1, -⟩ | ⟨R', p, g1, g2, g3, g3b, g4, g5⟩
          · exact q1
          · exfalso; rw [el, km] at g3; omega
        refine next y r9 r9 (R ++ [((r9, ((y.1 0 8).toInt - (z.1 0 8).toInt).toNat, ((y.1 0 21).toInt - (z.1 0 21).toInt).toNat), M9)]) f ((hBI y r9 r9 _ f).mpr ⟨rxy, fun q => by omega, fun _ => cy, fun q => ?_, eq y _ rfl rfl⟩) (fun q => ?_)
        · obtain ⟨u1, u2, u3, u4, u5, u6, u7, u8⟩ := oky q
          have hry : 0 ≤ r9.toInt ∧ r9.toInt < (y.1 0 13).toInt := u6.1
          rw [hR]
          refine ⟨by rw [u1, o1], by omega, by omega, by omega, u5, ⟨Or.inr ⟨[], _, rfl, rfl, by omega, hry.2, u7, fun p hp => absurd hp List.not_mem_nil⟩, ⟨rfl, hry, u7⟩, ?_, ?_, ?_⟩, by rw [ej, t_cl] at o7; rw [t_cl]; omega⟩
          · intro p2 hp2
            rw [List.mem_singleton.mp hp2]
            refine ⟨vS_low mono u6, ?_, wS_low mono (v9 q)⟩
            show (x.1 0 13).toInt ≤ r9.toInt
            omega
          · show ((y.1 0 8).toInt - (z.1 0 8).toInt).toNat + 0 ≤ _
            omega
          · show ((y.1 0 21).toInt - (z.1 0 21).toInt).toNat + 0 ≤ _
            omega
        · obtain ⟨u1, u2, -⟩ := oky q
          omega
    · refine sp_fault _ _ (by decide) (PN_v pz) pz (fun y hs hb e8 m => next y fi la R f ((hBI y fi la R f).mpr ⟨RP_tr rz (RP_ss hs), fun q => by omega, fun q => ?_, fun q => by omega, fun v L => ?_⟩) (fun q => by omega))
      · have := (cr_ss hs).1
        have := cz q
        omega
      · rw [hE v L, hj, nwo_b hb]
        show pBl (pS K k) K v (f + 1) (lts z) j _ = none
        have n64 : ¬ K j = 64 := by rw [ej, ← z5, ← hr b0]; exact c
        have nb := h6 c6 b0
        rw [z5, ← ej] at nb
        rw [pBl, if_neg n64, pS_no nb]
        rfl
  have exit : ∀ z fi la R f, BI z fi la R f → ¬ (z.1 0 9).toInt = 0 → MT G (D + 21) z_readBlock 15 [(0, vr 0), (1, vi (x.1 0 8)), (2, vi fi), (3, vi la)] [] z (ri F) := by
    intro z fi la R f hz hb
    refine sg_readBlock_15 _ _ _ ⟨fun _ => p81 z fi la R f hz (fun q => absurd q hb), fun cb => ?_⟩
    rw [t_eq, k0] at cb
    exact absurd cb hb
  have loop : ∀ (n : Nat) (z : gd) (fi la : Int32) (R : gR) (f : Nat), BI z fi la R f → 700 - (z.1 0 8).toInt ≤ n → MT G (D + 21) z_readBlock 15 [(0, vr 0), (1, vi (x.1 0 8)), (2, vi fi), (3, vi la)] [] z (ri F) := by
    intro n
    induction n with
    | zero =>
      intro z fi la R f hz hn
      refine body z fi la R f hz (fun z' fi' la' R' f' hz' hp' => exit z' fi' la' R' f' hz' (fun q => ?_))
      have := hp' q
      have := ((hBI z' fi' la' R' f').mp hz').1.2.1.2.1
      omega
    | succ n ihn =>
      intro z fi la R f hz hn
      refine body z fi la R f hz (fun z' fi' la' R' f' hz' hp' => ?_)
      by_cases q : (z'.1 0 9).toInt = 0
      · exact ihn z' fi' la' R' f' hz' (by have := hp' q; omega)
      · exact exit z' fi' la' R' f' hz' q
  refine sg_readBlock_0 (sf_pass _ pn (fun y hs hst hy => loop _ y _ _ [] 701 ((hBI y (-1) (-1) [] 701).mpr ⟨RP_ss hs, fun _ => (cr_ss hs).1, fun q => ?_, fun q => ?_, fun v L => ?_⟩) (Int.self_le_toNat _)))
  · have := (cr_ss hs).1
    have := nst q
    omega
  · have st := hst q
    have x0 := hs.2.2.2.2 q
    have c2 := (cr_ss hs).2 q st
    have e21 : y.1 0 21 = x.1 0 21 := hs.1.1 21 (by decide)
    exact ⟨hs.1.1 20 (by decide), by omega, by omega, by rw [e21]; exact Int.le_refl _, by unfold LT; rw [e21]; exact hlt x0, ⟨Or.inl ⟨rfl, rfl⟩, rfl, fun p hp => absurd hp List.not_mem_nil, Nat.zero_le _, Nat.zero_le _⟩, by omega⟩
  · have lty : lts y = lts x := by unfold lts; rw [hs.1.1 21 (by decide)]
    rw [hy, lty, ← eK]
    cases hx : nwo x with
    | none => rfl
    | some i =>
      show pBk (pS K k) K v (lts x) i L = (psw K 63 i).bind _
      rw [pBk, psw]
      by_cases c : K i = 63 ∧ i < 700
      · rw [if_pos c, if_pos c]; rfl
      · rw [if_neg c, if_neg c]; rfl
