/-! the class: show() -/
section KSW
variable {G : kG} {q : kP} {d : Nat} {x y z : gd} {o : Nat} {F : Int32 → gd → Prop} {Fv : gd → Prop} {P : Option gv → gd → Prop} {X : String → gd → Prop} {C : gCo} {T : gTy} {nl w n : Nat} {c : Nat → Nat}
theorem k7_w {k : Nat} (h : (kf q).1 7 k = some o) : (k = 0 ∨ k = 1) ∧ o = 260 + 20 * k := by
  have h : kR q 7 k = some o := h
  unfold kR at h
  rw [if_neg (by omega), if_neg (by omega), if_pos rfl] at h
  by_cases e0 : k = 0
  · rw [if_pos e0] at h
    by_cases e : q.t0 = true
    · rw [if_pos e] at h; cases h; exact ⟨Or.inl e0, by omega⟩
    · rw [if_neg e] at h; cases h
  · rw [if_neg e0] at h
    by_cases e1 : k = 1
    · rw [if_pos e1] at h
      by_cases e : q.t1 = true
      · rw [if_pos e] at h; cases h; exact ⟨Or.inr e1, by omega⟩
      · rw [if_neg e] at h; cases h
    · rw [if_neg e1] at h; cases h
theorem w_nat {l : Int32} (hw : l = 0 ∨ l = 1) : ∃ w : Nat, (w = 0 ∨ w = 1) ∧ l = Int32.ofNat w ∧ l.toNatClampNeg = w := by
  rcases hw with e | e
  · exact ⟨0, Or.inl rfl, e, by rw [e]; rfl⟩
  · exact ⟨1, Or.inr rfl, e, by rw [e]; rfl⟩
theorem kh_was (hq : kV q) (hH : HOI x q) (l : Int32) (w01 : w = 0 ∨ w = 1) (el : l = Int32.ofNat w) (h0 : x.1 (260 + 20 * w) 0 = 0 → F 0 x) (h1 : (kf q).1 7 w = some (260 + 20 * w) → kiT q (260 + 20 * w) → TZ x (260 + 20 * w) → CO x → ¬ x.1 (260 + 20 * w) 0 = 0 → F 1 x) : KT G q d zk_X11_wasTried 0 [(0, vr 0), (1, vi l)] [] x (ri F) := by
  have k0 : (0 : Int32).toInt = 0 := rfl
  have hw : l = 0 ∨ l = 1 := by
    rcases w01 with e | e <;> rw [el, e]
    · exact Or.inl rfl
    · exact Or.inr rfl
  have ew : l.toNatClampNeg = w := by rcases w01 with e | e <;> rw [el, e] <;> rfl
  have v := way_in hw
  have hO : 260 + 20 * w = 260 ∨ 260 + 20 * w = 280 := by omega
  refine kg_X11_wasTried_0 hq l ⟨v, fun u2 e2 => ⟨fun hn => ri_i (h0 ?_), fun c4 h4 => ⟨v, fun u6 e6 => ⟨c4, by rw [e6, ← e2, h4], k7_T (by rw [← e2, h4]), ?_⟩⟩⟩⟩
  · refine (hH.2.2.2 _ hO).2 (fun z => ?_)
    rw [ew] at e2
    have : (kf q).1 7 w = some (260 + 20 * w) := by
      show kR q 7 w = _
      unfold kR
      rw [if_neg (by omega), if_neg (by omega), if_pos rfl]
      rcases w01 with e | e
      · rcases z with ⟨-, z⟩ | ⟨z, -⟩
        · rw [if_pos e, if_pos z, e]
        · omega
      · rcases z with ⟨z, -⟩ | ⟨-, z⟩
        · omega
        · rw [if_neg (by omega), if_pos e, if_pos z, e]
    rw [← e2, hn] at this
    cases this
  · rw [h4] at e2
    have e2 : (kf q).1 7 l.toNatClampNeg = some c4 := e2.symm
    rw [ew] at e2
    obtain ⟨-, ec⟩ := k7_w e2
    have ho := k7_T e2
    rw [ec] at e2 ho ⊢
    obtain ⟨⟨t1, t2⟩, -⟩ := hH.2.2.2 _ hO
    have nn : 0 ≤ (x.1 (260 + 20 * w) 0).toInt := by
      rcases t2 with e | ⟨a, b⟩
      · rw [e]; exact Int.le_refl _
      · exact a.1.1
    refine ⟨fun c => ri_i (h0 ?_), fun c => ri_i ?_⟩
    · rw [t_le, k0] at c; rw [t_eq, k0]; omega
    · have nz : ¬ x.1 (260 + 20 * w) 0 = 0 := fun z => c (by rw [z, t_le]; exact Int.le_refl _)
      rcases t2 with e | ⟨a, b⟩
      · exact absurd e nz
      · exact h1 e2 ho a b nz
theorem kh_fnd (hq : kV q) (l : Int32) (hA : ¬ (0 ≤ l.toInt ∧ l.toInt < 11) → X iAE x) (h : 0 ≤ l.toInt → l.toInt < 11 → Fv x) : KE G q (d + 6) zk_X11_needFinding 0 [(0, vi l)] [] x (rv Fv) X := by
  have k0 : (0 : Int32).toInt = 0 := rfl
  have k11 : (11 : Int32).toInt = 11 := rfl
  refine kg_X11_needFinding_0 hq l ⟨fun c => kg_X11_needFinding_10 hq (hA ?_), fun c => ⟨fun c2 => rv_i (h ?_ ?_), fun c2 => kg_X11_needFinding_10 hq (hA ?_)⟩⟩
  · rw [t_lt, k0] at c; omega
  · rw [t_lt, k0] at c; omega
  · rw [t_lt, k11] at c2; exact c2
  · rw [t_lt, k11] at c2; omega
/-- the first state that shows a finding -/
def fsF (C : gCo) (w : Nat) (T : gTy) (f s : Nat) : Prop := ∃ p, T.1[s]? = some p ∧ fnM C w p.1 f ∧ ∀ s' p', s' < s → T.1[s']? = some p' → ¬ fnM C w p'.1 f
theorem kh_show {Tw : Nat → gTy} (hq : kV q) (hH : HOI x q) (l1 l2 : Int32) (hT : ∀ w, (w = 0 ∨ w = 1) → ¬ x.1 (260 + 20 * w) 0 = 0 → (CK x C ∧ GC C ∧ NX3 C) ∧ TR3 C w x (260 + 20 * w) (Tw w) ∧ TW C w (Tw w)) (hA : ¬ ((l1 = 0 ∨ l1 = 1) ∧ 0 ≤ l2.toInt ∧ l2.toInt < 11) → X iAE x) (hS : ∀ w, (w = 0 ∨ w = 1) → l1 = Int32.ofNat w → 0 ≤ l2.toInt → l2.toInt < 11 → (x.1 (260 + 20 * w) 0 = 0 ∨ (¬ x.1 (260 + 20 * w) 0 = 0 ∧ ∀ s, fsF C w (Tw w) l2.toInt.toNat s → 400 < (pth (Tw w) s).length)) → X iSE x) (hP : ∀ w s y, (w = 0 ∨ w = 1) → l1 = Int32.ofNat w → 0 ≤ l2.toInt → l2.toInt < 11 → ¬ x.1 (260 + 20 * w) 0 = 0 → fsF C w (Tw w) l2.toInt.toNat s → (pth (Tw w) s).length ≤ 400 → HOI y q → fm sRn x y → (∀ c, (∀ k v, (pth (Tw w) s)[k]? = some v → c k = v) → KRun C w (pth (Tw w) s).length c y) → y.1 0 10 = 1 → P (some (vi (Int32.ofNat (pth (Tw w) s).length))) y) : KE G q (d + 7) zk_X11_show 0 [(0, vr 0), (1, vi l1), (2, vi l2)] [] x P X := by
  have k1 : (1 : Int32).toInt = 1 := rfl
  have k4 : (400 : Int32).toInt = 400 := rfl
  refine kg_X11_show_0 hq l1 l2 (kf_way hq l1 (fun z => hA (fun z2 => z z2.1)) (fun hw => kh_fnd hq l2 (fun z => hA (fun z2 => z z2.2)) (fun f0 f11 => ?_)))
  obtain ⟨w, w01, ew, ewn⟩ := w_nat hw
  obtain ⟨o, eo⟩ : ∃ o, o = 260 + 20 * w := ⟨_, rfl⟩
  have hO : o = 260 ∨ o = 280 := by omega
  have hS := hS w w01 ew f0 f11
  refine kg_X11_firstState_0 hq l1 l2 (kh_was (w := w) hq hH l1 w01 ew (fun c0 => ⟨fun _ => ?_, fun c => absurd rfl c⟩) (fun e7 ho hz hC nz => ⟨fun c => absurd c (by decide), fun _ => ⟨way_in hw, fun u5 e5 => ⟨o, by rw [e5, ewn, e7, eo], by rw [eo]; exact ho, by rw [vp_in_iff]; omega, ?_⟩⟩⟩))
  · exact ri_i ⟨fun c => absurd rfl c, fun _ => hS (Or.inl c0)⟩
  obtain ⟨⟨hK, gc, hX3⟩, hTR, hTW⟩ := hT w w01 nz
  rw [← eo] at e7 ho hz nz hTR hS
  have hP := hP w
  rw [← eo] at hP
  have F2 : l2.toNatClampNeg = l2.toInt.toNat := rfl
  obtain ⟨⟨t0, -⟩, hPA, hFN⟩ := hTR
  have ff := hFN l2.toInt.toNat (by omega)
  rw [F2]
  refine ri_i ⟨fun c => ?_, fun c => hS (Or.inr ⟨nz, fun s hs => ?_⟩)⟩
  rotate_left
  · rcases ff with ⟨-, g2⟩ | ⟨s9, p9, -, g2, -⟩
    · obtain ⟨p, a1, a2, -⟩ := hs
      exact absurd a2 (g2 s p (gt_lt a1) a1)
    · rw [c, tm1] at g2; omega
  rcases ff with ⟨g1, -⟩ | ⟨s, p, g1, g2, g3, g4, g5⟩
  · exact absurd g1 c
  have hfs : fsF C w (Tw w) l2.toInt.toNat s := ⟨p, g3, g4, g5⟩
  have dd := PA_d hTW hPA s s p (Nat.le_refl _) g3
  have hsl := gt_lt g3
  have b3 := hz.1.2
  obtain ⟨r, er⟩ : ∃ r, r = x.1 (o + 7) l2.toInt.toNat := ⟨_, rfl⟩
  rw [← er] at c g2 ⊢
  have rS : r.toNatClampNeg = s := by rw [t_cl, g2]; rfl
  refine ⟨way_in hw, fun u7 e => ⟨o, by rw [e, ewn, e7], ho, by rw [vp_in_iff]; omega, ?_⟩⟩
  rw [rS]
  refine ⟨fun c4 => ⟨way_in hw, fun u13 e13 => ⟨o, by rw [e13, ewn, e7], ho, ?_⟩⟩, fun c4 => hS (Or.inr ⟨nz, fun s9 hs9 => ?_⟩)⟩
  rotate_left
  · obtain ⟨p9, b1, b2, b3⟩ := hs9
    have : s9 = s := by
      apply Classical.byContradiction
      intro ne
      by_cases lt : s9 < s
      · exact g5 s9 p9 lt b1 b2
      · exact b3 s p (by omega) g3 g4
    rw [this]
    rw [t_le, k4, dd] at c4
    omega
  rw [t_le, k4, dd] at c4
  have l4 : (pth (Tw w) s).length ≤ 400 := by omega
  obtain ⟨c9, hc9⟩ : ∃ c9 : Nat → Nat, ∀ k v, (pth (Tw w) s)[k]? = some v → c9 k = v := ⟨fun k => ((pth (Tw w) s)[k]?).getD 0, fun k v hk => congrArg (fun z : Option Nat => z.getD 0) hk⟩
  obtain ⟨r1, r2⟩ := pth_run hTW s s p (Nat.le_refl _) g3 c9 hc9
  have far : x.1 (o + 12) s = Int32.ofNat (pth (Tw w) s).length := i32_of dd
  refine kt_pathTo3 hq ho kk_162 (kl_162 hq) (by omega) r (S := s) g2 g3 hTW hPA (by omega) l4 (fun y fy hy => ?_)
  rw [far, ew]
  have f1 : fm sRn x y := fm_w fy (fun c k q => by unfold sRn; omega)
  have loop : ∀ (n k : Nat) (i : Int32) (y : gd), i.toInt = k → (pth (Tw w) s).length - k ≤ n → k ≤ (pth (Tw w) s).length → fm sRn x y → KRun C w k c9 y → (∀ j, k ≤ j → j < (pth (Tw w) s).length → (y.1 162 j).toInt = (c9 j : Nat)) → y.1 0 10 = 1 → KE G q (d + 7) zk_X11_show 88 [(0, vr 0), (4, vi (Int32.ofNat (pth (Tw w) s).length)), (5, vi i)] [] y P X := by
    have e4 : (Int32.ofNat (pth (Tw w) s).length).toInt = ((pth (Tw w) s).length : Nat) := by rw [← far]; exact dd
    intro n
    have fin : ∀ (k : Nat) (y : gd), k = (pth (Tw w) s).length → fm sRn x y → KRun C w k c9 y → y.1 0 10 = 1 → P (some (vi (Int32.ofNat (pth (Tw w) s).length))) y := fun k y ek fy hR h10 => by
      rw [ek] at hR
      refine hP s y w01 ew f0 f11 nz hfs l4 (HOI_run fy hR.1 hH) fy (fun c hc => KRun_cg (fun k hk => ?_) hR) h10
      have hg := List.getElem?_eq_getElem hk
      rw [hc9 k _ hg, hc k _ hg]
    induction n with
    | zero =>
      intro k i y ei hn hk fy hR hj h10
      refine kg_X11_show_88 hq _ i ⟨fun _ => fin k y (by omega) fy hR h10, fun cc => ?_⟩
      rw [t_le, e4] at cc; omega
    | succ n ih =>
      intro k i y ei hn hk fy hR hj h10
      refine kg_X11_show_88 hq _ i ⟨fun cc => fin k y ?_ fy hR h10, fun cc => ?_⟩
      · rw [t_le, e4] at cc; omega
      rw [t_le, e4] at cc
      have hkl : k < (pth (Tw w) s).length := by omega
      have iK : i.toNatClampNeg = k := by rw [t_cl, ei]; rfl
      rw [iK]
      refine ⟨by rw [vp_in_iff]; omega, kh_doChoice hq (CK_f hK (fun c k hc => fy c k (by unfold sRn; omega))) gc hX3 hR _ (hj k (Nat.le_refl _) hkl) (r2 k hkl) (by omega) rfl (fun z fz hRz h162 hz10 => ih (k + 1) _ z (by rw [t_add (by rw [k1]; omega) (by rw [k1]; omega), k1, ei]; rfl) (by omega) hkl (fm_tr fy fz) hRz (fun j h1 h2 => by rw [h162 j (by omega)]; exact hj j (by omega) h2) (by rw [hz10]; exact h10))⟩
  exact kh_beginRun hq (CO_fm hC (fun c k hc => fy c k (by omega))) (CK_f hK (fun c k hc => fy c k (by omega))) gc w01 c9 (fun z fz hRz h162 h10 => loop _ 0 _ z rfl (Nat.le_refl _) (Nat.zero_le _) (fm_tr f1 fz) hRz (fun j _ h2 => by
    rw [h162 j]
    have hg := List.getElem?_eq_getElem h2
    rw [hy j _ hg, hc9 j _ hg]) h10)
end KSW
