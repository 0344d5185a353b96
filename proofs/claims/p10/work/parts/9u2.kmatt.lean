/-! the class: attempt() -/
/-- what a trying changes, with what is made for it -/
def sAt (o c k : Nat) : Prop := (180 ≤ c ∧ c < 260) ∨ (o ≤ c ∧ c ≤ o + 14) ∨ 300 ≤ c ∨ (c = 60 ∧ k = 5) ∨ c = 65
section KAT
variable {G : kG} {q : kP} {d : Nat} {x y z : gd} {o : Nat} {P : Option gv → gd → kP → Prop} {X : String → gd → kP → Prop} {C : gCo} {nl : Nat}
theorem kh_attempt (hu : kU q) (hH : HOI x q) (l1 l2 : Int32) (hK : ¬ x.1 0 9 = 0 → CK x C ∧ NC C ∧ NXc C ∧ NX3 C ∧ LkN C nl ∧ NCq C ∧ (x.1 60 9).toInt = (nl : Nat)) (hS : x.1 0 9 = 0 → X iSE x q) (hA : ¬ x.1 0 9 = 0 → ¬ ((l1 = 0 ∨ l1 = 1) ∧ 1 ≤ l2.toInt ∧ l2.toInt ≤ 3000) → X iAE x q) (hP : ∀ (w lim : Nat) y q1, (w = 0 ∨ w = 1) → l1 = Int32.ofNat w → l2.toInt = (lim : Nat) → 1 ≤ lim → lim ≤ 3000 → ¬ x.1 0 9 = 0 → kU q1 → kle q q1 → HOI y q1 → KF x y → fm (sAt (260 + 20 * w)) x y → TR3 C w y (260 + 20 * w) (tryM C w lim) → P (some (vi (y.1 (260 + 20 * w) 0))) y q1) : KM G q (d + 7) zk_X11_attempt 0 [(0, vr 0), (1, vi l1), (2, vi l2)] [] x P X := by
  have k1 : (1 : Int32).toInt = 1 := rfl
  have k3 : (3000 : Int32).toInt = 3000 := rfl
  refine kg_X11_attempt_0 hu l1 l2 (kf_comp hu.1 hH hS (fun c9 hC => kf_way hu.1 l1 (fun z => hA c9 (fun z2 => z z2.1)) (fun hw => ?_)))
  obtain ⟨hKx, hN, hXc, hX3, hLk, hq2, en⟩ := hK c9
  have hv := way_in hw
  obtain ⟨w, w01, ew, ewn⟩ := w_nat hw
  refine ⟨fun c => kg_X11_attempt_20 hu (hA c9 (fun z => ?_)), fun c1 => ⟨fun c3 => ?_, fun c => kg_X11_attempt_20 hu (hA c9 (fun z => ?_))⟩⟩
  · rw [t_lt, k1] at c; omega
  rotate_left
  · rw [t_le, k3] at c; omega
  rw [t_lt, k1] at c1
  rw [t_le, k3] at c3
  obtain ⟨lim, el⟩ : ∃ lim : Nat, l2.toInt = lim := ⟨l2.toInt.toNat, by omega⟩
  have b1 : 1 ≤ lim := by omega
  have b3 : lim ≤ 3000 := by omega
  have hP := fun y q1 => hP w lim y q1 w01 ew el b1 b3 c9
  clear hA hS hK
  have p75 : ∀ (q1 : kP) (y : gd), kU q1 → kle q q1 → HOI y q1 → CO y → q1.ex = true → (kf q1).1 7 w = some (260 + 20 * w) → KF x y → fm (sAt (260 + 20 * w)) x y → KM G q1 (d + 7) zk_X11_attempt 75 [(0, vr 0), (1, vi l1), (2, vi l2)] [] y P X := by
    intro q1 y hu1 hl1 hH1 hC1 he eo elf fy
    have ho := k7_T eo
    have ac : agC x y := fun c k hc => fy c k (by unfold sAt; omega)
    refine kg_X11_attempt_75 hu1 l1 l2 (fun u1 e1 => ⟨hv, fun u3 e3 => ⟨260 + 20 * w, by rw [e3, ewn, eo], ho, by rw [e1, k07_t he], he, ?_⟩⟩)
    rw [ew]
    refine kx_explore3 hu1 he ho hC1 (CK_f hKx ac) hN hXc hX3 hLk hq2 (by rw [ac 60 9 (by omega)]; exact en) w01 l2 el b1 b3 (fun z q7 hu7 hl7 et7 fz hz ht hJ hT hF => ⟨by rw [← ew]; exact hv, fun u9 e9 => ⟨260 + 20 * w, by rw [e9, ← ew, ewn, k7_le hl7 eo], kle_T hl7 ho, ?_⟩⟩)
    exact hP z q7 hu7 (kle_tr hl1 hl7) (HOI_ex hl7 hu7 ho fz hz ht hC1 hH1) (KF_tr elf (KF_fm fz (fun c k q => by unfold sEx at q; omega))) (fm_tr fy (fm_w fz (fun c k q => by unfold sEx at q; unfold sAt; omega))) (TR3_of hT hF)
  have p53 : ∀ (q1 : kP) (y : gd), kU q1 → kle q q1 → HOI y q1 → CO y → q1.ex = true → KF x y → fm (sAt (260 + 20 * w)) x y → KM G q1 (d + 7) zk_X11_attempt 53 [(0, vr 0), (1, vi l1), (2, vi l2)] [] y P X := by
    intro q1 y hu1 hl1 hH1 hC1 he elf fy
    refine kg_X11_attempt_53 hu1 l1 l2 ⟨hv, fun u2 e2 => ⟨fun hn => ⟨hv, fun i0 => ?_, fun i1 => ?_⟩, fun c4 h4 => ?_⟩⟩
    · have w0 : w = 0 := by rw [i0] at ewn; exact ewn.symm
      rw [i0, hn] at e2
      refine ⟨k7_n0 e2.symm, fun q5 x6 e5 e6 hu5 hl5 => ?_⟩
      have f6 : fm (fun c k => 260 ≤ c ∧ c ≤ 260 + 14) y x6 := by
        rw [e6]
        exact fm_new (fun c hc k => (by decide +kernel : ∀ c ∈ 260 :: ops_260.flatMap xtch, 260 ≤ c ∧ c ≤ 260 + 14) c hc)
      refine p75 q5 x6 hu5 (kle_tr hl1 hl5) (HOI_Tn (Or.inl rfl) f6 (by rw [e6]; rfl) (by rw [e6]; rfl) hl5 hu5 hH1) (CO_fm hC1 (fun c k hc => f6 c k (by omega))) (hl5.2.1.2.1 he) ?_ (KF_tr elf (KF_fm f6 (fun c k q => by omega))) (fm_tr fy (fm_w f6 (fun c k q => by unfold sAt; omega)))
      rw [w0, e5]; rfl
    · have w1 : w = 1 := by rw [i1] at ewn; exact ewn.symm
      rw [i1, hn] at e2
      refine ⟨k7_n1 e2.symm, fun q5 x6 e5 e6 hu5 hl5 => ?_⟩
      have f6 : fm (fun c k => 280 ≤ c ∧ c ≤ 280 + 14) y x6 := by
        rw [e6]
        exact fm_new (fun c hc k => (by decide +kernel : ∀ c ∈ 280 :: ops_280.flatMap xtch, 280 ≤ c ∧ c ≤ 280 + 14) c hc)
      refine p75 q5 x6 hu5 (kle_tr hl1 hl5) (HOI_Tn (Or.inr rfl) f6 (by rw [e6]; rfl) (by rw [e6]; rfl) hl5 hu5 hH1) (CO_fm hC1 (fun c k hc => f6 c k (by omega))) (hl5.2.1.2.1 he) ?_ (KF_tr elf (KF_fm f6 (fun c k q => by omega))) (fm_tr fy (fm_w f6 (fun c k q => by unfold sAt; omega)))
      rw [w1, e5]; rfl
    · rw [h4, ewn] at e2
      have eo := (k7_w e2.symm).2
      exact p75 q1 y hu1 hl1 hH1 hC1 he (by rw [← e2, eo]) elf fy
  intro u5 e5
  refine ⟨fun hn => ⟨k07_n (by rw [← e5, hn]), fun q8 x9 e8 e9 hu8 hl8 => ?_⟩, fun c7 h7 => p53 q x hu (kle_rf q) hH hC (k07_s (e5.symm.trans h7)) KF_rf (fm_rf _ _)⟩
  have f9 : fm sNw x x9 := by
    rw [e9]
    refine fm_new (fun c hc k => ?_)
    exact (by decide +kernel : ∀ c ∈ 200 :: ops_200.flatMap xtch, (180 ≤ c ∧ c < 260) ∨ 300 ≤ c) c hc
  exact p53 q8 x9 hu8 hl8 (HOI_mk hl8 hu8 f9 hH) (CO_fm hC (fun c k hc => f9 c k (by unfold sNw; omega))) (by rw [e8]; rfl) (KF_fm f9 (fun c k q => by unfold sNw at q; omega)) (fm_w f9 (fun c k q => by unfold sNw at q; unfold sAt; omega))
end KAT
