section
/-! the class: its choices are the machine's -/
def kchL (x : gd) (o : Nat) (l : List gCh) : Prop := (x.1 o 13).toInt = (l.length : Nat) ∧ ∀ i ch, l[i]? = some ch → kch x o i ch
/-- one that waits doesn't hold its lock -/
def WLk (C : gCo) (M : gMa) : Prop := ∀ t, t < 6 → ¬ (M.2.2 t).2.2.2.1 = 0 → ¬ (M.2.1 (obM C (M.2.2 t).2.2.1)).1 = t + 1
section KMI
variable {G : kG} {q : kP} {d : Nat} {x x0 y z : gd} {o : Nat} {F : Int32 → gd → Prop} {Fv : gd → Prop} {C : gCo} {M : gMa} {h h' : gTq} {t T w k c s : Nat} {l : List gCh} {ch : gCh}
theorem KMm_Li (hO : o = 120 ∨ o = 220) (hM : MM x o) (hK : CK x C) (f : fm (sLi o) x y) (g : KMm x o C M) : KMm y o C M :=
  KMm_fr hO hM hK (f _ _ (by unfold sLi; omega)) (f _ _ (by unfold sLi; omega)) (f _ _ (by unfold sLi; omega)) (f _ _ (by unfold sLi; omega)) (fun j _ => f _ _ (by unfold sLi; omega)) (rg_Li hO f) g
theorem CK_Li (hO : o = 120 ∨ o = 220) (hK : CK x C) (f : fm (sLi o) x y) : CK y C := CK_f hK (fun c k hc => f c k (by unfold sLi; omega))
theorem kh_canAct (hq : kV q) (ho : kiM q o) (hM : MM x o) (hK : CK x C) (hN : NC C) (g : KMm x o C M) (hWL : WLk C M) (wy : x.1 o 3 = Int32.ofNat w) (w01 : w = 0 ∨ w = 1) (t : Int32) (et : t.toInt = T) (hT : T < C.2.1.length) (hF : ∀ r : Int32, (¬ r = 0 ↔ canM C w M T) → F r x) : KT G q (d + 2) zk_X5_canAct 0 [(0, vr o), (1, vi t)] [] x (ri F) := by
  have nT : (x.1 60 10).toInt = C.2.1.length := hK.2.1.1
  have t6 := hM.1.1.2.2.1
  have hT6 := MM_6 hM.1 (t := T) (by omega)
  have hA := (hM.2.2 T (by omega)).1
  have gT := g.2 T hT
  have k0 : (0 : Int32).toInt = 0 := rfl
  have k2 : (2 : Int32).toInt = 2 := rfl
  have tT : t = Int32.ofNat T := i32_of et
  obtain ⟨st, s1, s2, s3, s4, s5, kn, ns⟩ := kst_at hM hK hN hT gT
  obtain ⟨v, e, -⟩ := MM_st hM.1 hA
  have hcs := (hM.1.2.2.2.1 _ s4).1
  have w3 := kst_w3 hM hK hN hT gT
  have gi := kw_i hA gT
  have l7 := gT.2.2.2.2.2.2.1.1
  have le : ∀ {t' : Nat}, t' < C.2.1.length → (rg x o t' 7 = 0 ↔ (M.2.2 t').2.2.2.2.2.2.1 = []) := fun {t'} ht' => by
    have := (g.2 t' ht').2.2.2.2.2.2.1.1
    rw [t_eq, k0, this, ← List.length_eq_zero_iff]
    omega
  have f0 : ¬ canM C w M T → ri F (some (vi 0)) x := fun z => ri_i (hF _ ⟨fun c => absurd rfl c, fun c => absurd c z⟩)
  have f1 : canM C w M T → ri F (some (vi 1)) x := fun z => ri_i (hF _ ⟨fun _ => z, fun _ => by decide⟩)
  have g7 : ∀ {H : Int32 → gd → Prop}, H (rg x o T 7) x → KT G q (d + 1) zk_X5_get 0 [(0, vr o), (1, vi t), (2, vi 7)] [] x (ri H) := fun hh => kp_get hq ho hM.1 hM.2.1 _ _ et (show (7 : Int32).toInt = ((7 : Nat) : Int) from rfl) hT6 (by omega) hh
  have obE : obM C (M.2.2 T).2.2.1 = st.2.2.2.2.1.toNatClampNeg := by unfold obM; rw [s2]
  refine kg_X5_canAct_0 hq ho _ (kp_isGoing hq ho hM.1 hM.2.1 _ et hT6 (fun hg => ⟨fun _ => ?_, fun c => absurd c (by decide)⟩) (fun hg => ⟨fun c => absurd rfl c, fun _ => f0 (fun z => hg (gi.mpr z.1))⟩))
  have h1 := gi.mp hg
  have hgo := (hM.2.2 T (by omega)).2 hg
  have o16 : st.1 < 16 := by
    have := hgo.1
    rw [s3, s5] at this
    omega
  refine kp_get hq ho hM.1 hM.2.1 _ _ et (show (2 : Int32).toInt = ((2 : Nat) : Int) from rfl) hT6 (by omega) ⟨v, ?_⟩
  rw [e, s3]
  refine kp_sortOf hq ho hM.1 hM.2.1 _ et hT6 hA (fun c3 => ?_) (fun c3 => ?_)
  · -- it does not wait
    have w0 := w3.mp c3
    have so : soM C (M.2.2 T) = st.1 := by unfold soM; rw [if_pos w0, s2]
    rw [s3]
    have oi : (x.1 81 (M.2.2 T).2.2.1).toInt = (st.1 : Nat) := s5
    have op : ∀ {n : Nat}, n < 16 → x.1 81 (M.2.2 T).2.2.1 = Int32.ofNat n → st.1 = n := fun {n} hn z => by
      have e1 : (Int32.ofNat n).toInt = (n : Nat) := Int32.toInt_ofNat_of_lt (by omega)
      rw [t_eq, e1] at z
      omega
    have lk : 5 ≤ st.1 → st.1 ≤ 8 → st.2.2.2.2.1.toInt = (obM C (M.2.2 T).2.2.1 : Nat) ∧ ((obM C (M.2.2 T).2.2.1 : Nat) : Int) < (x.1 60 9).toInt := fun n5 n8 => by
      have a := hcs.2.1 (by omega) (by omega)
      rw [kn.2.2.2.2.1 (by omega)] at a
      rw [obE, t_cl]
      omega
    refine ⟨fun c => f1 ?_, fun c1 => ?_, fun c5 => ?_, fun c15 => ?_, fun c10 => ?_, fun cn => ?_⟩
    · have : st.1 = 0 ∨ st.1 = 12 ∨ st.1 = 13 ∨ st.1 = 14 := by
        rcases c with c | c | c | c
        · exact Or.inl (op (n := 0) (by decide) c)
        · exact Or.inr (Or.inl (op (n := 12) (by decide) c))
        · exact Or.inr (Or.inr (Or.inl (op (n := 13) (by decide) c)))
        · exact Or.inr (Or.inr (Or.inr (op (n := 14) (by decide) c)))
      refine ⟨h1, by omega, fun z => absurd ?_ z, fun z => by omega, fun z => by omega⟩
      rw [so]; omega
    · have e1 : st.1 = 1 := op (n := 1) (by decide) c1
      refine kh_goesLate hq ho hM hK hN wy w01 _ gT.2.2.1 s1 (fun r hr => ⟨fun c => f1 ?_, fun c => g7 ⟨fun c7 => f0 (fun z => ?_), fun c7 => f1 ?_⟩⟩)
      · obtain ⟨r1, r2, r3⟩ := hr.mp c
        refine ⟨h1, by omega, fun z => absurd ?_ z, fun z => by omega, fun z => by omega⟩
        rw [so, obE]
        exact Or.inr (Or.inr (Or.inr (Or.inr ⟨r1, e1, r3⟩)))
      · refine c7 ((le hT).mpr (z.2.2.1 (fun z9 => ?_)))
        rw [so, obE] at z9
        have : w = 1 ∧ st.1 = 1 ∧ suM C st.2.2.2.2.1.toNatClampNeg = false := by
          rcases z9 with z9 | z9 | z9 | z9 | z9
          · omega
          · omega
          · omega
          · omega
          · exact z9
        exact hr.mpr this c
      · exact ⟨h1, by omega, fun _ => (le hT).mp c7, fun z => by omega, fun z => by omega⟩
    · have e5 : st.1 = 5 := op (n := 5) (by decide) c5
      obtain ⟨l1, l2⟩ := lk (by omega) (by omega)
      rw [kn.2.2.2.2.1 (by omega)]
      have l6 := (g.1.2 _ l2).2.1
      have hh := hol_t (M.2.1 (obM C (M.2.2 T).2.2.1)).1 (by omega) T hT6
      have hn := hol_n (M.2.1 (obM C (M.2.2 T).2.2.1)).1 (by omega)
      refine g7 ⟨fun c7 => f0 (fun z => c7 ((le hT).mpr (z.2.2.1 (fun z9 => by omega)))), fun c7 => kh_holder hq ho hM g _ l1 l2 ⟨fun c => f1 ?_, fun c => kh_holder hq ho hM g _ l1 l2 ⟨fun c' => f0 (fun z => ?_), fun c' => f1 ?_⟩⟩⟩
      · exact ⟨h1, by omega, fun _ => (le hT).mp c7, fun _ => Or.inl (hn.mp c), fun z => by omega⟩
      · rcases z.2.2.2.1 (Or.inl (by omega)) with z | z
        · exact c (hn.mpr z)
        · exact c' (by rw [tT]; exact hh.mpr z)
      · rw [tT] at c'
        exact ⟨h1, by omega, fun _ => (le hT).mp c7, fun _ => Or.inr (hh.mp c'), fun z => by omega⟩
    · have := op (n := 15) (by decide) c15
      exact absurd this ns.1.2
    · have e10 : st.1 = 10 := op (n := 10) (by decide) c10
      have a := hcs.2.2 (by omega) (by omega)
      rw [kn.2.2.2.2.1 (by omega)] at a ⊢
      have l1 : st.2.2.2.2.1.toInt = (obM C (M.2.2 T).2.2.1 : Nat) := by rw [obE, t_cl]; omega
      have lo : obM C (M.2.2 T).2.2.1 < C.2.1.length := by omega
      have go := (g.2 _ lo).1
      have gs : (rg x o (obM C (M.2.2 T).2.2.1) 0).toInt = ((M.2.2 (obM C (M.2.2 T).2.2.1)).1 : Nat) := by rw [go.1]; exact Int32.toInt_ofNat_of_lt (by omega)
      refine g7 ⟨fun c7 => f0 (fun z => c7 ((le hT).mpr (z.2.2.1 (fun z9 => by omega)))), fun c7 => kp_get hq ho hM.1 hM.2.1 _ _ l1 (show (0 : Int32).toInt = ((0 : Nat) : Int) from rfl) (by omega) (by omega) ⟨fun c => f0 (fun z => ?_), fun c => kp_get hq ho hM.1 hM.2.1 _ _ l1 (show (7 : Int32).toInt = ((7 : Nat) : Int) from rfl) (by omega) (by omega) ⟨fun c' => f0 (fun z => ?_), fun c' => f1 ?_⟩⟩⟩
      · have := (z.2.2.2.2 (by omega)).1
        rw [t_lt, k2, gs] at c
        omega
      · exact c' ((le lo).mpr (z.2.2.2.2 (by omega)).2)
      · rw [t_lt, k2, gs] at c
        exact ⟨h1, by omega, fun _ => (le hT).mp c7, fun z => by omega, fun _ => ⟨by omega, (le lo).mp c'⟩⟩
    · have ne : ∀ n : Nat, n = 0 ∨ n = 12 ∨ n = 13 ∨ n = 14 ∨ n = 1 ∨ n = 5 ∨ n = 15 ∨ n = 10 → ¬ st.1 = n := fun n hn z => by
        refine cn (Int32.ofNat n) ?_ (by rw [kn.1, z])
        rcases hn with e | e | e | e | e | e | e | e <;> rw [e] <;> decide
      have n0 := ne 0 (by omega)
      have n12 := ne 12 (by omega)
      have n13 := ne 13 (by omega)
      have n14 := ne 14 (by omega)
      have n1 := ne 1 (by omega)
      have n5 := ne 5 (by omega)
      have n10 := ne 10 (by omega)
      have n15 := ne 15 (by omega)
      refine g7 ⟨fun c7 => f0 (fun z => c7 ((le hT).mpr (z.2.2.1 (fun z9 => by omega)))), fun c7 => f1 ⟨h1, by omega, fun _ => (le hT).mp c7, fun z => by omega, fun z => by omega⟩⟩
  · -- it waits
    have w0 : ¬ (M.2.2 T).2.2.2.1 = 0 := fun z => c3 (w3.mpr z)
    have so : soM C (M.2.2 T) = 15 := by unfold soM; rw [if_neg w0]
    have o7 := gT.2.2.2.1.2.2.2 w0
    rw [s2] at o7
    obtain ⟨l1, l2⟩ := kst_wl hM hK hN hT gT w0
    rw [s2] at l1
    rw [kn.2.2.2.2.1 (by omega)]
    have l6 := (g.1.2 _ l2).2.1
    have hn := hol_n (M.2.1 (obM C (M.2.2 T).2.2.1)).1 (by omega)
    have q5 := gT.2.2.2.1.2.1
    have qw := gT.2.2.2.1.2.2.1
    have nl := hWL T hT6 w0
    refine ⟨fun c => by rcases c with c | c | c | c <;> exact absurd c (by decide), fun c => absurd c (by decide), fun c => absurd c (by decide), fun _ => g7 ⟨fun c7 => f0 (fun z => c7 ((le hT).mpr (z.2.2.1 (fun z9 => by omega)))), fun c7 => kp_get hq ho hM.1 hM.2.1 _ _ et (show (5 : Int32).toInt = ((5 : Nat) : Int) from rfl) hT6 (by omega) ⟨fun c5 => f0 (fun z => c5 ?_), fun c5 => kh_holder hq ho hM g _ l1 l2 ⟨fun c => f0 (fun z => ?_), fun c => f1 ?_⟩⟩⟩, fun c => absurd c (by decide), fun c => absurd rfl (c 15 (by decide))⟩
    · rw [q5, if_pos]
      have := z.2.1
      omega
    · rcases z.2.2.2.1 (Or.inr so) with z | z
      · exact c (hn.mpr z)
      · exact nl z
    · have w2 : (M.2.2 T).2.2.2.1 = 2 := by
        by_cases c9 : (M.2.2 T).2.2.2.1 = 2
        · exact c9
        · rw [q5, if_neg c9] at c5; exact absurd c5 (by decide)
      exact ⟨h1, by omega, fun _ => (le hT).mp c7, fun _ => Or.inl (hn.mp c), fun z => by omega⟩
/-- one choice more -/
theorem kh_list (hq : kV q) (ho : kiM q o) (h : MM x o) (hL : LSk x o) (hl : kchL x o l) (l84 : l.length < 84) (t j w : Int32) {T : Nat} (et : t.toInt = T) (hT : (T : Int) < (x.1 60 10).toInt) (hc : (j = -1 ∧ rg x o T 0 = 1) ∨ ∃ J : Nat, j.toInt = J ∧ (J : Int) < (rg x o T 7).toInt) (hch : t = Int32.ofNat ch.1 ∧ (ch.2.1 = none → j = -1) ∧ (∀ i, ch.2.1 = some i → j = Int32.ofNat i) ∧ (ch.2.2 = none → w = -1) ∧ ∀ i, ch.2.2 = some i → w = Int32.ofNat i) (hF : ∀ y, fm (sLi o) x y → LSk y o → kchL y o (l ++ [ch]) → Fv y) : KT G q d zk_X5_list 0 [(0, vr o), (1, vi t), (2, vi j), (3, vi w)] [] x (rv Fv) := by
  have hO := kiM_O ho
  have k84 : (84 : Int32).toInt = 84 := rfl
  obtain ⟨⟨l0, l1⟩, hls⟩ := id hL
  obtain ⟨hl1, hl2⟩ := hl
  refine kg_X5_list_0 hq ho _ _ _ ⟨fun c => ?_, fun c => ?_⟩
  · exfalso; rw [t_le, k84] at c; omega
  rw [t_le, k84] at c
  have v : vp_in (x.1 o 13) 84 := by rw [vp_in_iff]; omega
  refine ⟨v, fun x3 e3 => ?_⟩
  have q3 : x3.1 o 13 = x.1 o 13 := by rw [e3, si_cell (by omega)]
  refine ⟨by rw [q3]; exact v, fun x5 e5 => ?_⟩
  rw [q3] at e5
  have q5 : x5.1 o 13 = x.1 o 13 := by rw [e5, si_cell (by omega)]; exact q3
  refine ⟨by rw [q5]; exact v, fun x7 e7 z ez => rv_i ?_⟩
  rw [q5] at e7
  have q7 : x7.1 o 13 = x.1 o 13 := by rw [e7, si_cell (by omega)]; exact q5
  rw [q7] at ez
  have f : fm (sLi o) x z := by
    rw [ez, e7, e5, e3]
    exact fm_si (fm_si (fm_si (fm_si (fm_rf _ _) (by unfold sLi; omega)) (by unfold sLi; omega)) (by unfold sLi; omega)) (Or.inl ⟨rfl, rfl⟩)
  have z13 : (z.1 o 13).toInt = (x.1 o 13).toInt + 1 := by
    have : z.1 o 13 = x.1 o 13 + 1 := by rw [ez, si_get, if_pos ⟨rfl, rfl⟩]
    rw [this, t_add (by show _ ≤ _ + (1 : Int); omega) (by show _ + (1 : Int) ≤ _; omega)]; rfl
  have eN : (x.1 o 13).toNatClampNeg = l.length := by rw [t_cl, hl1]; rfl
  rw [eN] at e3 e5 e7
  have rr := rg_Li hO f
  have a1 : ∀ i, z.1 (o + 11) i = if i = l.length then t else x.1 (o + 11) i := fun i => by
    rw [ez, si_cell (by omega), e7, si_cell (by omega), e5, si_cell (by omega), e3, si_get]
    by_cases ci : i = l.length
    · rw [if_pos ⟨rfl, ci⟩, if_pos ci]
    · rw [if_neg (fun q => ci q.2), if_neg ci]
  have a2 : ∀ i, z.1 (o + 12) i = if i = l.length then j else x.1 (o + 12) i := fun i => by
    rw [ez, si_cell (by omega), e7, si_cell (by omega), e5, si_get, e3, si_cell (by omega)]
    by_cases ci : i = l.length
    · rw [if_pos ⟨rfl, ci⟩, if_pos ci]
    · rw [if_neg (fun q => ci q.2), if_neg ci]
  have a3 : ∀ i, z.1 (o + 13) i = if i = l.length then w else x.1 (o + 13) i := fun i => by
    rw [ez, si_cell (by omega), e7, si_get, e5, si_cell (by omega), e3, si_cell (by omega)]
    by_cases ci : i = l.length
    · rw [if_pos ⟨rfl, ci⟩, if_pos ci]
    · rw [if_neg (fun q => ci q.2), if_neg ci]
  refine hF z f ⟨by omega, fun i hi => ?_⟩ ⟨?_, fun i ch' hi => ?_⟩
  · rw [a1, a2]
    by_cases hi2 : i = l.length
    · rw [if_pos hi2, if_pos hi2]
      refine ⟨T, et, by rw [f 60 10 (by unfold sLi; omega)]; exact hT, ?_⟩
      rw [rr, rr]; exact hc
    · rw [if_neg hi2, if_neg hi2]
      obtain ⟨T2, p1, p2, p3⟩ := hls i (by omega)
      refine ⟨T2, p1, by rw [f 60 10 (by unfold sLi; omega)]; exact p2, ?_⟩
      rw [rr, rr]; exact p3
  · rw [z13, hl1, List.length_append]; push_cast; rfl
  · have hi9 := gt_lt hi
    rw [List.length_append] at hi9
    have hi9 : i < l.length + 1 := hi9
    rw [List.getElem?_append] at hi
    unfold kch
    rw [a1, a2, a3]
    by_cases hi2 : i = l.length
    · rw [if_neg (by omega), hi2, Nat.sub_self] at hi
      cases Option.some.inj hi
      rw [if_pos hi2, if_pos hi2, if_pos hi2]
      exact hch
    · rw [if_pos (by omega)] at hi
      rw [if_neg hi2, if_neg hi2, if_neg hi2]
      exact hl2 i ch' hi
/-- the act's choices -/
theorem kh_listAct (hq : kV q) (ho : kiM q o) (hM : MM x o) (hK : CK x C) (hN : NC C) (g : KMm x o C M) (hL : LSk x o) (hl : kchL x o l) (l84 : l.length + C.2.1.length < 84) (t : Int32) (et : t.toInt = T) (hT : T < C.2.1.length) (h1 : (M.2.2 T).1 = 1) (hF : ∀ y, fm (sLi o) x y → LSk y o → kchL y o (l ++ (if soM C (M.2.2 T) = 8 ∧ (stN C (M.2.2 T).2.2.1).2.2.2.2.2.2.1 = false ∧ (M.2.1 (obM C (M.2.2 T).2.2.1)).1 = T + 1 ∧ ¬ waM C M (obM C (M.2.2 T).2.2.1) = [] then (waM C M (obM C (M.2.2 T).2.2.1)).map (fun o => (T, none, some o)) else [(T, none, none)])) → Fv y) : KT G q (d + 2) zk_X5_listAct 0 [(0, vr o), (1, vi t)] [] x (rv Fv) := by
  have hO := kiM_O ho
  have nT : (x.1 60 10).toInt = C.2.1.length := hK.2.1.1
  have t6 := hM.1.1.2.2.1
  have hT6 := MM_6 hM.1 (t := T) (by omega)
  have hA := (hM.2.2 T (by omega)).1
  have gT := g.2 T hT
  have tT : t = Int32.ofNat T := i32_of et
  obtain ⟨st, s1, s2, s3, s4, s5, kn, ns⟩ := kst_at hM hK hN hT gT
  obtain ⟨v, e, -⟩ := MM_st hM.1 hA
  have hcs := (hM.1.2.2.2.1 _ s4).1
  have w3 := kst_w3 hM hK hN hT gT
  have hg : rg x o T 0 = 1 := by rw [gT.1.1, h1]; rfl
  have obE : obM C (M.2.2 T).2.2.1 = st.2.2.2.2.1.toNatClampNeg := by unfold obM; rw [s2]
  obtain ⟨L, eL⟩ : ∃ L, L = obM C (M.2.2 T).2.2.1 := ⟨_, rfl⟩
  rw [← eL] at hF obE
  rw [s2] at hF
  have p57 : ¬ (soM C (M.2.2 T) = 8 ∧ st.2.2.2.2.2.2.1 = false ∧ (M.2.1 L).1 = T + 1 ∧ ¬ waM C M L = []) → KT G q (d + 2) zk_X5_listAct 57 [(0, vr o), (1, vi t)] [] x (rv Fv) := fun nz => kg_X5_listAct_57 hq ho _ (kh_list (ch := (T, none, none)) hq ho hM hL hl (by omega) _ _ _ et (by omega) (Or.inl ⟨rfl, hg⟩) ⟨tT, fun _ => rfl, (fun i z => nomatch z), fun _ => rfl, (fun i z => nomatch z)⟩ (fun y fy hy ly => rv_i (hF y fy hy (by rw [if_neg nz]; exact ly))))
  obtain ⟨P, eP⟩ : ∃ P : Nat → Bool, P = fun o => (M.2.2 o).2.2.2.1 == 1 && obM C (M.2.2 o).2.2.1 == L := ⟨_, rfl⟩
  have wE : waM C M L = (List.range C.2.1.length).filter P := by rw [eP]; rfl
  have w8 : ∀ s ∈ (waM C M L).reverse, s < 8 := fun s hs => by
    rw [wE] at hs
    have := List.mem_range.mp (List.mem_filter.mp (List.mem_reverse.mp hs)).1
    omega
  have loop : (soM C (M.2.2 T) = 8 ∧ st.2.2.2.2.2.2.1 = false ∧ (M.2.1 L).1 = T + 1 ∧ ¬ waM C M L = []) → ∀ (n k : Nat) (i : Int32) (y : gd), i.toInt = k → k ≤ C.2.1.length → (x.1 60 10).toInt - k ≤ n → fm (sLi o) x y → LSk y o → kchL y o (l ++ ((List.range k).filter P).map (fun o => (T, none, some o))) → KT G q (d + 2) zk_X5_listAct 75 [(0, vr o), (1, vi t), (4, vi (kmN (waM C M L).reverse)), (5, vi i)] [] y (rv Fv) := by
    intro cz n
    have fin : ∀ {k : Nat} {y : gd}, k = C.2.1.length → fm (sLi o) x y → LSk y o → kchL y o (l ++ ((List.range k).filter P).map (fun o => (T, none, some o))) → rv Fv none y := fun {k y} ek fy hy ly => rv_i (hF y fy hy (by rw [if_pos cz, wE, ← ek]; exact ly))
    induction n with
    | zero =>
      intro k i y ei hk hn fy hy ly
      refine kg_X5_listAct_75 hq ho _ _ _ ⟨fun _ => fin (by omega) fy hy ly, fun c => ?_⟩
      exfalso; rw [fy 60 10 (by unfold sLi; omega), t_le] at c; omega
    | succ n ih =>
      intro k i y ei hk hn fy hy ly
      refine kg_X5_listAct_75 hq ho _ _ _ ⟨fun c => fin (by rw [fy 60 10 (by unfold sLi; omega), t_le] at c; omega) fy hy ly, fun c => ?_⟩
      rw [fy 60 10 (by unfold sLi; omega), t_le] at c
      have e1 : (i + 1).toInt = ((k + 1 : Nat) : Int) := by rw [t_add (by show _ ≤ _ + (1 : Int); omega) (by show _ + (1 : Int) ≤ _; omega), ei]; rfl
      have hk' : k < C.2.1.length := by omega
      have ii : i = Int32.ofNat k := i32_of ei
      have bit := km_bit w8 k (by omega)
      have mem : k ∈ (waM C M L).reverse ↔ P k = true := by
        rw [List.mem_reverse, wE, List.mem_filter, List.mem_range]
        exact ⟨fun z => z.2, fun z => ⟨hk', z⟩⟩
      rw [ii] at e1 ⊢
      rw [bit]
      by_cases cP : P k = true
      · rw [if_pos (mem.mpr cP)]
        have yes : (List.range (k + 1)).filter P = (List.range k).filter P ++ [k] := by
          rw [List.range_succ, List.filter_append, List.filter_cons_of_pos (by exact cP), List.filter_nil]
        have ln : ((List.range k).filter P).length ≤ k := by
          have := List.length_filter_le P (List.range k)
          rw [List.length_range] at this
          exact this
        refine ⟨fun z => absurd rfl z, fun _ => kh_list (ch := (T, none, some k)) hq ho (MM_Li hO fy hM) hy ly (by rw [List.length_append, List.length_map]; omega) _ _ _ et (by rw [fy 60 10 (by unfold sLi; omega)]; omega) (Or.inl ⟨rfl, by rw [rg_Li hO fy]; exact hg⟩) ⟨tT, fun _ => rfl, (fun i z => nomatch z), (fun z => nomatch z), fun i z => by cases z; rfl⟩ (fun z fz hz lz => ih (k + 1) _ z e1 (by omega) (by push_cast; omega) (fm_tr fy fz) hz ?_)⟩
        rw [yes, List.map_append, ← List.append_assoc]
        exact lz
      · rw [if_neg (fun z => cP (mem.mp z))]
        have no : (List.range (k + 1)).filter P = (List.range k).filter P := by
          rw [List.range_succ, List.filter_append, List.filter_cons_of_neg (by exact cP), List.filter_nil, List.append_nil]
        exact ⟨fun _ => ih (k + 1) _ y e1 (by omega) (by push_cast; omega) fy hy (by rw [no]; exact ly), fun z => absurd z (by decide)⟩
  refine kg_X5_listAct_0 hq ho _ (kp_get hq ho hM.1 hM.2.1 _ _ et (show (2 : Int32).toInt = ((2 : Nat) : Int) from rfl) hT6 (by omega) ⟨v, ?_⟩)
  rw [e, s3]
  refine kp_sortOf hq ho hM.1 hM.2.1 _ et hT6 hA (fun c3 => ?_) (fun c3 => ⟨fun _ => p57 (fun z => ?_), fun c8 => absurd c8 (by decide)⟩)
  · have w0 := w3.mp c3
    have so : soM C (M.2.2 T) = st.1 := by unfold soM; rw [if_pos w0, s2]
    rw [s3]
    have o8 : x.1 81 (M.2.2 T).2.2.1 = 8 ↔ st.1 = 8 := by
      have k8 : (8 : Int32).toInt = 8 := rfl
      rw [t_eq, k8]
      have : (x.1 81 (M.2.2 T).2.2.1).toInt = (st.1 : Nat) := s5
      omega
    refine ⟨fun c => p57 (fun z => c (o8.mpr (by omega))), fun c => ⟨v, fun c84 => p57 (fun z => ?_), fun c84 => ?_⟩⟩
    · have := (kn.2.2.2.1 (o8.mp c)).mp c84
      rw [z.2.1] at this; cases this
    · have e8 := o8.mp c
      have a := hcs.2.1 (by omega) (by omega)
      rw [kn.2.2.2.2.1 (by omega)] at a ⊢
      have l1 : st.2.2.2.2.1.toInt = (L : Nat) := by rw [obE, t_cl]; omega
      have l2 : (L : Int) < (x.1 60 9).toInt := by omega
      have l6 := (g.1.2 _ l2).2.1
      have hh := hol_t (M.2.1 L).1 (by omega) T hT6
      have fl : st.2.2.2.2.2.2.1 = false := by
        cases hb : st.2.2.2.2.2.2.1 with
        | false => rfl
        | true => exact absurd ((kn.2.2.2.1 e8).mpr hb) c84
      refine kh_holder hq ho hM g _ l1 l2 ⟨fun c => p57 (fun z => c (by rw [tT]; exact hh.mpr z.2.2.1)), fun c => kh_waiters hq ho hM hK hN g _ l1 l2 ⟨fun c0 => kh_waiters hq ho hM hK hN g _ l1 l2 ?_, fun c0 => p57 (fun z => z.2.2.2 ?_)⟩⟩
      · rw [tT] at c
        refine loop ⟨by omega, fl, hh.mp c, fun z => c0 ?_⟩ 6 0 _ x rfl (by omega) (by omega) (fm_rf _ _) hL (by simpa using hl)
        rw [z]; rfl
      · have := (km_nil w8).mp c0
        exact List.reverse_eq_nil_iff.mp this
  · have := z.1
    have w0 : ¬ (M.2.2 T).2.2.2.1 = 0 := fun z => c3 (w3.mpr z)
    have so : soM C (M.2.2 T) = 15 := by unfold soM; rw [if_neg w0]
    omega
theorem ltM_mem {J : Nat} : J ∈ ltM h ↔ J < h.2.2.2.2.2.2.1.length ∧ ∀ k, k < J → ∀ a b, h.2.2.2.2.2.2.1[k]? = some a → h.2.2.2.2.2.2.1[J]? = some b → ¬ a.1 = b.1 := by
  unfold ltM
  rw [List.mem_filter, List.mem_range, List.all_eq_true]
  refine and_congr_right (fun hJ => ?_)
  constructor
  · intro hz k hk a b ha hb e
    have := hz a (List.mem_of_getElem? (i := k) (by rw [List.getElem?_take, if_pos hk]; exact ha))
    rw [hb] at this
    simp [e] at this
  · intro hz a ha
    obtain ⟨k, hk⟩ := List.getElem?_of_mem ha
    rw [List.getElem?_take] at hk
    by_cases c : k < J
    · rw [if_pos c] at hk
      obtain ⟨b, hb⟩ : ∃ b, h.2.2.2.2.2.2.1[J]? = some b := ⟨_, List.getElem?_eq_getElem hJ⟩
      have := hz k c a b hk hb
      rw [hb]
      simp [this]
    · rw [if_neg c] at hk; cases hk
theorem kh_isFirst (hq : kV q) (ho : kiM q o) (hM : MM x o) (hK : CK x C) (g : KMm x o C M) (t j : Int32) {J : Nat} (et : t.toInt = T) (hT : T < C.2.1.length) (ej : j.toInt = J) (hJ : J < (M.2.2 T).2.2.2.2.2.2.1.length) (hF : ∀ r : Int32, (¬ r = 0 ↔ J ∈ ltM (M.2.2 T)) → F r x) : KT G q (d + 2) zk_X5_isFirstOfCell 0 [(0, vr o), (1, vi t), (2, vi j)] [] x (ri F) := by
  have nT : (x.1 60 10).toInt = C.2.1.length := hK.2.1.1
  have hT6 := MM_6 hM.1 (t := T) (by omega)
  have hA := (hM.2.2 T (by omega)).1
  have l8 := hA.2.1
  obtain ⟨l7, ll⟩ := (g.2 T hT).2.2.2.2.2.2.1
  rw [ltM_mem] at hF
  obtain ⟨l, el⟩ : ∃ l, l = (M.2.2 T).2.2.2.2.2.2.1 := ⟨_, rfl⟩
  rw [← el] at l7 ll hJ hF
  obtain ⟨b, hb⟩ : ∃ b, l[J]? = some b := ⟨_, List.getElem?_eq_getElem hJ⟩
  have b1 := (ll J b hb).1
  have loop : ∀ (n k : Nat) (i : Int32), i.toInt = k → (J : Int) - k ≤ n → (∀ k', k' < k → k' < J → ∀ a, l[k']? = some a → ¬ a.1 = b.1) → KT G q (d + 2) zk_X5_isFirstOfCell 2 [(0, vr o), (1, vi t), (2, vi j), (3, vi i)] [] x (ri F) := by
    have fin : ∀ {k : Nat}, J ≤ k → (∀ k', k' < k → k' < J → ∀ a, l[k']? = some a → ¬ a.1 = b.1) → ri F (some (vi 1)) x := fun {k} hk hz => ri_i (hF _ ⟨fun _ => ⟨hJ, fun k' hk' a b' ha hb' => by
      rw [hb] at hb'
      cases Option.some.inj hb'
      exact hz k' (by omega) hk' a ha⟩, fun _ => by decide⟩)
    intro n
    induction n with
    | zero =>
      intro k i ei hn hz
      refine kg_X5_isFirstOfCell_2 hq ho _ _ _ ⟨fun _ => fin (by omega) hz, fun c => ?_⟩
      exfalso; rw [t_le] at c; omega
    | succ n ih =>
      intro k i ei hn hz
      refine kg_X5_isFirstOfCell_2 hq ho _ _ _ ⟨fun c => fin (by rw [t_le] at c; omega) hz, fun c => ?_⟩
      rw [t_le] at c
      have e1 : (i + 1).toInt = ((k + 1 : Nat) : Int) := by rw [t_add (by show _ ≤ _ + (1 : Int); omega) (by show _ + (1 : Int) ≤ _; omega), ei]; rfl
      obtain ⟨a, ha⟩ : ∃ a, l[k]? = some a := ⟨_, List.getElem?_eq_getElem (by omega)⟩
      have a1 := (ll k a ha).1
      refine kp_lateCell hq ho hM.1 hM.2.1 _ _ et hT6 ei (by omega) (kp_lateCell hq ho hM.1 hM.2.1 _ _ et hT6 ej (by omega) ⟨fun c9 => ih (k + 1) _ e1 (by push_cast; omega) (fun k' h1 h2 a' ha' => ?_), fun c9 => ri_i (hF _ ⟨fun z => absurd rfl z, fun z => ?_⟩)⟩)
      · by_cases ck : k' = k
        · subst ck
          rw [ha] at ha'
          cases Option.some.inj ha'
          intro z
          exact c9 (t_eq.mpr (by rw [a1, b1, z]))
        · exact hz k' (by omega) h2 a' ha'
      · rw [t_eq, a1, b1] at c9
        exact absurd (by omega) (z.2 k (by omega) a b ha hb)
  exact kg_X5_isFirstOfCell_0 hq ho _ _ (loop 8 0 _ rfl (by omega) (fun k' h1 => absurd h1 (Nat.not_lt_zero _)))
theorem ch1_len (h6 : C.2.1.length ≤ 6) (h8 : (M.2.2 t).2.2.2.2.2.2.1.length ≤ 8) : (ch1 C w M t).length ≤ 14 := by
  have wl : ∀ L, (waM C M L).length ≤ 6 := fun L => by
    have := List.length_filter_le (fun o => (M.2.2 o).2.2.2.1 == 1 && obM C (M.2.2 o).2.2.1 == L) (List.range C.2.1.length)
    rw [List.length_range] at this
    exact Nat.le_trans this h6
  have ll : (ltM (M.2.2 t)).length ≤ 8 := by
    have := List.length_filter_le (fun i => (((M.2.2 t).2.2.2.2.2.2.1.take i).all (fun q => !(some q.1 == ((M.2.2 t).2.2.2.2.2.2.1[i]?).map (fun z => z.1))))) (List.range (M.2.2 t).2.2.2.2.2.2.1.length)
    rw [List.length_range] at this
    exact Nat.le_trans this h8
  unfold ch1
  rw [List.length_append, List.length_map]
  have a : (if canM C w M t then (if soM C (M.2.2 t) = 8 ∧ (stN C (M.2.2 t).2.2.1).2.2.2.2.2.2.1 = false ∧ (M.2.1 (obM C (M.2.2 t).2.2.1)).1 = t + 1 ∧ ¬ waM C M (obM C (M.2.2 t).2.2.1) = [] then (waM C M (obM C (M.2.2 t).2.2.1)).map (fun o => ((t, none, some o) : gCh)) else [(t, none, none)]) else []).length ≤ 6 := by
    split
    · split
      · rw [List.length_map]; exact wl _
      · exact (by decide : (1 : Nat) ≤ 6)
    · exact Nat.zero_le _
  omega
/-- its choices are the machine's -/
theorem kh_listChoices (hq : kV q) (ho : kiM q o) (hM : MM x o) (hK : CK x C) (hN : NC C) (g : KMm x o C M) (hWL : WLk C M) (wy : x.1 o 3 = Int32.ofNat w) (w01 : w = 0 ∨ w = 1) (hF : ∀ y, fm (sLi o) x y → LSk y o → kchL y o (chM C w M) → Fv y) : KT G q (d + 3) zk_X5_listChoices 0 [(0, vr o)] [] x (rv Fv) := by
  have hO := kiM_O ho
  have nT : (x.1 60 10).toInt = C.2.1.length := hK.2.1.1
  have t6 := hM.1.1.2.2.1
  have k1 : (1 : Int32).toInt = 1 := rfl
  have l8 : ∀ t, t < C.2.1.length → (M.2.2 t).2.2.2.2.2.2.1.length ≤ 8 := fun t ht => by
    have := (g.2 t ht).2.2.2.2.2.2.1.1
    have := (hM.2.2 t (by omega)).1.2.1
    omega
  have ln : ∀ k, k ≤ C.2.1.length → ((List.range k).flatMap (ch1 C w M)).length ≤ 14 * k := by
    intro k
    induction k with
    | zero => intro _; exact Nat.zero_le _
    | succ k ih =>
      intro hk
      rw [List.range_succ, List.flatMap_append, List.length_append, List.flatMap_singleton]
      have := ih (by omega)
      have := ch1_len (C := C) (M := M) (w := w) (t := k) (by omega) (l8 k (by omega))
      omega
  have up : ∀ k, (List.range (k + 1)).flatMap (ch1 C w M) = (List.range k).flatMap (ch1 C w M) ++ ch1 C w M k := fun k => by
    rw [List.range_succ, List.flatMap_append, List.flatMap_singleton]
  have loop : ∀ (n k : Nat) (t : Int32) (y : gd), t.toInt = k → k ≤ C.2.1.length → (x.1 60 10).toInt - k ≤ n → fm (sLi o) x y → LSk y o → kchL y o ((List.range k).flatMap (ch1 C w M)) → KT G q (d + 3) zk_X5_listChoices 7 [(0, vr o), (1, vi t)] [] y (rv Fv) := by
    have fin : ∀ {k : Nat} {y : gd}, k = C.2.1.length → fm (sLi o) x y → LSk y o → kchL y o ((List.range k).flatMap (ch1 C w M)) → rv Fv none y := fun {k y} ek fy hy ly => rv_i (hF y fy hy (by unfold chM; rw [← ek]; exact ly))
    intro n
    induction n with
    | zero =>
      intro k t y et hk hn fy hy ly
      refine kg_X5_listChoices_7 hq ho _ ⟨fun _ => fin (by omega) fy hy ly, fun c => ?_⟩
      exfalso; rw [fy 60 10 (by unfold sLi; omega), t_le] at c; omega
    | succ n ih =>
      intro k t y et hk hn fy hy ly
      refine kg_X5_listChoices_7 hq ho _ ⟨fun c => fin (by rw [fy 60 10 (by unfold sLi; omega), t_le] at c; omega) fy hy ly, fun c => ?_⟩
      rw [fy 60 10 (by unfold sLi; omega), t_le] at c
      have hk' : k < C.2.1.length := by omega
      have e1 : (t + 1).toInt = ((k + 1 : Nat) : Int) := by rw [t_add (by rw [k1]; omega) (by rw [k1]; omega), et]; rfl
      have lk := ln k hk
      have kT : t = Int32.ofNat k := i32_of et
      have l7 := (g.2 k hk').2.2.2.2.2.2.1.1
      have l8k := l8 k hk'
      obtain ⟨P, eP⟩ : ∃ P : Nat → Bool, P = fun i => (((M.2.2 k).2.2.2.2.2.2.1.take i).all (fun q => !(some q.1 == ((M.2.2 k).2.2.2.2.2.2.1[i]?).map (fun z => z.1)))) := ⟨_, rfl⟩
      have lE : ltM (M.2.2 k) = (List.range (M.2.2 k).2.2.2.2.2.2.1.length).filter P := by rw [eP]; rfl
      obtain ⟨A, eA⟩ : ∃ A : List gCh, A = (if canM C w M k then (if soM C (M.2.2 k) = 8 ∧ (stN C (M.2.2 k).2.2.1).2.2.2.2.2.2.1 = false ∧ (M.2.1 (obM C (M.2.2 k).2.2.1)).1 = k + 1 ∧ ¬ waM C M (obM C (M.2.2 k).2.2.1) = [] then (waM C M (obM C (M.2.2 k).2.2.1)).map (fun o => ((k, none, some o) : gCh)) else [(k, none, none)]) else []) := ⟨_, rfl⟩
      have cE : ch1 C w M k = A ++ (ltM (M.2.2 k)).map (fun i => (k, some i, none)) := by unfold ch1; rw [eA]
      have A6 : A.length ≤ 6 := by
        have wl : ∀ L, (waM C M L).length ≤ 6 := fun L => by
          have := List.length_filter_le (fun o => (M.2.2 o).2.2.2.1 == 1 && obM C (M.2.2 o).2.2.1 == L) (List.range C.2.1.length)
          rw [List.length_range] at this
          exact Nat.le_trans this (by omega)
        rw [eA]
        split
        · split
          · rw [List.length_map]; exact wl _
          · exact (by decide : (1 : Nat) ≤ 6)
        · exact Nat.zero_le _
      have inner : ∀ (m j : Nat) (i : Int32) (z : gd), i.toInt = j → j ≤ (M.2.2 k).2.2.2.2.2.2.1.length → (M.2.2 k).2.2.2.2.2.2.1.length - j ≤ m → fm (sLi o) x z → LSk z o → kchL z o ((List.range k).flatMap (ch1 C w M) ++ A ++ ((List.range j).filter P).map (fun i => (k, some i, none))) → KT G q (d + 3) zk_X5_listChoices 33 [(0, vr o), (1, vi t), (2, vi i)] [] z (rv Fv) := by
        have nx : ∀ {j : Nat} {z : gd}, j = (M.2.2 k).2.2.2.2.2.2.1.length → fm (sLi o) x z → LSk z o → kchL z o ((List.range k).flatMap (ch1 C w M) ++ A ++ ((List.range j).filter P).map (fun i => (k, some i, none))) → KT G q (d + 3) zk_X5_listChoices 7 [(0, vr o), (1, vi (t + 1))] [] z (rv Fv) := fun {j z} ej fz hz lz => ih (k + 1) _ z e1 (by omega) (by push_cast; omega) fz hz (by rw [up, cE, lE, ← ej, ← List.append_assoc]; exact lz)
        intro m
        induction m with
        | zero =>
          intro j i z ei hj hm fz hz lz
          have hz9 := MM_Li hO fz hM
          refine kg_X5_listChoices_33 hq ho _ _ (kp_get hq ho hz9.1 hz9.2.1 _ _ et (show (7 : Int32).toInt = ((7 : Nat) : Int) from rfl) (by omega) (by omega) ⟨fun _ => nx (by omega) fz hz lz, fun c2 => ?_⟩)
          exfalso; rw [rg_Li hO fz, t_le] at c2; omega
        | succ m ihm =>
          intro j i z ei hj hm fz hz lz
          have hz9 := MM_Li hO fz hM
          refine kg_X5_listChoices_33 hq ho _ _ (kp_get hq ho hz9.1 hz9.2.1 _ _ et (show (7 : Int32).toInt = ((7 : Nat) : Int) from rfl) (by omega) (by omega) ⟨fun c2 => nx (by rw [rg_Li hO fz, t_le] at c2; omega) fz hz lz, fun c2 => ?_⟩)
          rw [rg_Li hO fz, t_le] at c2
          have ei1 : (i + 1).toInt = ((j + 1 : Nat) : Int) := by rw [t_add (by rw [k1]; omega) (by rw [k1]; omega), ei]; rfl
          have hj' : j < (M.2.2 k).2.2.2.2.2.2.1.length := by omega
          have mem : j ∈ ltM (M.2.2 k) ↔ P j = true := by
            rw [lE, List.mem_filter, List.mem_range]
            exact ⟨fun z => z.2, fun z => ⟨hj', z⟩⟩
          have fl : ((List.range j).filter P).length ≤ j := by
            have := List.length_filter_le P (List.range j)
            rw [List.length_range] at this
            exact this
          refine kh_isFirst hq ho hz9 (CK_Li hO hK fz) (KMm_Li hO hM hK fz g) _ _ et hk' ei hj' (fun r hr => ⟨fun c => ihm (j + 1) _ z ei1 (by omega) (by omega) fz hz ?_, fun c => kh_list (ch := (k, some j, none)) hq ho hz9 hz lz (by rw [List.length_append, List.length_append, List.length_map]; omega) _ _ _ et (by rw [fz 60 10 (by unfold sLi; omega)]; omega) (Or.inr ⟨j, ei, by rw [rg_Li hO fz]; omega⟩) ⟨kT, (fun z => nomatch z), fun i' z => by cases z; exact i32_of ei, fun _ => rfl, (fun i' z => nomatch z)⟩ (fun w' fw hw lw => ihm (j + 1) _ w' ei1 (by omega) (by omega) (fm_tr fz fw) hw ?_)⟩)
          · have nP : ¬ P j = true := fun z => hr.mpr (mem.mpr z) c
            rw [List.range_succ, List.filter_append, List.filter_cons_of_neg (by exact nP), List.filter_nil, List.append_nil]
            exact lz
          · have yP : P j = true := mem.mp (hr.mp c)
            rw [List.range_succ, List.filter_append, List.filter_cons_of_pos (by exact yP), List.filter_nil, List.map_append, ← List.append_assoc]
            exact lw
      have hy9 := MM_Li hO fy hM
      have gy := KMm_Li hO hM hK fy g
      have hKy := CK_Li hO hK fy
      refine kh_canAct hq ho hy9 hKy hN gy hWL (by rw [fy o 3 (by unfold sLi; omega)]; exact wy) w01 _ et hk' (fun r hr => ⟨fun c0 => inner 8 0 _ y rfl (by omega) (by omega) fy hy ?_, fun c3 => ?_⟩)
      · have nc : ¬ canM C w M k := fun z => hr.mpr z c0
        rw [eA, if_neg nc]
        simpa using ly
      · have cc := hr.mp c3
        refine kh_listAct hq ho hy9 hKy hN gy hy ly (by omega) _ et hk' cc.1 (fun z fz hz lz => inner 8 0 _ z rfl (by omega) (by omega) (fm_tr fy fz) hz ?_)
        rw [eA, if_pos cc]
        simpa using lz
  refine kg_X5_listChoices_0 hq ho (fun x1 e1 => loop 6 0 _ x1 rfl (by omega) (by omega) (by rw [e1]; exact fm_si (fm_rf _ _) (Or.inl ⟨rfl, rfl⟩)) ⟨?_, fun i hi => ?_⟩ ⟨?_, (fun i ch hi => nomatch hi)⟩)
  · have : x1.1 o 13 = 0 := by rw [e1, si_get, if_pos ⟨rfl, rfl⟩]
    rw [this]; decide
  · have : x1.1 o 13 = 0 := by rw [e1, si_get, if_pos ⟨rfl, rfl⟩]
    rw [this] at hi
    have k0 : (0 : Int32).toInt = 0 := rfl
    omega
  · have : x1.1 o 13 = 0 := by rw [e1, si_get, if_pos ⟨rfl, rfl⟩]
    rw [this]; rfl
end KMI
end
section
/-! the class: how a run begins -/
/-- a run's beginning, threads below k done -/
noncomputable def fsK (C : gCo) (k : Nat) : gMa := ((fsM C).1, (fsM C).2.1, fun t => if t < k then (fsM C).2.2 t else th0)
section KMZ
variable {G : kG} {q : kP} {d : Nat} {x x0 y z : gd} {o : Nat} {F : Int32 → gd → Prop} {Fv : gd → Prop} {C : gCo} {t k : Nat}
theorem fsK_in (h : t < k) : (fsK C k).2.2 t = (fsM C).2.2 t := by
  show (if t < k then (fsM C).2.2 t else th0) = _
  rw [if_pos h]
theorem fsK_out (h : ¬ t < k) : (fsK C k).2.2 t = th0 := by
  show (if t < k then (fsM C).2.2 t else th0) = _
  rw [if_neg h]
theorem fsM_at {q9 : Nat × Nat} (h : C.2.1[k]? = some q9) : (fsM C).2.2 k = if q9.2 = 1 then th0 else thN C k th0 q9.1 (fun _ => 0) := by
  show (match C.2.1[k]? with | some q => if q.2 = 1 then th0 else thN C k th0 q.1 (fun _ => 0) | none => th0) = _
  rw [h]
theorem fsK_idle {q9 : Nat × Nat} (h : C.2.1[k]? = some q9) (h1 : q9.2 = 1) : fsK C (k + 1) = fsK C k := by
  unfold fsK
  refine Prod.ext rfl (Prod.ext rfl (funext fun i => ?_))
  show (if i < k + 1 then (fsM C).2.2 i else th0) = if i < k then (fsM C).2.2 i else th0
  by_cases c : i < k
  · rw [if_pos c, if_pos (by omega)]
  · rw [if_neg c]
    by_cases c1 : i = k
    · rw [if_pos (by omega), c1, fsM_at h, if_pos h1]
    · rw [if_neg (by omega)]
theorem fsK_go {q9 : Nat × Nat} (h : C.2.1[k]? = some q9) (h1 : ¬ q9.2 = 1) : fsK C (k + 1) = upT (fsK C k) k (thN C k th0 q9.1 (fun _ => 0)) := by
  unfold fsK upT upf
  refine Prod.ext rfl (Prod.ext rfl (funext fun i => ?_))
  show (if i < k + 1 then (fsM C).2.2 i else th0) = if i = k then _ else if i < k then (fsM C).2.2 i else th0
  by_cases c1 : i = k
  · rw [if_pos (by omega), if_pos c1, c1, fsM_at h, if_neg h1]
  · rw [if_neg c1]
    by_cases c : i < k
    · rw [if_pos c, if_pos (by omega)]
    · rw [if_neg c, if_neg (by omega)]
theorem kh_reset (hq : kV q) (ho : kiM q o) (hC : CO x) (hK : CK x C) (hN : NC C) (w : Int32) (hw : w = 0 ∨ w = 1) (hF : ∀ y, MM y o → fm (sRe o) x y → y.1 o 3 = w → KMm y o C (fsM C) → Fv y) : KT G q (d + 5) zk_X5_reset 0 [(0, vr o), (1, vi w)] [] x (rv Fv) := by
  have hO := kiM_O ho
  have k0 : (0 : Int32).toInt = 0 := rfl
  have k1 : (1 : Int32).toInt = 1 := rfl
  have k2 : (2 : Int32).toInt = 2 := rfl
  have k8 : (8 : Int32).toInt = 8 := rfl
  have k16 : (16 : Int32).toInt = 16 := rfl
  obtain ⟨c1, c2, c3, c4, -⟩ := hC.1
  refine kg_X5_reset_0 hq ho _ (fun x1 e1 x2 e2 x3 e3 x4 e4 => ?_)
  have f4 : fm (sRe o) x x4 := by
    rw [e4, e3, e2, e1]
    exact fm_si (fm_si (fm_si (fm_si (fm_rf _ _) (by unfold sRe; omega)) (by unfold sRe; omega)) (by unfold sRe; omega)) (by unfold sRe; omega)
  have g60 : ∀ k, ¬ k = 5 → x4.1 60 k = x.1 60 k := fun k hk => f4 _ _ (by unfold sRe; omega)
  have q1 : ∀ k, x1.1 60 k = x.1 60 k := fun k => by rw [e1, si_cell (by omega)]
  have q2 : ∀ k, x2.1 60 k = x.1 60 k := fun k => by rw [e2, si_cell (by omega)]; exact q1 k
  have q3 : ∀ k, x3.1 60 k = x.1 60 k := fun k => by rw [e3, si_cell (by omega)]; exact q2 k
  have w3 : x4.1 o 3 = w := by rw [e4, e3, e2, e1]; (simp only [si_get, sfl_get, Nat.reduceEqDiff, eq_self, and_false, false_and, and_true, true_and, if_true, if_false, reduceIte, reduceCtorEq])
  have w6 : x4.1 o 6 = x.1 60 6 := by rw [e4, e3, e2, q1]; (simp only [si_get, sfl_get, Nat.reduceEqDiff, eq_self, and_false, false_and, and_true, true_and, if_true, if_false, reduceIte, reduceCtorEq])
  have w7 : (x4.1 o 7).toInt = (x.1 60 6).toInt + 2 * (x.1 60 9).toInt := by
    have : x4.1 o 7 = x.1 60 6 + 2 * x.1 60 9 := by
      have x26 : x2.1 o 6 = x.1 60 6 := by rw [e2, q1]; (simp only [si_get, sfl_get, Nat.reduceEqDiff, eq_self, and_false, false_and, and_true, true_and, if_true, if_false, reduceIte, reduceCtorEq])
      rw [e4, e3, x26, q2]; (simp only [si_get, sfl_get, Nat.reduceEqDiff, eq_self, and_false, false_and, and_true, true_and, if_true, if_false, reduceIte, reduceCtorEq])
    have em : (2 * x.1 60 9).toInt = 2 * (x.1 60 9).toInt := by rw [t_mul (by rw [k2]; omega) (by rw [k2]; omega), k2]
    rw [this, t_add (by omega) (by omega), em]
  have w9 : (x4.1 o 9).toInt = 8 + (x.1 60 13).toInt := by
    have : x4.1 o 9 = 8 + x.1 60 13 := by rw [e4, q3]; (simp only [si_get, sfl_get, Nat.reduceEqDiff, eq_self, and_false, false_and, and_true, true_and, if_true, if_false, reduceIte, reduceCtorEq])
    rw [this, t_add (by rw [k8]; omega) (by rw [k8]; omega), k8]
  have p67 : ∀ s : Int32, s.toInt = (if w = 1 then 16 else 0) → KT G q (d + 5) zk_X5_reset 67 [(0, vr o)] [vi s, vi (x4.1 o 9), vr o] x4 (rv Fv) := by
    intro s hs
    have hs2 : 0 ≤ s.toInt ∧ s.toInt ≤ 16 := by rw [hs]; split <;> omega
    refine kg_X5_reset_67 hq ho _ _ (fun y1 ey1 y2 ey2 y3 ey3 => ?_)
    have f2 : fm (sRe o) x y2 := by rw [ey2, ey1]; exact fm_si (fm_si f4 (by unfold sRe; omega)) (by unfold sRe; omega)
    have f3 : fm (sRe o) x y3 := by rw [ey3]; exact fm_fl f2 (fun k _ => by unfold sRe; omega)
    have h60 : ∀ k, ¬ k = 5 → y3.1 60 k = x.1 60 k := fun k hk => f3 _ _ (by unfold sRe; omega)
    have yo : ∀ k, y3.1 o k = y2.1 o k := fun k => by rw [ey3, sfl_get, if_neg (by omega)]
    have v8 : (y3.1 o 8).toInt = 8 + (x.1 60 13).toInt + s.toInt := by
      have : y3.1 o 8 = x4.1 o 9 + s := by rw [yo, ey2, ey1]; (simp only [si_get, sfl_get, Nat.reduceEqDiff, eq_self, and_false, false_and, and_true, true_and, if_true, if_false, reduceIte, reduceCtorEq])
      rw [this, t_add (by omega) (by omega), w9]
    have v7 : y3.1 o 7 = x4.1 o 7 := by rw [yo, ey2, ey1]; (simp only [si_get, sfl_get, Nat.reduceEqDiff, eq_self, and_false, false_and, and_true, true_and, if_true, if_false, reduceIte, reduceCtorEq])
    have v3 : y3.1 o 3 = w := by rw [yo, ey2, ey1]; (simp only [si_get, sfl_get, Nat.reduceEqDiff, eq_self, and_false, false_and, and_true, true_and, if_true, if_false, reduceIte, reduceCtorEq]); exact w3
    have v6 : y3.1 o 6 = x.1 60 6 := by rw [yo, ey2, ey1]; (simp only [si_get, sfl_get, Nat.reduceEqDiff, eq_self, and_false, false_and, and_true, true_and, if_true, if_false, reduceIte, reduceCtorEq]); exact w6
    have v9 : (y3.1 o 9).toInt = 8 + (x.1 60 13).toInt := by
      have : y3.1 o 9 = x4.1 o 9 := by rw [yo, ey2, ey1]; (simp only [si_get, sfl_get, Nat.reduceEqDiff, eq_self, and_false, false_and, and_true, true_and, if_true, if_false, reduceIte, reduceCtorEq])
      rw [this]; exact w9
    have v5 : (y3.1 o 5).toInt = (y3.1 o 7).toInt + (y3.1 o 8).toInt * (x.1 60 10).toInt := by
      have a1 : y3.1 o 5 = y1.1 o 7 + y1.1 o 8 * y1.1 60 10 := by rw [yo, ey2]; (simp only [si_get, sfl_get, Nat.reduceEqDiff, eq_self, and_false, false_and, and_true, true_and, if_true, if_false, reduceIte, reduceCtorEq])
      have a2 : y1.1 o 7 = y3.1 o 7 := by rw [v7, ey1]; (simp only [si_get, sfl_get, Nat.reduceEqDiff, eq_self, and_false, false_and, and_true, true_and, if_true, if_false, reduceIte, reduceCtorEq])
      have a3 : y1.1 o 8 = y3.1 o 8 := by rw [yo, ey2]; (simp only [si_get, sfl_get, Nat.reduceEqDiff, eq_self, and_false, false_and, and_true, true_and, if_true, if_false, reduceIte, reduceCtorEq])
      have a4 : y1.1 60 10 = x.1 60 10 := by rw [ey1, si_cell (by omega)]; exact g60 10 (by omega)
      have hm : 0 ≤ (y3.1 o 8).toInt * (x.1 60 10).toInt ∧ (y3.1 o 8).toInt * (x.1 60 10).toInt ≤ 192 := by
        have : (x.1 60 10).toInt = 0 ∨ (x.1 60 10).toInt = 1 ∨ (x.1 60 10).toInt = 2 ∨ (x.1 60 10).toInt = 3 ∨ (x.1 60 10).toInt = 4 ∨ (x.1 60 10).toInt = 5 ∨ (x.1 60 10).toInt = 6 := by omega
        rcases this with e | e | e | e | e | e | e <;> rw [e] <;> omega
      have em := t_mul (a := y3.1 o 8) (b := x.1 60 10) (by omega) (by omega)
      rw [a1, a2, a3, a4, t_add (by rw [v7]; omega) (by rw [v7]; omega), em]
    have hC3 : CO y3 := CO_fm hC (fun c k hc => f3 c k (by unfold sRe; omega))
    have hG3 : MG y3 o := by
      unfold MG
      rw [h60 6 (by omega), h60 9 (by omega), h60 13 (by omega), h60 10 (by omega), v3, v6, v9, v8, v7, w7]
      refine ⟨hw, rfl, rfl, rfl, ?_, ?_⟩
      · rw [hs]
      · rw [v5, v8, v7, w7]
    have zero : ∀ t k : Nat, t < 6 → k < 32 → rg y3 o t k = 0 := by
      intro t k ht hk
      obtain ⟨b1, b2, -⟩ := MG_b hC3 hG3
      have hlt : pa y3 o t k < 228 := by
        unfold pa
        have : t * (y3.1 o 8).toInt.toNat ≤ 5 * 32 := Nat.mul_le_mul (by omega) (by omega)
        omega
      show y3.1 (o + 5) (pa y3 o t k) = 0
      generalize pa y3 o t k = n at hlt ⊢
      rw [ey3, sfl_get, if_pos ⟨rfl, hlt⟩]
    have zlow : ∀ j : Nat, j < 228 → y3.1 (o + 5) j = 0 := fun j hj => by rw [ey3, sfl_get, if_pos ⟨rfl, hj⟩]
    have hK3 : CK y3 C := CK_f hK (fun c k hc => f3 c k (by unfold sRe; omega))
    have nT : (x.1 60 10).toInt = C.2.1.length := hK.2.1.1
    have hM3 : MM y3 o := by
      refine ⟨hC3, hG3, fun t ht => ?_⟩
      have ht6 := MM_6 hC3 ht
      have h0 := fun k hk => zero t k ht6 hk
      have hs0 := hC3.2.2.2.2 t ht
      refine ⟨⟨?_, ?_, fun _ => h0 7 (by omega), fun j hj => ?_, fun _ => h0 3 (by omega)⟩, fun c => ?_⟩
      · rw [h0 2 (by omega), k0]; omega
      · rw [h0 7 (by omega)]; decide
      · rw [h0 7 (by omega), k0] at hj; omega
      · rw [h0 0 (by omega)] at c; exact absurd c (by decide)
    have fin : ∀ (z : gd) (k : Nat) (i : Int32), i.toInt = k → MM z o → fm (sSt o) y3 z → KMm z o C (fsK C k) → k ≤ C.2.1.length → z.1 60 10 ≤ i → Fv z := by
      intro z k i ei hz fz gz hk c
      have z10 : z.1 60 10 = x.1 60 10 := by rw [fz 60 10 (by unfold sSt; omega), h60 10 (by omega)]
      rw [z10, t_le] at c
      have ek : k = C.2.1.length := by omega
      refine hF z hz (fm_tr f3 (fm_w fz (fun c k q => by unfold sSt at q; unfold sRe; omega))) (by rw [fz o 3 (by unfold sSt; omega)]; exact v3) ⟨gz.1, fun t ht => ?_⟩
      have := gz.2 t ht
      rw [fsK_in (by omega)] at this
      exact this
    -- threads are roused
    have loop2 : ∀ (n k : Nat) (i : Int32) (z : gd), i.toInt = k → k ≤ C.2.1.length → (x.1 60 10).toInt - k ≤ n → MM z o → fm (sSt o) y3 z → KMm z o C (fsK C k) → KT G q (d + 5) zk_X5_reset 136 [(0, vr o), (2, vi i)] [] z (rv Fv) := by
      intro n
      induction n with
      | zero =>
        intro k i z ei hk hn hz fz gz
        refine kg_X5_reset_136 hq ho _ ⟨fun c => rv_i (fin z k i ei hz fz gz hk c), fun c => ?_⟩
        exfalso; rw [fz 60 10 (by unfold sSt; omega), h60 10 (by omega), t_le] at c; omega
      | succ n ih =>
        intro k i z ei hk hn hz fz gz
        have z10 : z.1 60 10 = x.1 60 10 := by rw [fz 60 10 (by unfold sSt; omega), h60 10 (by omega)]
        refine kg_X5_reset_136 hq ho _ ⟨fun c => rv_i (fin z k i ei hz fz gz hk c), fun c => ?_⟩
        rw [z10, t_le] at c
        have e9 : (i + 1).toInt = ((k + 1 : Nat) : Int) := by rw [t_add (by rw [k1]; omega) (by rw [k1]; omega), ei]; rfl
        have kl : k < C.2.1.length := by omega
        obtain ⟨q9, hq9⟩ : ∃ q9, C.2.1[k]? = some q9 := ⟨_, List.getElem?_eq_getElem kl⟩
        have hKz : CK z C := CK_St hO hK3 fz
        have e73 : z.1 73 i.toNatClampNeg = Int32.ofNat q9.2 := by
          have eN : i.toNatClampNeg = k := by rw [t_cl, ei]; rfl
          rw [eN]; exact (hKz.2.1.2 k q9 hq9).2
        have q1 := (hN.2.1 q9 (List.mem_of_getElem? hq9)).2
        have tk : (fsK C k).2.2 k = th0 := fsK_out (Nat.lt_irrefl _)
        refine ⟨by rw [vp_in_iff]; omega, fun n0 => ?_, fun c0 => ?_⟩
        · refine ih (k + 1) _ z e9 (by omega) (by push_cast; omega) hz fz ?_
          rw [e73] at n0
          have : ¬ q9.2 = 0 := fun z => n0 (by rw [z]; rfl)
          rw [fsK_idle hq9 (by omega)]
          exact gz
        · refine kh_rouseM hq ho hz hKz hN gz _ ei kl (by rw [tk]; rfl) (by rw [tk]; rfl) (by rw [tk]; rfl) hq9 (fun u hu fu gu => ih (k + 1) _ u e9 (by omega) (by push_cast; omega) hu (fm_tr fz fu) ?_)
          rw [tk] at gu
          rw [fsK_go hq9 (fun z1 => by rw [e73, z1] at c0; exact absurd c0 (by decide))]
          exact gu
    -- cells are set
    have nC : (x.1 60 6).toInt = C.2.2.1.length := hK.2.2.1.1
    have m13 := hC.1.2.2.2.1
    have go2 : ∀ (z : gd) (k : Nat), (x.1 60 6).toInt ≤ k → MM z o → fm (sSt o) y3 z → (∀ t j : Nat, rg z o t j = rg y3 o t j) → (∀ j : Nat, (x.1 60 6).toInt ≤ j → (j : Int) < (y3.1 o 7).toInt → z.1 (o + 5) j = 0) → (∀ c : Nat, c < k → (c : Int) < (x.1 60 6).toInt → z.1 (o + 5) c = (fsM C).1 c) → KMm z o C (fsK C 0) := by
      intro z k hk hz fz rz hlk hc
      have z6 : z.1 60 6 = x.1 60 6 := by rw [fz 60 6 (by unfold sSt; omega), h60 6 (by omega)]
      have z9 : z.1 60 9 = x.1 60 9 := by rw [fz 60 9 (by unfold sSt; omega), h60 9 (by omega)]
      have z13 : z.1 60 13 = x.1 60 13 := by rw [fz 60 13 (by unfold sSt; omega), h60 13 (by omega)]
      refine ⟨⟨fun c hc' => ?_, fun l hl => ?_⟩, fun t ht => ?_⟩
      · rw [z6] at hc'; exact hc c (by omega) hc'
      · rw [z9] at hl
        rw [z6, hlk _ (by omega) (by rw [v7, w7]; omega), hlk _ (by omega) (by rw [v7, w7]; omega)]
        exact ⟨rfl, Nat.zero_le _, rfl⟩
      · rw [fsK_out (Nat.not_lt_zero _)]
        have t6 : t < 6 := by omega
        have zz : ∀ j, j < 32 → rg z o t j = 0 := fun j hj => by rw [rz]; exact zero t j t6 hj
        refine ⟨⟨by rw [zz 0 (by omega)]; rfl, by show (0 : Nat) ≤ 3; decide⟩, by rw [zz 1 (by omega)]; rfl, by rw [zz 2 (by omega)]; rfl, ⟨by rw [zz 3 (by omega)]; rfl, by rw [zz 5 (by omega)]; rfl, by show (0 : Nat) ≤ 2; decide, fun z => absurd rfl z⟩, by rw [zz 4 (by omega)]; rfl, by rw [zz 6 (by omega)]; decide, ⟨by rw [zz 7 (by omega)]; rfl, (fun i p hp => nomatch hp)⟩, fun p hp => ?_, fun c => ?_⟩
        · rw [z13] at hp
          rw [zz (8 + p) (by omega)]; rfl
        · have c : (0 : Nat) = 1 ∨ (0 : Nat) = 3 := c
          omega
    have loop1 : ∀ (n k : Nat) (i : Int32) (z : gd), i.toInt = k → (x.1 60 6).toInt - k ≤ n → MM z o → fm (sSt o) y3 z → (∀ t j : Nat, rg z o t j = rg y3 o t j) → (∀ j : Nat, (x.1 60 6).toInt ≤ j → (j : Int) < (y3.1 o 7).toInt → z.1 (o + 5) j = 0) → (∀ c : Nat, c < k → (c : Int) < (x.1 60 6).toInt → z.1 (o + 5) c = (fsM C).1 c) → KT G q (d + 5) zk_X5_reset 102 [(0, vr o), (2, vi i)] [] z (rv Fv) := by
      intro n
      induction n with
      | zero =>
        intro k i z ei hn hz fz rz hlk hcs
        refine kg_X5_reset_102 hq ho _ ⟨fun _ => loop2 6 0 _ z rfl (by omega) (by omega) hz fz (go2 z k (by omega) hz fz rz hlk hcs), fun c => ?_⟩
        exfalso; rw [fz 60 6 (by unfold sSt; omega), h60 6 (by omega), t_le] at c; omega
      | succ n ih =>
        intro k i z ei hn hz fz rz hlk hcs
        have z6 : z.1 60 6 = x.1 60 6 := by rw [fz 60 6 (by unfold sSt; omega), h60 6 (by omega)]
        refine kg_X5_reset_102 hq ho _ ⟨fun c => loop2 6 0 _ z rfl (by omega) (by omega) hz fz (go2 z k (by rw [z6, t_le] at c; omega) hz fz rz hlk hcs), fun c => ?_⟩
        rw [z6, t_le] at c
        refine ⟨by rw [vp_in_iff]; omega, by rw [vp_in_iff]; omega, fun u eu => ?_⟩
        have eN : i.toNatClampNeg = k := by rw [t_cl, ei]; rfl
        rw [eN] at eu
        have e9 : (i + 1).toInt = ((k + 1 : Nat) : Int) := by rw [t_add (by rw [k1]; omega) (by rw [k1]; omega), ei]; rfl
        have hKz : CK z C := CK_St hO hK3 fz
        obtain ⟨cq, hcq⟩ : ∃ cq, C.2.2.1[k]? = some cq := ⟨_, List.getElem?_eq_getElem (by omega)⟩
        have e68 : z.1 68 k = cq.1 := (hKz.2.2.1.2 k cq hcq).1
        have fk : (fsM C).1 k = cq.1 := by show (match C.2.2.1[k]? with | some q => q.1 | none => 0) = _; rw [hcq]
        have ru : ∀ t j, rg u o t j = rg z o t j := fun t j => rg_low hO (by rw [fz o 7 (by unfold sSt; omega), v7, w7]; omega) eu
        have fu : fm (sSt o) z u := st_f eu
        refine ih (k + 1) _ u e9 (by push_cast; omega) (MM_low hO hz (fm_w fu (fun c k q => sSt_M q)) ru) (fm_tr fz fu) (fun t j => by rw [ru, rz]) (fun j h1 h2 => ?_) (fun c' h1 h2 => ?_)
        · rw [eu, si_get, if_neg (fun z => by omega)]; exact hlk j h1 h2
        · rw [eu, si_get]
          by_cases ck : c' = k
          · rw [if_pos ⟨rfl, ck⟩, ck, fk]; exact e68
          · rw [if_neg (fun z => ck z.2)]; exact hcs c' (by omega) h2
    exact loop1 24 0 _ y3 rfl (by omega) hM3 (fm_rf _ _) (fun _ _ => rfl) (fun j _ h2 => zlow j (by have := MG_b hC3 hG3; omega)) (fun c1 h1 => absurd h1 (Nat.not_lt_zero _))
  rw [w3]
  refine ⟨fun c => p67 0 (by rw [if_neg c]; rfl), fun c => p67 16 (by rw [if_pos c]; rfl)⟩
end KMZ
end
