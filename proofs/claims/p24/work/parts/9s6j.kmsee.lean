section
/-! the class: its machine is looked at, with what it holds -/
section KMS
variable {G : kG} {q : kP} {d : Nat} {x x0 y z : gd} {o : Nat} {F : Int32 → gd → Prop} {Fv : gd → Prop} {C : gCo} {M : gMa} {h h' : gTq} {t T w : Nat}
theorem kst_at (hM : MM x o) (hK : CK x C) (hN : NC C) (ht : t < C.2.1.length) (g : kTq x o C t h) : ∃ st, C.1[h.2.2.1]? = some st ∧ stN C h.2.2.1 = st ∧ (rg x o t 2).toInt.toNat = h.2.2.1 ∧ (h.2.2.1 : Int) < ssm x ∧ sop x h.2.2.1 = (st.1 : Nat) ∧ kN x h.2.2.1 st ∧ NS C.1 h.2.2.1 st := by
  have nT : (x.1 60 10).toInt = C.2.1.length := hK.2.1.1
  have e2 := g.2.2.1
  have l := (hM.2.2 t (by omega)).1.1.2
  have ls : ssm x = C.1.length := hK.1.1
  rw [e2] at l
  have hl : h.2.2.1 < C.1.length := by omega
  obtain ⟨st, hst⟩ : ∃ st, C.1[h.2.2.1]? = some st := ⟨_, List.getElem?_eq_getElem hl⟩
  have kn := hK.1.2 _ st hst
  have ns := hN.1 _ st hst
  refine ⟨st, hst, by unfold stN; rw [hst]; rfl, by rw [e2]; rfl, l, ?_, kn, ns⟩
  show (x.1 81 _).toInt = _
  rw [kn.1]
  exact Int32.toInt_ofNat_of_lt (by have := ns.1.1; omega)
/-- the lock that it waits for -/
theorem kst_wl (hM : MM x o) (hK : CK x C) (hN : NC C) (ht : t < C.2.1.length) (g : kTq x o C t h) (hw : ¬ h.2.2.2.1 = 0) : (stN C h.2.2.1).2.2.2.2.1.toInt = (obM C h.2.2.1 : Nat) ∧ ((obM C h.2.2.1 : Nat) : Int) < (x.1 60 9).toInt := by
  obtain ⟨st, h1, h2, h3, h4, h5, h6, h7⟩ := kst_at hM hK hN ht g
  have o7 := g.2.2.2.1.2.2.2 hw
  rw [h2] at o7
  have a := (hM.1.2.2.2.1 _ h4).1.2.1 (by omega) (by omega)
  rw [h6.2.2.2.2.1 (by omega)] at a
  unfold obM
  rw [h2, t_cl]
  omega
theorem seL_app : ∀ (l : List (Nat × Int32)) (p : Nat × Int32) (c : Nat) (v : Int32), seL (l ++ [p]) c v = if p.1 = c then p.2 else seL l c v := by
  intro l
  induction l with
  | nil => intro p c v; rfl
  | cons r l ih => intro p c v; exact ih p c _
theorem kh_lateValue (hq : kV q) (ho : kiM q o) (hC : CO x) (hG : MG x o) (t j : Int32) {T J : Nat} (et : t.toInt = T) (hT : T < 6) (ej : j.toInt = J) (hJ : J < 8) (h : F (rg x o T ((x.1 o 9).toInt.toNat + 2 * J + 1)) x) : KT G q (d + 1) zk_X5_lateValue 0 [(0, vr o), (1, vi t), (2, vi j)] [] x (ri F) := by
  obtain ⟨e1, e2, e3⟩ := lt_ix hC hG ej hJ
  exact kg_X5_lateValue_0 hq ho _ _ (kp_get hq ho hC hG _ _ et e2 hT e3 (ri_i h))
theorem kh_seenBy (hq : kV q) (ho : kiM q o) (hM : MM x o) (hK : CK x C) (g : KMm x o C M) (t c : Int32) {T c' : Nat} (et : t.toInt = T) (hT : T < C.2.1.length) (ec : c.toInt = c') (hc : (c' : Int) < (x.1 60 6).toInt) (h : F (seM M T c') x) : KT G q (d + 2) zk_X5_seenBy 0 [(0, vr o), (1, vi t), (2, vi c)] [] x (ri F) := by
  have nT : (x.1 60 10).toInt = C.2.1.length := hK.2.1.1
  have hT6 := MM_6 hM.1 (t := T) (by omega)
  have hA := (hM.2.2 T (by omega)).1
  have hC := hM.1
  have hG := hM.2.1
  have c24 := hM.1.1.1
  have k0 : (0 : Int32).toInt = 0 := rfl
  have l8 := hA.2.1
  obtain ⟨l7, ll⟩ := (g.2 T hT).2.2.2.2.2.2.1
  have nc : c.toNatClampNeg = c' := by rw [t_cl, ec]; rfl
  unfold seM at h
  obtain ⟨l, el⟩ : ∃ l, l = (M.2.2 T).2.2.2.2.2.2.1 := ⟨_, rfl⟩
  rw [← el] at l7 ll h
  have loop : ∀ (n : Nat) (j : Int32), j.toInt + 1 = n → n ≤ l.length → F (seL (l.take n) c' (M.1 c')) x → KT G q (d + 2) zk_X5_seenBy 10 [(0, vr o), (1, vi t), (2, vi c), (3, vi j)] [] x (ri F) := by
    intro n
    induction n with
    | zero =>
      intro j hn hl hf
      refine kg_X5_seenBy_10 hq ho _ _ _ ⟨fun _ => ⟨by rw [vp_in_iff]; omega, ri_i ?_⟩, fun c => ?_⟩
      · rw [nc, g.1.1 c' hc]; exact hf
      · exfalso; rw [t_lt, k0] at c; omega
    | succ n ih =>
      intro j hn hl hf
      have ej : j.toInt = (n : Nat) := by push_cast at hn; omega
      refine kg_X5_seenBy_10 hq ho _ _ _ ⟨fun c => ?_, fun c => ?_⟩
      · exfalso; rw [t_lt, k0] at c; omega
      have e1 : (j + (-1)).toInt + 1 = (n : Nat) := by rw [t_add (by rw [tm1]; omega) (by rw [tm1]; omega), tm1]; omega
      obtain ⟨j2, ej2⟩ : ∃ j2, j2 = j + (-1) := ⟨_, rfl⟩
      rw [← ej2] at e1 ⊢
      clear ej2
      obtain ⟨p, hp⟩ : ∃ p, l[n]? = some p := ⟨_, List.getElem?_eq_getElem (by omega)⟩
      obtain ⟨p1, p2⟩ := ll n p hp
      have tk : l.take (n + 1) = l.take n ++ [p] := by rw [List.take_add_one, hp]; rfl
      rw [tk, seL_app] at hf
      refine kp_lateCell hq ho hC hG _ _ et hT6 ej (by omega) ⟨fun c9 => ih _ e1 (by omega) ?_, fun c9 => kh_lateValue hq ho hC hG _ _ et hT6 ej (by omega) (ri_i ?_)⟩
      · rw [if_neg (fun z => c9 ?_)] at hf
        · exact hf
        · rw [t_eq, p1, ec, z]
      · rw [t_eq, p1, ec] at c9
        rw [if_pos (by omega)] at hf
        rw [p2]; exact hf
  have e1 : (rg x o T 7 - 1).toInt + 1 = (l.length : Nat) := by rw [t_sub (by show _ ≤ _ - (1 : Int); omega) (by show _ - (1 : Int) ≤ _; omega)]; show _ - (1 : Int) + 1 = _; omega
  exact kg_X5_seenBy_0 hq ho _ _ (kp_get hq ho hC hG _ _ et (show (7 : Int32).toInt = ((7 : Nat) : Int) from rfl) hT6 (by omega) (loop l.length _ e1 (Nat.le_refl _) (by rw [List.take_length]; exact h)))
/-- a sum of a thread is worked out -/
theorem kh_ev (hq : kV q) (ho : kiM q o) (hM : MM x o) (hK : CK x C) (hT : T < C.2.1.length) (g : kTq x o C T h) (t a : Int32) (et : t.toInt = T) {Q : List gQ} (hS : SUk x a (Q.map cQ)) (q1 : okQ Q 0) {ks : List Nat} (q2 : ∀ p ∈ Q, qOk p ∧ (p.1 = 2 → p.2.1 < ks.length) ∧ ¬ p.1 = 4) (hk : (ks.length : Int) ≤ (x.1 60 13).toInt) (hF : ∀ r y, fm sWk x y → wkR x y (wkQ h.2.2.2.2.2.2.2 (fun _ => 0) (Int32.ofNat T) Q) r → F r y) : KT G q (d + 1) zk_X5_localsAt 0 [(0, vr o), (1, vi t)] [] x (ri (fun r6 x5 => KT G q (d + 1) zk_X0_work 0 [(0, vr 60), (1, vi a), (2, vr (o + 5)), (3, vi r6), (4, vi t)] [] x5 (ri F))) := by
  have nT : (x.1 60 10).toInt = C.2.1.length := hK.2.1.1
  have hO := kiM_O ho
  have hT6 := MM_6 hM.1 (t := T) (by omega)
  obtain ⟨b1, b2, b3, b4, b5, b6, b7⟩ := MG_b hM.1 hM.2.1
  have tT : t = Int32.ofNat T := i32_of et
  have m8 := hM.1.1.2.2.2.1
  refine kf_localsAt hq ho hM.1 hM.2.1 _ et hT6 (fun r6 r0 r4 => ?_)
  rw [tT]
  refine kf_work hq (kk_M5 ho) (kl_M5 hq ho) (by omega) _ _ _ (Q := Q) (lv := h.2.2.2.2.2.2.2) (cv := fun _ => 0) hM.1.2.1.1.2 hS q1 (fun p hp => ?_) hF
  obtain ⟨a1, a2, a3⟩ := q2 p hp
  refine ⟨a1, fun c => ?_, fun c => absurd c a3⟩
  have pl := a2 c
  have e8 : (Int32.ofNat p.2.1).toInt = (p.2.1 : Nat) := Int32.toInt_ofNat_of_lt (by omega)
  have es : (r6 + Int32.ofNat p.2.1).toInt = r6.toInt + (p.2.1 : Nat) := by rw [t_add (by omega) (by omega), e8]
  refine ⟨by rw [vp_in_iff, es]; omega, ?_⟩
  have ep : (r6 + Int32.ofNat p.2.1).toNatClampNeg = pa x o T (8 + p.2.1) := by
    rw [t_cl, es, r0]
    unfold pa
    omega
  rw [ep]
  exact g.2.2.2.2.2.2.2.1 _ (by omega)
/-- looking leaves what is held -/
theorem KMm_Lk (hO : o = 120 ∨ o = 220) (hM : MM x o) (hK : CK x C) (f : fm (sLk o) x y) (g : KMm x o C M) : KMm y o C M :=
  KMm_fr hO hM hK (f _ _ (by unfold sLk; omega)) (f _ _ (by unfold sLk; omega)) (f _ _ (by unfold sLk; omega)) (f _ _ (by unfold sLk; omega)) (fun j _ => f _ _ (by unfold sLk; omega)) (rg_Lk hO f) g
/-- where its [ ] leads -/
theorem kh_placeOf (hq : kV q) (ho : kiM q o) (hM : MM x o) (hK : CK x C) (hN : NC C) (g : KMm x o C M) (t : Int32) (et : t.toInt = T) (hT : T < C.2.1.length) (h1 : (M.2.2 T).1 = 1) (hop : (stN C (M.2.2 T).2.2.1).1 ≤ 4) (hF : ∀ r y, fm (sLk o) x y → (((lkI C M T).1 = 0 ∧ r = (lkI C M T).2 ∧ 0 ≤ r.toInt ∧ r.toInt < (x.1 60 6).toInt) ∨ (¬ (lkI C M T).1 = 0 ∧ r = -1 ∧ y.1 o 14 = Int32.ofNat (lkI C M T).1)) → F r y) : KT G q (d + 2) zk_X5_placeOf 0 [(0, vr o), (1, vi t)] [] x (ri F) := by
  have nT : (x.1 60 10).toInt = C.2.1.length := hK.2.1.1
  have hO := kiM_O ho
  have hT6 := MM_6 hM.1 (t := T) (by omega)
  have hA := (hM.2.2 T (by omega)).1
  have gT := g.2 T hT
  obtain ⟨st, s1, s2, s3, s4, s5, kn, ns⟩ := kst_at hM hK hN hT gT
  obtain ⟨v, e, l⟩ := MM_st hM.1 hA
  have k0 : (0 : Int32).toInt = 0 := rfl
  have c24 := hM.1.1.1
  have hml := gT.2.2.2.2.2.2.2.2 (Or.inl h1)
  rw [s2] at hop hml
  obtain ⟨a1, a2, a3⟩ := (hM.1.2.2.2.1 _ s4).1.1 (by omega)
  rw [s3] at e
  obtain ⟨-, -, -, -, k85, k86, k87, -, -⟩ := kn
  have k85 := k85 (by omega)
  refine kg_X5_placeOf_0 hq ho _ (kp_get hq ho hM.1 hM.2.1 _ _ et (show (2 : Int32).toInt = ((2 : Nat) : Int) from rfl) hT6 (by omega) ⟨v, fun c87 => ?_, fun c87 => ⟨v, ri_i (hF _ x (fm_rf _ _) (Or.inl ?_))⟩⟩)
  · rw [e] at c87 ⊢
    cases hix : st.2.2.2.2.2.2.2.1 with
    | none => rw [hix] at k87; exact absurd k87 c87
    | some Q =>
      rw [hix] at k87
      have k86 := k86 hop (by rw [hix]; exact fun z => nomatch z)
      obtain ⟨o1, o2⟩ := ns.2.2.2.2.2.2.2.1 Q hix
      refine kh_ev hq ho hM hK hT gT _ _ et k87 o1 o2 hml (fun r8 y fy hwk => ?_)
      have fL : fm (sLk o) x y := fm_w fy (fun c k q => by unfold sWk at q; unfold sLk; omega)
      have hix' : (stN C (M.2.2 T).2.2.1).2.2.2.2.2.2.2.1 = some Q := by rw [s2]; exact hix
      have p81 : ∀ n : Nat, (n = 1 ∨ n = 2) → (y.1 60 5 = 0 ↔ n = 2) → (lkI C M T).1 = n → KT G q (d + 2) zk_X5_placeOf 81 [(0, vr o)] [] y (ri F) := fun n hn h5 hl => by
        have nz : ¬ (lkI C M T).1 = 0 := by omega
        refine kg_X5_placeOf_81 hq ho ⟨fun c5 z ez => ri_i (hF _ z (by rw [ez]; exact fm_si fL (Or.inl ⟨rfl, rfl⟩)) (Or.inr ⟨nz, rfl, ?_⟩)), fun c5 z ez => ri_i (hF _ z (by rw [ez]; exact fm_si fL (Or.inl ⟨rfl, rfl⟩)) (Or.inr ⟨nz, rfl, ?_⟩))⟩
        · rw [hl, h5.mp c5, ez, si_get, if_pos ⟨rfl, rfl⟩]; rfl
        · have : n = 1 := by
            rcases hn with e | e
            · exact e
            · exact absurd (h5.mpr e) c5
          rw [hl, this, ez, si_get, if_pos ⟨rfl, rfl⟩]; rfl
      rcases hwk with ⟨v9, hw, er, y5⟩ | ⟨hw, y5⟩
      · subst er
        refine ⟨fun c => absurd y5 c, fun _ => ⟨fun c8 => ?_, fun c8 => ⟨v, fun c9 => ⟨v, ?_⟩, fun c9 => ?_⟩⟩⟩
        · exact p81 2 (Or.inr rfl) ⟨fun _ => rfl, fun _ => y5⟩ (by rw [lkI_2 hix' hw (Or.inl c8)])
        · rw [fy 86 _ (by unfold sWk; omega), k86] at c9
          have nn : ¬ (r8 < 0 ∨ (stN C (M.2.2 T).2.2.1).2.2.2.2.2.1 ≤ r8) := fun z => z.elim c8 (fun z => by
            rw [s2] at z
            rw [t_lt] at c9
            rw [t_le] at z
            omega)
          refine ri_i (hF _ y fL (Or.inl ?_))
          rw [lkI_0 hix' hw nn, fy 85 _ (by unfold sWk; omega), s2, k85]
          refine ⟨rfl, rfl, ?_⟩
          rw [t_lt, k0] at c8
          rw [← k86, t_lt] at c9
          rw [← k85, t_add (by omega) (by omega)]
          omega
        · rw [fy 86 _ (by unfold sWk; omega), k86] at c9
          refine p81 2 (Or.inr rfl) ⟨fun _ => rfl, fun _ => y5⟩ ?_
          rw [lkI_2 hix' hw (Or.inr ?_)]
          rw [s2]
          rw [t_lt] at c9
          rw [t_le]
          omega
      · refine ⟨fun _ => p81 1 (Or.inl rfl) ⟨fun z => ?_, fun z => absurd z (by decide)⟩ (by rw [lkI_1 hix' hw]), fun c => ?_⟩
        · rw [y5] at z; exact absurd z (by decide)
        · rw [y5] at c; exact absurd c (by decide)
  · rw [e] at c87 ⊢
    have hix : st.2.2.2.2.2.2.2.1 = none := by
      cases hix : st.2.2.2.2.2.2.2.1 with
      | none => rfl
      | some Q =>
        rw [hix] at k87
        have := k87.1
        rw [c87, tm1] at this
        omega
    rw [lkI_n (by rw [s2]; exact hix), s2]
    exact ⟨rfl, k85, by omega, by omega⟩
/-- whether its write comes late -/
theorem kh_goesLate (hq : kV q) (ho : kiM q o) (hM : MM x o) (hK : CK x C) (hN : NC C) (wy : x.1 o 3 = Int32.ofNat w) (w01 : w = 0 ∨ w = 1) (s : Int32) {S : Nat} {st : gNs} (es : s.toInt = S) (hst : C.1[S]? = some st) (hF : ∀ r : Int32, (¬ r = 0 ↔ w = 1 ∧ st.1 = 1 ∧ suM C st.2.2.2.2.1.toNatClampNeg = false) → F r x) : KT G q d zk_X5_goesLate 0 [(0, vr o), (1, vi s)] [] x (ri F) := by
  have s35 := hM.1.2.2.1.2
  have c24 := hM.1.1.1
  have ls : ssm x = C.1.length := hK.1.1
  have hS : (S : Int) < ssm x := by have := gt_lt hst; omega
  have v : vp_in s 400 := by rw [vp_in_iff]; omega
  have e : s.toNatClampNeg = S := by rw [t_cl, es]; rfl
  obtain ⟨k81, -, -, -, k85, -⟩ := hK.1.2 S st hst
  have n22 := (hN.1 S st hst).1.1
  have o1 : x.1 81 S = 1 ↔ st.1 = 1 := by
    have s : ∀ n, n < 22 → (Int32.ofNat n = 1 ↔ n = 1) := by decide +kernel
    rw [k81]; exact s _ n22
  have ww : x.1 o 3 = 1 ↔ w = 1 := by
    rw [wy]
    rcases w01 with e | e <;> rw [e] <;> decide
  refine kg_X5_goesLate_0 hq ho _ ⟨fun c => ri_i (hF _ ⟨fun z => absurd rfl z, fun z => absurd (ww.mpr z.1) c⟩), fun cw => ⟨v, fun c => ri_i (hF _ ⟨fun z => absurd rfl z, fun z => absurd (o1.mpr z.2.1) (by rw [e] at c; exact c)⟩), fun c1 => ⟨v, ?_, fun c0 => ?_, fun c0 => ?_⟩⟩⟩
  all_goals rw [e] at c1
  all_goals have p1 := o1.mp c1
  all_goals obtain ⟨s1, s2, s3⟩ := (hM.1.2.2.2.1 _ hS).1.1 (by show (x.1 81 S).toInt ≤ 4; rw [c1]; decide)
  all_goals have k85 := k85 (by omega)
  · rw [e, vp_in_iff]; omega
  all_goals rw [e, k85] at c0
  all_goals rw [k85] at s1 s2
  all_goals obtain ⟨cq, hcq⟩ : ∃ cq, C.2.2.1[st.2.2.2.2.1.toNatClampNeg]? = some cq := ⟨_, List.getElem?_eq_getElem (by have : (x.1 60 6).toInt = C.2.2.1.length := hK.2.2.1.1; rw [t_cl]; omega)⟩
  all_goals have k69 := (hK.2.2.1.2 _ cq hcq).2
  all_goals have su : suM C st.2.2.2.2.1.toNatClampNeg = cq.2 := by unfold suM; rw [hcq]
  all_goals rw [k69] at c0
  all_goals refine ri_i (hF _ ?_)
  all_goals rw [su]
  · refine ⟨fun z => absurd rfl z, fun z => absurd ?_ c0⟩
    rw [z.2.2]; rfl
  · refine ⟨fun _ => ⟨ww.mp cw, p1, ?_⟩, fun _ => by decide⟩
    cases hb : cq.2 with
    | false => rfl
    | true => rw [hb] at c0; exact absurd c0 (by decide)
theorem km_nil : ∀ {sl : List Nat}, (∀ s ∈ sl, s < 8) → (kmN sl = 0 ↔ sl = []) := fun {sl} h => by
  refine ⟨fun z => ?_, fun z => by rw [z]; rfl⟩
  cases sl with
  | nil => rfl
  | cons s r =>
    have a := km_bit h s (h s List.mem_cons_self)
    rw [if_pos List.mem_cons_self, z] at a
    have b := km_bit (sl := []) (fun s hs => by cases hs) s (h s List.mem_cons_self)
    rw [if_neg (by simp)] at b
    exact absurd (b.symm.trans a) (by decide)
/-- those that wait -/
theorem kh_waiters (hq : kV q) (ho : kiM q o) (hM : MM x o) (hK : CK x C) (hN : NC C) (g : KMm x o C M) (l : Int32) {L : Nat} (eL : l.toInt = L) (hl : (L : Int) < (x.1 60 9).toInt) (h : F (kmN (waM C M L).reverse) x) : KT G q (d + 1) zk_X5_waiters 0 [(0, vr o), (1, vi l)] [] x (ri F) := by
  have hb := hM.1.1.2.2.1
  have nT : (x.1 60 10).toInt = C.2.1.length := hK.2.1.1
  have l6 := hM.1.1.2.1.2
  have k1 : (1 : Int32).toInt = 1 := rfl
  have k0 : (0 : Int32).toInt = 0 := rfl
  have el1 : (l + 1).toInt = (L : Int) + 1 := by rw [t_add (by rw [k1]; omega) (by rw [k1]; omega), k1, eL]
  obtain ⟨P, eP⟩ : ∃ P : Nat → Bool, P = fun o => (M.2.2 o).2.2.2.1 == 1 && obM C (M.2.2 o).2.2.1 == L := ⟨_, rfl⟩
  have h : F (kmN ((List.range C.2.1.length).filter P).reverse) x := by rw [eP]; exact h
  -- a thread waits for it, not woken yet
  have tst : ∀ k, k < C.2.1.length → ((rg x o k 3 = l + 1 ∧ rg x o k 5 = 0) ↔ P k = true) := fun k hk => by
    have gk := g.2 k hk
    obtain ⟨w3, w5, w2, -⟩ := gk.2.2.2.1
    rw [w3, w5, eP]
    show _ ↔ ((M.2.2 k).2.2.2.1 == 1 && obM C (M.2.2 k).2.2.1 == L) = true
    rw [Bool.and_eq_true, beq_iff_eq, beq_iff_eq]
    by_cases c0 : (M.2.2 k).2.2.2.1 = 0
    · rw [if_pos c0]
      refine ⟨fun z => ?_, fun z => by omega⟩
      have := z.1
      rw [t_eq, k0, el1] at this
      omega
    · rw [if_neg c0]
      obtain ⟨a1, a2⟩ := kst_wl hM hK hN hk gk c0
      have e1 : ((stN C (M.2.2 k).2.2.1).2.2.2.2.1 + 1).toInt = (obM C (M.2.2 k).2.2.1 : Nat) + 1 := by rw [t_add (by rw [k1]; omega) (by rw [k1]; omega), k1, a1]
      rw [t_eq, e1, el1]
      by_cases c2 : (M.2.2 k).2.2.2.1 = 2
      · rw [if_pos c2]
        exact ⟨fun z => absurd z.2 (by decide), fun z => by omega⟩
      · rw [if_neg c2]
        exact ⟨fun z => ⟨by omega, by omega⟩, fun z => ⟨by omega, rfl⟩⟩
  have loop : ∀ (n k : Nat) (a i : Int32), i.toInt = k → k ≤ C.2.1.length → (x.1 60 10).toInt - k ≤ n → a = kmN ((List.range k).filter P).reverse → KT G q (d + 1) zk_X5_waiters 4 [(0, vr o), (1, vi l), (2, vi a), (3, vi i)] [] x (ri F) := by
    intro n
    induction n with
    | zero =>
      intro k a i ei hk hn ea
      have ek : k = C.2.1.length := by omega
      refine kg_X5_waiters_4 hq ho _ _ _ ⟨fun _ => ri_i (by rw [ea, ek]; exact h), fun c => ?_⟩
      exfalso; rw [t_le] at c; omega
    | succ n ih =>
      intro k a i ei hk hn ea
      refine kg_X5_waiters_4 hq ho _ _ _ ⟨fun c => ri_i ?_, fun c => ?_⟩
      · rw [t_le] at c
        have ek : k = C.2.1.length := by omega
        rw [ea, ek]; exact h
      rw [t_le] at c
      have e1 : (i + 1).toInt = ((k + 1 : Nat) : Int) := by rw [t_add (by show _ ≤ _ + (1 : Int); omega) (by show _ + (1 : Int) ≤ _; omega), ei]; rfl
      have hk' : k < C.2.1.length := by omega
      have st := tst k hk'
      have no : ¬ P k = true → ((List.range (k + 1)).filter P).reverse = ((List.range k).filter P).reverse := fun z => by
        rw [List.range_succ, List.filter_append, List.filter_cons_of_neg (by exact z), List.filter_nil, List.append_nil]
      have yes : P k = true → ((List.range (k + 1)).filter P).reverse = k :: ((List.range k).filter P).reverse := fun z => by
        rw [List.range_succ, List.filter_append, List.filter_cons_of_pos (by exact z), List.filter_nil, List.reverse_append]
        rfl
      have ii : i = Int32.ofNat k := i32_of ei
      refine kp_get hq ho hM.1 hM.2.1 _ _ ei (show (3 : Int32).toInt = ((3 : Nat) : Int) from rfl) (by omega) (by omega) ⟨fun c3 => ih (k + 1) _ _ e1 (by omega) (by push_cast; omega) ?_, fun c3 => kp_get hq ho hM.1 hM.2.1 _ _ ei (show (5 : Int32).toInt = ((5 : Nat) : Int) from rfl) (by omega) (by omega) ⟨fun c5 => ih (k + 1) _ _ e1 (by omega) (by push_cast; omega) ?_, fun c5 => ih (k + 1) _ _ e1 (by omega) (by push_cast; omega) ?_⟩⟩
      · rw [no (fun z => c3 (st.mpr z).1)]; exact ea
      · rw [no (fun z => c5 (st.mpr z).2)]; exact ea
      · rw [yes (st.mp ⟨c3, c5⟩), kmN, ← ea, ii]
  exact kg_X5_waiters_0 hq ho _ (loop 6 0 _ _ rfl (by omega) (by omega) rfl)
end KMS
end
section
/-! the class: what acts do to what its machine holds -/
section KMP
variable {G : kG} {q : kP} {d : Nat} {x x0 y z : gd} {o : Nat} {F : Int32 → gd → Prop} {Fv : gd → Prop} {C : gCo} {M : gMa} {h h' : gTq} {t T w : Nat}
theorem upT_2 {h1 h2 : gTq} : upT (upT M T h1) T h2 = upT M T h2 := by
  unfold upT upf
  refine Prod.ext rfl (Prod.ext rfl (funext fun i => ?_))
  show (if i = T then h2 else if i = T then h1 else M.2.2 i) = if i = T then h2 else M.2.2 i
  by_cases c : i = T
  · rw [if_pos c, if_pos c]
  · rw [if_neg c, if_neg c, if_neg c]
theorem upT_at {h1 : gTq} : (upT M T h1).2.2 T = h1 := by
  show upf M.2.2 T h1 T = h1
  unfold upf
  rw [if_pos rfl]
theorem upT_ne {h1 : gTq} (c : ¬ t = T) : (upT M T h1).2.2 t = M.2.2 t := by
  show upf M.2.2 T h1 t = _
  unfold upf
  rw [if_neg c]
theorem upT_id {h1 : gTq} (e : h1 = M.2.2 T) : upT M T h1 = M := by
  unfold upT upf
  refine Prod.ext rfl (Prod.ext rfl (funext fun i => ?_))
  show (if i = T then h1 else M.2.2 i) = M.2.2 i
  by_cases c : i = T
  · rw [if_pos c, e, c]
  · rw [if_neg c]
/-- a field is set -/
theorem kh_seta {S : Nat → Prop} (hq : kV q) (ho : kiM q o) (h : MM x o) {T K : Nat} (t f v : Int32) (et : t.toInt = T) (ef : f.toInt = K) (hT : T < 6) (hK : (K : Int) < (x.1 o 8).toInt) (h0 : K ≠ 0 ∧ K ≠ 2) (h3 : K = 3 → v = 0 ∨ (rg x o T 0 = 1 ∧ sop x (rg x o T 2).toInt.toNat = 7)) (h7 : K = 7 → (0 ≤ v.toInt ∧ v.toInt ≤ 8) ∧ (¬ x.1 o 3 = 1 → v = 0) ∧ ∀ j : Nat, (j : Int) < v.toInt → 0 ≤ (rg x o T ((x.1 o 9).toInt.toNat + 2 * j)).toInt ∧ (rg x o T ((x.1 o 9).toInt.toNat + 2 * j)).toInt < (x.1 60 6).toInt) (h9 : ∀ j : Nat, (j : Int) < (rg x o T 7).toInt → K = (x.1 o 9).toInt.toNat + 2 * j → 0 ≤ v.toInt ∧ v.toInt < (x.1 60 6).toInt) (hF : ∀ y, AR S x y o → fm (sSt o) x y → lowE x y o → (∀ t k : Nat, (k : Int) < (x.1 o 8).toInt → rg y o t k = if t = T ∧ k = K then v else rg x o t k) → Fv y) : KT G q d zk_X5_set 0 [(0, vr o), (1, vi t), (2, vi f), (3, vi v)] [] x (rv Fv) := by
  have hO := kiM_O ho
  obtain ⟨b1, b2, -⟩ := MG_b h.1 h.2.1
  refine kp_set hq ho h.1 h.2.1 _ _ _ et ef hT (by omega) (fun y ey => ?_)
  have gy : ∀ t k : Nat, (k : Int) < (x.1 o 8).toInt → rg y o t k = if t = T ∧ k = K then v else rg x o t k := fun t k hk => rg_set hO h.1 h.2.1 hK hk ey
  refine hF y ⟨MM_put hO h hK ey h0 h3 h7 h9, fm_w (st_f ey) (fun c k q => sSt_M q), fun t k hk => ?_, fun k hk => st_f ey _ _ (by unfold sSt; omega)⟩ (st_f ey) (fun j hj => ?_) gy
  · rw [gy t k (by omega), if_neg (fun q => by omega)]
  · rw [ey, si_get, if_neg (fun z => ?_)]
    have := z.2
    unfold pa at this
    omega
/-- plain fields of a thread change -/
theorem kTq_k (hC : CO x) (hG : MG x o) (hA : TA x o T) (e13 : y.1 60 13 = x.1 60 13) (e9 : y.1 o 9 = x.1 o 9) (A : Nat → Int32) (e : ∀ k : Nat, (k : Int) < (x.1 o 8).toInt → rg y o T k = if k < 7 then A k else rg x o T k) (g : kTq x o C T h) (hl : h'.2.2.2.2.2.2 = h.2.2.2.2.2.2) (a0 : A 0 = Int32.ofNat h'.1 ∧ h'.1 ≤ 3) (a1 : A 1 = Int32.ofNat h'.2.1) (a2 : (A 2).toInt = (h'.2.2.1 : Nat)) (a3 : A 3 = (if h'.2.2.2.1 = 0 then 0 else (stN C h'.2.2.1).2.2.2.2.1 + 1) ∧ A 5 = (if h'.2.2.2.1 = 2 then 1 else 0) ∧ h'.2.2.2.1 ≤ 2 ∧ (¬ h'.2.2.2.1 = 0 → (stN C h'.2.2.1).1 = 7)) (a4 : A 4 = h'.2.2.2.2.1) (a6 : A 6 = h'.2.2.2.2.2.1 + 1) (a9 : h'.1 = 1 ∨ h'.1 = 3 → ((stN C h'.2.2.1).2.1.length : Int) ≤ (x.1 60 13).toInt) : kTq y o C T h' := by
  obtain ⟨b1, b2, b3, b4, b5, b6, b7⟩ := MG_b hC hG
  obtain ⟨-, -, -, -, -, -, ⟨q7, ql⟩, qv, -⟩ := g
  refine ⟨⟨by rw [e 0 (by omega), if_pos (by omega)]; exact a0.1, a0.2⟩, by rw [e 1 (by omega), if_pos (by omega)]; exact a1, by rw [e 2 (by omega), if_pos (by omega)]; exact a2, ⟨by rw [e 3 (by omega), if_pos (by omega)]; exact a3.1, by rw [e 5 (by omega), if_pos (by omega)]; exact a3.2.1, a3.2.2⟩, by rw [e 4 (by omega), if_pos (by omega)]; exact a4, by rw [e 6 (by omega), if_pos (by omega)]; exact a6, ⟨by rw [e 7 (by omega), if_neg (by omega), hl]; exact q7, fun i p hp => ?_⟩, fun p hp => ?_, by rw [e13]; exact a9⟩
  · rw [hl] at hp
    have hi := gt_lt hp
    have := (lt_in hC hG hA (i := i) (by rw [q7]; omega)).2
    rw [e9, e _ (by omega), if_neg (by omega), e _ (by omega), if_neg (by omega)]; exact ql i p hp
  · rw [e13] at hp; rw [e _ (by push_cast; omega), if_neg (by omega), hl]; exact qv p hp
/-- a local is set -/
theorem kTq_l (hC : CO x) (hG : MG x o) (hA : TA x o T) (e13 : y.1 60 13 = x.1 60 13) (e9 : y.1 o 9 = x.1 o 9) {p : Nat} {v : Int32} (hp : (p : Int) < (x.1 60 13).toInt) (e : ∀ k : Nat, (k : Int) < (x.1 o 8).toInt → rg y o T k = if k = 8 + p then v else rg x o T k) (g : kTq x o C T h) : kTq y o C T (h.1, h.2.1, h.2.2.1, h.2.2.2.1, h.2.2.2.2.1, h.2.2.2.2.2.1, h.2.2.2.2.2.2.1, fup h.2.2.2.2.2.2.2 p v) := by
  obtain ⟨b1, b2, b3, b4, b5, b6, b7⟩ := MG_b hC hG
  obtain ⟨⟨q0, q0'⟩, q1, q2, ⟨q3, q5, qw⟩, q4, q6, ⟨q7, ql⟩, qv, qk⟩ := g
  have e' : ∀ k, k < 8 → rg y o T k = rg x o T k := fun k hk => by rw [e k (by omega), if_neg (by omega)]
  refine ⟨⟨by rw [e' 0 (by omega)]; exact q0, q0'⟩, by rw [e' 1 (by omega)]; exact q1, by rw [e' 2 (by omega)]; exact q2, ⟨by rw [e' 3 (by omega)]; exact q3, by rw [e' 5 (by omega)]; exact q5, qw⟩, by rw [e' 4 (by omega)]; exact q4, by rw [e' 6 (by omega)]; exact q6, ⟨by rw [e' 7 (by omega)]; exact q7, fun i p' hp' => ?_⟩, fun p' hp' => ?_, by rw [e13]; exact qk⟩
  · have hi := gt_lt hp'
    have := (lt_in hC hG hA (i := i) (by rw [q7]; exact Int.ofNat_lt.mpr hi)).2
    rw [e9, e _ (by omega), if_neg (by omega), e _ (by omega), if_neg (by omega)]; exact ql i p' hp'
  · rw [e13] at hp'
    rw [e _ (by push_cast; omega)]
    show _ = if p' = p then v else h.2.2.2.2.2.2.2 p'
    by_cases c : p' = p
    · rw [if_pos (by omega), if_pos c]
    · rw [if_neg (by omega), if_neg c]; exact qv p' hp'
theorem kh_setLate (hq : kV q) (ho : kiM q o) (h : MM x o) (hw : x.1 o 3 = 1) {T J : Nat} (t j c v : Int32) (et : t.toInt = T) (ej : j.toInt = J) (hT : T < 6) (hJ : J < 8) (hc : 0 ≤ c.toInt ∧ c.toInt < (x.1 60 6).toInt) (hF : ∀ y, MM y o → fm (sSt o) x y → lowE x y o → (∀ t k : Nat, (k : Int) < (x.1 o 8).toInt → rg y o t k = if t = T ∧ k = (x.1 o 9).toInt.toNat + 2 * J then c else if t = T ∧ k = (x.1 o 9).toInt.toNat + 2 * J + 1 then v else rg x o t k) → Fv y) : KT G q (d + 1) zk_X5_setLate 0 [(0, vr o), (1, vi t), (2, vi j), (3, vi c), (4, vi v)] [] x (rv Fv) := by
  have hO := kiM_O ho
  obtain ⟨b1, b2, b3, b4, b5, -⟩ := MG_b h.1 h.2.1
  have b5 := b5 hw
  obtain ⟨e1, e2, e3⟩ := lt_ix h.1 h.2.1 ej hJ
  refine kg_X5_setLate_0 hq ho _ _ _ _ (kh_seta (S := fun _ => False) hq ho h _ _ _ et e1 hT (by omega) ⟨by omega, by omega⟩ (fun q => by omega) (fun q => by omega) (fun i hi q => hc) (fun y hy fy ly gy => ?_))
  have y9 : y.1 o 9 = x.1 o 9 := fy _ _ (by unfold sSt; omega)
  have y8 : y.1 o 8 = x.1 o 8 := fy _ _ (by unfold sSt; omega)
  rw [y9]
  refine kh_seta (S := fun _ => False) hq ho hy.1 _ _ _ et e2 hT (by rw [y8]; omega) ⟨by omega, by omega⟩ (fun q => by omega) (fun q => by omega) (fun i hi q => by rw [y9] at q; omega) (fun z hz fz lz gz => rv_i (hF z hz.1 (fm_tr fy fz) (lowE_tr hO fy ly lz) (fun t k hk => ?_)))
  rw [gz t k (by rw [y8]; exact hk)]
  by_cases c1 : t = T ∧ k = (x.1 o 9).toInt.toNat + 2 * J + 1
  · rw [if_pos c1, if_neg (fun z => by omega), if_pos c1]
  · rw [if_neg c1, gy t k hk, if_neg c1]
/-- give -/
theorem kh_give {S : Nat → Prop} (hq : kV q) (ho : kiM q o) (hM : MM x o) (hK : CK x C) (g : KMm x o C M) (t l : Int32) {L : Nat} (et : t.toInt = T) (hT : T < 6) (eL : l.toInt = L) (hl : (L : Int) < (x.1 60 9).toInt) (hF : ∀ r y, AR S x y o → ((r = 3 ∧ ¬ (M.2.1 L).1 = T + 1 ∧ KMm y o C M) ∨ (r = 0 ∧ (M.2.1 L).1 = T + 1 ∧ KMm y o C (upL M L (if (M.2.1 L).2 - 1 = 0 then 0 else T + 1, (M.2.1 L).2 - 1)))) → F r y) : KT G q (d + 1) zk_X5_doGive 0 [(0, vr o), (1, vi t), (2, vi l)] [] x (ri F) := by
  have tT : t = Int32.ofNat T := i32_of et
  have l6 := (g.1.2 L hl).2.1
  have hh := hol_t (M.2.1 L).1 (by omega) T hT
  have p30 : ∀ (b : Int32) (n : Nat), b + 1 = Int32.ofNat n → n ≤ 6 → n = (if (M.2.1 L).2 - 1 = 0 then 0 else T + 1) → (M.2.1 L).1 = T + 1 → KT G q (d + 1) zk_X5_doGive 30 [(3, vi ((M.2.1 L).2 - 1))] [vi b, vi l, vr o] x (ri F) := fun b n hb hn en hT1 => kg_X5_doGive_30 hq ho _ _ _ (kh_setLock hq ho hM hK g _ _ _ eL hl hb hn (fun y hy ry gy => ri_i (hF _ y hy (Or.inr ⟨rfl, hT1, by rw [← en]; exact gy⟩))))
  refine kg_X5_doGive_0 hq ho _ _ (kh_holder hq ho hM g _ eL hl ⟨fun c => ?_, fun c => ri_i (hF _ x (AR_rf hM) (Or.inl ⟨rfl, fun z => c ?_, g⟩))⟩)
  · rw [tT] at c
    have hT1 := hh.mp c
    refine kh_often hq ho hM g _ eL hl ⟨fun c0 => p30 _ (T + 1) ?_ (by omega) (by rw [if_neg c0]) hT1, fun c0 => p30 _ 0 (by decide) (by omega) (by rw [if_pos c0]) hT1⟩
    have k1 : (1 : Int32).toInt = 1 := rfl
    exact i32_of (by rw [t_add (by rw [k1]; omega) (by rw [k1]; omega), k1, et]; push_cast; rfl)
  · rw [tT]; exact hh.mpr z
/-- wait -/
theorem kh_wait {S : Nat → Prop} (hq : kV q) (ho : kiM q o) (hM : MM x o) (hK : CK x C) (hN : NC C) (g : KMm x o C M) (t l : Int32) {L : Nat} (et : t.toInt = T) (hT : T < C.2.1.length) (h1 : (M.2.2 T).1 = 1) (hw : (M.2.2 T).2.2.2.1 = 0) (o7 : (stN C (M.2.2 T).2.2.1).1 = 7) (el : l = (stN C (M.2.2 T).2.2.1).2.2.2.2.1) (eL : l.toInt = L) (hl : (L : Int) < (x.1 60 9).toInt) (hF : ∀ r y, AR S x y o → ((r = 4 ∧ ¬ (M.2.1 L).1 = T + 1 ∧ KMm y o C M) ∨ (r = 0 ∧ (M.2.1 L).1 = T + 1 ∧ KMm y o C (upT (upL M L (0, 0)) T ((M.2.2 T).1, (M.2.2 T).2.1, (M.2.2 T).2.2.1, 1, (M.2.1 L).2, (M.2.2 T).2.2.2.2.2)))) → F r y) : KT G q (d + 1) zk_X5_doWait 0 [(0, vr o), (1, vi t), (2, vi l)] [] x (ri F) := by
  have hO := kiM_O ho
  have nT : (x.1 60 10).toInt = C.2.1.length := hK.2.1.1
  have hT6 := MM_6 hM.1 (t := T) (by omega)
  have hA := (hM.2.2 T (by omega)).1
  obtain ⟨b1, b2, b3, b4, -⟩ := MG_b hM.1 hM.2.1
  have gT := g.2 T hT
  obtain ⟨st, s1, s2, s3, s4, s5, kn, ns⟩ := kst_at hM hK hN hT gT
  have tT : t = Int32.ofNat T := i32_of et
  have l6 := (g.1.2 L hl).2.1
  have hh := hol_t (M.2.1 L).1 (by omega) T hT6
  have r0 : rg x o T 0 = 1 := by rw [gT.1.1, h1]; rfl
  have r7 : sop x (rg x o T 2).toInt.toNat = 7 := by rw [s3, s5]; rw [s2] at o7; omega
  have g' := gT
  obtain ⟨⟨q0, q0'⟩, q1, q2, ⟨q3, q5, qw⟩, q4, q6, -, -, qk⟩ := g'
  rw [hw] at q5
  refine kg_X5_doWait_0 hq ho _ _ (kh_holder hq ho hM g _ eL hl ⟨fun c => ?_, fun c => ri_i (hF _ x (AR_rf hM) (Or.inl ⟨rfl, fun z => c (by rw [tT]; exact hh.mpr z), g⟩))⟩)
  rw [tT] at c
  have hT1 := hh.mp c
  refine kh_seta (S := S) hq ho hM _ _ _ et (show (3 : Int32).toInt = ((3 : Nat) : Int) from rfl) hT6 (by omega) (by omega) (fun _ => Or.inr ⟨r0, r7⟩) (fun c => by omega) (fun j _ c => by omega) (fun y hy fy ly gy => ?_)
  obtain ⟨f6, f9, e13, e9, e8, e7, e10⟩ := sM_e hO hy.2.1
  have gy1 : KMm y o C (upT M T ((M.2.2 T).1, (M.2.2 T).2.1, (M.2.2 T).2.2.1, 1, (M.2.2 T).2.2.2.2.1, (M.2.2 T).2.2.2.2.2)) := KMm_T hO hM hK hy.2.1 ly (fun t k ht hk => by rw [gy t k hk, if_neg (fun z => ht z.1)]) g (kTq_k hM.1 hM.2.1 hA e13 e9 (fun k => if k = 3 then l + 1 else rg x o T k) (fun k hk => by
      rw [gy T k hk]
      by_cases c3 : k = 3
      · rw [if_pos ⟨rfl, c3⟩, if_pos (by omega), if_pos c3]
      · rw [if_neg (fun z => c3 z.2), if_neg c3]; split <;> rfl) gT rfl ⟨q0, q0'⟩ q1 q2 ⟨by rw [el]; rfl, q5, by show (1 : Nat) ≤ 2; decide, fun _ => o7⟩ q4 q6 qk)
  have hKy := CK_M hO hK hy.2.1
  have hly : (L : Int) < (y.1 60 9).toInt := by rw [f9]; exact hl
  refine kh_often hq ho hy.1 gy1 _ eL hly (kh_seta (S := S) hq ho hy.1 _ _ _ et (show (4 : Int32).toInt = ((4 : Nat) : Int) from rfl) hT6 (by rw [e8]; omega) (by omega) (fun c => by omega) (fun c => by omega) (fun j _ c => by rw [e9] at c; omega) (fun z hz fz lz gz => ?_))
  obtain ⟨f6', f9', e13', e9', e8', e7', e10'⟩ := sM_e hO hz.2.1
  have hAy := (hy.1.2.2 T (by rw [e10]; omega)).1
  have gy1T := gy1.2 T hT
  rw [upT_at] at gy1T
  have gz1 := KMm_T hO hy.1 hKy hz.2.1 lz (fun t k ht hk => by rw [gz t k hk, if_neg (fun z => ht z.1)]) gy1 (kTq_k (h' := ((M.2.2 T).1, (M.2.2 T).2.1, (M.2.2 T).2.2.1, 1, (M.2.1 L).2, (M.2.2 T).2.2.2.2.2)) hy.1.1 hy.1.2.1 hAy e13' e9' (fun k => if k = 4 then (M.2.1 L).2 else rg y o T k) (fun k hk => by
      rw [gz T k hk]
      by_cases c3 : k = 4
      · rw [if_pos ⟨rfl, c3⟩, if_pos (by omega), if_pos c3]; rfl
      · rw [if_neg (fun z => c3 z.2), if_neg c3]; split <;> rfl) gy1T rfl gy1T.1 gy1T.2.1 gy1T.2.2.1 gy1T.2.2.2.1 rfl gy1T.2.2.2.2.2.1 gy1T.2.2.2.2.2.2.2.2)
  rw [upT_2] at gz1
  have hKz := CK_M hO hKy hz.2.1
  refine kh_setLock hq ho hz.1 hKz gz1 _ _ _ eL (by rw [f9']; exact hly) (n := 0) (by decide) (by omega) (fun v hv rv gv => ri_i (hF _ v (AR_tr (AR_tr hy hz) hv) (Or.inr ⟨rfl, hT1, gv⟩)))
/-- retake -/
theorem kh_retake {S : Nat → Prop} (hq : kV q) (ho : kiM q o) (hM : MM x o) (hK : CK x C) (g : KMm x o C M) (t l : Int32) {L : Nat} (et : t.toInt = T) (hT : T < C.2.1.length) (eL : l.toInt = L) (hl : (L : Int) < (x.1 60 9).toInt) (hF : ∀ y, AR S x y o → KMm y o C (upT (upL M L (T + 1, (M.2.2 T).2.2.2.2.1)) T ((M.2.2 T).1, (M.2.2 T).2.1, (M.2.2 T).2.2.1, 0, 0, (M.2.2 T).2.2.2.2.2)) → F 0 y) : KT G q (d + 1) zk_X5_doRetake 0 [(0, vr o), (1, vi t), (2, vi l)] [] x (ri F) := by
  have hO := kiM_O ho
  have nT : (x.1 60 10).toInt = C.2.1.length := hK.2.1.1
  have hT6 := MM_6 hM.1 (t := T) (by omega)
  have k1 : (1 : Int32).toInt = 1 := rfl
  obtain ⟨b1, b2, b3, b4, -⟩ := MG_b hM.1 hM.2.1
  have gT := g.2 T hT
  refine kg_X5_doRetake_0 hq ho _ _ (kp_get hq ho hM.1 hM.2.1 _ _ et (show (4 : Int32).toInt = ((4 : Nat) : Int) from rfl) hT6 (by omega) (kh_setLock (S := S) hq ho hM hK g _ _ _ eL hl (n := T + 1) (i32_of (by rw [t_add (by rw [k1]; omega) (by rw [k1]; omega), k1, et]; push_cast; rfl)) (by omega) (fun y hy ry gy => ?_)))
  rw [gT.2.2.2.2.1] at gy
  obtain ⟨f6, f9, e13, e9, e8, e7, e10⟩ := sM_e hO hy.2.1
  refine kh_seta (S := S) hq ho hy.1 _ _ _ et (show (3 : Int32).toInt = ((3 : Nat) : Int) from rfl) hT6 (by rw [e8]; omega) (by omega) (fun _ => Or.inl rfl) (fun c => by omega) (fun j _ c => by rw [e9] at c; omega) (fun z hz fz lz gz => ?_)
  obtain ⟨-, -, z13, z9, z8, -, -⟩ := sM_e hO hz.2.1
  refine kh_seta (S := S) hq ho hz.1 _ _ _ et (show (4 : Int32).toInt = ((4 : Nat) : Int) from rfl) hT6 (by rw [z8, e8]; omega) (by omega) (fun c => by omega) (fun c => by omega) (fun j _ c => by rw [z9, e9] at c; omega) (fun v hv fv lv gv => ?_)
  obtain ⟨-, -, v13, v9, v8, -, -⟩ := sM_e hO hv.2.1
  refine kh_seta (S := S) hq ho hv.1 _ _ _ et (show (5 : Int32).toInt = ((5 : Nat) : Int) from rfl) hT6 (by rw [v8, z8, e8]; omega) (by omega) (fun c => by omega) (fun c => by omega) (fun j _ c => by rw [v9, z9, e9] at c; omega) (fun u hu fu lu gu => ri_i (hF u (AR_tr (AR_tr (AR_tr hy hz) hv) hu) ?_))
  have hyu : AR S y u o := AR_tr (AR_tr hz hv) hu
  have hKy := CK_M hO hK hy.2.1
  have hAy := (hy.1.2.2 T (by rw [e10]; omega)).1
  have gyT := gy.2 T hT
  have gyT : kTq y o C T (M.2.2 T) := gyT
  have au : ∀ t k : Nat, (k : Int) < (y.1 o 8).toInt → rg u o t k = if t = T ∧ (k = 3 ∨ k = 4 ∨ k = 5) then 0 else rg y o t k := fun t k hk => by
    rw [gu t k (by rw [v8, z8]; exact hk), gv t k (by rw [z8]; exact hk), gz t k hk]
    by_cases c5 : t = T ∧ k = 5
    · rw [if_pos c5, if_pos ⟨c5.1, Or.inr (Or.inr c5.2)⟩]
    · rw [if_neg c5]
      by_cases c4 : t = T ∧ k = 4
      · rw [if_pos c4, if_pos ⟨c4.1, Or.inr (Or.inl c4.2)⟩]
      · rw [if_neg c4]
        by_cases c3 : t = T ∧ k = 3
        · rw [if_pos c3, if_pos ⟨c3.1, Or.inl c3.2⟩]
        · rw [if_neg c3, if_neg (fun z => by omega)]
  obtain ⟨u6, u9', u13, u9, u8, u7, -⟩ := sM_e hO hyu.2.1
  refine KMm_T hO hy.1 hKy hyu.2.1 (lowE_tr hO (fm_tr fz fv) (lowE_tr hO fz lz lv) lu) (fun t k ht hk => by rw [au t k hk, if_neg (fun z => ht z.1)]) gy (kTq_k hy.1.1 hy.1.2.1 hAy u13 u9 (fun k => if k = 3 ∨ k = 4 ∨ k = 5 then 0 else rg y o T k) (fun k hk => ?_) gyT rfl gyT.1 gyT.2.1 gyT.2.2.1 ⟨rfl, rfl, Nat.zero_le _, fun z => absurd rfl z⟩ rfl gyT.2.2.2.2.2.1 gyT.2.2.2.2.2.2.2.2)
  rw [au T k hk]
  by_cases c3 : k = 3 ∨ k = 4 ∨ k = 5
  · rw [if_pos ⟨rfl, c3⟩, if_pos (by omega), if_pos c3]
  · rw [if_neg (fun z => c3 z.2), if_neg c3]; split <;> rfl
end KMP
end
section
/-! the class: wake, call and back -/
/-- those below k that are woken -/
def wkU (M : gMa) (k : Nat) (P : Nat → Bool) : gMa := (M.1, M.2.1, fun o => if o < k ∧ P o = true then ((M.2.2 o).1, (M.2.2 o).2.1, (M.2.2 o).2.2.1, 2, (M.2.2 o).2.2.2.2) else M.2.2 o)
/-- a thread with other locals -/
def wLv (h : gTq) (lv : Nat → Int32) : gTq := (h.1, h.2.1, h.2.2.1, h.2.2.2.1, h.2.2.2.2.1, h.2.2.2.2.2.1, h.2.2.2.2.2.2.1, lv)
section KMW
variable {G : kG} {q : kP} {d : Nat} {x x0 y z : gd} {o : Nat} {F : Int32 → gd → Prop} {Fv : gd → Prop} {C : gCo} {M : gMa} {h h' : gTq} {t T w k : Nat} {P : Nat → Bool}
theorem wkU_0 : wkU M 0 P = M := by
  unfold wkU
  refine Prod.ext rfl (Prod.ext rfl (funext fun i => ?_))
  show (if i < 0 ∧ P i = true then (((M.2.2 i).1, (M.2.2 i).2.1, (M.2.2 i).2.2.1, 2, (M.2.2 i).2.2.2.2) : gTq) else M.2.2 i) = M.2.2 i
  rw [if_neg (fun z => absurd z.1 (Nat.not_lt_zero _))]
theorem wkU_no (c : ¬ P k = true) : wkU M (k + 1) P = wkU M k P := by
  unfold wkU
  refine Prod.ext rfl (Prod.ext rfl (funext fun i => ?_))
  show (if i < k + 1 ∧ P i = true then _ else M.2.2 i) = if i < k ∧ P i = true then _ else M.2.2 i
  by_cases c1 : i < k ∧ P i = true
  · rw [if_pos c1, if_pos ⟨by omega, c1.2⟩]
  · rw [if_neg c1, if_neg (fun z => c1 ⟨?_, z.2⟩)]
    have : ¬ i = k := fun e => c (by rw [← e]; exact z.2)
    omega
theorem wkU_yes (c : P k = true) : wkU M (k + 1) P = upT (wkU M k P) k ((M.2.2 k).1, (M.2.2 k).2.1, (M.2.2 k).2.2.1, 2, (M.2.2 k).2.2.2.2) := by
  unfold wkU upT upf
  refine Prod.ext rfl (Prod.ext rfl (funext fun i => ?_))
  show (if i < k + 1 ∧ P i = true then _ else M.2.2 i) = if i = k then _ else if i < k ∧ P i = true then _ else M.2.2 i
  by_cases c0 : i = k
  · rw [if_pos c0, if_pos ⟨by omega, by rw [c0]; exact c⟩, c0]
  · rw [if_neg c0]
    by_cases c1 : i < k ∧ P i = true
    · rw [if_pos c1, if_pos ⟨by omega, c1.2⟩]
    · rw [if_neg c1, if_neg (fun z => c1 ⟨by omega, z.2⟩)]
theorem wkU_at : (wkU M k P).2.2 k = M.2.2 k := by
  show (if k < k ∧ P k = true then _ else M.2.2 k) = _
  rw [if_neg (fun z => absurd z.1 (Nat.lt_irrefl _))]
theorem kh_wake {S : Nat → Prop} (hS : S 6) (hq : kV q) (ho : kiM q o) (hM : MM x o) (hK : CK x C) (hN : NC C) (g : KMm x o C M) (t l a u : Int32) {L : Nat} (et : t.toInt = T) (hT : T < C.2.1.length) (eL : l.toInt = L) (hl : (L : Int) < (x.1 60 9).toInt) (all : Bool) (ha : a = 0 ↔ all = false) (wk : Option Nat) (hu0 : wk = none → u = -1) (hu1 : ∀ k, wk = some k → u = Int32.ofNat k ∧ k ∈ waM C M L) (hF : ∀ r y, AR S x y o → ((r = 4 ∧ ¬ (M.2.1 L).1 = T + 1 ∧ KMm y o C M) ∨ (r = 0 ∧ (M.2.1 L).1 = T + 1 ∧ KMm y o C (wkU M C.2.1.length (fun o => (M.2.2 o).2.2.2.1 == 1 && (obM C (M.2.2 o).2.2.1 == L && (all || wk == some o)))))) → F r y) : KT G q (d + 2) zk_X5_doWake 0 [(0, vr o), (1, vi t), (2, vi l), (3, vi a), (4, vi u)] [] x (ri F) := by
  have hO := kiM_O ho
  have nT : (x.1 60 10).toInt = C.2.1.length := hK.2.1.1
  have hT6 := MM_6 hM.1 (t := T) (by omega)
  have t6 := hM.1.1.2.2.1
  obtain ⟨b1, b2, b3, b4, -⟩ := MG_b hM.1 hM.2.1
  have tT : t = Int32.ofNat T := i32_of et
  have l6 := (g.1.2 L hl).2.1
  have hh := hol_t (M.2.1 L).1 (by omega) T hT6
  obtain ⟨P, eP⟩ : ∃ P : Nat → Bool, P = fun o => (M.2.2 o).2.2.2.1 == 1 && (obM C (M.2.2 o).2.2.1 == L && (all || wk == some o)) := ⟨_, rfl⟩
  rw [← eP] at hF
  have Pi : ∀ k, P k = true ↔ (M.2.2 k).2.2.2.1 = 1 ∧ obM C (M.2.2 k).2.2.1 = L ∧ (all = true ∨ wk = some k) := fun k => by
    rw [eP]
    show ((M.2.2 k).2.2.2.1 == 1 && (obM C (M.2.2 k).2.2.1 == L && (all || wk == some k))) = true ↔ _
    rw [Bool.and_eq_true, Bool.and_eq_true, Bool.or_eq_true, beq_iff_eq, beq_iff_eq, beq_iff_eq]
  have wi : ∀ k, k ∈ waM C M L ↔ k < C.2.1.length ∧ (M.2.2 k).2.2.2.1 = 1 ∧ obM C (M.2.2 k).2.2.1 = L := fun k => by
    unfold waM
    rw [List.mem_filter, List.mem_range, Bool.and_eq_true, beq_iff_eq, beq_iff_eq]
  have w8 : ∀ s ∈ (waM C M L).reverse, s < 8 := fun s hs => by
    have := ((wi s).mp (List.mem_reverse.mp hs)).1
    omega
  have loop : ∀ (W : Int32), (∀ k, k < C.2.1.length → ((W >>> (Int32.ofNat k &&& 31)) &&& 1 = 1 ↔ P k = true)) → ∀ (n k : Nat) (i : Int32) (y : gd), i.toInt = k → k ≤ C.2.1.length → (x.1 60 10).toInt - k ≤ n → AR S x y o → y.1 (o + 20) 6 = W → KMm y o C (wkU M k P) → (M.2.1 L).1 = T + 1 → KT G q (d + 2) zk_X5_doWake 47 [(0, vr o), (5, vi i)] [] y (ri F) := by
    intro W hW n
    induction n with
    | zero =>
      intro k i y ei hk hn hy y6 gy hT1
      have ek : k = C.2.1.length := by omega
      refine kg_X5_doWake_47 hq ho _ ⟨fun _ => ri_i (hF _ y hy (Or.inr ⟨rfl, hT1, by rw [← ek]; exact gy⟩)), fun c => ?_⟩
      exfalso; rw [(AR_9 hO hy).2.1, t_le] at c; omega
    | succ n ih =>
      intro k i y ei hk hn hy y6 gy hT1
      refine kg_X5_doWake_47 hq ho _ ⟨fun c => ?_, fun c => ?_⟩
      · rw [(AR_9 hO hy).2.1, t_le] at c
        have ek : k = C.2.1.length := by omega
        exact ri_i (hF _ y hy (Or.inr ⟨rfl, hT1, by rw [← ek]; exact gy⟩))
      rw [(AR_9 hO hy).2.1, t_le] at c
      have e1 : (i + 1).toInt = ((k + 1 : Nat) : Int) := by rw [t_add (by show _ ≤ _ + (1 : Int); omega) (by show _ + (1 : Int) ≤ _; omega), ei]; rfl
      have hk' : k < C.2.1.length := by omega
      have ii : i = Int32.ofNat k := i32_of ei
      have bit := hW k hk'
      rw [y6, ii]
      rw [ii] at e1
      refine ⟨fun c1 => ih (k + 1) _ y e1 (by omega) (by push_cast; omega) hy y6 (by rw [wkU_no (fun z => c1 (bit.mpr z))]; exact gy) hT1, fun c1 => ?_⟩
      have hP := bit.mp c1
      obtain ⟨p1, p2, -⟩ := (Pi k).mp hP
      obtain ⟨f6, f9, e13, e9, e8, e7, e10⟩ := sM_e hO hy.2.1
      refine kh_seta (S := S) hq ho hy.1 _ _ _ (by rw [← ii]; exact ei) (show (5 : Int32).toInt = ((5 : Nat) : Int) from rfl) (by omega) (by rw [e8]; omega) (by omega) (fun c => by omega) (fun c => by omega) (fun j hj c => by rw [e9] at c; omega) (fun z hz fz lz gz => ih (k + 1) _ z e1 (by omega) (by push_cast; omega) (AR_tr hy hz) (by rw [fz _ _ (by unfold sSt; omega)]; exact y6) ?_ hT1)
      have hKy := CK_M hO hK hy.2.1
      have hAy := (hy.1.2.2 k (by rw [e10]; omega)).1
      have gk := gy.2 k hk'
      rw [wkU_at] at gk
      obtain ⟨-, -, z13, z9, z8, -, -⟩ := sM_e hO hz.2.1
      rw [wkU_yes hP]
      obtain ⟨w3, w5, w2, w7⟩ := gk.2.2.2.1
      refine KMm_T hO hy.1 hKy hz.2.1 lz (fun t k' ht hk2 => by rw [gz t k' hk2, if_neg (fun z => ht z.1)]) gy (kTq_k hy.1.1 hy.1.2.1 hAy z13 z9 (fun j => if j = 5 then 1 else rg y o k j) (fun j hj => ?_) gk rfl gk.1 gk.2.1 gk.2.2.1 ⟨?_, rfl, by show (2 : Nat) ≤ 2; decide, fun _ => w7 (by omega)⟩ gk.2.2.2.2.1 gk.2.2.2.2.2.1 gk.2.2.2.2.2.2.2.2)
      · rw [gz k j hj]
        by_cases c3 : j = 5
        · rw [if_pos ⟨rfl, c3⟩, if_pos (by omega), if_pos c3]
        · rw [if_neg (fun z => c3 z.2), if_neg c3]; split <;> rfl
      · show rg y o k 3 = (stN C (M.2.2 k).2.2.1).2.2.2.2.1 + 1
        rw [w3, if_neg (by omega)]
  have start : ∀ (W : Int32), (∀ k, k < C.2.1.length → ((W >>> (Int32.ofNat k &&& 31)) &&& 1 = 1 ↔ P k = true)) → (M.2.1 L).1 = T + 1 → ∀ y, y = si x (o + 20) 6 W → KT G q (d + 2) zk_X5_doWake 47 [(0, vr o), (5, vi 0)] [] y (ri F) := fun W hW hT1 y ey => by
    obtain ⟨g1, g2⟩ := AR_deed hO hM hS ey
    refine loop W hW 6 0 _ y rfl (by omega) (by omega) g1 (by rw [ey, si_get, if_pos ⟨rfl, rfl⟩]) ?_ hT1
    rw [wkU_0]
    exact AR_KM hO hM hK g1 (fun j _ => by rw [ey, si_cell (by omega)]) g2 g
  refine kg_X5_doWake_0 hq ho _ _ _ _ (kh_holder hq ho hM g _ eL hl ⟨fun c => ?_, fun c => ri_i (hF _ x (AR_rf hM) (Or.inl ⟨rfl, fun z => c (by rw [tT]; exact hh.mpr z), g⟩))⟩)
  rw [tT] at c
  have hT1 := hh.mp c
  refine ⟨fun a0 => ?_, fun a1 => kh_waiters hq ho hM hK hN g _ eL hl (fun y ey => start _ (fun k hk => ?_) hT1 y ey)⟩
  · have hall := ha.mp a0
    cases hwk : wk with
    | none =>
      have hu := hu0 hwk
      refine ⟨fun c1 => absurd hu c1, fun c1 y ey => start 0 (fun k hk => ?_) hT1 y ey⟩
      rw [Pi, hall, hwk]
      have b := km_bit (sl := []) (fun s hs => by cases hs) k (by omega)
      rw [if_neg (by simp)] at b
      have b : ((0 : Int32) >>> (Int32.ofNat k &&& 31)) &&& 1 = 0 := b
      rw [b]
      exact ⟨fun z => absurd z (by decide), fun z => by rcases z.2.2 with e | e <;> cases e⟩
    | some v =>
      obtain ⟨hu, hv⟩ := hu1 v hwk
      have hv' := (wi v).mp hv
      refine ⟨fun c1 y ey => start _ (fun k hk => ?_) hT1 y ey, fun c1 => ?_⟩
      · rw [Pi, hall, hwk, hu]
        have b := km_bit (sl := [v]) (fun s hs => by rw [List.mem_singleton.mp hs]; omega) k (by omega)
        have e0 : kmN [v] = (1 : Int32) <<< (Int32.ofNat v &&& 31) := by
          show (0 : Int32) ||| _ = _
          rw [Int32.zero_or]
        rw [e0] at b
        rw [b]
        by_cases ck : k = v
        · rw [if_pos (by rw [ck]; exact List.mem_singleton.mpr rfl), ck]
          exact ⟨fun _ => ⟨hv'.2.1, hv'.2.2, Or.inr rfl⟩, fun _ => rfl⟩
        · rw [if_neg (fun z => ck (List.mem_singleton.mp z))]
          refine ⟨fun z => absurd z (by decide), fun z => ?_⟩
          rcases z.2.2 with e | e
          · cases e
          · exact absurd (Option.some.inj e).symm ck
      · have hv8 : v < 8 := by omega
        have hne : ∀ v, v < 8 → ¬ Int32.ofNat v = -1 := by decide +kernel
        rw [hu] at c1
        exact absurd c1 (hne v hv8)
  · have hall : all = true := by
      cases hb : all with
      | true => rfl
      | false => exact absurd (ha.mpr hb) a1
    rw [Pi, hall]
    have b := km_bit w8 k (by omega)
    rw [b]
    by_cases ck : k ∈ (waM C M L).reverse
    · rw [if_pos ck]
      have := (wi k).mp (List.mem_reverse.mp ck)
      exact ⟨fun _ => ⟨this.2.1, this.2.2, Or.inl rfl⟩, fun _ => rfl⟩
    · rw [if_neg ck]
      exact ⟨fun z => absurd z (by decide), fun z => absurd (List.mem_reverse.mpr ((wi k).mpr ⟨hk, z.1, z.2.1⟩)) ck⟩
theorem i32_1 {a : Int32} : a + 1 = 0 ↔ a = -1 := by
  refine ⟨fun e => ?_, fun e => by rw [e]; decide⟩
  have e2 : a + 1 - 1 = 0 - 1 := by rw [e]
  rw [Int32.add_sub_cancel] at e2
  rw [e2]; decide
/-- call and back -/
theorem kh_call {S : Nat → Prop} (hS : S 4) (hq : kV q) (ho : kiM q o) (hM : MM x o) (hK : CK x C) (hN : NC C) (g : KMm x o C M) (t p : Int32) (et : t.toInt = T) (hT : T < C.2.1.length) (h1 : (M.2.2 T).1 = 1) (ob : (stN C (M.2.2 T).2.2.1).1 = 13 ∨ (stN C (M.2.2 T).2.2.1).1 = 14) (hp : p = Int32.ofNat (stN C (M.2.2 T).2.2.1).1) (hF : ∀ r y, AR S x y o → ((evO (M.2.2 T).2.2.2.2.2.2.2 (Int32.ofNat T) (stN C (M.2.2 T).2.2.1).2.2.2.2.2.2.2.2.1 = none ∧ r = 1 ∧ KMm y o C M) ∨ (∃ e, evO (M.2.2 T).2.2.2.2.2.2.2 (Int32.ofNat T) (stN C (M.2.2 T).2.2.1).2.2.2.2.2.2.2.2.1 = some e ∧ ((r = 8 ∧ (((stN C (M.2.2 T).2.2.1).1 = 13 ∧ ¬ (M.2.2 T).2.2.2.2.2.1 = -1) ∨ ((stN C (M.2.2 T).2.2.1).1 = 14 ∧ (M.2.2 T).2.2.2.2.2.1 = -1)) ∧ KMm y o C M) ∨ (r = 0 ∧ ¬ (((stN C (M.2.2 T).2.2.1).1 = 13 ∧ ¬ (M.2.2 T).2.2.2.2.2.1 = -1) ∨ ((stN C (M.2.2 T).2.2.1).1 = 14 ∧ (M.2.2 T).2.2.2.2.2.1 = -1)) ∧ KMm y o C (upT M T ((M.2.2 T).1, (M.2.2 T).2.1, (M.2.2 T).2.2.1, (M.2.2 T).2.2.2.1, (M.2.2 T).2.2.2.2.1, if (stN C (M.2.2 T).2.2.1).1 = 13 then (stN C (M.2.2 T).2.2.1).2.2.2.2.1 else -1, (M.2.2 T).2.2.2.2.2.2)))))) → F r y) : KT G q (d + 2) zk_X5_doCallOrBack 0 [(0, vr o), (1, vi t), (2, vi (rg x o T 2)), (3, vi p)] [] x (ri F) := by
  have hO := kiM_O ho
  have nT : (x.1 60 10).toInt = C.2.1.length := hK.2.1.1
  have hT6 := MM_6 hM.1 (t := T) (by omega)
  have hA := (hM.2.2 T (by omega)).1
  obtain ⟨b1, b2, b3, b4, -⟩ := MG_b hM.1 hM.2.1
  have gT := g.2 T hT
  obtain ⟨st, s1, s2, s3, s4, s5, kn, ns⟩ := kst_at hM hK hN hT gT
  obtain ⟨v, e, -⟩ := MM_st hM.1 hA
  rw [s3] at e
  rw [s2] at ob hp hF
  have hml := gT.2.2.2.2.2.2.2.2 (Or.inl h1)
  rw [s2] at hml
  obtain ⟨Q, hQ⟩ := ns.2.2.2.2.2.1 (by omega)
  obtain ⟨q1, q2⟩ := ns.2.2.2.2.2.2.2.2.1 Q hQ
  have k88 := kn.2.2.2.2.2.2.2.1
  rw [hQ] at k88 hF
  have k85 := kn.2.2.2.2.1 (by omega)
  have p13 : p = 13 ↔ st.1 = 13 := by
    rw [hp]
    rcases ob with e | e <;> rw [e] <;> decide
  refine kg_X5_doCallOrBack_0 hq ho _ _ _ ⟨v, ?_⟩
  rw [e]
  refine kh_ev hq ho hM hK hT gT _ _ et k88 q1 q2 hml (fun r5 y fy hwk => ?_)
  obtain ⟨hy, ry⟩ := AR_wk (S := S) hO hM fy
  obtain ⟨f6, f9, e13, e9, e8, e7, e10⟩ := sM_e hO hy.2.1
  have gy : KMm y o C M := AR_KM hO hM hK hy (fun j _ => fy _ _ (by unfold sWk; omega)) ry g
  have hKy := CK_M hO hK hy.2.1
  have hAy := (hy.1.2.2 T (by rw [e10]; omega)).1
  have gyT := gy.2 T hT
  have bad : ((st.1 = 13 ∧ ¬ (M.2.2 T).2.2.2.2.2.1 = -1) ∨ (st.1 = 14 ∧ (M.2.2 T).2.2.2.2.2.1 = -1)) ↔ ((¬ rg y o T 6 = 0) ↔ p = 13) := by
    rw [gyT.2.2.2.2.2.1, i32_1, p13]
    rcases ob with e | e
    · rw [e]
      exact ⟨fun z => ⟨fun _ => rfl, fun _ => by rcases z with z | z; exact z.2; exact absurd z.1 (by decide)⟩, fun z => Or.inl ⟨rfl, z.mpr rfl⟩⟩
    · rw [e]
      exact ⟨fun z => ⟨fun c => by rcases z with z | z; exact absurd z.1 (by decide); exact absurd z.2 c, fun c => absurd c (by decide)⟩, fun z => Or.inr ⟨rfl, Decidable.byContradiction (fun c => absurd (z.mp c) (by decide))⟩⟩
  have ev1 : ∀ w, wkQ (M.2.2 T).2.2.2.2.2.2.2 (fun _ => 0) (Int32.ofNat T) Q = w → evO (M.2.2 T).2.2.2.2.2.2.2 (Int32.ofNat T) (some Q) = w := fun w z => z
  rcases hwk with ⟨v9, hw, er, y5⟩ | ⟨hw, y5⟩
  · have p101 : ∀ (n : Int32) (kd : Int32), n = kd + 1 → kd = (if st.1 = 13 then st.2.2.2.2.1 else -1) → ¬ ((st.1 = 13 ∧ ¬ (M.2.2 T).2.2.2.2.2.1 = -1) ∨ (st.1 = 14 ∧ (M.2.2 T).2.2.2.2.2.1 = -1)) → KT G q (d + 2) zk_X5_doCallOrBack 101 [(0, vr o), (4, vi r5)] [vi n, vi 6, vi t, vr o] y (ri F) := by
      intro n kd en ek nb
      refine kg_X5_doCallOrBack_101 hq ho _ _ _ _ (kh_seta (S := S) hq ho hy.1 _ _ _ et (show (6 : Int32).toInt = ((6 : Nat) : Int) from rfl) hT6 (by rw [e8]; omega) (by omega) (fun c => by omega) (fun c => by omega) (fun j _ c => by rw [e9] at c; omega) (fun z hz fz lz gz u eu => ?_))
      obtain ⟨hu, ru⟩ := AR_deed hO hz.1 hS eu
      obtain ⟨-, -, z13, z9, z8, -, -⟩ := sM_e hO hz.2.1
      refine ri_i (hF _ u (AR_tr (AR_tr hy hz) hu) (Or.inr ⟨v9, ev1 _ hw, Or.inr ⟨rfl, nb, ?_⟩⟩))
      have gz1 := KMm_T hO hy.1 hKy hz.2.1 lz (fun t k ht hk => by rw [gz t k hk, if_neg (fun z => ht z.1)]) gy (kTq_k (h' := ((M.2.2 T).1, (M.2.2 T).2.1, (M.2.2 T).2.2.1, (M.2.2 T).2.2.2.1, (M.2.2 T).2.2.2.2.1, kd, (M.2.2 T).2.2.2.2.2.2)) hy.1.1 hy.1.2.1 hAy z13 z9 (fun k => if k = 6 then n else rg y o T k) (fun k hk => by
        rw [gz T k hk]
        by_cases c3 : k = 6
        · rw [if_pos ⟨rfl, c3⟩, if_pos (by omega), if_pos c3]
        · rw [if_neg (fun z => c3 z.2), if_neg c3]; split <;> rfl) gyT rfl gyT.1 gyT.2.1 gyT.2.2.1 gyT.2.2.2.1 gyT.2.2.2.2.1 en gyT.2.2.2.2.2.2.2.2)
      rw [ek] at gz1
      exact AR_KM hO hz.1 (CK_M hO hKy hz.2.1) hu (fun j _ => by rw [eu, si_cell (by omega)]) ru gz1
    have p70 : ∀ a b : Int32, (a = if p = 13 then 1 else 0) → (b = if rg y o T 6 = 0 then 0 else 1) → KT G q (d + 2) zk_X5_doCallOrBack 70 [(0, vr o), (1, vi t), (2, vi (rg x o T 2)), (3, vi p), (4, vi r5)] [vi a, vi b] y (ri F) := fun a b ha hb => by
      have ab : b = a ↔ ((¬ rg y o T 6 = 0) ↔ p = 13) := by
        rw [ha, hb]
        by_cases c1 : p = 13
        · by_cases c2 : rg y o T 6 = 0
          · rw [if_pos c1, if_pos c2]; exact ⟨fun z => absurd z (by decide), fun z => absurd c2 (z.mpr c1)⟩
          · rw [if_pos c1, if_neg c2]; exact ⟨fun _ => ⟨fun _ => c1, fun _ => c2⟩, fun _ => rfl⟩
        · by_cases c2 : rg y o T 6 = 0
          · rw [if_neg c1, if_pos c2]; exact ⟨fun _ => ⟨fun z => absurd c2 z, fun z => absurd z c1⟩, fun _ => rfl⟩
          · rw [if_neg c1, if_neg c2]; exact ⟨fun z => absurd z (by decide), fun z => absurd (z.mp c2) c1⟩
      refine kg_X5_doCallOrBack_70 hq ho _ _ _ _ _ _ ⟨fun nab => ?_, fun eab => ri_i (hF _ y hy (Or.inr ⟨v9, ev1 _ hw, Or.inl ⟨rfl, bad.mpr (ab.mp eab), gy⟩⟩))⟩
      have nb := fun z => nab (ab.mpr (bad.mp z))
      refine ⟨fun c13 => p101 0 (-1) (by decide) (by rw [if_neg (fun z => c13 (p13.mpr z))]) nb, fun c13 => ⟨v, ?_⟩⟩
      rw [e, fy 85 _ (by unfold sWk; omega), k85]
      exact p101 _ st.2.2.2.2.1 rfl (by rw [if_pos (p13.mp c13)]) nb
    have p55 : ∀ b : Int32, (b = if rg y o T 6 = 0 then 0 else 1) → KT G q (d + 2) zk_X5_doCallOrBack 55 [(0, vr o), (1, vi t), (2, vi (rg x o T 2)), (3, vi p), (4, vi r5)] [vi b] y (ri F) := fun b hb => kg_X5_doCallOrBack_55 hq ho _ _ _ _ _ ⟨fun c => p70 _ _ (by rw [if_neg c]) hb, fun c => p70 _ _ (by rw [if_pos c]) hb⟩
    exact ⟨fun _ => kp_get hq ho hy.1.1 hy.1.2.1 _ _ et (show (6 : Int32).toInt = ((6 : Nat) : Int) from rfl) hT6 (by omega) ⟨fun c => p55 _ (by rw [if_pos c]), fun c => p55 _ (by rw [if_neg c])⟩, fun c => absurd y5 c⟩
  · refine ⟨fun c => ?_, fun _ => ri_i (hF _ y hy (Or.inl ⟨ev1 _ hw, rfl, gy⟩))⟩
    rw [y5] at c; exact absurd c (by decide)
end KMW
end
