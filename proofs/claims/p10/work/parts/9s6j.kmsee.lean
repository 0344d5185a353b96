/-! the class: its machine is looked at, with what it holds -/
section KMS
variable {G : kG} {q : kP} {d : Nat} {x x0 y z : gd} {o : Nat} {F : Int32 → gd → Prop} {Fv : gd → Prop} {C : gCo} {M : gMa} {h h' : gTq} {t T w : Nat}
theorem kst_at (hM : MM x o) (hK : CK x C) (hN : NC C) (ht : t < C.2.1.length) (g : kTq x o C t h) : ∃ st, C.1[h.2.2.1]? = some st ∧ stN C h.2.2.1 = st ∧ (rg x o t 2).toInt.toNat = h.2.2.1 ∧ (h.2.2.1 : Int) < ssm x ∧ sop x h.2.2.1 = (st.1 : Nat) ∧ kN x h.2.2.1 st ∧ NS C.1 h.2.2.1 st := by
  have nT : (x.1 60 10).toInt = C.2.1.length := hK.2.1.1
  have e2 := g.2.2.1
  have l := (hM.2.2 t (by omega)).1.1.2
  have ls : ssm x = C.1.length := hK.1.1
  rw [e2] at l
  have hl : h.2.2.1 < C.1.length := by omega
  obtain ⟨st, hst⟩ : ∃ st, C.1[h.2.2.1]? = some st := ⟨_, List.getElem?_eq_getElem hl⟩
  have kn := hK.1.2 _ st hst
  have ns := hN.1 _ st hst
  refine ⟨st, hst, by unfold stN; rw [hst]; rfl, by rw [e2]; rfl, l, ?_, kn, ns⟩
  show (x.1 81 _).toInt = _
  rw [kn.1]
  exact Int32.toInt_ofNat_of_lt (by have := ns.1.1; omega)
/-- the lock that it waits for -/
theorem kst_wl (hM : MM x o) (hK : CK x C) (hN : NC C) (ht : t < C.2.1.length) (g : kTq x o C t h) (hw : ¬ h.2.2.2.1 = 0) : (stN C h.2.2.1).2.2.2.2.1.toInt = (obM C h.2.2.1 : Nat) ∧ ((obM C h.2.2.1 : Nat) : Int) < (x.1 60 9).toInt := by
  obtain ⟨st, h1, h2, h3, h4, h5, h6, h7⟩ := kst_at hM hK hN ht g
  have o7 := g.2.2.2.1.2.2.2 hw
  rw [h2] at o7
  have a := (hM.1.2.2.2.1 _ h4).1.2.1 (by omega) (by omega)
  rw [h6.2.2.2.2.1 (by omega)] at a
  unfold obM
  rw [h2, t_cl]
  omega
theorem seL_app : ∀ (l : List (Nat × Int32)) (p : Nat × Int32) (c : Nat) (v : Int32), seL (l ++ [p]) c v = if p.1 = c then p.2 else seL l c v := by
  intro l
  induction l with
  | nil => intro p c v; rfl
  | cons r l ih => intro p c v; exact ih p c _
theorem kh_lateValue (hq : kV q) (ho : kiM q o) (hC : CO x) (hG : MG x o) (t j : Int32) {T J : Nat} (et : t.toInt = T) (hT : T < 6) (ej : j.toInt = J) (hJ : J < 8) (h : F (rg x o T ((x.1 o 9).toInt.toNat + 2 * J + 1)) x) : KT G q (d + 1) zk_X5_lateValue 0 [(0, vr o), (1, vi t), (2, vi j)] [] x (ri F) := by
  obtain ⟨e1, e2, e3⟩ := lt_ix hC hG ej hJ
  exact kg_X5_lateValue_0 hq ho _ _ (kp_get hq ho hC hG _ _ et e2 hT e3 (ri_i h))
theorem kh_seenBy (hq : kV q) (ho : kiM q o) (hM : MM x o) (hK : CK x C) (g : KMm x o C M) (t c : Int32) {T c' : Nat} (et : t.toInt = T) (hT : T < C.2.1.length) (ec : c.toInt = c') (hc : (c' : Int) < (x.1 60 6).toInt) (h : F (seM M T c') x) : KT G q (d + 2) zk_X5_seenBy 0 [(0, vr o), (1, vi t), (2, vi c)] [] x (ri F) := by
  have nT : (x.1 60 10).toInt = C.2.1.length := hK.2.1.1
  have hT6 := MM_6 hM.1 (t := T) (by omega)
  have hA := (hM.2.2 T (by omega)).1
  have hC := hM.1
  have hG := hM.2.1
  have c24 := hM.1.1.1
  have k0 : (0 : Int32).toInt = 0 := rfl
  have l8 := hA.2.1
  obtain ⟨l7, ll⟩ := (g.2 T hT).2.2.2.2.2.2.1
  have nc : c.toNatClampNeg = c' := by rw [t_cl, ec]; rfl
  unfold seM at h
  obtain ⟨l, el⟩ : ∃ l, l = (M.2.2 T).2.2.2.2.2.2.1 := ⟨_, rfl⟩
  rw [← el] at l7 ll h
  have loop : ∀ (n : Nat) (j : Int32), j.toInt + 1 = n → n ≤ l.length → F (seL (l.take n) c' (M.1 c')) x → KT G q (d + 2) zk_X5_seenBy 10 [(0, vr o), (1, vi t), (2, vi c), (3, vi j)] [] x (ri F) := by
    intro n
    induction n with
    | zero =>
      intro j hn hl hf
      refine kg_X5_seenBy_10 hq ho _ _ _ ⟨fun _ => ⟨by rw [vp_in_iff]; omega, ri_i ?_⟩, fun c => ?_⟩
      · rw [nc, g.1.1 c' hc]; exact hf
      · exfalso; rw [t_lt, k0] at c; omega
    | succ n ih =>
      intro j hn hl hf
      have ej : j.toInt = (n : Nat) := by push_cast at hn; omega
      refine kg_X5_seenBy_10 hq ho _ _ _ ⟨fun c => ?_, fun c => ?_⟩
      · exfalso; rw [t_lt, k0] at c; omega
      have e1 : (j + (-1)).toInt + 1 = (n : Nat) := by rw [t_add (by rw [tm1]; omega) (by rw [tm1]; omega), tm1]; omega
      obtain ⟨j2, ej2⟩ : ∃ j2, j2 = j + (-1) := ⟨_, rfl⟩
      rw [← ej2] at e1 ⊢
      clear ej2
      obtain ⟨p, hp⟩ : ∃ p, l[n]? = some p := ⟨_, List.getElem?_eq_getElem (by omega)⟩
      obtain ⟨p1, p2⟩ := ll n p hp
      have tk : l.take (n + 1) = l.take n ++ [p] := by rw [List.take_add_one, hp]; rfl
      rw [tk, seL_app] at hf
      refine kp_lateCell hq ho hC hG _ _ et hT6 ej (by omega) ⟨fun c9 => ih _ e1 (by omega) ?_, fun c9 => kh_lateValue hq ho hC hG _ _ et hT6 ej (by omega) (ri_i ?_)⟩
      · rw [if_neg (fun z => c9 ?_)] at hf
        · exact hf
        · rw [t_eq, p1, ec, z]
      · rw [t_eq, p1, ec] at c9
        rw [if_pos (by omega)] at hf
        rw [p2]; exact hf
  have e1 : (rg x o T 7 - 1).toInt + 1 = (l.length : Nat) := by rw [t_sub (by show _ ≤ _ - (1 : Int); omega) (by show _ - (1 : Int) ≤ _; omega)]; show _ - (1 : Int) + 1 = _; omega
  exact kg_X5_seenBy_0 hq ho _ _ (kp_get hq ho hC hG _ _ et (show (7 : Int32).toInt = ((7 : Nat) : Int) from rfl) hT6 (by omega) (loop l.length _ e1 (Nat.le_refl _) (by rw [List.take_length]; exact h)))
/-- a sum of a thread is worked out -/
theorem kh_ev (hq : kV q) (ho : kiM q o) (hM : MM x o) (hK : CK x C) (hT : T < C.2.1.length) (g : kTq x o C T h) (t a : Int32) (et : t.toInt = T) {Q : List gQ} (hS : SUk x a (Q.map cQ)) (q1 : okQ Q 0) {ks : List Nat} (q2 : ∀ p ∈ Q, qOk p ∧ (p.1 = 2 → p.2.1 < ks.length) ∧ ¬ p.1 = 4) (hk : (ks.length : Int) ≤ (x.1 60 13).toInt) (hF : ∀ r y, fm sWk x y → wkR x y (wkQ h.2.2.2.2.2.2.2 (fun _ => 0) (Int32.ofNat T) Q) r → F r y) : KT G q (d + 1) zk_X5_localsAt 0 [(0, vr o), (1, vi t)] [] x (ri (fun r6 x5 => KT G q (d + 1) zk_X0_work 0 [(0, vr 60), (1, vi a), (2, vr (o + 5)), (3, vi r6), (4, vi t)] [] x5 (ri F))) := by
  have nT : (x.1 60 10).toInt = C.2.1.length := hK.2.1.1
  have hO := kiM_O ho
  have hT6 := MM_6 hM.1 (t := T) (by omega)
  obtain ⟨b1, b2, b3, b4, b5, b6, b7⟩ := MG_b hM.1 hM.2.1
  have tT : t = Int32.ofNat T := i32_of et
  have m8 := hM.1.1.2.2.2.1
  refine kf_localsAt hq ho hM.1 hM.2.1 _ et hT6 (fun r6 r0 r4 => ?_)
  rw [tT]
  refine kf_work hq (kk_M5 ho) (kl_M5 hq ho) (by omega) _ _ _ (Q := Q) (lv := h.2.2.2.2.2.2.2) (cv := fun _ => 0) hM.1.2.1.1.2 hS q1 (fun p hp => ?_) hF
  obtain ⟨a1, a2, a3⟩ := q2 p hp
  refine ⟨a1, fun c => ?_, fun c => absurd c a3⟩
  have pl := a2 c
  have e8 : (Int32.ofNat p.2.1).toInt = (p.2.1 : Nat) := Int32.toInt_ofNat_of_lt (by omega)
  have es : (r6 + Int32.ofNat p.2.1).toInt = r6.toInt + (p.2.1 : Nat) := by rw [t_add (by omega) (by omega), e8]
  refine ⟨by rw [vp_in_iff, es]; omega, ?_⟩
  have ep : (r6 + Int32.ofNat p.2.1).toNatClampNeg = pa x o T (8 + p.2.1) := by
    rw [t_cl, es, r0]
    unfold pa
    omega
  rw [ep]
  exact g.2.2.2.2.2.2.2.1 _ (by omega)
/-- looking leaves what is held -/
theorem KMm_Lk (hO : o = 120 ∨ o = 220) (hM : MM x o) (hK : CK x C) (f : fm (sLk o) x y) (g : KMm x o C M) : KMm y o C M :=
  KMm_fr hO hM hK (f _ _ (by unfold sLk; omega)) (f _ _ (by unfold sLk; omega)) (f _ _ (by unfold sLk; omega)) (f _ _ (by unfold sLk; omega)) (fun j _ => f _ _ (by unfold sLk; omega)) (rg_Lk hO f) g
/-- where its [ ] leads -/
theorem kh_placeOf (hq : kV q) (ho : kiM q o) (hM : MM x o) (hK : CK x C) (hN : NC C) (g : KMm x o C M) (t : Int32) (et : t.toInt = T) (hT : T < C.2.1.length) (h1 : (M.2.2 T).1 = 1) (hop : (stN C (M.2.2 T).2.2.1).1 ≤ 4) (hF : ∀ r y, fm (sLk o) x y → (((lkI C M T).1 = 0 ∧ r = (lkI C M T).2 ∧ 0 ≤ r.toInt ∧ r.toInt < (x.1 60 6).toInt) ∨ (¬ (lkI C M T).1 = 0 ∧ r = -1 ∧ y.1 o 14 = Int32.ofNat (lkI C M T).1)) → F r y) : KT G q (d + 2) zk_X5_placeOf 0 [(0, vr o), (1, vi t)] [] x (ri F) := by
  have nT : (x.1 60 10).toInt = C.2.1.length := hK.2.1.1
  have hO := kiM_O ho
  have hT6 := MM_6 hM.1 (t := T) (by omega)
  have hA := (hM.2.2 T (by omega)).1
  have gT := g.2 T hT
  obtain ⟨st, s1, s2, s3, s4, s5, kn, ns⟩ := kst_at hM hK hN hT gT
  obtain ⟨v, e, l⟩ := MM_st hM.1 hA
  have k0 : (0 : Int32).toInt = 0 := rfl
  have c24 := hM.1.1.1
  have hml := gT.2.2.2.2.2.2.2.2 (Or.inl h1)
  rw [s2] at hop hml
  obtain ⟨a1, a2, a3⟩ := (hM.1.2.2.2.1 _ s4).1.1 (by omega)
  rw [s3] at e
  obtain ⟨-, -, -, -, k85, k86, k87, -, -⟩ := kn
  have k85 := k85 (by omega)
  refine kg_X5_placeOf_0 hq ho _ (kp_get hq ho hM.1 hM.2.1 _ _ et (show (2 : Int32).toInt = ((2 : Nat) : Int) from rfl) hT6 (by omega) ⟨v, fun c87 => ?_, fun c87 => ⟨v, ri_i (hF _ x (fm_rf _ _) (Or.inl ?_))⟩⟩)
  · rw [e] at c87 ⊢
    cases hix : st.2.2.2.2.2.2.2.1 with
    | none => rw [hix] at k87; exact absurd k87 c87
    | some Q =>
      rw [hix] at k87
      have k86 := k86 hop (by rw [hix]; exact fun z => nomatch z)
      obtain ⟨o1, o2⟩ := ns.2.2.2.2.2.2.2.1 Q hix
      refine kh_ev hq ho hM hK hT gT _ _ et k87 o1 o2 hml (fun r8 y fy hwk => ?_)
      have fL : fm (sLk o) x y := fm_w fy (fun c k q => by unfold sWk at q; unfold sLk; omega)
      have hix' : (stN C (M.2.2 T).2.2.1).2.2.2.2.2.2.2.1 = some Q := by rw [s2]; exact hix
      have p81 : ∀ n : Nat, (n = 1 ∨ n = 2) → (y.1 60 5 = 0 ↔ n = 2) → (lkI C M T).1 = n → KT G q (d + 2) zk_X5_placeOf 81 [(0, vr o)] [] y (ri F) := fun n hn h5 hl => by
        have nz : ¬ (lkI C M T).1 = 0 := by omega
        refine kg_X5_placeOf_81 hq ho ⟨fun c5 z ez => ri_i (hF _ z (by rw [ez]; exact fm_si fL (Or.inl ⟨rfl, rfl⟩)) (Or.inr ⟨nz, rfl, ?_⟩)), fun c5 z ez => ri_i (hF _ z (by rw [ez]; exact fm_si fL (Or.inl ⟨rfl, rfl⟩)) (Or.inr ⟨nz, rfl, ?_⟩))⟩
        · rw [hl, h5.mp c5, ez, si_get, if_pos ⟨rfl, rfl⟩]; rfl
        · have : n = 1 := by
            rcases hn with e | e
            · exact e
            · exact absurd (h5.mpr e) c5
          rw [hl, this, ez, si_get, if_pos ⟨rfl, rfl⟩]; rfl
      rcases hwk with ⟨v9, hw, er, y5⟩ | ⟨hw, y5⟩
      · subst er
        refine ⟨fun c => absurd y5 c, fun _ => ⟨fun c8 => ?_, fun c8 => ⟨v, fun c9 => ⟨v, ?_⟩, fun c9 => ?_⟩⟩⟩
        · exact p81 2 (Or.inr rfl) ⟨fun _ => rfl, fun _ => y5⟩ (by rw [lkI_2 hix' hw (Or.inl c8)])
        · rw [fy 86 _ (by unfold sWk; omega), k86] at c9
          have nn : ¬ (r8 < 0 ∨ (stN C (M.2.2 T).2.2.1).2.2.2.2.2.1 ≤ r8) := fun z => z.elim c8 (fun z => by
            rw [s2] at z
            rw [t_lt] at c9
            rw [t_le] at z
            omega)
          refine ri_i (hF _ y fL (Or.inl ?_))
          rw [lkI_0 hix' hw nn, fy 85 _ (by unfold sWk; omega), s2, k85]
          refine ⟨rfl, rfl, ?_⟩
          rw [t_lt, k0] at c8
          rw [← k86, t_lt] at c9
          rw [← k85, t_add (by omega) (by omega)]
          omega
        · rw [fy 86 _ (by unfold sWk; omega), k86] at c9
          refine p81 2 (Or.inr rfl) ⟨fun _ => rfl, fun _ => y5⟩ ?_
          rw [lkI_2 hix' hw (Or.inr ?_)]
          rw [s2]
          rw [t_lt] at c9
          rw [t_le]
          omega
      · refine ⟨fun _ => p81 1 (Or.inl rfl) ⟨fun z => ?_, fun z => absurd z (by decide)⟩ (by rw [lkI_1 hix' hw]), fun c => ?_⟩
        · rw [y5] at z; exact absurd z (by decide)
        · rw [y5] at c; exact absurd c (by decide)
  · rw [e] at c87 ⊢
    have hix : st.2.2.2.2.2.2.2.1 = none := by
      cases hix : st.2.2.2.2.2.2.2.1 with
      | none => rfl
      | some Q =>
        rw [hix] at k87
        have := k87.1
        rw [c87, tm1] at this
        omega
    rw [lkI_n (by rw [s2]; exact hix), s2]
    exact ⟨rfl, k85, by omega, by omega⟩
/-- whether its write comes late -/
theorem kh_goesLate (hq : kV q) (ho : kiM q o) (hM : MM x o) (hK : CK x C) (hN : NC C) (wy : x.1 o 3 = Int32.ofNat w) (w01 : w = 0 ∨ w = 1) (s : Int32) {S : Nat} {st : gNs} (es : s.toInt = S) (hst : C.1[S]? = some st) (hF : ∀ r : Int32, (¬ r = 0 ↔ w = 1 ∧ st.1 = 1 ∧ suM C st.2.2.2.2.1.toNatClampNeg = false) → F r x) : KT G q d zk_X5_goesLate 0 [(0, vr o), (1, vi s)] [] x (ri F) := by
  have s35 := hM.1.2.2.1.2
  have c24 := hM.1.1.1
  have ls : ssm x = C.1.length := hK.1.1
  have hS : (S : Int) < ssm x := by have := gt_lt hst; omega
  have v : vp_in s 400 := by rw [vp_in_iff]; omega
  have e : s.toNatClampNeg = S := by rw [t_cl, es]; rfl
  obtain ⟨k81, -, -, -, k85, -⟩ := hK.1.2 S st hst
  have n22 := (hN.1 S st hst).1.1
  have o1 : x.1 81 S = 1 ↔ st.1 = 1 := by
    have s : ∀ n, n < 22 → (Int32.ofNat n = 1 ↔ n = 1) := by decide +kernel
    rw [k81]; exact s _ n22
  have ww : x.1 o 3 = 1 ↔ w = 1 := by
    rw [wy]
    rcases w01 with e | e <;> rw [e] <;> decide
  refine kg_X5_goesLate_0 hq ho _ ⟨fun c => ri_i (hF _ ⟨fun z => absurd rfl z, fun z => absurd (ww.mpr z.1) c⟩), fun cw => ⟨v, fun c => ri_i (hF _ ⟨fun z => absurd rfl z, fun z => absurd (o1.mpr z.2.1) (by rw [e] at c; exact c)⟩), fun c1 => ⟨v, ?_, fun c0 => ?_, fun c0 => ?_⟩⟩⟩
  all_goals rw [e] at c1
  all_goals have p1 := o1.mp c1
  all_goals obtain ⟨s1, s2, s3⟩ := (hM.1.2.2.2.1 _ hS).1.1 (by show (x.1 81 S).toInt ≤ 4; rw [c1]; decide)
  all_goals have k85 := k85 (by omega)
  · rw [e, vp_in_iff]; omega
  all_goals rw [e, k85] at c0
  all_goals rw [k85] at s1 s2
  all_goals obtain ⟨cq, hcq⟩ : ∃ cq, C.2.2.1[st.2.2.2.2.1.toNatClampNeg]? = some cq := ⟨_, List.getElem?_eq_getElem (by have : (x.1 60 6).toInt = C.2.2.1.length := hK.2.2.1.1; rw [t_cl]; omega)⟩
  all_goals have k69 := (hK.2.2.1.2 _ cq hcq).2
  all_goals have su : suM C st.2.2.2.2.1.toNatClampNeg = cq.2 := by unfold suM; rw [hcq]
  all_goals rw [k69] at c0
  all_goals refine ri_i (hF _ ?_)
  all_goals rw [su]
  · refine ⟨fun z => absurd rfl z, fun z => absurd ?_ c0⟩
    rw [z.2.2]; rfl
  · refine ⟨fun _ => ⟨ww.mp cw, p1, ?_⟩, fun _ => by decide⟩
    cases hb : cq.2 with
    | false => rfl
    | true => rw [hb] at c0; exact absurd c0 (by decide)
theorem km_nil : ∀ {sl : List Nat}, (∀ s ∈ sl, s < 8) → (kmN sl = 0 ↔ sl = []) := fun {sl} h => by
  refine ⟨fun z => ?_, fun z => by rw [z]; rfl⟩
  cases sl with
  | nil => rfl
  | cons s r =>
    have a := km_bit h s (h s List.mem_cons_self)
    rw [if_pos List.mem_cons_self, z] at a
    have b := km_bit (sl := []) (fun s hs => by cases hs) s (h s List.mem_cons_self)
    rw [if_neg (by simp)] at b
    exact absurd (b.symm.trans a) (by decide)
/-- those that wait -/
theorem kh_waiters (hq : kV q) (ho : kiM q o) (hM : MM x o) (hK : CK x C) (hN : NC C) (g : KMm x o C M) (l : Int32) {L : Nat} (eL : l.toInt = L) (hl : (L : Int) < (x.1 60 9).toInt) (h : F (kmN (waM C M L).reverse) x) : KT G q (d + 1) zk_X5_waiters 0 [(0, vr o), (1, vi l)] [] x (ri F) := by
  have hb := hM.1.1.2.2.1
  have nT : (x.1 60 10).toInt = C.2.1.length := hK.2.1.1
  have l6 := hM.1.1.2.1.2
  have k1 : (1 : Int32).toInt = 1 := rfl
  have k0 : (0 : Int32).toInt = 0 := rfl
  have el1 : (l + 1).toInt = (L : Int) + 1 := by rw [t_add (by rw [k1]; omega) (by rw [k1]; omega), k1, eL]
  obtain ⟨P, eP⟩ : ∃ P : Nat → Bool, P = fun o => (M.2.2 o).2.2.2.1 == 1 && obM C (M.2.2 o).2.2.1 == L := ⟨_, rfl⟩
  have h : F (kmN ((List.range C.2.1.length).filter P).reverse) x := by rw [eP]; exact h
  -- a thread waits for it, not woken yet
  have tst : ∀ k, k < C.2.1.length → ((rg x o k 3 = l + 1 ∧ rg x o k 5 = 0) ↔ P k = true) := fun k hk => by
    have gk := g.2 k hk
    obtain ⟨w3, w5, w2, -⟩ := gk.2.2.2.1
    rw [w3, w5, eP]
    show _ ↔ ((M.2.2 k).2.2.2.1 == 1 && obM C (M.2.2 k).2.2.1 == L) = true
    rw [Bool.and_eq_true, beq_iff_eq, beq_iff_eq]
    by_cases c0 : (M.2.2 k).2.2.2.1 = 0
    · rw [if_pos c0]
      refine ⟨fun z => ?_, fun z => by omega⟩
      have := z.1
      rw [t_eq, k0, el1] at this
      omega
    · rw [if_neg c0]
      obtain ⟨a1, a2⟩ := kst_wl hM hK hN hk gk c0
      have e1 : ((stN C (M.2.2 k).2.2.1).2.2.2.2.1 + 1).toInt = (obM C (M.2.2 k).2.2.1 : Nat) + 1 := by rw [t_add (by rw [k1]; omega) (by rw [k1]; omega), k1, a1]
      rw [t_eq, e1, el1]
      by_cases c2 : (M.2.2 k).2.2.2.1 = 2
      · rw [if_pos c2]
        exact ⟨fun z => absurd z.2 (by decide), fun z => by omega⟩
      · rw [if_neg c2]
        exact ⟨fun z => ⟨by omega, by omega⟩, fun z => ⟨by omega, rfl⟩⟩
  have loop : ∀ (n k : Nat) (a i : Int32), i.toInt = k → k ≤ C.2.1.length → (x.1 60 10).toInt - k ≤ n → a = kmN ((List.range k).filter P).reverse → KT G q (d + 1) zk_X5_waiters 4 [(0, vr o), (1, vi l), (2, vi a), (3, vi i)] [] x (ri F) := by
    intro n
    induction n with
    | zero =>
      intro k a i ei hk hn ea
      have ek : k = C.2.1.length := by omega
      refine kg_X5_waiters_4 hq ho _ _ _ ⟨fun _ => ri_i (by rw [ea, ek]; exact h), fun c => ?_⟩
      exfalso; rw [t_le] at c; omega
    | succ n ih =>
      intro k a i ei hk hn ea
      refine kg_X5_waiters_4 hq ho _ _ _ ⟨fun c => ri_i ?_, fun c => ?_⟩
      · rw [t_le] at c
        have ek : k = C.2.1.length := by omega
        rw [ea, ek]; exact h
      rw [t_le] at c
      have e1 : (i + 1).toInt = ((k + 1 : Nat) : Int) := by rw [t_add (by show _ ≤ _ + (1 : Int); omega) (by show _ + (1 : Int) ≤ _; omega), ei]; rfl
      have hk' : k < C.2.1.length := by omega
      have st := tst k hk'
      have no : ¬ P k = true → ((List.range (k + 1)).filter P).reverse = ((List.range k).filter P).reverse := fun z => by
        rw [List.range_succ, List.filter_append, List.filter_cons_of_neg (by exact z), List.filter_nil, List.append_nil]
      have yes : P k = true → ((List.range (k + 1)).filter P).reverse = k :: ((List.range k).filter P).reverse := fun z => by
        rw [List.range_succ, List.filter_append, List.filter_cons_of_pos (by exact z), List.filter_nil, List.reverse_append]
        rfl
      have ii : i = Int32.ofNat k := i32_of ei
      refine kp_get hq ho hM.1 hM.2.1 _ _ ei (show (3 : Int32).toInt = ((3 : Nat) : Int) from rfl) (by omega) (by omega) ⟨fun c3 => ih (k + 1) _ _ e1 (by omega) (by push_cast; omega) ?_, fun c3 => kp_get hq ho hM.1 hM.2.1 _ _ ei (show (5 : Int32).toInt = ((5 : Nat) : Int) from rfl) (by omega) (by omega) ⟨fun c5 => ih (k + 1) _ _ e1 (by omega) (by push_cast; omega) ?_, fun c5 => ih (k + 1) _ _ e1 (by omega) (by push_cast; omega) ?_⟩⟩
      · rw [no (fun z => c3 (st.mpr z).1)]; exact ea
      · rw [no (fun z => c5 (st.mpr z).2)]; exact ea
      · rw [yes (st.mp ⟨c3, c5⟩), kmN, ← ea, ii]
  exact kg_X5_waiters_0 hq ho _ (loop 6 0 _ _ rfl (by omega) (by omega) rfl)
end KMS
