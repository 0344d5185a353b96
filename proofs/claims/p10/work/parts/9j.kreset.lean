/-! the class: a machine is set up and compared -/
section KRS
variable {G : kG} {q : kP} {d : Nat} {x x0 y z : gd} {o : Nat} {F : Int32 → gd → Prop} {Fv : gd → Prop}
theorem km_anyGoing (hq : kV q) (ho : kiM q o) (h : MM x o) (hF : ∀ r : Int32, F r x) : KT G q (d + 2) zk_X5_anyGoing 0 [(0, vr o)] [] x (ri F) := by
  have t6 := h.1.1.2.2.1
  have loop : ∀ (n k : Nat) (i : Int32), i.toInt = k → (x.1 60 10).toInt - k ≤ n → KT G q (d + 2) zk_X5_anyGoing 2 [(0, vr o), (1, vi i)] [] x (ri F) := by
    intro n
    induction n with
    | zero =>
      intro k i ei hn
      refine kg_X5_anyGoing_2 hq ho _ ⟨fun _ => ri_i (hF _), fun c => ?_⟩
      exfalso; rw [t_le] at c; omega
    | succ n ih =>
      intro k i ei hn
      refine kg_X5_anyGoing_2 hq ho _ ⟨fun _ => ri_i (hF _), fun c => ?_⟩
      rw [t_le] at c
      have e1 : (i + 1).toInt = ((k + 1 : Nat) : Int) := by rw [t_add (by show _ ≤ _ + (1 : Int); omega) (by show _ + (1 : Int) ≤ _; omega), ei]; rfl
      exact kp_isGoing hq ho h.1 h.2.1 _ ei (by omega) (fun _ => ⟨fun _ => ih (k + 1) _ e1 (by push_cast; omega), fun _ => ri_i (hF _)⟩) (fun _ => ⟨fun _ => ih (k + 1) _ e1 (by push_cast; omega), fun _ => ri_i (hF _)⟩)
  exact kg_X5_anyGoing_0 hq ho (loop 6 0 _ rfl (by omega))
theorem km_anyFailed (hq : kV q) (ho : kiM q o) (h : MM x o) (hF : ∀ r : Int32, F r x) : KT G q (d + 1) zk_X5_anyFailed 0 [(0, vr o)] [] x (ri F) := by
  have t6 := h.1.1.2.2.1
  have loop : ∀ (n k : Nat) (i : Int32), i.toInt = k → (x.1 60 10).toInt - k ≤ n → KT G q (d + 1) zk_X5_anyFailed 2 [(0, vr o), (1, vi i)] [] x (ri F) := by
    intro n
    induction n with
    | zero =>
      intro k i ei hn
      refine kg_X5_anyFailed_2 hq ho _ ⟨fun _ => ri_i (hF _), fun c => ?_⟩
      exfalso; rw [t_le] at c; omega
    | succ n ih =>
      intro k i ei hn
      refine kg_X5_anyFailed_2 hq ho _ ⟨fun _ => ri_i (hF _), fun c => ?_⟩
      rw [t_le] at c
      have e1 : (i + 1).toInt = ((k + 1 : Nat) : Int) := by rw [t_add (by show _ ≤ _ + (1 : Int); omega) (by show _ + (1 : Int) ≤ _; omega), ei]; rfl
      exact kp_get hq ho h.1 h.2.1 _ _ ei (show (0 : Int32).toInt = ((0 : Nat) : Int) from rfl) (by omega) (by omega) ⟨fun _ => ih (k + 1) _ e1 (by push_cast; omega), fun _ => ri_i (hF _)⟩
  exact kg_X5_anyFailed_0 hq ho (loop 6 0 _ rfl (by omega))
theorem km_isStuck (hq : kV q) (ho : kiM q o) (h : MM x o) (hF : ∀ r : Int32, F r x) : KT G q (d + 3) zk_X5_isStuck 0 [(0, vr o)] [] x (ri F) :=
  kg_X5_isStuck_0 hq ho ⟨fun _ => ri_i (hF _), fun _ => km_anyGoing hq ho h (fun r => ⟨fun _ => ri_i (hF _), fun _ => ri_i (hF _)⟩)⟩
theorem km_allLate (hq : kV q) (ho : kiM q o) (h : MM x o) (hF : ∀ r : Int32, F r x) : KT G q (d + 1) zk_X5_allLate 0 [(0, vr o)] [] x (ri F) := by
  have t6 := h.1.1.2.2.1
  have loop : ∀ (n k : Nat) (a i : Int32), i.toInt = k → (x.1 60 10).toInt - k ≤ n → KT G q (d + 1) zk_X5_allLate 4 [(0, vr o), (1, vi a), (2, vi i)] [] x (ri F) := by
    intro n
    induction n with
    | zero =>
      intro k a i ei hn
      refine kg_X5_allLate_4 hq ho _ _ ⟨fun _ => ri_i (hF _), fun c => ?_⟩
      exfalso; rw [t_le] at c; omega
    | succ n ih =>
      intro k a i ei hn
      refine kg_X5_allLate_4 hq ho _ _ ⟨fun _ => ri_i (hF _), fun c => ?_⟩
      rw [t_le] at c
      have e1 : (i + 1).toInt = ((k + 1 : Nat) : Int) := by rw [t_add (by show _ ≤ _ + (1 : Int); omega) (by show _ + (1 : Int) ≤ _; omega), ei]; rfl
      exact kp_get hq ho h.1 h.2.1 _ _ ei (show (7 : Int32).toInt = ((7 : Nat) : Int) from rfl) (by omega) (by omega) (ih (k + 1) _ _ e1 (by push_cast; omega))
  exact kg_X5_allLate_0 hq ho (loop 6 0 _ _ rfl (by omega))
/-- what the next act of a going thread is about -/
theorem km_objectOf (hq : kV q) (ho : kiM q o) (h : MM x o) (t : Int32) {T : Nat} (et : t.toInt = T) (hT : (T : Int) < (x.1 60 10).toInt) (hF : ∀ r y, fm (sLk o) x y → (rg x o T 3 = 0 → sop x (rg x o T 2).toInt.toNat ≤ 4 → r = -1 ∨ (0 ≤ r.toInt ∧ r.toInt < (x.1 60 6).toInt)) → F r y) : KT G q (d + 3) zk_X5_objectOf 0 [(0, vr o), (1, vi t)] [] x (ri F) := by
  have hT6 := MM_6 h.1 hT
  have hA := (h.2.2 T hT).1
  obtain ⟨v, e, l⟩ := MM_st h.1 hA
  have k4 : (4 : Int32).toInt = 4 := rfl
  have pg : (rg x o T 3 = 0 → ¬ sop x (rg x o T 2).toInt.toNat ≤ 4) → KT G q (d + 2) zk_X5_get 0 [(0, vr o), (1, vi t), (2, vi 2)] [] x (ri (fun r5 x4 => vp_in r5 400 ∧ ri F (some (vi (x4.1 85 (r5 : Int32).toNatClampNeg))) x4)) := fun hn => kp_get hq ho h.1 h.2.1 _ _ et (show (2 : Int32).toInt = ((2 : Nat) : Int) from rfl) hT6 (by omega) ⟨v, ri_i (hF _ x (fm_rf _ _) (fun c3 c4 => absurd c4 (hn c3)))⟩
  refine kg_X5_objectOf_0 hq ho _ (kp_sortOf hq ho h.1 h.2.1 _ et hT6 hA (fun c3 => ⟨fun c4 => pg (fun _ => ?_), fun c4 => ?_⟩) (fun c3 => ⟨fun _ => pg (fun c => absurd c c3), fun c => absurd (by decide) c⟩))
  · rw [t_lt, k4] at c4; unfold sop; omega
  · rw [t_lt, k4] at c4
    exact kp_placeOf hq ho h.1 h.2.1 _ et hT6 hA (by unfold sop; omega) (fun r y fy hr => ri_i (hF r y fy (fun _ _ => hr.imp (fun e => e.1) id)))
theorem km_accessFails (hq : kV q) (ho : kiM q o) (h : MM x o) (t : Int32) {T : Nat} (et : t.toInt = T) (hT : (T : Int) < (x.1 60 10).toInt) (hop : sop x (rg x o T 2).toInt.toNat ≤ 4) (hF : ∀ r y, fm (sLk o) x y → F r y) : KT G q (d + 3) zk_X5_accessFails 0 [(0, vr o), (1, vi t)] [] x (ri F) := by
  have hO := kiM_O ho
  have hT6 := MM_6 h.1 hT
  have hA := (h.2.2 T hT).1
  obtain ⟨v, e, l⟩ := MM_st h.1 hA
  have est2 : (rg x o T 2).toInt = (((rg x o T 2).toInt.toNat : Nat) : Int) := by have := hA.1.1; omega
  have sW : ∀ {y z : gd}, fm sWk y z → fm (sLk o) y z := fun f => fm_w f (fun c k q => by unfold sWk at q; unfold sLk; omega)
  have p122 : ∀ y, fm (sLk o) x y → KT G q (d + 3) zk_X5_accessFails 122 [(0, vr o), (1, vi t), (2, vi (rg x o T 2))] [] y (ri F) := by
    intro y fy
    have hy := MM_Lk hO fy h
    refine kg_X5_accessFails_122 hq ho _ _ (kp_goesLate hq ho hy.1 _ est2 (by unfold ssm at *; rw [fy 80 9 (by unfold sLk; omega)]; exact l) (fun r _ => ⟨fun _ => ri_i (hF _ y fy), fun _ => kp_get hq ho hy.1 hy.2.1 _ _ et (show (7 : Int32).toInt = ((7 : Nat) : Int) from rfl) hT6 (by omega) ⟨fun _ => ri_i (hF _ y fy), fun _ => ri_i (hF _ y fy)⟩⟩))
  have p70 : ∀ y, fm (sLk o) x y → KT G q (d + 3) zk_X5_accessFails 70 [(0, vr o), (1, vi t), (2, vi (rg x o T 2))] [] y (ri F) := by
    intro y fy
    have hy := MM_Lk hO fy h
    exact kg_X5_accessFails_70 hq ho _ _ ⟨v, fun _ => p122 y fy, fun _ => ⟨v, kp_localsAt hq ho hy.1 hy.2.1 _ et hT6 (fun r5 r0 r4 => kp_work hq hy.1 (kk_M5 ho) (kl_M5 hq ho) _ _ _ r0 r4 (fun r7 z fz => ⟨fun _ => p122 z (fm_tr fy (sW fz)), fun _ => ri_i (hF _ z (fm_tr fy (sW fz)))⟩))⟩⟩
  exact kg_X5_accessFails_0 hq ho _ (kp_get hq ho h.1 h.2.1 _ _ et (show (2 : Int32).toInt = ((2 : Nat) : Int) from rfl) hT6 (by omega) (kp_placeOf hq ho h.1 h.2.1 _ et hT6 hA hop (fun r y fy _ => by
    have hy := MM_Lk hO fy h
    exact ⟨fun _ => ⟨v, fun _ => p70 y fy, fun _ => ⟨v, kp_localsAt hq ho hy.1 hy.2.1 _ et hT6 (fun r10 r0 r4 => kp_work hq hy.1 (kk_M5 ho) (kl_M5 hq ho) _ _ _ r0 r4 (fun r12 z fz => ⟨fun _ => p70 z (fm_tr fy (sW fz)), fun _ => ri_i (hF _ z (fm_tr fy (sW fz)))⟩))⟩⟩, fun _ => ri_i (hF _ y fy)⟩)))
theorem km_usedOf (hq : kV q) (ho : kiM q o) (h : MM x o) (t : Int32) {T : Nat} (et : t.toInt = T) (hT : (T : Int) < (x.1 60 10).toInt) (hF : ∀ r : Int32, 0 ≤ r.toInt → r.toInt ≤ 32 → F r x) : KT G q (d + 1) zk_X5_usedOf 0 [(0, vr o), (1, vi t)] [] x (ri F) := by
  have hT6 := MM_6 h.1 hT
  have l8 := (h.2.2 T hT).1.2.1
  obtain ⟨b1, b2, b3, -⟩ := MG_b h.1 h.2.1
  have k2 : (2 : Int32).toInt = 2 := rfl
  refine kg_X5_usedOf_0 hq ho _ (kp_get hq ho h.1 h.2.1 _ _ et (show (7 : Int32).toInt = ((7 : Nat) : Int) from rfl) hT6 (by omega) (ri_i ?_))
  have e1 : (2 * rg x o T 7).toInt = 2 * (rg x o T 7).toInt := by rw [t_mul (by rw [k2]; omega) (by rw [k2]; omega), k2]
  have e2 : (x.1 o 9 + 2 * rg x o T 7).toInt = (x.1 o 9).toInt + 2 * (rg x o T 7).toInt := by rw [t_add (by omega) (by omega), e1]
  exact hF _ (by omega) (by omega)
theorem km_mixPart (hq : kV q) (ho : kiM q o) (b f m : Int32) (h0 : 0 ≤ f.toInt) (h1 : 0 ≤ m.toInt) (h2 : f.toInt + m.toInt ≤ 228) (hF : ∀ r : Int32, F r x) : KT G q d zk_X5_mixPart 0 [(0, vr o), (1, vi b), (2, vi f), (3, vi m)] [] x (ri F) := by
  have ef : (f + m).toInt = f.toInt + m.toInt := t_add (by omega) (by omega)
  have loop : ∀ (n : Nat) (a i : Int32), 0 ≤ i.toInt → f.toInt + m.toInt - i.toInt ≤ n → KT G q d zk_X5_mixPart 6 [(0, vr o), (2, vi f), (3, vi m), (4, vi a), (5, vi i)] [] x (ri F) := by
    intro n
    induction n with
    | zero =>
      intro a i i0 hn
      refine kg_X5_mixPart_6 hq ho _ _ _ _ ⟨fun _ => ri_i (hF _), fun c => ?_⟩
      exfalso; rw [t_le] at c; omega
    | succ n ih =>
      intro a i i0 hn
      refine kg_X5_mixPart_6 hq ho _ _ _ _ ⟨fun _ => ri_i (hF _), fun c => ?_⟩
      rw [t_le] at c
      have e1 : (i + 1).toInt = i.toInt + 1 := t_add (by show _ ≤ _ + (1 : Int); omega) (by show _ + (1 : Int) ≤ _; omega)
      exact ⟨by rw [vp_in_iff]; omega, ih _ _ (by omega) (by omega)⟩
  exact kg_X5_mixPart_0 hq ho _ _ _ (loop 228 _ _ h0 (by omega))
theorem th_ix (h : MM x o) {t : Int32} {T : Nat} (et : t.toInt = T) (hT : T < 6) : 0 ≤ (x.1 o 7 + t * x.1 o 8).toInt ∧ (x.1 o 7 + t * x.1 o 8).toInt ≤ 196 := by
  obtain ⟨b1, b2, -⟩ := MG_b h.1 h.2.1
  have hm : 0 ≤ t.toInt * (x.1 o 8).toInt ∧ t.toInt * (x.1 o 8).toInt ≤ 160 := by
    rw [et]
    have : T = 0 ∨ T = 1 ∨ T = 2 ∨ T = 3 ∨ T = 4 ∨ T = 5 := by omega
    rcases this with e | e | e | e | e | e <;> subst e <;> (refine ⟨?_, ?_⟩ <;> omega)
  have e1 := t_mul (a := t) (b := x.1 o 8) (by omega) (by omega)
  have e2 := t_add (a := x.1 o 7) (b := t * x.1 o 8) (by omega) (by omega)
  omega
theorem km_mix (hq : kV q) (ho : kiM q o) (h : MM x o) (hF : ∀ r : Int32, F r x) : KT G q (d + 2) zk_X5_mix 0 [(0, vr o)] [] x (ri F) := by
  have t6 := h.1.1.2.2.1
  obtain ⟨b1, b2, -⟩ := MG_b h.1 h.2.1
  have loop : ∀ (n k : Nat) (a i : Int32), i.toInt = k → (x.1 60 10).toInt - k ≤ n → KT G q (d + 2) zk_X5_mix 13 [(0, vr o), (1, vi a), (2, vi i)] [] x (ri F) := by
    intro n
    induction n with
    | zero =>
      intro k a i ei hn
      refine kg_X5_mix_13 hq ho _ _ ⟨fun _ => ri_i (hF _), fun c => ?_⟩
      exfalso; rw [t_le] at c; omega
    | succ n ih =>
      intro k a i ei hn
      refine kg_X5_mix_13 hq ho _ _ ⟨fun _ => ri_i (hF _), fun c => ?_⟩
      rw [t_le] at c
      have e1 : (i + 1).toInt = ((k + 1 : Nat) : Int) := by rw [t_add (by show _ ≤ _ + (1 : Int); omega) (by show _ + (1 : Int) ≤ _; omega), ei]; rfl
      obtain ⟨u0, u1⟩ := th_ix h ei (by omega)
      exact km_usedOf hq ho h _ ei (by omega) (fun r r0 r1 => km_mixPart hq ho _ _ _ u0 r0 (by omega) (fun r5 => ih (k + 1) _ _ e1 (by push_cast; omega)))
  exact kg_X5_mix_0 hq ho (km_mixPart hq ho _ _ _ (by decide) b1.1 (by show (0 : Int) + _ ≤ _; omega) (fun r => loop 6 0 _ _ rfl (by omega)))
theorem km_isSamePart (hq : kV q) (ho : kiM q o) {a1 : Nat} (ka : kK a1 = .inr (.int, 228)) (ma : a1 ∈ (kf q).2.1) (f m : Int32) (h0 : 0 ≤ f.toInt) (h1 : 0 ≤ m.toInt) (h2 : f.toInt + m.toInt ≤ 228) (hF : ∀ r : Int32, gbool r → F r x) : KT G q d zk_X5_isSamePart 0 [(0, vr o), (1, vr a1), (2, vi f), (3, vi m)] [] x (ri F) := by
  have ef : (f + m).toInt = f.toInt + m.toInt := t_add (by omega) (by omega)
  have loop : ∀ (n : Nat) (i : Int32), 0 ≤ i.toInt → f.toInt + m.toInt - i.toInt ≤ n → KT G q d zk_X5_isSamePart 3 [(0, vr o), (1, vr a1), (2, vi f), (3, vi m), (4, vi i)] [] x (ri F) := by
    intro n
    induction n with
    | zero =>
      intro i i0 hn
      refine kg_X5_isSamePart_3 hq ho ka ma _ _ _ ⟨fun _ => ri_i (hF _ gbool_1), fun c => ?_⟩
      exfalso; rw [t_le] at c; omega
    | succ n ih =>
      intro i i0 hn
      refine kg_X5_isSamePart_3 hq ho ka ma _ _ _ ⟨fun _ => ri_i (hF _ gbool_1), fun c => ?_⟩
      rw [t_le] at c
      have e1 : (i + 1).toInt = i.toInt + 1 := t_add (by show _ ≤ _ + (1 : Int); omega) (by show _ + (1 : Int) ≤ _; omega)
      have v : vp_in i 228 := by rw [vp_in_iff]; omega
      exact ⟨v, v, fun _ => ih _ (by omega) (by omega), fun _ => ri_i (hF _ gbool_0)⟩
  exact kg_X5_isSamePart_0 hq ho ka ma _ _ (loop 228 _ h0 (by omega))
theorem km_isSame (hq : kV q) (ho : kiM q o) (h : MM x o) {a1 : Nat} (ka : kK a1 = .inr (.int, 228)) (ma : a1 ∈ (kf q).2.1) (hF : ∀ r : Int32, gbool r → F r x) : KT G q (d + 2) zk_X5_isSame 0 [(0, vr o), (1, vr a1)] [] x (ri F) := by
  have t6 := h.1.1.2.2.1
  obtain ⟨b1, b2, -⟩ := MG_b h.1 h.2.1
  have loop : ∀ (n k : Nat) (a i : Int32), gbool a → i.toInt = k → (x.1 60 10).toInt - k ≤ n → KT G q (d + 2) zk_X5_isSame 13 [(0, vr o), (1, vr a1), (2, vi a), (3, vi i)] [] x (ri F) := by
    intro n
    induction n with
    | zero =>
      intro k a i ga ei hn
      refine kg_X5_isSame_13 hq ho ka ma _ _ ⟨fun _ => ⟨ga, ri_i (hF _ ga)⟩, fun c => ?_⟩
      exfalso; rw [t_le] at c; omega
    | succ n ih =>
      intro k a i ga ei hn
      refine kg_X5_isSame_13 hq ho ka ma _ _ ⟨fun _ => ⟨ga, ri_i (hF _ ga)⟩, fun c => ⟨fun _ => ⟨ga, ri_i (hF _ ga)⟩, fun _ => ?_⟩⟩
      rw [t_le] at c
      have e1 : (i + 1).toInt = ((k + 1 : Nat) : Int) := by rw [t_add (by show _ ≤ _ + (1 : Int); omega) (by show _ + (1 : Int) ≤ _; omega), ei]; rfl
      obtain ⟨u0, u1⟩ := th_ix h ei (by omega)
      exact km_usedOf hq ho h _ ei (by omega) (fun r r0 r1 => km_isSamePart hq ho ka ma _ _ u0 r0 (by omega) (fun r5 g5 => ih (k + 1) _ _ g5 e1 (by push_cast; omega)))
  exact kg_X5_isSame_0 hq ho ka ma (km_isSamePart hq ho ka ma _ _ (by decide) b1.1 (by show (0 : Int) + _ ≤ _; omega) (fun r gr => loop 6 0 _ _ gr rfl (by omega)))
/-- what setting up changes -/
def sRe (o c k : Nat) : Prop := (c = o ∧ 3 ≤ k ∧ k ≤ 9) ∨ c = o + 5 ∨ (c = 60 ∧ k = 5) ∨ c = 65
theorem km_reset (hq : kV q) (ho : kiM q o) (hC : CO x) (w : Int32) (hw : w = 0 ∨ w = 1) (hF : ∀ y, MM y o → fm (sRe o) x y → y.1 o 3 = w → Fv y) : KT G q (d + 5) zk_X5_reset 0 [(0, vr o), (1, vi w)] [] x (rv Fv) := by
  have hO := kiM_O ho
  have k0 : (0 : Int32).toInt = 0 := rfl
  have k1 : (1 : Int32).toInt = 1 := rfl
  have k2 : (2 : Int32).toInt = 2 := rfl
  have k8 : (8 : Int32).toInt = 8 := rfl
  have k16 : (16 : Int32).toInt = 16 := rfl
  obtain ⟨c1, c2, c3, c4, -⟩ := hC.1
  refine kg_X5_reset_0 hq ho _ (fun x1 e1 x2 e2 x3 e3 x4 e4 => ?_)
  have f4 : fm (sRe o) x x4 := by
    rw [e4, e3, e2, e1]
    exact fm_si (fm_si (fm_si (fm_si (fm_rf _ _) (by unfold sRe; omega)) (by unfold sRe; omega)) (by unfold sRe; omega)) (by unfold sRe; omega)
  have g60 : ∀ k, ¬ k = 5 → x4.1 60 k = x.1 60 k := fun k hk => f4 _ _ (by unfold sRe; omega)
  have q1 : ∀ k, x1.1 60 k = x.1 60 k := fun k => by rw [e1, si_cell (by omega)]
  have q2 : ∀ k, x2.1 60 k = x.1 60 k := fun k => by rw [e2, si_cell (by omega)]; exact q1 k
  have q3 : ∀ k, x3.1 60 k = x.1 60 k := fun k => by rw [e3, si_cell (by omega)]; exact q2 k
  have w3 : x4.1 o 3 = w := by rw [e4, e3, e2, e1]; (simp only [si_get, sfl_get, Nat.reduceEqDiff, eq_self, and_false, false_and, and_true, true_and, if_true, if_false, reduceIte, reduceCtorEq])
  have w6 : x4.1 o 6 = x.1 60 6 := by rw [e4, e3, e2, q1]; (simp only [si_get, sfl_get, Nat.reduceEqDiff, eq_self, and_false, false_and, and_true, true_and, if_true, if_false, reduceIte, reduceCtorEq])
  have w7 : (x4.1 o 7).toInt = (x.1 60 6).toInt + 2 * (x.1 60 9).toInt := by
    have : x4.1 o 7 = x.1 60 6 + 2 * x.1 60 9 := by
      have x26 : x2.1 o 6 = x.1 60 6 := by rw [e2, q1]; (simp only [si_get, sfl_get, Nat.reduceEqDiff, eq_self, and_false, false_and, and_true, true_and, if_true, if_false, reduceIte, reduceCtorEq])
      rw [e4, e3, x26, q2]; (simp only [si_get, sfl_get, Nat.reduceEqDiff, eq_self, and_false, false_and, and_true, true_and, if_true, if_false, reduceIte, reduceCtorEq])
    have em : (2 * x.1 60 9).toInt = 2 * (x.1 60 9).toInt := by rw [t_mul (by rw [k2]; omega) (by rw [k2]; omega), k2]
    rw [this, t_add (by omega) (by omega), em]
  have w9 : (x4.1 o 9).toInt = 8 + (x.1 60 13).toInt := by
    have : x4.1 o 9 = 8 + x.1 60 13 := by rw [e4, q3]; (simp only [si_get, sfl_get, Nat.reduceEqDiff, eq_self, and_false, false_and, and_true, true_and, if_true, if_false, reduceIte, reduceCtorEq])
    rw [this, t_add (by rw [k8]; omega) (by rw [k8]; omega), k8]
  have p67 : ∀ s : Int32, s.toInt = (if w = 1 then 16 else 0) → KT G q (d + 5) zk_X5_reset 67 [(0, vr o)] [vi s, vi (x4.1 o 9), vr o] x4 (rv Fv) := by
    intro s hs
    have hs2 : 0 ≤ s.toInt ∧ s.toInt ≤ 16 := by rw [hs]; split <;> omega
    refine kg_X5_reset_67 hq ho _ _ (fun y1 ey1 y2 ey2 y3 ey3 => ?_)
    have f2 : fm (sRe o) x y2 := by rw [ey2, ey1]; exact fm_si (fm_si f4 (by unfold sRe; omega)) (by unfold sRe; omega)
    have f3 : fm (sRe o) x y3 := by rw [ey3]; exact fm_fl f2 (fun k _ => by unfold sRe; omega)
    have h60 : ∀ k, ¬ k = 5 → y3.1 60 k = x.1 60 k := fun k hk => f3 _ _ (by unfold sRe; omega)
    have yo : ∀ k, y3.1 o k = y2.1 o k := fun k => by rw [ey3, sfl_get, if_neg (by omega)]
    have v8 : (y3.1 o 8).toInt = 8 + (x.1 60 13).toInt + s.toInt := by
      have : y3.1 o 8 = x4.1 o 9 + s := by rw [yo, ey2, ey1]; (simp only [si_get, sfl_get, Nat.reduceEqDiff, eq_self, and_false, false_and, and_true, true_and, if_true, if_false, reduceIte, reduceCtorEq])
      rw [this, t_add (by omega) (by omega), w9]
    have v7 : y3.1 o 7 = x4.1 o 7 := by rw [yo, ey2, ey1]; (simp only [si_get, sfl_get, Nat.reduceEqDiff, eq_self, and_false, false_and, and_true, true_and, if_true, if_false, reduceIte, reduceCtorEq])
    have v3 : y3.1 o 3 = w := by rw [yo, ey2, ey1]; (simp only [si_get, sfl_get, Nat.reduceEqDiff, eq_self, and_false, false_and, and_true, true_and, if_true, if_false, reduceIte, reduceCtorEq]); exact w3
    have v6 : y3.1 o 6 = x.1 60 6 := by rw [yo, ey2, ey1]; (simp only [si_get, sfl_get, Nat.reduceEqDiff, eq_self, and_false, false_and, and_true, true_and, if_true, if_false, reduceIte, reduceCtorEq]); exact w6
    have v9 : (y3.1 o 9).toInt = 8 + (x.1 60 13).toInt := by
      have : y3.1 o 9 = x4.1 o 9 := by rw [yo, ey2, ey1]; (simp only [si_get, sfl_get, Nat.reduceEqDiff, eq_self, and_false, false_and, and_true, true_and, if_true, if_false, reduceIte, reduceCtorEq])
      rw [this]; exact w9
    have v5 : (y3.1 o 5).toInt = (y3.1 o 7).toInt + (y3.1 o 8).toInt * (x.1 60 10).toInt := by
      have a1 : y3.1 o 5 = y1.1 o 7 + y1.1 o 8 * y1.1 60 10 := by rw [yo, ey2]; (simp only [si_get, sfl_get, Nat.reduceEqDiff, eq_self, and_false, false_and, and_true, true_and, if_true, if_false, reduceIte, reduceCtorEq])
      have a2 : y1.1 o 7 = y3.1 o 7 := by rw [v7, ey1]; (simp only [si_get, sfl_get, Nat.reduceEqDiff, eq_self, and_false, false_and, and_true, true_and, if_true, if_false, reduceIte, reduceCtorEq])
      have a3 : y1.1 o 8 = y3.1 o 8 := by rw [yo, ey2]; (simp only [si_get, sfl_get, Nat.reduceEqDiff, eq_self, and_false, false_and, and_true, true_and, if_true, if_false, reduceIte, reduceCtorEq])
      have a4 : y1.1 60 10 = x.1 60 10 := by rw [ey1, si_cell (by omega)]; exact g60 10 (by omega)
      have hm : 0 ≤ (y3.1 o 8).toInt * (x.1 60 10).toInt ∧ (y3.1 o 8).toInt * (x.1 60 10).toInt ≤ 192 := by
        have : (x.1 60 10).toInt = 0 ∨ (x.1 60 10).toInt = 1 ∨ (x.1 60 10).toInt = 2 ∨ (x.1 60 10).toInt = 3 ∨ (x.1 60 10).toInt = 4 ∨ (x.1 60 10).toInt = 5 ∨ (x.1 60 10).toInt = 6 := by omega
        rcases this with e | e | e | e | e | e | e <;> rw [e] <;> omega
      have em := t_mul (a := y3.1 o 8) (b := x.1 60 10) (by omega) (by omega)
      rw [a1, a2, a3, a4, t_add (by rw [v7]; omega) (by rw [v7]; omega), em]
    have hC3 : CO y3 := CO_fm hC (fun c k hc => f3 c k (by unfold sRe; omega))
    have hG3 : MG y3 o := by
      unfold MG
      rw [h60 6 (by omega), h60 9 (by omega), h60 13 (by omega), h60 10 (by omega), v3, v6, v9, v8, v7, w7]
      refine ⟨hw, rfl, rfl, rfl, ?_, ?_⟩
      · rw [hs]
      · rw [v5, v8, v7, w7]
    have zero : ∀ t k : Nat, t < 6 → k < 32 → rg y3 o t k = 0 := by
      intro t k ht hk
      obtain ⟨b1, b2, -⟩ := MG_b hC3 hG3
      have hlt : pa y3 o t k < 228 := by
        unfold pa
        have : t * (y3.1 o 8).toInt.toNat ≤ 5 * 32 := Nat.mul_le_mul (by omega) (by omega)
        omega
      show y3.1 (o + 5) (pa y3 o t k) = 0
      generalize pa y3 o t k = n at hlt ⊢
      rw [ey3, sfl_get, if_pos ⟨rfl, hlt⟩]
    have hM3 : MM y3 o := by
      refine ⟨hC3, hG3, fun t ht => ?_⟩
      have ht6 := MM_6 hC3 ht
      have h0 := fun k hk => zero t k ht6 hk
      have hs0 := hC3.2.2.2.2 t ht
      refine ⟨⟨?_, ?_, fun _ => h0 7 (by omega), fun j hj => ?_, fun _ => h0 3 (by omega)⟩, fun c => ?_⟩
      · rw [h0 2 (by omega), k0]; omega
      · rw [h0 7 (by omega)]; decide
      · rw [h0 7 (by omega), k0] at hj; omega
      · rw [h0 0 (by omega)] at c; exact absurd c (by decide)
    -- threads are roused
    have loop2 : ∀ (n k : Nat) (i : Int32) (z : gd), i.toInt = k → (x.1 60 10).toInt - k ≤ n → MM z o → fm (sSt o) y3 z → (∀ t : Nat, k ≤ t → t < 6 → rg z o t 0 = 0) → KT G q (d + 5) zk_X5_reset 136 [(0, vr o), (2, vi i)] [] z (rv Fv) := by
      intro n
      induction n with
      | zero =>
        intro k i z ei hn hz fz h0
        refine kg_X5_reset_136 hq ho _ ⟨fun _ => rv_i (hF z hz (fm_tr f3 (fm_w fz (fun c k q => by unfold sSt at q; unfold sRe; omega))) (by rw [fz o 3 (by unfold sSt; omega)]; exact v3)), fun c => ?_⟩
        exfalso; rw [fz 60 10 (by unfold sSt; omega), h60 10 (by omega), t_le] at c; omega
      | succ n ih =>
        intro k i z ei hn hz fz h0
        have z10 : z.1 60 10 = x.1 60 10 := by rw [fz 60 10 (by unfold sSt; omega), h60 10 (by omega)]
        refine kg_X5_reset_136 hq ho _ ⟨fun _ => rv_i (hF z hz (fm_tr f3 (fm_w fz (fun c k q => by unfold sSt at q; unfold sRe; omega))) (by rw [fz o 3 (by unfold sSt; omega)]; exact v3)), fun c => ?_⟩
        rw [z10, t_le] at c
        have e9 : (i + 1).toInt = ((k + 1 : Nat) : Int) := by rw [t_add (by rw [k1]; omega) (by rw [k1]; omega), ei]; rfl
        have hk : (k : Int) < (z.1 60 10).toInt := by rw [z10]; omega
        refine ⟨by rw [vp_in_iff]; omega, fun _ => ih (k + 1) _ z e9 (by push_cast; omega) hz fz (fun t h1 h2 => h0 t (by omega) h2), fun _ => km_rouse hq ho hz _ ei hk ((hz.2.2 k hk).1.2.2.2.2 (h0 k (Nat.le_refl _) (by omega))) (fun u hu fu gu => ih (k + 1) _ u e9 (by push_cast; omega) hu (fm_tr fz fu) (fun t h1 h2 => ?_))⟩
        obtain ⟨b1, b2, -⟩ := MG_b hz.1 hz.2.1
        rw [gu t 0 (by omega) (by omega)]
        exact h0 t (by omega) h2
    -- cells are set
    have loop1 : ∀ (n k : Nat) (i : Int32) (z : gd), i.toInt = k → (x.1 60 6).toInt - k ≤ n → MM z o → fm (sSt o) y3 z → (∀ t j : Nat, rg z o t j = rg y3 o t j) → KT G q (d + 5) zk_X5_reset 102 [(0, vr o), (2, vi i)] [] z (rv Fv) := by
      intro n
      induction n with
      | zero =>
        intro k i z ei hn hz fz rz
        refine kg_X5_reset_102 hq ho _ ⟨fun _ => loop2 6 0 _ z rfl (by omega) hz fz (fun t _ ht => by rw [rz]; exact zero t 0 ht (by omega)), fun c => ?_⟩
        exfalso; rw [fz 60 6 (by unfold sSt; omega), h60 6 (by omega), t_le] at c; omega
      | succ n ih =>
        intro k i z ei hn hz fz rz
        refine kg_X5_reset_102 hq ho _ ⟨fun _ => loop2 6 0 _ z rfl (by omega) hz fz (fun t _ ht => by rw [rz]; exact zero t 0 ht (by omega)), fun c => ⟨?_, ?_, fun u eu => ?_⟩⟩
        all_goals rw [fz 60 6 (by unfold sSt; omega), h60 6 (by omega), t_le] at c
        · rw [vp_in_iff]; omega
        · rw [vp_in_iff]; omega
        · have e9 : (i + 1).toInt = ((k + 1 : Nat) : Int) := by rw [t_add (by rw [k1]; omega) (by rw [k1]; omega), ei]; rfl
          have ru : ∀ t j, rg u o t j = rg z o t j := fun t j => rg_low hO (by rw [fz o 7 (by unfold sSt; omega), v7, w7, t_cl]; omega) eu
          exact ih (k + 1) _ u e9 (by push_cast; omega) (MM_low hO hz (fm_w (st_f eu) (fun c k q => sSt_M q)) ru) (fm_tr fz (st_f eu)) (fun t j => by rw [ru]; exact rz t j)
    exact loop1 24 0 _ y3 rfl (by omega) hM3 (fm_rf _ _) (fun _ _ => rfl)
  rw [w3]
  refine ⟨fun c => p67 0 (by rw [if_neg c]; rfl), fun c => p67 16 (by rw [if_pos c]; rfl)⟩
end KRS
