section
/-! the model: what comes of a sum -/
theorem div_m1 (a : Int32) : a / -1 = -a := by
  have e : (-1 : Int32).toInt = -1 := rfl
  rw [t_eq, Int32.toInt_div, e, Int.tdiv_neg, Int.tdiv_one, Int32.toInt_neg]
theorem mod_m1 (a : Int32) : a - a / -1 * -1 = 0 := by
  rw [div_m1, Int32.neg_mul, Int32.mul_neg, Int32.mul_one, Int32.neg_neg, Int32.sub_self]
section DSF
variable {d : Nat} {S : gS} {x : gd} {F : Int32 → gd → gS → Prop} {Fv : gd → gS → Prop}
theorem ds_onef (v : Int32) (h : F (if v = 0 then 0 else 1) x S) : MD d z_one 0 [(0, vi v)] [] S x (Di F) := sd_one_0 _ ⟨fun c => Di_i (by rw [if_pos c] at h; exact h), fun c => Di_i (by rw [if_neg c] at h; exact h)⟩
theorem ds_reckonf {k : Int32} (hk : ¬ pst k = 0) (a b : Int32) (h : ∀ r x' S', (biQ k a b = some r ∧ x' = x ∧ S' = S) ∨ (biQ k a b = none ∧ x' = si x 0 82 1 ∧ S' = sadd S 0 82) → F r x' S') : MD (d + 1) z_reckon 0 [(0, vr 0), (1, vi k), (2, vi a), (3, vi b)] [] S x (Di F) := by
  have hm := pst_in hk
  have g : ∀ r, biQ k a b = some r → Di F (some (vi r)) x S := fun r e => Di_i (h r x S (Or.inl ⟨e, rfl, rfl⟩))
  have on : ∀ (s r : Int32), (if s = 0 then (0 : Int32) else 1) = r → biQ k a b = some r → MD d z_one 0 [(0, vi s)] [] S x (Di (fun r2 x1 S1 => Di F (some (vi r2)) x1 S1)) := fun s r e1 e2 => ds_onef s (by rw [e1]; exact g r e2)
  have i2 : ∀ w ∈ [(30 : Int32), 12, 51, 52, 53, 54, 55, 56, 57, 58, 59, 60, 28], (∀ u ∈ [(30 : Int32), (12 : Int32), (51 : Int32), (52 : Int32), (53 : Int32), (54 : Int32), (55 : Int32), (56 : Int32), (57 : Int32), (58 : Int32), (59 : Int32)], ¬ w = u) → w = 60 ∨ w = 28 := by decide
  refine sd_reckon_0 _ _ _ ⟨fun c => ?_, fun c => ?_, fun c => ?_, fun c => ?_, fun c => ?_, fun c => ?_, fun c => ?_, fun c => ?_, fun c => ?_, fun c => ?_, fun c => ?_, fun c => ?_⟩
  · subst c
    exact ⟨fun n => sd_reckon_113 _ (on 1 1 rfl (by show some (if a = 0 then _ else (1 : Int32)) = _; rw [if_neg n])), fun z => ⟨fun z2 => sd_reckon_113 _ (on 0 0 rfl (by show some (if a = 0 then (if b = 0 then (0 : Int32) else 1) else 1) = _; rw [if_pos z, if_pos z2])), fun n2 => sd_reckon_113 _ (on 1 1 rfl (by show some (if a = 0 then (if b = 0 then (0 : Int32) else 1) else 1) = _; rw [if_pos z, if_neg n2]))⟩⟩
  · subst c
    exact ⟨fun z => sd_reckon_130 _ (on 0 0 rfl (by show some (if a = 0 then (0 : Int32) else if b = 0 then 0 else 1) = _; rw [if_pos z])), fun n => ⟨fun z2 => sd_reckon_130 _ (on 0 0 rfl (by show some (if a = 0 then (0 : Int32) else if b = 0 then 0 else 1) = _; rw [if_neg n, if_pos z2])), fun n2 => sd_reckon_130 _ (on 1 1 rfl (by show some (if a = 0 then (0 : Int32) else if b = 0 then 0 else 1) = _; rw [if_neg n, if_neg n2]))⟩⟩
  · subst c
    exact ⟨fun n => sd_reckon_144 _ (on 0 0 rfl (by show some (if a = b then (1 : Int32) else 0) = _; rw [if_neg n])), fun z => sd_reckon_144 _ (on 1 1 rfl (by show some (if a = b then (1 : Int32) else 0) = _; rw [if_pos z]))⟩
  · subst c
    exact ⟨fun z => sd_reckon_158 _ (on 0 0 rfl (by show some (if a = b then (0 : Int32) else 1) = _; rw [if_pos z])), fun n => sd_reckon_158 _ (on 1 1 rfl (by show some (if a = b then (0 : Int32) else 1) = _; rw [if_neg n]))⟩
  · subst c
    exact ⟨fun z => sd_reckon_172 _ (on 0 0 rfl (by show some (if b ≤ a then (0 : Int32) else 1) = _; rw [if_pos z])), fun n => sd_reckon_172 _ (on 1 1 rfl (by show some (if b ≤ a then (0 : Int32) else 1) = _; rw [if_neg n]))⟩
  · subst c
    exact ⟨fun z => sd_reckon_186 _ (on 0 0 rfl (by show some (if b < a then (0 : Int32) else 1) = _; rw [if_pos z])), fun n => sd_reckon_186 _ (on 1 1 rfl (by show some (if b < a then (0 : Int32) else 1) = _; rw [if_neg n]))⟩
  · subst c
    exact ⟨fun z => sd_reckon_200 _ (on 0 0 rfl (by show some (if a ≤ b then (0 : Int32) else 1) = _; rw [if_pos z])), fun n => sd_reckon_200 _ (on 1 1 rfl (by show some (if a ≤ b then (0 : Int32) else 1) = _; rw [if_neg n]))⟩
  · subst c
    exact ⟨fun z => sd_reckon_214 _ (on 0 0 rfl (by show some (if a < b then (0 : Int32) else 1) = _; rw [if_pos z])), fun n => sd_reckon_214 _ (on 1 1 rfl (by show some (if a < b then (0 : Int32) else 1) = _; rw [if_neg n]))⟩
  · subst c
    exact g _ rfl
  · subst c
    exact g _ rfl
  · subst c
    exact g _ rfl
  · rcases i2 k hm c with e | e
    · subst e
      refine ⟨fun n => ⟨fun n60 => absurd rfl n60, fun _ => ⟨fun nm => ⟨n, g _ ?_⟩, fun zm => g _ ?_⟩⟩, fun z y ey => Di_i (h _ y _ (Or.inr ⟨?_, ey, rfl⟩))⟩
      · show (if b = 0 then none else some (a / b)) = _
        rw [if_neg n]
      · show (if b = 0 then none else some (a / b)) = _
        rw [if_neg n, zm, div_m1]
      · show (if b = 0 then none else some (a / b)) = _
        rw [if_pos z]
    · subst e
      refine ⟨fun n => ⟨fun _ => ⟨fun nm => ⟨n, g _ ?_⟩, fun zm => g _ ?_⟩, fun z60 => absurd z60 (by decide)⟩, fun z y ey => Di_i (h _ y _ (Or.inr ⟨?_, ey, rfl⟩))⟩
      · show (if b = 0 then none else some (a - a / b * b)) = _
        rw [if_neg n]
      · show (if b = 0 then none else some (a - a / b * b)) = _
        rw [if_neg n, zm, mod_m1]
      · show (if b = 0 then none else some (a - a / b * b)) = _
        rw [if_pos z]
def wkM (y : gd) (w : Option Int32) (r : Int32) : Prop := (∃ v, w = some v ∧ r = v ∧ y.1 0 82 = 0) ∨ (w = none ∧ y.1 0 82 = 1)
def mVl (x : gd) (sl : List Nat) (t : Int32) (lv : Nat → Int32) (cv : Int32 → Int32) (q : gQ) : Prop := (q.1 = 2 → vp_in (8 * t + Int32.ofNat (slN sl q.2.1)) 48 ∧ x.1 76 (8 * t + Int32.ofNat (slN sl q.2.1)).toNatClampNeg = lv q.2.1) ∧ (q.1 = 4 → vp_in q.2.2 24 ∧ x.1 70 q.2.2.toNatClampNeg = cv q.2.2)
theorem ds_workedf {w t : Int32} {Q : List gQ} {sl : List Nat} {lv : Nat → Int32} {cv : Int32 → Int32} (hS : SUm x w (Q.map (mQp sl))) (h49 : (x.1 0 49).toInt ≤ 6000) (ok : okQ Q 0) (hQ : ∀ p ∈ Q, qOk p ∧ mVl x sl t lv cv p) (h : ∀ r x' S', md [82] [84] x x' → ssub S S' → S' 0 82 → wkM x' (wkQ lv cv t Q) r → F r x' S') : MD (d + 2) z_worked 0 [(0, vr 0), (1, vi w), (2, vi t)] [] S x (Di F) := by
  have k0 : (0 : Int32).toInt = 0 := rfl
  have k1 : (1 : Int32).toInt = 1 := rfl
  have km : (-1 : Int32).toInt = -1 := rfl
  have c0 : (0 : Int32).toNatClampNeg = 0 := rfl
  obtain ⟨s0, s1, s2, s3⟩ := hS
  rw [List.length_map] at s1 s3
  have us := t_cl w
  have loop : ∀ (Q1 : List gQ) (m : Nat) (st : List Int32) (y : gd) (S1 : gS) (l3 l4 : Int32), (∀ j q, Q1[j]? = some q → Q[m + j]? = some q) → m + Q1.length = Q.length → okQ Q1 st.length → l3.toInt = st.length → st.length ≤ 40 → l4.toInt = w.toInt + m → (∀ j : Nat, j < st.length → S1 84 j) → S1 0 82 → md [82] [84] x y → ssub S S1 → y.1 0 82 = 0 → STK (y.1 84) st → evQ lv cv t Q1 st = evQ lv cv t Q [] → MD (d + 2) z_worked 10 [(0, vr 0), (2, vi t), (3, vi l3), (4, vi l4)] [] S1 y (Di F) := by
    intro Q1
    induction Q1 with
    | nil =>
      intro m st y S1 l3 l4 hsub hm hok e3 l40 e4 sp s82 my ss y82 hst hev
      have hok : st.length = 1 := hok
      have hm : m = Q.length := hm
      have e51 : y.1 51 = x.1 51 := my.2.1 51 (by decide) (by decide)
      have eN : l4.toNatClampNeg = w.toNatClampNeg + Q.length := by rw [t_cl]; omega
      have yz : y.1 51 l4.toNatClampNeg = 0 := by rw [e51, eN]; exact s3
      refine sd_worked_10 _ _ _ ⟨by rw [vp_in_iff]; omega, fun _ => ⟨vp_in_iff.mpr (by decide), sp _ (by rw [c0]; omega), Di_i (h _ _ _ my ss s82 (Or.inl ⟨_, ?_, rfl, y82⟩))⟩, fun q => absurd yz q⟩
      unfold wkQ
      rw [← hev]
      cases st with
      | nil => exact absurd hok (by show ¬ 0 = 1; decide)
      | cons v st =>
        have e0 : st.length = 0 := by have : st.length + 1 = 1 := hok; omega
        have := hst.1
        rw [e0] at this
        rw [c0, this]
        rfl
    | cons e Q1 ih =>
      intro m st y S1 l3 l4 hsub hm hok e3 l40 e4 sp s82 my ss y82 hst hev
      have hm : m + (Q1.length + 1) = Q.length := hm
      have e51 : y.1 51 = x.1 51 := my.2.1 51 (by decide) (by decide)
      have e52 : y.1 52 = x.1 52 := my.2.1 52 (by decide) (by decide)
      have e76 : y.1 76 = x.1 76 := my.2.1 76 (by decide) (by decide)
      have e70 : y.1 70 = x.1 70 := my.2.1 70 (by decide) (by decide)
      have eN : l4.toNatClampNeg = w.toNatClampNeg + m := by rw [t_cl]; omega
      have at0 : Q[m]? = some e := hsub 0 e rfl
      obtain ⟨qo, qv⟩ := hQ e (List.mem_of_getElem? at0)
      obtain ⟨p51, p52⟩ := s2 m (mQp sl e) (by rw [List.getElem?_map, at0]; rfl)
      have y51 : y.1 51 l4.toNatClampNeg = (mQp sl e).1 := by rw [e51, eN]; exact p51
      have y52 : y.1 52 l4.toNatClampNeg = (mQp sl e).2 := by rw [e52, eN]; exact p52
      have v4 : vp_in l4 6000 := by rw [vp_in_iff]; omega
      have i4 : (l4 + 1).toInt = w.toInt + ((m + 1 : Nat) : Int) := by rw [t_add (by rw [k1]; omega) (by rw [k1]; omega), k1, e4]; push_cast; omega
      have u3 := t_cl l3
      have cs : e.1 = 1 ∨ e.1 = 2 ∨ e.1 = 3 ∨ e.1 = 4 ∨ e.1 = 5 ∨ e.1 = 6 := by have := qo.1; omega
      have next : ∀ (st2 : List Int32) (l32 : Int32) (z : gd) (S2 : gS), okQ Q1 st2.length → l32.toInt = st2.length → st2.length ≤ 40 → (∀ j : Nat, j < st2.length → S2 84 j) → S2 0 82 → md [82] [84] x z → ssub S S2 → z.1 0 82 = 0 → STK (z.1 84) st2 → evQ lv cv t Q1 st2 = evQ lv cv t Q [] → MD (d + 2) z_worked 10 [(0, vr 0), (2, vi t), (3, vi l32), (4, vi (l4 + 1))] [] S2 z (Di F) := fun st2 l32 z S2 a1 a2 a3 a4 a5 a6 a7 a8 a9 a10 => ih (m + 1) st2 z S2 l32 (l4 + 1) (fun j q hj => by rw [Nat.add_assoc, Nat.add_comm 1 j]; exact hsub (j + 1) q hj) (by omega) a1 a2 a3 i4 a4 a5 a6 a7 a8 a9 a10
      have push : ∀ v : Int32, (1 ≤ e.1 ∧ e.1 ≤ 4) → evQ lv cv t (e :: Q1) st = evQ lv cv t Q1 (v :: st) → vp_in l3 60 ∧ ∀ y2 : gd, y2 = si y 84 l3.toNatClampNeg v → MD (d + 2) z_worked 10 [(0, vr 0), (2, vi t), (3, vi (l3 + 1)), (4, vi (l4 + 1))] [] (sadd S1 84 l3.toNatClampNeg) y2 (Di F) := fun v c14 hv => by
        obtain ⟨lt, hok'⟩ := okQ_p hok c14
        refine ⟨by rw [vp_in_iff]; omega, fun y2 e2 => ?_⟩
        have m2 := md_a y 84 l3.toNatClampNeg v (by decide)
        rw [← e2] at m2
        refine next (v :: st) (l3 + 1) y2 _ hok' ?_ (by show st.length + 1 ≤ 40; omega) (fun j hj => ?_) (Or.inr s82) (md_tr my m2 rfl rfl) (ssub_tr ss (ssub_ad _ _ _)) (by rw [e2, si_cell (by decide)]; exact y82) ⟨?_, STK_eq (fun j hj => ?_) hst⟩ (by rw [← hv]; exact hev)
        · rw [t_add (by rw [k1]; omega) (by rw [k1]; omega), k1, e3]; rfl
        · by_cases q : j = l3.toNatClampNeg
          · exact Or.inl ⟨rfl, q⟩
          · have : j < st.length + 1 := hj
            exact Or.inr (sp j (by omega))
        · rw [e2, si_get, if_pos ⟨rfl, by omega⟩]
        · rw [e2, si_get, if_neg (by omega)]
      have one : ∀ k : Nat, e.1 = k → ¬ k = 2 → mQp sl e = (Int32.ofNat k, e.2.2) := fun k c n2 => by
        unfold mQp
        rw [if_neg (by omega), c]
      rcases cs with c | c | c | c | c | c
      · have em := one 1 c (by decide)
        have hp := push e.2.2 (by omega) (ev_1 c)
        refine sd_worked_10 _ _ _ ⟨v4, fun q => ?_, fun _ => ⟨v4, v4, ?_⟩⟩
        · rw [y51, em] at q; exact absurd q (by show ¬ (1 : Int32) = 0; decide)
        rw [y51, y52, em]
        exact ⟨fun _ => hp, fun z => absurd z (by show ¬ (1 : Int32) = 2; decide), fun z => absurd z (by show ¬ (1 : Int32) = 3; decide), fun z => absurd z (by show ¬ (1 : Int32) = 4; decide), fun z => absurd z (by show ¬ (1 : Int32) = 5; decide), fun z => absurd rfl (z 1 (by decide))⟩
      · have em : mQp sl e = (2, Int32.ofNat (slN sl e.2.1)) := if_pos c
        obtain ⟨w1, w2⟩ := qv.1 c
        have hp := push (lv e.2.1) (by omega) (ev_2 c)
        refine sd_worked_10 _ _ _ ⟨v4, fun q => ?_, fun _ => ⟨v4, v4, ?_⟩⟩
        · rw [y51, em] at q; exact absurd q (by show ¬ (2 : Int32) = 0; decide)
        rw [y51, y52, em, e76]
        refine ⟨fun z => absurd z (by show ¬ (2 : Int32) = 1; decide), fun _ => ⟨w1, ?_⟩, fun z => absurd z (by show ¬ (2 : Int32) = 3; decide), fun z => absurd z (by show ¬ (2 : Int32) = 4; decide), fun z => absurd z (by show ¬ (2 : Int32) = 5; decide), fun z => absurd rfl (z 2 (by decide))⟩
        show vp_in l3 60 ∧ ∀ y2 : gd, y2 = si y 84 l3.toNatClampNeg (x.1 76 (8 * t + Int32.ofNat (slN sl e.2.1)).toNatClampNeg) → _
        rw [w2]
        exact hp
      · have em := one 3 c (by decide)
        have hp := push t (by omega) (ev_3 c)
        refine sd_worked_10 _ _ _ ⟨v4, fun q => ?_, fun _ => ⟨v4, v4, ?_⟩⟩
        · rw [y51, em] at q; exact absurd q (by show ¬ (3 : Int32) = 0; decide)
        rw [y51, y52, em]
        exact ⟨fun z => absurd z (by show ¬ (3 : Int32) = 1; decide), fun z => absurd z (by show ¬ (3 : Int32) = 2; decide), fun _ => hp, fun z => absurd z (by show ¬ (3 : Int32) = 4; decide), fun z => absurd z (by show ¬ (3 : Int32) = 5; decide), fun z => absurd rfl (z 3 (by decide))⟩
      · have em := one 4 c (by decide)
        obtain ⟨w1, w2⟩ := qv.2 c
        have hp := push (cv e.2.2) (by omega) (ev_4 c)
        refine sd_worked_10 _ _ _ ⟨v4, fun q => ?_, fun _ => ⟨v4, v4, ?_⟩⟩
        · rw [y51, em] at q; exact absurd q (by show ¬ (4 : Int32) = 0; decide)
        rw [y51, y52, em, e70]
        refine ⟨fun z => absurd z (by show ¬ (4 : Int32) = 1; decide), fun z => absurd z (by show ¬ (4 : Int32) = 2; decide), fun z => absurd z (by show ¬ (4 : Int32) = 3; decide), fun _ => ⟨w1, ?_⟩, fun z => absurd z (by show ¬ (4 : Int32) = 5; decide), fun z => absurd rfl (z 4 (by decide))⟩
        show vp_in l3 60 ∧ ∀ y2 : gd, y2 = si y 84 l3.toNatClampNeg (x.1 70 e.2.2.toNatClampNeg) → _
        rw [w2]
        exact hp
      · have em := one 5 c (by decide)
        obtain ⟨h1, hok'⟩ := okQ_5 hok c
        cases st with
        | nil => exact absurd h1 (by show ¬ 1 ≤ 0; decide)
        | cons v st =>
          have e3 : l3.toInt = st.length + 1 := by rw [e3]; rfl
          have l40 : st.length + 1 ≤ 40 := l40
          obtain ⟨sq, ns⟩ := t_s1 (a := l3) (by omega)
          obtain ⟨q3, eq3⟩ : ∃ q, q = l3 - 1 := ⟨_, rfl⟩
          rw [← eq3] at sq ns
          have nN : q3.toNatClampNeg = st.length := by rw [t_cl, sq, e3]; omega
          have vs : vp_in q3 60 := by rw [vp_in_iff]; omega
          have sS : S1 84 q3.toNatClampNeg := sp _ (by rw [nN]; exact Nat.lt_succ_self _)
          have top : y.1 84 q3.toNatClampNeg = v := by rw [nN]; exact hst.1
          have set : ∀ (r : Int32) (y2 : gd), unQ e.2.2 v = r → y2 = si y 84 q3.toNatClampNeg r → MD (d + 2) z_worked 10 [(0, vr 0), (2, vi t), (3, vi l3), (4, vi (l4 + 1))] [] (sadd S1 84 q3.toNatClampNeg) y2 (Di F) := by
            intro r y2 er e2
            have m2 := md_a y 84 q3.toNatClampNeg r (by decide)
            rw [← e2] at m2
            refine next (r :: st) l3 y2 _ hok' (by rw [e3]; rfl) l40 (fun j hj => Or.inr (sp j hj)) (Or.inr s82) (md_tr my m2 rfl rfl) (ssub_tr ss (ssub_ad _ _ _)) (by rw [e2, si_cell (by decide)]; exact y82) ⟨?_, STK_eq (fun j hj => ?_) hst.2⟩ ?_
            · rw [e2, si_get, if_pos ⟨rfl, nN.symm⟩]
            · rw [e2, si_get, if_neg (by omega)]
            · rw [← hev, ev_5 c, er]
          refine sd_worked_10 _ _ _ ⟨v4, fun q => ?_, fun _ => ⟨v4, v4, ?_⟩⟩
          · rw [y51, em] at q; exact absurd q (by show ¬ (5 : Int32) = 0; decide)
          rw [y51, y52, em, ← eq3, top]
          refine ⟨fun z => absurd z (by show ¬ (5 : Int32) = 1; decide), fun z => absurd z (by show ¬ (5 : Int32) = 2; decide), fun z => absurd z (by show ¬ (5 : Int32) = 3; decide), fun z => absurd z (by show ¬ (5 : Int32) = 4; decide), fun _ => ⟨fun n29 => ⟨vs, sS, vs, fun y2 e2 => set _ y2 ?_ e2⟩, fun c29 => ⟨vs, sS, fun n => ⟨vs, fun y2 e2 => set _ y2 ?_ e2⟩, fun z => ⟨vs, fun y2 e2 => set _ y2 ?_ e2⟩⟩⟩, fun z => absurd rfl (z 5 (by decide))⟩
          · unfold unQ; rw [if_neg n29]
          · unfold unQ; rw [if_pos c29, if_neg n]
          · unfold unQ; rw [if_pos c29, if_pos z]
      · have em := one 6 c (by decide)
        obtain ⟨h2, hok'⟩ := okQ_6 hok c
        cases st with
        | nil => exact absurd h2 (by show ¬ 2 ≤ 0; decide)
        | cons v st =>
          cases st with
          | nil => exact absurd h2 (by show ¬ 2 ≤ 1; decide)
          | cons u st =>
            have e3 : l3.toInt = st.length + 2 := by rw [e3]; rfl
            have l40 : st.length + 2 ≤ 40 := l40
            obtain ⟨m3, nm⟩ := t_m1 (a := l3) (by omega)
            obtain ⟨q3, eq3⟩ : ∃ q, q = l3 + -1 := ⟨_, rfl⟩
            rw [← eq3] at m3 nm
            obtain ⟨m4, n4'⟩ := t_s1 (a := q3) (by omega)
            obtain ⟨q4, eq4⟩ : ∃ q, q = q3 - 1 := ⟨_, rfl⟩
            rw [← eq4] at m4 n4'
            have n3 : q3.toNatClampNeg = st.length + 1 := by rw [t_cl, m3, e3]; omega
            have n4 : q4.toNatClampNeg = st.length := by rw [t_cl, m4, m3, e3]; omega
            have v1 : vp_in q3 60 := by rw [vp_in_iff]; omega
            have v2 : vp_in q4 60 := by rw [vp_in_iff]; omega
            refine sd_worked_10 _ _ _ ⟨v4, fun q => ?_, fun _ => ⟨v4, v4, ?_⟩⟩
            · rw [y51, em] at q; exact absurd q (by show ¬ (6 : Int32) = 0; decide)
            have hu : y.1 84 q4.toNatClampNeg = u := by rw [n4]; exact hst.2.1
            have hv : y.1 84 q3.toNatClampNeg = v := by rw [n3]; exact hst.1
            rw [y51, y52, em, ← eq3, ← eq4, hu, hv]
            refine ⟨fun z => absurd z (by show ¬ (6 : Int32) = 1; decide), fun z => absurd z (by show ¬ (6 : Int32) = 2; decide), fun z => absurd z (by show ¬ (6 : Int32) = 3; decide), fun z => absurd z (by show ¬ (6 : Int32) = 4; decide), fun z => absurd z (by show ¬ (6 : Int32) = 5; decide), fun _ => ⟨v2, sp _ (by rw [n4]; show st.length < st.length + 2; omega), v1, sp _ (by rw [n3]; show st.length + 1 < st.length + 2; omega), ds_reckonf (qo.2.2 c) u v (fun r y3 S3 hz => ⟨v2, fun y4 e4' => ?_⟩)⟩⟩
            have m5 := md_a y3 84 q4.toNatClampNeg r (by decide)
            rw [← e4'] at m5
            rcases hz with ⟨hb, ey3, eS3⟩ | ⟨hb, ey3, eS3⟩
            · rw [eS3]
              rw [ey3] at m5 e4'
              have y4z : y4.1 0 82 = 0 := by rw [e4', si_cell (by decide)]; exact y82
              refine ⟨Or.inr s82, fun _ => next (r :: st) q3 y4 _ hok' (by rw [m3, e3]; show (st.length : Int) + 2 - 1 = ((st.length + 1 : Nat) : Int); omega) (by show st.length + 1 ≤ 40; omega) (fun j hj => Or.inr (sp j (by have : j < st.length + 1 := hj; show j < st.length + 2; omega))) (Or.inr s82) (md_tr my m5 rfl rfl) (ssub_tr ss (ssub_ad _ _ _)) y4z ⟨?_, STK_eq (fun j hj => ?_) hst.2.2⟩ ?_, fun n => ?_⟩
              · rw [e4', si_get, if_pos ⟨rfl, n4.symm⟩]
              · rw [e4', si_get, if_neg (by omega)]
              · rw [← hev, ev_6 c hb]
              · exfalso; rw [y4z] at n; exact n (by decide)
            · have y4o : y4.1 0 82 = 1 := by rw [e4', si_cell (by decide), ey3, si_get, if_pos ⟨rfl, rfl⟩]
              have mf := md_f y 82 1
              rw [← ey3] at mf
              have mm : md [82] [84] x y4 := md_tr (md_tr (L3 := [82]) (A3 := [84]) my mf rfl rfl) m5 rfl rfl
              have hn : wkQ lv cv t Q = none := by unfold wkQ; rw [← hev, ev_6n c hb]; rfl
              rw [eS3]
              have s5 : sadd (sadd S1 0 82) 84 q4.toNatClampNeg 0 82 := Or.inr (Or.inl ⟨rfl, rfl⟩)
              refine ⟨s5, fun z => ?_, fun _ => Di_i (h _ _ _ mm (ssub_tr ss (ssub_tr (ssub_ad _ _ _) (ssub_ad _ _ _))) s5 (Or.inr ⟨hn, y4o⟩))⟩
              exfalso; rw [y4o] at z; exact absurd z (by decide)
  refine sd_worked_0 _ _ (fun y e => ?_)
  have m := md_f x 82 0
  rw [← e] at m
  exact loop Q 0 [] y _ 0 w (fun j q hj => by rw [Nat.zero_add]; exact hj) (by omega) ok rfl (by decide) (by omega) (fun j hj => absurd hj (Nat.not_lt_zero _)) (Or.inl ⟨rfl, rfl⟩) (md_w m (by decide) (by decide)) (ssub_ad _ _ _) (by rw [e, si_get, if_pos ⟨rfl, rfl⟩]) trivial rfl
end DSF
end
section
/-! the model: what becomes of a thread's own steps -/
theorem slN_suf : ∀ {l l' : List Nat}, l' <:+ l → ∀ {p : Nat}, p < l'.length → slN l' p = slN l p := by
  intro l
  induction l with
  | nil => intro l' h p hp; rw [List.suffix_nil.mp h]
  | cons s l ih =>
    intro l' h p hp
    rcases List.suffix_cons_iff.mp h with e | h
    · rw [e]
    · have := h.length_le
      rw [ih h hp]
      show slN l p = if p = l.length then s else slN l p
      rw [if_neg (by omega)]
theorem slN_mem : ∀ {l : List Nat} {p : Nat}, p < l.length → slN l p ∈ l := by
  intro l
  induction l with
  | nil => intro p hp; exact absurd hp (Nat.not_lt_zero _)
  | cons s l ih =>
    intro p hp
    show (if p = l.length then s else slN l p) ∈ s :: l
    by_cases c : p = l.length
    · rw [if_pos c]; exact List.mem_cons_self
    · rw [if_neg c]
      have hp : p < l.length + 1 := hp
      exact List.mem_cons_of_mem _ (ih (by omega))
theorem slN_inj : ∀ {l : List Nat}, l.Pairwise (fun a b => b < a) → ∀ {p q : Nat}, p < l.length → q < l.length → slN l p = slN l q → p = q := by
  intro l
  induction l with
  | nil => intro _ p q hp; exact absurd hp (Nat.not_lt_zero _)
  | cons s l ih =>
    intro hl p q hp hq h
    have hp : p < l.length + 1 := hp
    have hq : q < l.length + 1 := hq
    obtain ⟨h1, h2⟩ := List.pairwise_cons.mp hl
    have h : (if p = l.length then s else slN l p) = if q = l.length then s else slN l q := h
    by_cases cp : p = l.length
    · by_cases cq : q = l.length
      · omega
      · rw [if_pos cp, if_neg cq] at h
        have := h1 _ (slN_mem (l := l) (p := q) (by omega))
        omega
    · by_cases cq : q = l.length
      · rw [if_neg cp, if_pos cq] at h
        have := h1 _ (slN_mem (l := l) (p := p) (by omega))
        omega
      · rw [if_neg cp, if_neg cq] at h
        exact ih h2 (by omega) (by omega) h
theorem mWh_i : ∀ op, op < 22 → (mWh op = 6 ↔ op < 16) ∧ (mWh op = 3 ↔ op = 20) ∧ (mWh op = 5 ↔ op = 21) ∧ (mWh op = 0 ↔ op = 16) ∧ (mWh op = 2 ↔ op = 17) ∧ (mWh op = 1 ↔ op = 18) := by decide
theorem SUm_f {x y : gd} {r : Int32} {P : List (Int32 × Int32)} (h : SUm x r P) (e49 : y.1 0 49 = x.1 0 49) (e51 : y.1 51 = x.1 51) (e52 : y.1 52 = x.1 52) : SUm y r P := by
  unfold SUm at h ⊢
  rw [e49, e51, e52]; exact h
section DOF
variable {d : Nat} {S : gS} {x : gd} {F : Int32 → gd → gS → Prop} {Fv : gd → gS → Prop} {C : gCo}
end DOF
end
section
/-! the model: how a run begins, and its first choices -/
theorem MK_f {w w' : gd} {C : gCo} (h : MK w C) (fL : ∀ k ∈ mfL, w'.1 0 k = w.1 0 k) (fA : ∀ c ∈ mfA, w'.1 c = w.1 c) : MK w' C := by
  have su : ∀ {r : Int32} {P : List (Int32 × Int32)}, SUm w r P → SUm w' r P := fun h => SUm_f h (fL 49 (by decide)) (fA 51 (by decide)) (fA 52 (by decide))
  have ns : ∀ {sl : List Nat} {v : Int32} {o : Option (List gQ)}, mNs w sl v o → mNs w' sl v o := fun {sl v o} h => by
    cases o with
    | none => exact h
    | some Q => exact su h
  obtain ⟨⟨a1, a2⟩, b, c, d, e⟩ := h
  refine ⟨⟨by rw [fL 52 (by decide)]; exact a1, fun j st hj => ?_⟩, by rw [fL 25 (by decide), fA 64 (by decide), fA 38 (by decide)]; exact b, by rw [fL 23 (by decide), fA 36 (by decide), fA 37 (by decide)]; exact c, fun k Q hQ => by rw [fA 65 (by decide)]; exact su (d k Q hQ), fun k Q hQ => by rw [fA 66 (by decide)]; exact su (e k Q hQ)⟩
  obtain ⟨g1, g2, g3, g4, g5, g6, g7, g8, g9⟩ := a2 j st hj
  unfold mN
  rw [fA 54 (by decide), fA 55 (by decide), fA 56 (by decide), fA 57 (by decide), fA 58 (by decide), fA 59 (by decide), fA 60 (by decide), fA 61 (by decide), fA 62 (by decide)]
  exact ⟨g1, g2, g3, g4, ns g5, ns g6, ns g7, g8, g9⟩
theorem MK_md {w w' : gd} {C : gCo} {L A : List Nat} (m : md L A w w') (hL : mfL.all (fun k => !L.elem k) = true) (hA : mfA.all (fun k => !A.elem k) = true) (h : MK w C) : MK w' C := MK_f h (fun k hk => m.1 k (all_no hL k hk)) (fun c hc => m.2.1 c (mfA_0 c hc) (all_no hA c hc))
section DFS
variable {d : Nat} {S : gS} {x : gd} {F : Int32 → gd → gS → Prop} {Fv : gd → gS → Prop} {C : gCo} {f : Nat → gTr}
end DFS
section DSX
variable {x : gd} {C : gCo}
end DSX
section SPB
variable {G : mG} {D d : Nat} {z : gd} {F : Int32 → gd → Prop} {Fv : gd → Prop}
end SPB
end
section
/-! the class: a machine's row -/
theorem kiM_O {q : kP} {o : Nat} (h : kiM q o) : o = 120 ∨ o = 220 := by
  rcases h with e | ⟨e, -⟩
  · exact Or.inl e
  · exact Or.inr e
/-- where a machine's things lie -/
def MG (x : gd) (o : Nat) : Prop := (x.1 o 3 = 0 ∨ x.1 o 3 = 1) ∧ (x.1 o 6).toInt = (x.1 60 6).toInt ∧ (x.1 o 7).toInt = (x.1 60 6).toInt + 2 * (x.1 60 9).toInt ∧ (x.1 o 9).toInt = 8 + (x.1 60 13).toInt ∧ (x.1 o 8).toInt = 8 + (x.1 60 13).toInt + (if x.1 o 3 = 1 then 16 else 0) ∧ (x.1 o 5).toInt = (x.1 o 7).toInt + (x.1 o 8).toInt * (x.1 60 10).toInt
/-- a thread's field -/
def pa (x : gd) (o t f : Nat) : Nat := (x.1 o 7).toInt.toNat + t * (x.1 o 8).toInt.toNat + f
def rg (x : gd) (o t f : Nat) : Int32 := x.1 (o + 5) (pa x o t f)
section KMA
variable {G : kG} {q : kP} {d : Nat} {x x0 y z : gd} {o : Nat} {F : Int32 → gd → Prop} {Fv : gd → Prop}
theorem MG_b (hC : CO x) (hG : MG x o) : (0 ≤ (x.1 o 7).toInt ∧ (x.1 o 7).toInt ≤ 36) ∧ (8 ≤ (x.1 o 8).toInt ∧ (x.1 o 8).toInt ≤ 32) ∧ (8 ≤ (x.1 o 9).toInt ∧ (x.1 o 9).toInt ≤ 16) ∧ (x.1 o 9).toInt ≤ (x.1 o 8).toInt ∧ (x.1 o 3 = 1 → (x.1 o 8).toInt = (x.1 o 9).toInt + 16) ∧ (x.1 60 6).toInt ≤ (x.1 o 7).toInt ∧ (x.1 o 9).toInt = 8 + (x.1 60 13).toInt := by
  obtain ⟨⟨h1, h2, h3, h4, -⟩, -⟩ := hC
  obtain ⟨g1, g2, g3, g4, g5, g6⟩ := hG
  rcases g1 with e | e
  · rw [e, if_neg (by decide)] at g5
    refine ⟨by omega, by omega, by omega, by omega, fun c => ?_, by omega, g4⟩
    rw [e] at c; exact absurd c (by decide)
  · rw [e, if_pos rfl] at g5
    exact ⟨by omega, by omega, by omega, by omega, fun _ => by omega, by omega, g4⟩
theorem pa_ix {a s t f : Int32} {T K : Nat} (et : t.toInt = T) (ef : f.toInt = K) (ha : 0 ≤ a.toInt ∧ a.toInt ≤ 36) (hs : 0 ≤ s.toInt ∧ s.toInt ≤ 32) (hT : T < 6) (hK : K < 32) : (a + t * s + f).toNatClampNeg = a.toInt.toNat + T * s.toInt.toNat + K ∧ vp_in (a + t * s + f) 228 := by
  have hm : 0 ≤ t.toInt * s.toInt ∧ t.toInt * s.toInt ≤ 160 ∧ (t.toInt * s.toInt).toNat = T * s.toInt.toNat := by
    rw [et]
    have : T = 0 ∨ T = 1 ∨ T = 2 ∨ T = 3 ∨ T = 4 ∨ T = 5 := by omega
    rcases this with e | e | e | e | e | e <;> subst e <;> (refine ⟨?_, ?_, ?_⟩ <;> omega)
  have e1 := t_mul (a := t) (b := s) (by omega) (by omega)
  have e2 := t_add (a := a) (b := t * s) (by omega) (by omega)
  have e3 := t_add (a := a + t * s) (b := f) (by omega) (by omega)
  refine ⟨?_, by rw [vp_in_iff]; omega⟩
  rw [t_cl, e3, e2, e1, ef]
  omega
theorem pa_inj {T S t f t' f' : Nat} (hf : f < S) (hf' : f' < S) (e : T + t * S + f = T + t' * S + f') : t = t' ∧ f = f' := by
  have h1 : ¬ t < t' := fun h => by
    have := Nat.mul_le_mul_right S (Nat.succ_le_of_lt h)
    rw [Nat.succ_mul] at this
    omega
  have h2 : ¬ t' < t := fun h => by
    have := Nat.mul_le_mul_right S (Nat.succ_le_of_lt h)
    rw [Nat.succ_mul] at this
    omega
  have : t = t' := by omega
  subst this
  exact ⟨rfl, by omega⟩
theorem kp_get (hq : kV q) (ho : kiM q o) (hC : CO x) (hG : MG x o) (t f : Int32) {T K : Nat} (et : t.toInt = T) (ef : f.toInt = K) (hT : T < 6) (hK : K < 32) (h : F (rg x o T K) x) : KT G q d zk_X5_get 0 [(0, vr o), (1, vi t), (2, vi f)] [] x (ri F) := by
  obtain ⟨b1, b2, -⟩ := MG_b hC hG
  obtain ⟨e1, e2⟩ := pa_ix et ef b1 (s := x.1 o 8) (by omega) hT hK
  refine kg_X5_get_0 hq ho _ _ ⟨e2, ri_i ?_⟩
  rw [e1]; exact h
theorem kp_set (hq : kV q) (ho : kiM q o) (hC : CO x) (hG : MG x o) (t f v : Int32) {T K : Nat} (et : t.toInt = T) (ef : f.toInt = K) (hT : T < 6) (hK : K < 32) (h : ∀ y, y = si x (o + 5) (pa x o T K) v → Fv y) : KT G q d zk_X5_set 0 [(0, vr o), (1, vi t), (2, vi f), (3, vi v)] [] x (rv Fv) := by
  obtain ⟨b1, b2, -⟩ := MG_b hC hG
  obtain ⟨e1, e2⟩ := pa_ix et ef b1 (s := x.1 o 8) (by omega) hT hK
  refine kg_X5_set_0 hq ho _ _ _ ⟨e2, fun y ey => rv_i (h y ?_)⟩
  rw [ey, e1]; rfl
/-- what acts change -/
def sMk (o c k : Nat) : Prop := c = o + 5 ∨ (c = o ∧ k = 14) ∨ c = o + 20 ∨ (c = 60 ∧ k = 5) ∨ c = 65
theorem CO_M (hO : o = 120 ∨ o = 220) (hC : CO x) (f : fm (sMk o) x y) : CO y := CO_fm hC (fun c k hc => f c k (by unfold sMk; omega))
theorem MG_M (hO : o = 120 ∨ o = 220) (hG : MG x o) (f : fm (sMk o) x y) : MG y o := by
  unfold MG at hG ⊢
  rw [f o 3 (by unfold sMk; omega), f o 5 (by unfold sMk; omega), f o 6 (by unfold sMk; omega), f o 7 (by unfold sMk; omega), f o 8 (by unfold sMk; omega), f o 9 (by unfold sMk; omega), f 60 6 (by unfold sMk; omega), f 60 9 (by unfold sMk; omega), f 60 13 (by unfold sMk; omega), f 60 10 (by unfold sMk; omega)]
  exact hG
/-- a field is set: the others stay -/
theorem rg_set (hO : o = 120 ∨ o = 220) (hC : CO x) (hG : MG x o) {T K t k : Nat} {v : Int32} (hK : (K : Int) < (x.1 o 8).toInt) (hk : (k : Int) < (x.1 o 8).toInt) (e : y = si x (o + 5) (pa x o T K) v) : rg y o t k = if t = T ∧ k = K then v else rg x o t k := by
  have hp : pa y o t k = pa x o t k := by
    unfold pa; rw [e, si_cell (by omega)]
  unfold rg
  rw [hp, e, si_get]
  by_cases h : t = T ∧ k = K
  · rw [if_pos h, if_pos ⟨rfl, by rw [h.1, h.2]⟩]
  · rw [if_neg h, if_neg (fun q => h ?_)]
    exact pa_inj (by omega) (by omega) q.2
/-- a cell or lock is set: fields stay -/
theorem rg_low {j t k : Nat} {v : Int32} (hO : o = 120 ∨ o = 220) (hj : (j : Int) < (x.1 o 7).toInt) (e : y = si x (o + 5) j v) : rg y o t k = rg x o t k := by
  have hp : pa y o t k = pa x o t k := by
    unfold pa; rw [e, si_cell (by omega)]
  unfold rg
  rw [hp, e, si_get, if_neg (fun q => ?_)]
  have := q.2
  unfold pa at this
  omega
/-- nothing of the row changes -/
theorem rg_eq (hO : o = 120 ∨ o = 220) (f : fm (fun c k => (c = o ∧ (k = 13 ∨ k = 14)) ∨ c = o + 20 ∨ (o + 11 ≤ c ∧ c ≤ o + 13) ∨ (c = 60 ∧ k = 5) ∨ c = 65) x y) (t k : Nat) : rg y o t k = rg x o t k := by
  unfold rg pa
  rw [f o 7 (by omega), f o 8 (by omega), f (o + 5) _ (by omega)]
/-- a thread stands well -/
def TA (x : gd) (o t : Nat) : Prop := (0 ≤ (rg x o t 2).toInt ∧ (rg x o t 2).toInt < ssm x) ∧ (0 ≤ (rg x o t 7).toInt ∧ (rg x o t 7).toInt ≤ 8) ∧ (¬ x.1 o 3 = 1 → rg x o t 7 = 0) ∧ (∀ j : Nat, (j : Int) < (rg x o t 7).toInt → 0 ≤ (rg x o t ((x.1 o 9).toInt.toNat + 2 * j)).toInt ∧ (rg x o t ((x.1 o 9).toInt.toNat + 2 * j)).toInt < (x.1 60 6).toInt) ∧ (rg x o t 0 = 0 → rg x o t 3 = 0)
def TGo (x : gd) (o t : Nat) : Prop := rg x o t 0 = 1 → sop x (rg x o t 2).toInt.toNat < 16 ∧ (¬ rg x o t 3 = 0 → sop x (rg x o t 2).toInt.toNat = 7)
def MM (x : gd) (o : Nat) : Prop := CO x ∧ MG x o ∧ ∀ t : Nat, (t : Int) < (x.1 60 10).toInt → TA x o t ∧ TGo x o t
/-- but for the thread that settles -/
def MS (R : Nat → Nat → Int32) (x : gd) (o T : Nat) : Prop := CO x ∧ MG x o ∧ (∀ t : Nat, (t : Int) < (x.1 60 10).toInt → TA x o t ∧ (t ≠ T → TGo x o t)) ∧ ∀ t k : Nat, t ≠ T → (k : Int) < (x.1 o 8).toInt → rg x o t k = R t k
/-- both rows' fields are alike, and the code -/
theorem TA_eq (hO : o = 120 ∨ o = 220) {t : Nat} (f : fm (sMk o) x y) (h : TA x o t) (e : ∀ k, rg y o t k = rg x o t k) : TA y o t := by
  unfold TA ssm at h ⊢
  rw [e, e, e, e, f 80 9 (by unfold sMk; omega), f o 3 (by unfold sMk; omega), f o 9 (by unfold sMk; omega), f 60 6 (by unfold sMk; omega)]
  refine ⟨h.1, h.2.1, h.2.2.1, fun j hj => ?_, h.2.2.2.2⟩
  rw [e]; exact h.2.2.2.1 j hj
theorem TGo_eq (hO : o = 120 ∨ o = 220) {t : Nat} (f : fm (sMk o) x y) (h : TGo x o t) (e : ∀ k, k < 8 → rg y o t k = rg x o t k) : TGo y o t := by
  unfold TGo sop at h ⊢
  rw [e 0 (by omega), e 2 (by omega), e 3 (by omega), f 81 _ (by unfold sMk; omega)]
  exact h
end KMA
end
section
/-! the class: a machine is looked at -/
section KML
variable {G : kG} {q : kP} {d : Nat} {x x0 y z : gd} {o : Nat} {F : Int32 → gd → Prop} {Fv : gd → Prop}
theorem MM_6 (hC : CO x) {t : Nat} (ht : (t : Int) < (x.1 60 10).toInt) : t < 6 := by have := hC.1.2.2.1.2; omega
theorem MM_st (hC : CO x) {t : Nat} (hA : TA x o t) : vp_in (rg x o t 2) 400 ∧ (rg x o t 2).toNatClampNeg = (rg x o t 2).toInt.toNat ∧ (((rg x o t 2).toInt.toNat : Nat) : Int) < ssm x := by
  have := hC.2.2.1.2
  have := hA.1
  exact ⟨by rw [vp_in_iff]; omega, rfl, by omega⟩
theorem kp_isGoing (hq : kV q) (ho : kiM q o) (hC : CO x) (hG : MG x o) (t : Int32) {T : Nat} (et : t.toInt = T) (hT : T < 6) (h1 : rg x o T 0 = 1 → F 1 x) (h0 : ¬ rg x o T 0 = 1 → F 0 x) : KT G q (d + 1) zk_X5_isGoing 0 [(0, vr o), (1, vi t)] [] x (ri F) :=
  kg_X5_isGoing_0 hq ho _ (kp_get hq ho hC hG _ _ et (show (0 : Int32).toInt = ((0 : Nat) : Int) from rfl) hT (by omega) ⟨fun c => ri_i (h0 c), fun c => ri_i (h1 c)⟩)
theorem kp_known (hq : kV q) (ho : kiM q o) (hC : CO x) (hG : MG x o) (t : Int32) {T : Nat} (et : t.toInt = T) (hT : T < 6) (hA : TA x o T) (h : ∀ r : Int32, 0 ≤ r.toInt → r.toInt ≤ 8 → F r x) : KT G q (d + 1) zk_X5_known 0 [(0, vr o), (1, vi t)] [] x (ri F) := by
  have p17 : KT G q (d + 1) zk_X5_known 17 [(0, vr o), (1, vi t)] [] x (ri F) := kg_X5_known_17 hq ho _ (kp_get hq ho hC hG _ _ et (show (2 : Int32).toInt = ((2 : Nat) : Int) from rfl) hT (by omega) (by
    obtain ⟨v, e, l⟩ := MM_st hC hA
    refine ⟨v, ri_i ?_⟩
    rw [e]
    have := (hC.2.2.2.1 _ l).2.2.1
    exact h _ this.1 this.2))
  exact kg_X5_known_0 hq ho _ (kp_get hq ho hC hG _ _ et (show (0 : Int32).toInt = ((0 : Nat) : Int) from rfl) hT (by omega) ⟨fun _ => p17, fun _ => ⟨fun _ => ri_i (h _ (by decide) (by decide)), fun _ => p17⟩⟩)
theorem kp_lineOf (hq : kV q) (ho : kiM q o) (hC : CO x) (hG : MG x o) (t : Int32) {T : Nat} (et : t.toInt = T) (hT : T < 6) (hA : TA x o T) (h : ∀ r : Int32, F r x) : KT G q (d + 2) zk_X5_lineOf 0 [(0, vr o), (1, vi t)] [] x (ri F) := by
  have p : KT G q (d + 1) zk_X5_get 0 [(0, vr o), (1, vi t), (2, vi 2)] [] x (ri (fun r5 x4 => vp_in r5 400 ∧ ri F (some (vi (x4.1 82 (r5 : Int32).toNatClampNeg))) x4)) := kp_get hq ho hC hG _ _ et (show (2 : Int32).toInt = ((2 : Nat) : Int) from rfl) hT (by omega) ⟨(MM_st hC hA).1, ri_i (h _)⟩
  exact kg_X5_lineOf_0 hq ho _ (kp_isGoing hq ho hC hG t et hT (fun _ => ⟨fun _ => ri_i (h _), fun _ => p⟩) (fun _ => ⟨fun _ => ri_i (h _), fun _ => p⟩))
theorem kp_sortOf (hq : kV q) (ho : kiM q o) (hC : CO x) (hG : MG x o) (t : Int32) {T : Nat} (et : t.toInt = T) (hT : T < 6) (hA : TA x o T) (h0 : rg x o T 3 = 0 → F (x.1 81 (rg x o T 2).toInt.toNat) x) (h1 : ¬ rg x o T 3 = 0 → F 15 x) : KT G q (d + 1) zk_X5_sortOf 0 [(0, vr o), (1, vi t)] [] x (ri F) :=
  kg_X5_sortOf_0 hq ho _ (kp_get hq ho hC hG _ _ et (show (3 : Int32).toInt = ((3 : Nat) : Int) from rfl) hT (by omega) ⟨fun c => kp_get hq ho hC hG _ _ et (show (2 : Int32).toInt = ((2 : Nat) : Int) from rfl) hT (by omega) ⟨(MM_st hC hA).1, ri_i (h0 c)⟩, fun c => ri_i (h1 c)⟩)
theorem lk_ix (hC : CO x) (hG : MG x o) {l : Int32} (h0 : 0 ≤ l.toInt) (h1 : l.toInt < (x.1 60 9).toInt) : (x.1 o 6 + 2 * l).toInt = (x.1 60 6).toInt + 2 * l.toInt ∧ (x.1 o 6 + 2 * l + 1).toInt = (x.1 60 6).toInt + 2 * l.toInt + 1 ∧ (x.1 60 6).toInt + 2 * l.toInt + 1 < (x.1 o 7).toInt ∧ 0 ≤ (x.1 60 6).toInt + 2 * l.toInt ∧ (x.1 o 7).toInt ≤ 36 := by
  have k1 : (1 : Int32).toInt = 1 := rfl
  have k2 : (2 : Int32).toInt = 2 := rfl
  obtain ⟨g1, g2, g3, -⟩ := hG
  obtain ⟨⟨c1, c2, -⟩, -⟩ := hC
  have e1 : (2 * l).toInt = 2 * l.toInt := by rw [t_mul (by rw [k2]; omega) (by rw [k2]; omega), k2]
  have e2 : (x.1 o 6 + 2 * l).toInt = (x.1 60 6).toInt + 2 * l.toInt := by rw [t_add (by omega) (by omega)]; omega
  have e3 : (x.1 o 6 + 2 * l + 1).toInt = (x.1 60 6).toInt + 2 * l.toInt + 1 := by rw [t_add (by rw [k1]; omega) (by rw [k1]; omega), k1, e2]
  exact ⟨e2, e3, by omega, by omega, by omega⟩
theorem kp_holder (hq : kV q) (ho : kiM q o) (hC : CO x) (hG : MG x o) (l : Int32) (h0 : 0 ≤ l.toInt) (h1 : l.toInt < (x.1 60 9).toInt) (h : ∀ r : Int32, F r x) : KT G q d zk_X5_holder 0 [(0, vr o), (1, vi l)] [] x (ri F) := by
  obtain ⟨e1, e2, e3, e4, e5⟩ := lk_ix hC hG h0 h1
  exact kg_X5_holder_0 hq ho _ ⟨by rw [vp_in_iff]; omega, ri_i (h _)⟩
theorem kp_often (hq : kV q) (ho : kiM q o) (hC : CO x) (hG : MG x o) (l : Int32) (h0 : 0 ≤ l.toInt) (h1 : l.toInt < (x.1 60 9).toInt) (h : ∀ r : Int32, F r x) : KT G q d zk_X5_often 0 [(0, vr o), (1, vi l)] [] x (ri F) := by
  obtain ⟨e1, e2, e3, e4, e5⟩ := lk_ix hC hG h0 h1
  exact kg_X5_often_0 hq ho _ ⟨by rw [vp_in_iff]; omega, ri_i (h _)⟩
theorem kp_waiters (hq : kV q) (ho : kiM q o) (hC : CO x) (hG : MG x o) (l : Int32) (h : ∀ r : Int32, F r x) : KT G q (d + 1) zk_X5_waiters 0 [(0, vr o), (1, vi l)] [] x (ri F) := by
  have hb := hC.1.2.2.1
  have loop : ∀ (n k : Nat) (a i : Int32), i.toInt = k → (x.1 60 10).toInt - k ≤ n → KT G q (d + 1) zk_X5_waiters 4 [(0, vr o), (1, vi l), (2, vi a), (3, vi i)] [] x (ri F) := by
    intro n
    induction n with
    | zero =>
      intro k a i ei hn
      refine kg_X5_waiters_4 hq ho _ _ _ ⟨fun _ => ri_i (h _), fun c => ?_⟩
      exfalso; rw [t_le] at c; omega
    | succ n ih =>
      intro k a i ei hn
      refine kg_X5_waiters_4 hq ho _ _ _ ⟨fun _ => ri_i (h _), fun c => ?_⟩
      rw [t_le] at c
      have e1 : (i + 1).toInt = ((k + 1 : Nat) : Int) := by rw [t_add (by show _ ≤ _ + (1 : Int); omega) (by show _ + (1 : Int) ≤ _; omega), ei]; rfl
      exact kp_get hq ho hC hG _ _ ei (show (3 : Int32).toInt = ((3 : Nat) : Int) from rfl) (by omega) (by omega) ⟨fun _ => ih (k + 1) _ _ e1 (by push_cast; omega), fun _ => kp_get hq ho hC hG _ _ ei (show (5 : Int32).toInt = ((5 : Nat) : Int) from rfl) (by omega) (by omega) ⟨fun _ => ih (k + 1) _ _ e1 (by push_cast; omega), fun _ => ih (k + 1) _ _ e1 (by push_cast; omega)⟩⟩
  exact kg_X5_waiters_0 hq ho _ (loop 6 0 _ _ rfl (by omega))
theorem lt_ix (hC : CO x) (hG : MG x o) {j : Int32} {J : Nat} (ej : j.toInt = J) (hJ : J < 8) : (x.1 o 9 + 2 * j).toInt = (((x.1 o 9).toInt.toNat + 2 * J : Nat) : Int) ∧ (x.1 o 9 + 2 * j + 1).toInt = (((x.1 o 9).toInt.toNat + 2 * J + 1 : Nat) : Int) ∧ (x.1 o 9).toInt.toNat + 2 * J + 1 < 32 := by
  have k1 : (1 : Int32).toInt = 1 := rfl
  have k2 : (2 : Int32).toInt = 2 := rfl
  obtain ⟨-, -, b3, -⟩ := MG_b hC hG
  have e1 : (2 * j).toInt = 2 * J := by rw [t_mul (by rw [k2]; omega) (by rw [k2]; omega), k2, ej]
  have e2 : (x.1 o 9 + 2 * j).toInt = (x.1 o 9).toInt + 2 * J := by rw [t_add (by omega) (by omega), e1]
  have e3 : (x.1 o 9 + 2 * j + 1).toInt = (x.1 o 9).toInt + 2 * J + 1 := by rw [t_add (by rw [k1]; omega) (by rw [k1]; omega), k1, e2]
  exact ⟨by omega, by omega, by omega⟩
theorem kp_lateCell (hq : kV q) (ho : kiM q o) (hC : CO x) (hG : MG x o) (t j : Int32) {T J : Nat} (et : t.toInt = T) (hT : T < 6) (ej : j.toInt = J) (hJ : J < 8) (h : F (rg x o T ((x.1 o 9).toInt.toNat + 2 * J)) x) : KT G q (d + 1) zk_X5_lateCell 0 [(0, vr o), (1, vi t), (2, vi j)] [] x (ri F) := by
  obtain ⟨e1, e2, e3⟩ := lt_ix hC hG ej hJ
  exact kg_X5_lateCell_0 hq ho _ _ (kp_get hq ho hC hG _ _ et e1 hT (by omega) (ri_i h))
/-- what looking changes -/
def sLk (o c k : Nat) : Prop := (c = o ∧ k = 14) ∨ (c = 60 ∧ k = 5) ∨ c = 65
theorem sLk_M {c k : Nat} (h : sLk o c k) : sMk o c k := by unfold sLk at h; unfold sMk; omega
theorem rg_Lk (hO : o = 120 ∨ o = 220) (f : fm (sLk o) x y) (t k : Nat) : rg y o t k = rg x o t k := rg_eq hO (fm_w f (fun c k q => by unfold sLk at q; omega)) t k
theorem MM_Lk (hO : o = 120 ∨ o = 220) (f : fm (sLk o) x y) (h : MM x o) : MM y o := by
  have g := fm_w f (fun c k q => sLk_M q)
  refine ⟨CO_M hO h.1 g, MG_M hO h.2.1 g, fun t ht => ?_⟩
  rw [f 60 10 (by unfold sLk; omega)] at ht
  exact ⟨TA_eq hO g (h.2.2 t ht).1 (rg_Lk hO f t), TGo_eq hO g (h.2.2 t ht).2 (fun k _ => rg_Lk hO f t k)⟩
end KML
end
section
/-! the class: a thread settles -/
section KSE
variable {G : kG} {q : kP} {d : Nat} {x x0 y z : gd} {o : Nat} {R : Nat → Nat → Int32} {F : Int32 → gd → Prop} {Fv : gd → Prop}
def sSt (o c k : Nat) : Prop := c = o + 5 ∨ (c = 60 ∧ k = 5) ∨ c = 65
theorem sSt_M {c k : Nat} (h : sSt o c k) : sMk o c k := by unfold sSt at h; unfold sMk; omega
theorem TA_set (hO : o = 120 ∨ o = 220) (hC : CO x) (hG : MG x o) {T K t : Nat} {v : Int32} (hK : (K : Int) < (x.1 o 9).toInt) (h7 : K ≠ 7) (e : y = si x (o + 5) (pa x o T K) v) (hA : TA x o t) (c2 : t = T → K = 2 → 0 ≤ v.toInt ∧ v.toInt < ssm x) (c0 : t = T → K = 0 → v = 0 → rg x o T 3 = 0) (c3 : t = T → K = 3 → rg x o T 0 = 0 → v = 0) : TA y o t := by
  obtain ⟨b1, b2, b3, b4, b5, -⟩ := MG_b hC hG
  have g : ∀ k : Nat, (k : Int) < (x.1 o 8).toInt → rg y o t k = if t = T ∧ k = K then v else rg x o t k := fun k hk => rg_set hO hC hG (by omega) hk e
  have f : ∀ c k, c ≠ o + 5 → y.1 c k = x.1 c k := fun c k hc => by rw [e, si_cell hc]
  obtain ⟨a1, a2, a3, a4, a5⟩ := hA
  have e7 : rg y o t 7 = rg x o t 7 := by rw [g 7 (by omega), if_neg (fun q => h7 q.2.symm)]
  unfold TA ssm
  rw [e7, f 80 9 (by omega), f o 3 (by omega), f o 9 (by omega), f 60 6 (by omega)]
  refine ⟨?_, a2, a3, fun j hj => ?_, fun c => ?_⟩
  · rw [g 2 (by omega)]
    by_cases h : t = T ∧ 2 = K
    · rw [if_pos h]; exact c2 h.1 h.2.symm
    · rw [if_neg h]; exact a1
  · have hw : x.1 o 3 = 1 := by
      by_cases hw : x.1 o 3 = 1
      · exact hw
      · have h0 := a3 hw
        rw [h0] at hj
        have : (0 : Int32).toInt = 0 := rfl
        omega
    have := b5 hw
    rw [g _ (by omega), if_neg (fun q => by omega)]
    exact a4 j hj
  · rw [g 3 (by omega)]
    rw [g 0 (by omega)] at c
    by_cases h : t = T ∧ 3 = K
    · rw [if_pos h]
      rw [if_neg (fun q => by omega)] at c
      exact c3 h.1 h.2.symm (by rw [← h.1]; exact c)
    · rw [if_neg h]
      by_cases h0 : t = T ∧ 0 = K
      · rw [if_pos h0] at c
        rw [h0.1]; exact c0 h0.1 h0.2.symm c
      · rw [if_neg h0] at c
        exact a5 c
theorem TGo_set (hO : o = 120 ∨ o = 220) (hC : CO x) (hG : MG x o) {T K t : Nat} {v : Int32} (hK : (K : Int) < (x.1 o 8).toInt) (e : y = si x (o + 5) (pa x o T K) v) (hh : t ≠ T ∨ (K ≠ 0 ∧ K ≠ 2 ∧ K ≠ 3)) (h : TGo x o t) : TGo y o t := by
  obtain ⟨b1, b2, -⟩ := MG_b hC hG
  have g : ∀ k : Nat, k = 0 ∨ k = 2 ∨ k = 3 → rg y o t k = rg x o t k := fun k hk => by
    rw [rg_set hO hC hG hK (by omega) e, if_neg (fun q => by omega)]
  unfold TGo sop at h ⊢
  rw [g 0 (by omega), g 2 (by omega), g 3 (by omega), e, si_cell (by omega)]
  exact h
theorem st_f {z9 : Nat} {v : Int32} (e : y = si x (o + 5) z9 v) : fm (sSt o) x y := by rw [e]; exact fm_si (fm_rf _ _) (Or.inl rfl)
theorem MS_set (hO : o = 120 ∨ o = 220) {T K : Nat} {v : Int32} (h : MS R x o T) (hK : (K : Int) < (x.1 o 9).toInt) (h7 : K ≠ 7) (e : y = si x (o + 5) (pa x o T K) v) (c2 : K = 2 → 0 ≤ v.toInt ∧ v.toInt < ssm x) (c0 : K = 0 → v = 0 → rg x o T 3 = 0) (c3 : K = 3 → rg x o T 0 = 0 → v = 0) : MS R y o T := by
  have g := fm_w (st_f e) (fun c k q => sSt_M q)
  obtain ⟨b1, b2, b3, b4, -⟩ := MG_b h.1 h.2.1
  refine ⟨CO_M hO h.1 g, MG_M hO h.2.1 g, fun t ht => ?_, fun t k hne hk => ?_⟩
  · rw [g 60 10 (by unfold sMk; omega)] at ht
    exact ⟨TA_set hO h.1 h.2.1 hK h7 e (h.2.2.1 t ht).1 (fun _ => c2) (fun _ => c0) (fun _ => c3), fun hne => TGo_set hO h.1 h.2.1 (by omega) e (Or.inl hne) ((h.2.2.1 t ht).2 hne)⟩
  · rw [g o 8 (by unfold sMk; omega)] at hk
    rw [rg_set hO h.1 h.2.1 (by omega) hk e, if_neg (fun q => hne q.1)]
    exact h.2.2.2 t k hne hk
theorem MS_St (hO : o = 120 ∨ o = 220) {T : Nat} (f : fm sWk x y) (h : MS R x o T) : MS R y o T := by
  have g : fm (sMk o) x y := fm_w f (fun c k q => by unfold sWk at q; unfold sMk; omega)
  have e : ∀ t k, rg y o t k = rg x o t k := fun t k => rg_eq hO (fm_w f (fun c k q => by unfold sWk at q; omega)) t k
  refine ⟨CO_M hO h.1 g, MG_M hO h.2.1 g, fun t ht => ?_, fun t k hne hk => ?_⟩
  · rw [g 60 10 (by unfold sMk; omega)] at ht
    exact ⟨TA_eq hO g (h.2.2.1 t ht).1 (e t), fun hne => TGo_eq hO g ((h.2.2.1 t ht).2 hne) (fun k _ => e t k)⟩
  · rw [g o 8 (by unfold sMk; omega)] at hk
    rw [e]; exact h.2.2.2 t k hne hk
theorem MS_MM {T9 : Nat} (h : MS R x o T9) (hT : (T9 : Int) < (x.1 60 10).toInt → TGo x o T9) : MM x o := ⟨h.1, h.2.1, fun t ht => ⟨(h.2.2.1 t ht).1, by
  by_cases e : t = T9
  · subst e; exact hT ht
  · exact (h.2.2.1 t ht).2 e⟩⟩
theorem MM_MS {T : Nat} (h : MM x o) : MS (rg x o) x o T := ⟨h.1, h.2.1, fun t ht => ⟨(h.2.2 t ht).1, fun _ => (h.2.2 t ht).2⟩, fun _ _ _ _ => rfl⟩
def rk (x : gd) (s : Nat) : Nat := if sop x s = 17 then 0 else 401 - s
end KSE
end
section
/-! the class: what becomes of a thread that settles -/
section KSF
variable {G : kG} {q : kP} {d : Nat} {x x0 y z : gd} {o : Nat} {R : Nat → Nat → Int32} {F : Int32 → gd → Prop} {Fv : gd → Prop} {C : gCo}
theorem SUk_f {r : Int32} {P : List (Int32 × Int32)} (h : SUk x r P) (f : ∀ c k, (60 ≤ c ∧ c < 90 ∧ ¬ (c = 60 ∧ k = 5) ∧ c ≠ 65) → y.1 c k = x.1 c k) : SUk y r P := by
  obtain ⟨h1, h2, h3, h4⟩ := h
  refine ⟨h1, by rw [f 60 3 (by omega)]; exact h2, fun i q hq => ?_, by rw [f 62 _ (by omega)]; exact h4⟩
  rw [f 62 _ (by omega), f 63 _ (by omega)]
  exact h3 i q hq
theorem CK_f (h : CK x C) (f : ∀ c k, (60 ≤ c ∧ c < 90 ∧ ¬ (c = 60 ∧ k = 5) ∧ c ≠ 65) → y.1 c k = x.1 c k) : CK y C := by
  obtain ⟨⟨a1, a2⟩, ⟨b1, b2⟩, ⟨c1, c2⟩, ⟨d1, d2⟩, ⟨e1, e2⟩⟩ := h
  have ks : ∀ {v : Int32} {o : Option (List gQ)}, kNs x v o → kNs y v o := fun {v o} h => by
    cases o with
    | none => exact h
    | some Q => exact SUk_f h f
  refine ⟨⟨by rw [f 80 9 (by omega)]; exact a1, fun j st hj => ?_⟩, ⟨by rw [f 60 10 (by omega)]; exact b1, fun t q hq => by rw [f 72 _ (by omega), f 73 _ (by omega)]; exact b2 t q hq⟩, ⟨by rw [f 60 6 (by omega)]; exact c1, fun j q hq => by rw [f 68 _ (by omega), f 69 _ (by omega)]; exact c2 j q hq⟩, ⟨by rw [f 60 14 (by omega)]; exact d1, fun k Q hQ => by rw [f 76 _ (by omega)]; exact SUk_f (d2 k Q hQ) f⟩, ⟨by rw [f 60 16 (by omega)]; exact e1, fun k Q hQ => by rw [f 78 _ (by omega)]; exact SUk_f (e2 k Q hQ) f⟩⟩
  obtain ⟨g1, g2, g3, g4, g5, g6, g7, g8, g9⟩ := a2 j st hj
  unfold kN
  rw [f 81 _ (by omega), f 83 _ (by omega), f 84 _ (by omega), f 85 _ (by omega), f 86 _ (by omega), f 87 _ (by omega), f 88 _ (by omega), f 89 _ (by omega)]
  exact ⟨g1, g2, g3, g4, g5, g6, ks g7, ks g8, ks g9⟩
theorem CK_St (hO : o = 120 ∨ o = 220) (h : CK x C) (f : fm (sSt o) x y) : CK y C := CK_f h (fun c k hc => f c k (by unfold sSt; omega))
theorem kf_localsAt (hq : kV q) (ho : kiM q o) (hC : CO x) (hG : MG x o) (t : Int32) {T : Nat} (et : t.toInt = T) (hT : T < 6) (h : ∀ r : Int32, r.toInt = (pa x o T 8 : Nat) → r.toInt ≤ 204 → F r x) : KT G q d zk_X5_localsAt 0 [(0, vr o), (1, vi t)] [] x (ri F) := by
  obtain ⟨b1, b2, -⟩ := MG_b hC hG
  obtain ⟨e1, e2⟩ := pa_ix et (show (8 : Int32).toInt = ((8 : Nat) : Int) from rfl) b1 (s := x.1 o 8) (by omega) hT (by omega)
  have v := vp_in_iff.mp e2
  refine kg_X5_localsAt_0 hq ho _ (ri_i (h _ ?_ ?_))
  · rw [t_cl] at e1
    unfold pa
    omega
  · rw [t_cl] at e1
    have : T * (x.1 o 8).toInt.toNat ≤ 5 * 32 := Nat.mul_le_mul (by omega) (by omega)
    omega
/-- cells and locks stay; a thread's other fields stay -/
def lowE (x y : gd) (o : Nat) : Prop := ∀ j : Nat, (j : Int) < (x.1 o 7).toInt → y.1 (o + 5) j = x.1 (o + 5) j
def sUx (x y : gd) (o T : Nat) : Prop := (∀ k, 3 ≤ k → k < 8 → rg y o T k = rg x o T k) ∧ lowE x y o
theorem lowE_tr (hO : o = 120 ∨ o = 220) (f : fm (sSt o) x y) (a : lowE x y o) (b : lowE y z o) : lowE x z o := fun j hj => (b j (by rw [f o 7 (by unfold sSt; omega)]; exact hj)).trans (a j hj)
theorem sUx_tr {T : Nat} (hO : o = 120 ∨ o = 220) (f : fm (sSt o) x y) (a : sUx x y o T) (b : sUx y z o T) : sUx x z o T := ⟨fun k k3 k8 => (b.1 k k3 k8).trans (a.1 k k3 k8), lowE_tr hO f a.2 b.2⟩
theorem sUx_rf {T : Nat} : sUx x x o T := ⟨fun _ _ _ => rfl, fun _ _ => rfl⟩
theorem aftN_le {st : gNs} : st.2.1.length ≤ (aftN st).length ∧ (aftN st).length ≤ st.2.1.length + 1 := by
  unfold aftN
  split
  · exact ⟨Nat.le_succ _, Nat.le_refl _⟩
  · exact ⟨Nat.le_refl _, Nat.le_succ _⟩
theorem ow1_next {S : List gNs} {me : Int32} {s s2 : Nat} {st : gNs} {lv lv2 : Nat → Int32} (hn : NS S s st) (h16 : 16 ≤ st.1) (h : ow1 me s st lv = .inr (s2, lv2)) : ∃ st', S[s2]? = some st' ∧ st'.2.1.length ≤ (aftN st).length := by
  unfold ow1 at h
  split at h
  · cases h
  · next c1 =>
    have nx : ¬ st.1 = 20 → ∃ st', S[s + 1]? = some st' ∧ st'.2.1.length ≤ (aftN st).length := fun c20 => by
      obtain ⟨st', a1, a2⟩ := hn.2.1 (by omega)
      exact ⟨st', a1, a2.length_le⟩
    have tg : st.1 = 17 ∨ st.1 = 20 → ∃ st', S[st.2.2.2.1.getD 0]? = some st' ∧ st'.2.1.length ≤ (aftN st).length := fun c => by
      obtain ⟨n, st', a0, a1, a2⟩ := hn.2.2.1 c
      rw [a0]
      exact ⟨st', a1, Nat.le_trans a2.length_le aftN_le.1⟩
    split at h
    · next c2 =>
      cases h
      exact tg (Or.inr c2)
    · next c2 =>
      split at h
      · cases h
      · split at h
        · cases h
        · cases h
          split
          · next c3 => exact tg (Or.inl c3.1)
          · exact nx c2
end KSF
end
section
/-! the class: acts -/
section KAC
variable {G : kG} {q : kP} {d : Nat} {x x0 y z : gd} {o : Nat} {F : Int32 → gd → Prop} {Fv : gd → Prop}
/-- a field of a thread is put, the machine stays well -/
theorem MM_put (hO : o = 120 ∨ o = 220) (h : MM x o) {T K : Nat} {v : Int32} (hK : (K : Int) < (x.1 o 8).toInt) (e : y = si x (o + 5) (pa x o T K) v) (h0 : K ≠ 0 ∧ K ≠ 2) (h3 : K = 3 → v = 0 ∨ (rg x o T 0 = 1 ∧ sop x (rg x o T 2).toInt.toNat = 7)) (h7 : K = 7 → (0 ≤ v.toInt ∧ v.toInt ≤ 8) ∧ (¬ x.1 o 3 = 1 → v = 0) ∧ ∀ j : Nat, (j : Int) < v.toInt → 0 ≤ (rg x o T ((x.1 o 9).toInt.toNat + 2 * j)).toInt ∧ (rg x o T ((x.1 o 9).toInt.toNat + 2 * j)).toInt < (x.1 60 6).toInt) (h9 : ∀ j : Nat, (j : Int) < (rg x o T 7).toInt → K = (x.1 o 9).toInt.toNat + 2 * j → 0 ≤ v.toInt ∧ v.toInt < (x.1 60 6).toInt) : MM y o := by
  obtain ⟨hC, hG, hA⟩ := h
  obtain ⟨b1, b2, b3, b4, b5, -⟩ := MG_b hC hG
  have gM := fm_w (st_f e) (fun c k q => sSt_M q)
  have f : ∀ c k, c ≠ o + 5 → y.1 c k = x.1 c k := fun c k hc => by rw [e, si_cell hc]
  refine ⟨CO_M hO hC gM, MG_M hO hG gM, fun t ht => ?_⟩
  rw [f 60 10 (by omega)] at ht
  obtain ⟨⟨a1, a2, a3, a4, a5⟩, ag⟩ := hA t ht
  have g : ∀ k : Nat, (k : Int) < (x.1 o 8).toInt → rg y o t k = if t = T ∧ k = K then v else rg x o t k := fun k hk => rg_set hO hC hG hK hk e
  have g0 : rg y o t 0 = rg x o t 0 := by rw [g 0 (by omega), if_neg (fun q => h0.1 q.2.symm)]
  have g2 : rg y o t 2 = rg x o t 2 := by rw [g 2 (by omega), if_neg (fun q => h0.2 q.2.symm)]
  refine ⟨?_, ?_⟩
  · unfold TA ssm
    rw [g0, g2, f 80 9 (by omega), f o 3 (by omega), f o 9 (by omega), f 60 6 (by omega)]
    refine ⟨a1, ?_, ?_, ?_, ?_⟩
    · rw [g 7 (by omega)]
      by_cases hh : t = T ∧ 7 = K
      · rw [if_pos hh]; exact (h7 hh.2.symm).1
      · rw [if_neg hh]; exact a2
    · rw [g 7 (by omega)]
      by_cases hh : t = T ∧ 7 = K
      · rw [if_pos hh]; exact (h7 hh.2.symm).2.1
      · rw [if_neg hh]; exact a3
    · intro j hj
      rw [g 7 (by omega)] at hj
      by_cases hh : t = T ∧ 7 = K
      · rw [if_pos hh] at hj
        obtain ⟨p1, p2, p3⟩ := h7 hh.2.symm
        have hw : x.1 o 3 = 1 := by
          by_cases hw : x.1 o 3 = 1
          · exact hw
          · have h0 := p2 hw
            rw [h0] at hj
            have : (0 : Int32).toInt = 0 := rfl
            omega
        have := b5 hw
        rw [g _ (by omega), if_neg (fun q => by omega), hh.1]
        exact p3 j hj
      · rw [if_neg hh] at hj
        have hw : x.1 o 3 = 1 := by
          by_cases hw : x.1 o 3 = 1
          · exact hw
          · have h0 := a3 hw
            rw [h0] at hj
            have : (0 : Int32).toInt = 0 := rfl
            omega
        have := b5 hw
        rw [g _ (by omega)]
        by_cases h2 : t = T ∧ (x.1 o 9).toInt.toNat + 2 * j = K
        · rw [if_pos h2]; exact h9 j (by rw [← h2.1]; exact hj) h2.2.symm
        · rw [if_neg h2]; exact a4 j hj
    · intro c
      rw [g 3 (by omega)]
      by_cases hh : t = T ∧ 3 = K
      · rw [if_pos hh]
        rcases h3 hh.2.symm with e0 | ⟨e1, -⟩
        · exact e0
        · rw [hh.1, e1] at c; exact absurd c (by decide)
      · rw [if_neg hh]; exact a5 c
  · unfold TGo sop at *
    rw [g0, g2, f 81 _ (by omega), g 3 (by omega)]
    intro c
    refine ⟨(ag c).1, fun c3 => ?_⟩
    by_cases hh : t = T ∧ 3 = K
    · rw [if_pos hh] at c3
      rcases h3 hh.2.symm with e0 | ⟨-, e7⟩
      · exact absurd e0 c3
      · rw [hh.1]; exact e7
    · rw [if_neg hh] at c3; exact (ag c).2 c3
/-- cells of the row change, or what is no row -/
theorem MM_low (hO : o = 120 ∨ o = 220) (h : MM x o) (f : fm (sMk o) x y) (e : ∀ t k, rg y o t k = rg x o t k) : MM y o := by
  refine ⟨CO_M hO h.1 f, MG_M hO h.2.1 f, fun t ht => ?_⟩
  rw [f 60 10 (by unfold sMk; omega)] at ht
  exact ⟨TA_eq hO f (h.2.2 t ht).1 (e t), TGo_eq hO f (h.2.2 t ht).2 (fun k _ => e t k)⟩
end KAC
end
section
/-! the class: what acts do -/
section KDO
variable {G : kG} {q : kP} {d : Nat} {x x0 y z : gd} {o : Nat} {F : Int32 → gd → Prop} {Fv : gd → Prop}
/-- an act: status and step stay; of the deed only what S says changes -/
def AR (S : Nat → Prop) (x y : gd) (o : Nat) : Prop := MM y o ∧ fm (sMk o) x y ∧ (∀ t k : Nat, (k = 0 ∨ k = 2) → rg y o t k = rg x o t k) ∧ ∀ k, ¬ S k → y.1 (o + 20) k = x.1 (o + 20) k
theorem AR_tr {S : Nat → Prop} (a : AR S x y o) (b : AR S y z o) : AR S x z o := ⟨b.1, fm_tr a.2.1 b.2.1, fun t k h => (b.2.2.1 t k h).trans (a.2.2.1 t k h), fun k h => (b.2.2.2 k h).trans (a.2.2.2 k h)⟩
theorem AR_rf {S : Nat → Prop} (h : MM x o) : AR S x x o := ⟨h, fm_rf _ _, fun _ _ _ => rfl, fun _ _ => rfl⟩
theorem AR_w {S S' : Nat → Prop} (a : AR S x y o) (h : ∀ k, S k → S' k) : AR S' x y o := ⟨a.1, a.2.1, a.2.2.1, fun k hk => a.2.2.2 k (fun q => hk (h k q))⟩
theorem AR_deed {S : Nat → Prop} (hO : o = 120 ∨ o = 220) (h : MM x o) {k : Nat} {v : Int32} (hS : S k) (e : y = si x (o + 20) k v) : AR S x y o ∧ ∀ t j, rg y o t j = rg x o t j := by
  have f : fm (fun c j => c = o + 20 ∧ j = k) x y := by rw [e]; exact fm_si (fm_rf _ _) ⟨rfl, rfl⟩
  have fM : fm (sMk o) x y := fm_w f (fun c j q => by unfold sMk; omega)
  have r : ∀ t j, rg y o t j = rg x o t j := fun t j => rg_eq hO (fm_w f (fun c j q => by omega)) t j
  exact ⟨⟨MM_low hO h fM r, fM, fun t j _ => r t j, fun j hj => f _ _ (fun q => hj (by rw [q.2]; exact hS))⟩, r⟩
theorem AR_wk {S : Nat → Prop} (hO : o = 120 ∨ o = 220) (h : MM x o) (f : fm sWk x y) : AR S x y o ∧ ∀ t j, rg y o t j = rg x o t j := by
  have fM : fm (sMk o) x y := fm_w f (fun c j q => by unfold sWk at q; unfold sMk; omega)
  have r : ∀ t j, rg y o t j = rg x o t j := fun t j => rg_eq hO (fm_w f (fun c j q => by unfold sWk at q; omega)) t j
  exact ⟨⟨MM_low hO h fM r, fM, fun t j _ => r t j, fun j hj => f _ _ (by unfold sWk; omega)⟩, r⟩
theorem AR_row {S : Nat → Prop} (hO : o = 120 ∨ o = 220) (h : MM x o) (f : fm (fun c k => c = o + 5) x y) (r : ∀ t j, rg y o t j = rg x o t j) : AR S x y o := by
  have fM : fm (sMk o) x y := fm_w f (fun c j q => Or.inl q)
  exact ⟨MM_low hO h fM r, fM, fun t j _ => r t j, fun j hj => f _ _ (by omega)⟩
theorem AR_9 {S : Nat → Prop} (hO : o = 120 ∨ o = 220) (a : AR S x y o) : y.1 o 9 = x.1 o 9 ∧ y.1 60 10 = x.1 60 10 ∧ y.1 60 6 = x.1 60 6 := ⟨a.2.1 _ _ (by unfold sMk; omega), a.2.1 _ _ (by unfold sMk; omega), a.2.1 _ _ (by unfold sMk; omega)⟩
end KDO
end
section
/-! the class: a choice is performed -/
section KPF
variable {G : kG} {q : kP} {d : Nat} {x x0 y z : gd} {o : Nat} {F : Int32 → gd → Prop} {Fv : gd → Prop}
abbrev S346 : Nat → Prop := fun k => k = 2 ∨ k = 3 ∨ k = 4 ∨ k = 6
/-- the deed that was done -/
def DE (y : gd) (o : Nat) : Prop := gbool (y.1 (o + 20) 5) ∧ (y.1 (o + 20) 0 = -1 ∨ ((0 ≤ (y.1 (o + 20) 0).toInt ∧ (y.1 (o + 20) 0).toInt < (y.1 60 10).toInt) ∧ 0 ≤ (y.1 (o + 20) 1).toInt ∧ (y.1 (o + 20) 5 = 0 → ((y.1 (o + 20) 1).toInt ≤ 4 → 0 ≤ (y.1 (o + 20) 2).toInt ∧ (y.1 (o + 20) 2).toInt < (y.1 60 6).toInt) ∧ ((5 ≤ (y.1 (o + 20) 1).toInt ∧ (y.1 (o + 20) 1).toInt ≤ 8) ∨ (y.1 (o + 20) 1).toInt = 15 → 0 ≤ (y.1 (o + 20) 2).toInt ∧ (y.1 (o + 20) 2).toInt < (y.1 60 9).toInt) ∧ ((y.1 (o + 20) 1).toInt = 9 ∨ (y.1 (o + 20) 1).toInt = 10 → 0 ≤ (y.1 (o + 20) 2).toInt ∧ (y.1 (o + 20) 2).toInt < (y.1 60 10).toInt))))
/-- the choices that are listed -/
def LSk (x : gd) (o : Nat) : Prop := (0 ≤ (x.1 o 13).toInt ∧ (x.1 o 13).toInt ≤ 84) ∧ ∀ i : Nat, (i : Int) < (x.1 o 13).toInt → ∃ T : Nat, (x.1 (o + 11) i).toInt = T ∧ (T : Int) < (x.1 60 10).toInt ∧ ((x.1 (o + 12) i = -1 ∧ rg x o T 0 = 1) ∨ ∃ J : Nat, (x.1 (o + 12) i).toInt = J ∧ (J : Int) < (rg x o T 7).toInt)
theorem kp_deedClear (hq : kV q) (hd : kiD q o) (a b c : Int32) (h : ∀ y, fm (fun c k => c = o) x y → y.1 o 0 = a → y.1 o 1 = b → y.1 o 2 = c → y.1 o 5 = 0 → Fv y) : KT G q d zk_X1_clear 0 [(0, vr o), (1, vi a), (2, vi b), (3, vi c)] [] x (rv Fv) := by
  refine kg_X1_clear_0 hq hd _ _ _ (fun x1 e1 x2 e2 x3 e3 x4 e4 x5 e5 x6 e6 z ez => rv_i (h z ?_ ?_ ?_ ?_ ?_))
  · rw [ez, e6, e5, e4, e3, e2, e1]; exact fm_si (fm_si (fm_si (fm_si (fm_si (fm_si (fm_si (fm_rf _ _) rfl) rfl) rfl) rfl) rfl) rfl) rfl
  all_goals (rw [ez, e6, e5, e4, e3, e2, e1]; (simp only [si_get, sfl_get, Nat.reduceEqDiff, eq_self, and_false, false_and, and_true, true_and, if_true, if_false, reduceIte, reduceCtorEq]))
theorem MM_dc (hO : o = 120 ∨ o = 220) (h : MM x o) (f : fm (fun c k => c = o + 20) x y) : MM y o ∧ fm (sMk o) x y ∧ ∀ t k, rg y o t k = rg x o t k := by
  have fM : fm (sMk o) x y := fm_w f (fun c j q => by unfold sMk; omega)
  have r : ∀ t j, rg y o t j = rg x o t j := fun t j => rg_eq hO (fm_w f (fun c j q => by omega)) t j
  exact ⟨MM_low hO h fM r, fM, r⟩
end KPF
end
