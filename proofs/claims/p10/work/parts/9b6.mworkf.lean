/-! the model: what comes of a sum -/
theorem div_m1 (a : Int32) : a / -1 = -a := by
  have e : (-1 : Int32).toInt = -1 := rfl
  rw [t_eq, Int32.toInt_div, e, Int.tdiv_neg, Int.tdiv_one, Int32.toInt_neg]
theorem mod_m1 (a : Int32) : a - a / -1 * -1 = 0 := by
  rw [div_m1, Int32.neg_mul, Int32.mul_neg, Int32.mul_one, Int32.neg_neg, Int32.sub_self]
section DSF
variable {d : Nat} {S : gS} {x : gd} {F : Int32 → gd → gS → Prop} {Fv : gd → gS → Prop}
theorem ds_onef (v : Int32) (h : F (if v = 0 then 0 else 1) x S) : MD d z_one 0 [(0, vi v)] [] S x (Di F) := sd_one_0 _ ⟨fun c => Di_i (by rw [if_pos c] at h; exact h), fun c => Di_i (by rw [if_neg c] at h; exact h)⟩
theorem ds_reckonf {k : Int32} (hk : ¬ pst k = 0) (a b : Int32) (h : ∀ r x' S', (biQ k a b = some r ∧ x' = x ∧ S' = S) ∨ (biQ k a b = none ∧ x' = si x 0 82 1 ∧ S' = sadd S 0 82) → F r x' S') : MD (d + 1) z_reckon 0 [(0, vr 0), (1, vi k), (2, vi a), (3, vi b)] [] S x (Di F) := by
  have hm := pst_in hk
  have g : ∀ r, biQ k a b = some r → Di F (some (vi r)) x S := fun r e => Di_i (h r x S (Or.inl ⟨e, rfl, rfl⟩))
  have on : ∀ (s r : Int32), (if s = 0 then (0 : Int32) else 1) = r → biQ k a b = some r → MD d z_one 0 [(0, vi s)] [] S x (Di (fun r2 x1 S1 => Di F (some (vi r2)) x1 S1)) := fun s r e1 e2 => ds_onef s (by rw [e1]; exact g r e2)
  have i2 : ∀ w ∈ [(30 : Int32), 12, 51, 52, 53, 54, 55, 56, 57, 58, 59, 60, 28], (∀ u ∈ [(30 : Int32), (12 : Int32), (51 : Int32), (52 : Int32), (53 : Int32), (54 : Int32), (55 : Int32), (56 : Int32), (57 : Int32), (58 : Int32), (59 : Int32)], ¬ w = u) → w = 60 ∨ w = 28 := by decide
  refine sd_reckon_0 _ _ _ ⟨fun c => ?_, fun c => ?_, fun c => ?_, fun c => ?_, fun c => ?_, fun c => ?_, fun c => ?_, fun c => ?_, fun c => ?_, fun c => ?_, fun c => ?_, fun c => ?_⟩
  · subst c
    exact ⟨fun n => sd_reckon_113 _ (on 1 1 rfl (by show some (if a = 0 then _ else (1 : Int32)) = _; rw [if_neg n])), fun z => ⟨fun z2 => sd_reckon_113 _ (on 0 0 rfl (by show some (if a = 0 then (if b = 0 then (0 : Int32) else 1) else 1) = _; rw [if_pos z, if_pos z2])), fun n2 => sd_reckon_113 _ (on 1 1 rfl (by show some (if a = 0 then (if b = 0 then (0 : Int32) else 1) else 1) = _; rw [if_pos z, if_neg n2]))⟩⟩
  · subst c
    exact ⟨fun z => sd_reckon_130 _ (on 0 0 rfl (by show some (if a = 0 then (0 : Int32) else if b = 0 then 0 else 1) = _; rw [if_pos z])), fun n => ⟨fun z2 => sd_reckon_130 _ (on 0 0 rfl (by show some (if a = 0 then (0 : Int32) else if b = 0 then 0 else 1) = _; rw [if_neg n, if_pos z2])), fun n2 => sd_reckon_130 _ (on 1 1 rfl (by show some (if a = 0 then (0 : Int32) else if b = 0 then 0 else 1) = _; rw [if_neg n, if_neg n2]))⟩⟩
  · subst c
    exact ⟨fun n => sd_reckon_144 _ (on 0 0 rfl (by show some (if a = b then (1 : Int32) else 0) = _; rw [if_neg n])), fun z => sd_reckon_144 _ (on 1 1 rfl (by show some (if a = b then (1 : Int32) else 0) = _; rw [if_pos z]))⟩
  · subst c
    exact ⟨fun z => sd_reckon_158 _ (on 0 0 rfl (by show some (if a = b then (0 : Int32) else 1) = _; rw [if_pos z])), fun n => sd_reckon_158 _ (on 1 1 rfl (by show some (if a = b then (0 : Int32) else 1) = _; rw [if_neg n]))⟩
  · subst c
    exact ⟨fun z => sd_reckon_172 _ (on 0 0 rfl (by show some (if b ≤ a then (0 : Int32) else 1) = _; rw [if_pos z])), fun n => sd_reckon_172 _ (on 1 1 rfl (by show some (if b ≤ a then (0 : Int32) else 1) = _; rw [if_neg n]))⟩
  · subst c
    exact ⟨fun z => sd_reckon_186 _ (on 0 0 rfl (by show some (if b < a then (0 : Int32) else 1) = _; rw [if_pos z])), fun n => sd_reckon_186 _ (on 1 1 rfl (by show some (if b < a then (0 : Int32) else 1) = _; rw [if_neg n]))⟩
  · subst c
    exact ⟨fun z => sd_reckon_200 _ (on 0 0 rfl (by show some (if a ≤ b then (0 : Int32) else 1) = _; rw [if_pos z])), fun n => sd_reckon_200 _ (on 1 1 rfl (by show some (if a ≤ b then (0 : Int32) else 1) = _; rw [if_neg n]))⟩
  · subst c
    exact ⟨fun z => sd_reckon_214 _ (on 0 0 rfl (by show some (if a < b then (0 : Int32) else 1) = _; rw [if_pos z])), fun n => sd_reckon_214 _ (on 1 1 rfl (by show some (if a < b then (0 : Int32) else 1) = _; rw [if_neg n]))⟩
  · subst c
    exact g _ rfl
  · subst c
    exact g _ rfl
  · subst c
    exact g _ rfl
  · rcases i2 k hm c with e | e
    · subst e
      refine ⟨fun n => ⟨fun n60 => absurd rfl n60, fun _ => ⟨fun nm => ⟨n, g _ ?_⟩, fun zm => g _ ?_⟩⟩, fun z y ey => Di_i (h _ y _ (Or.inr ⟨?_, ey, rfl⟩))⟩
      · show (if b = 0 then none else some (a / b)) = _
        rw [if_neg n]
      · show (if b = 0 then none else some (a / b)) = _
        rw [if_neg n, zm, div_m1]
      · show (if b = 0 then none else some (a / b)) = _
        rw [if_pos z]
    · subst e
      refine ⟨fun n => ⟨fun _ => ⟨fun nm => ⟨n, g _ ?_⟩, fun zm => g _ ?_⟩, fun z60 => absurd z60 (by decide)⟩, fun z y ey => Di_i (h _ y _ (Or.inr ⟨?_, ey, rfl⟩))⟩
      · show (if b = 0 then none else some (a - a / b * b)) = _
        rw [if_neg n]
      · show (if b = 0 then none else some (a - a / b * b)) = _
        rw [if_neg n, zm, mod_m1]
      · show (if b = 0 then none else some (a - a / b * b)) = _
        rw [if_pos z]
def wkM (y : gd) (w : Option Int32) (r : Int32) : Prop := (∃ v, w = some v ∧ r = v ∧ y.1 0 82 = 0) ∨ (w = none ∧ y.1 0 82 = 1)
def mVl (x : gd) (sl : List Nat) (t : Int32) (lv : Nat → Int32) (cv : Int32 → Int32) (q : gQ) : Prop := (q.1 = 2 → vp_in (8 * t + Int32.ofNat (slN sl q.2.1)) 48 ∧ x.1 76 (8 * t + Int32.ofNat (slN sl q.2.1)).toNatClampNeg = lv q.2.1) ∧ (q.1 = 4 → vp_in q.2.2 24 ∧ x.1 70 q.2.2.toNatClampNeg = cv q.2.2)
theorem ds_workedf {w t : Int32} {Q : List gQ} {sl : List Nat} {lv : Nat → Int32} {cv : Int32 → Int32} (hS : SUm x w (Q.map (mQp sl))) (h49 : (x.1 0 49).toInt ≤ 6000) (ok : okQ Q 0) (hQ : ∀ p ∈ Q, qOk p ∧ mVl x sl t lv cv p) (h : ∀ r x' S', md [82] [84] x x' → ssub S S' → S' 0 82 → wkM x' (wkQ lv cv t Q) r → F r x' S') : MD (d + 2) z_worked 0 [(0, vr 0), (1, vi w), (2, vi t)] [] S x (Di F) := by
  have k0 : (0 : Int32).toInt = 0 := rfl
  have k1 : (1 : Int32).toInt = 1 := rfl
  have km : (-1 : Int32).toInt = -1 := rfl
  have c0 : (0 : Int32).toNatClampNeg = 0 := rfl
  obtain ⟨s0, s1, s2, s3⟩ := hS
  rw [List.length_map] at s1 s3
  have us := t_cl w
  have loop : ∀ (Q1 : List gQ) (m : Nat) (st : List Int32) (y : gd) (S1 : gS) (l3 l4 : Int32), (∀ j q, Q1[j]? = some q → Q[m + j]? = some q) → m + Q1.length = Q.length → okQ Q1 st.length → l3.toInt = st.length → st.length ≤ 40 → l4.toInt = w.toInt + m → (∀ j : Nat, j < st.length → S1 84 j) → S1 0 82 → md [82] [84] x y → ssub S S1 → y.1 0 82 = 0 → STK (y.1 84) st → evQ lv cv t Q1 st = evQ lv cv t Q [] → MD (d + 2) z_worked 10 [(0, vr 0), (2, vi t), (3, vi l3), (4, vi l4)] [] S1 y (Di F) := by
    intro Q1
    induction Q1 with
    | nil =>
      intro m st y S1 l3 l4 hsub hm hok e3 l40 e4 sp s82 my ss y82 hst hev
      have hok : st.length = 1 := hok
      have hm : m = Q.length := hm
      have e51 : y.1 51 = x.1 51 := my.2.1 51 (by decide) (by decide)
      have eN : l4.toNatClampNeg = w.toNatClampNeg + Q.length := by rw [t_cl]; omega
      have yz : y.1 51 l4.toNatClampNeg = 0 := by rw [e51, eN]; exact s3
      refine sd_worked_10 _ _ _ ⟨by rw [vp_in_iff]; omega, fun _ => ⟨vp_in_iff.mpr (by decide), sp _ (by rw [c0]; omega), Di_i (h _ _ _ my ss s82 (Or.inl ⟨_, ?_, rfl, y82⟩))⟩, fun q => absurd yz q⟩
      unfold wkQ
      rw [← hev]
      cases st with
      | nil => exact absurd hok (by show ¬ 0 = 1; decide)
      | cons v st =>
        have e0 : st.length = 0 := by have : st.length + 1 = 1 := hok; omega
        have := hst.1
        rw [e0] at this
        rw [c0, this]
        rfl
    | cons e Q1 ih =>
      intro m st y S1 l3 l4 hsub hm hok e3 l40 e4 sp s82 my ss y82 hst hev
      have hm : m + (Q1.length + 1) = Q.length := hm
      have e51 : y.1 51 = x.1 51 := my.2.1 51 (by decide) (by decide)
      have e52 : y.1 52 = x.1 52 := my.2.1 52 (by decide) (by decide)
      have e76 : y.1 76 = x.1 76 := my.2.1 76 (by decide) (by decide)
      have e70 : y.1 70 = x.1 70 := my.2.1 70 (by decide) (by decide)
      have eN : l4.toNatClampNeg = w.toNatClampNeg + m := by rw [t_cl]; omega
      have at0 : Q[m]? = some e := hsub 0 e rfl
      obtain ⟨qo, qv⟩ := hQ e (List.mem_of_getElem? at0)
      obtain ⟨p51, p52⟩ := s2 m (mQp sl e) (by rw [List.getElem?_map, at0]; rfl)
      have y51 : y.1 51 l4.toNatClampNeg = (mQp sl e).1 := by rw [e51, eN]; exact p51
      have y52 : y.1 52 l4.toNatClampNeg = (mQp sl e).2 := by rw [e52, eN]; exact p52
      have v4 : vp_in l4 6000 := by rw [vp_in_iff]; omega
      have i4 : (l4 + 1).toInt = w.toInt + ((m + 1 : Nat) : Int) := by rw [t_add (by rw [k1]; omega) (by rw [k1]; omega), k1, e4]; push_cast; omega
      have u3 := t_cl l3
      have cs : e.1 = 1 ∨ e.1 = 2 ∨ e.1 = 3 ∨ e.1 = 4 ∨ e.1 = 5 ∨ e.1 = 6 := by have := qo.1; omega
      have next : ∀ (st2 : List Int32) (l32 : Int32) (z : gd) (S2 : gS), okQ Q1 st2.length → l32.toInt = st2.length → st2.length ≤ 40 → (∀ j : Nat, j < st2.length → S2 84 j) → S2 0 82 → md [82] [84] x z → ssub S S2 → z.1 0 82 = 0 → STK (z.1 84) st2 → evQ lv cv t Q1 st2 = evQ lv cv t Q [] → MD (d + 2) z_worked 10 [(0, vr 0), (2, vi t), (3, vi l32), (4, vi (l4 + 1))] [] S2 z (Di F) := fun st2 l32 z S2 a1 a2 a3 a4 a5 a6 a7 a8 a9 a10 => ih (m + 1) st2 z S2 l32 (l4 + 1) (fun j q hj => by rw [Nat.add_assoc, Nat.add_comm 1 j]; exact hsub (j + 1) q hj) (by omega) a1 a2 a3 i4 a4 a5 a6 a7 a8 a9 a10
      have push : ∀ v : Int32, (1 ≤ e.1 ∧ e.1 ≤ 4) → evQ lv cv t (e :: Q1) st = evQ lv cv t Q1 (v :: st) → vp_in l3 60 ∧ ∀ y2 : gd, y2 = si y 84 l3.toNatClampNeg v → MD (d + 2) z_worked 10 [(0, vr 0), (2, vi t), (3, vi (l3 + 1)), (4, vi (l4 + 1))] [] (sadd S1 84 l3.toNatClampNeg) y2 (Di F) := fun v c14 hv => by
        obtain ⟨lt, hok'⟩ := okQ_p hok c14
        refine ⟨by rw [vp_in_iff]; omega, fun y2 e2 => ?_⟩
        have m2 := md_a y 84 l3.toNatClampNeg v (by decide)
        rw [← e2] at m2
        refine next (v :: st) (l3 + 1) y2 _ hok' ?_ (by show st.length + 1 ≤ 40; omega) (fun j hj => ?_) (Or.inr s82) (md_tr my m2 rfl rfl) (ssub_tr ss (ssub_ad _ _ _)) (by rw [e2, si_cell (by decide)]; exact y82) ⟨?_, STK_eq (fun j hj => ?_) hst⟩ (by rw [← hv]; exact hev)
        · rw [t_add (by rw [k1]; omega) (by rw [k1]; omega), k1, e3]; rfl
        · by_cases q : j = l3.toNatClampNeg
          · exact Or.inl ⟨rfl, q⟩
          · have : j < st.length + 1 := hj
            exact Or.inr (sp j (by omega))
        · rw [e2, si_get, if_pos ⟨rfl, by omega⟩]
        · rw [e2, si_get, if_neg (by omega)]
      have one : ∀ k : Nat, e.1 = k → ¬ k = 2 → mQp sl e = (Int32.ofNat k, e.2.2) := fun k c n2 => by
        unfold mQp
        rw [if_neg (by omega), c]
      rcases cs with c | c | c | c | c | c
      · have em := one 1 c (by decide)
        have hp := push e.2.2 (by omega) (ev_1 c)
        refine sd_worked_10 _ _ _ ⟨v4, fun q => ?_, fun _ => ⟨v4, v4, ?_⟩⟩
        · rw [y51, em] at q; exact absurd q (by show ¬ (1 : Int32) = 0; decide)
        rw [y51, y52, em]
        exact ⟨fun _ => hp, fun z => absurd z (by show ¬ (1 : Int32) = 2; decide), fun z => absurd z (by show ¬ (1 : Int32) = 3; decide), fun z => absurd z (by show ¬ (1 : Int32) = 4; decide), fun z => absurd z (by show ¬ (1 : Int32) = 5; decide), fun z => absurd rfl (z 1 (by decide))⟩
      · have em : mQp sl e = (2, Int32.ofNat (slN sl e.2.1)) := if_pos c
        obtain ⟨w1, w2⟩ := qv.1 c
        have hp := push (lv e.2.1) (by omega) (ev_2 c)
        refine sd_worked_10 _ _ _ ⟨v4, fun q => ?_, fun _ => ⟨v4, v4, ?_⟩⟩
        · rw [y51, em] at q; exact absurd q (by show ¬ (2 : Int32) = 0; decide)
        rw [y51, y52, em, e76]
        refine ⟨fun z => absurd z (by show ¬ (2 : Int32) = 1; decide), fun _ => ⟨w1, ?_⟩, fun z => absurd z (by show ¬ (2 : Int32) = 3; decide), fun z => absurd z (by show ¬ (2 : Int32) = 4; decide), fun z => absurd z (by show ¬ (2 : Int32) = 5; decide), fun z => absurd rfl (z 2 (by decide))⟩
        show vp_in l3 60 ∧ ∀ y2 : gd, y2 = si y 84 l3.toNatClampNeg (x.1 76 (8 * t + Int32.ofNat (slN sl e.2.1)).toNatClampNeg) → _
        rw [w2]
        exact hp
      · have em := one 3 c (by decide)
        have hp := push t (by omega) (ev_3 c)
        refine sd_worked_10 _ _ _ ⟨v4, fun q => ?_, fun _ => ⟨v4, v4, ?_⟩⟩
        · rw [y51, em] at q; exact absurd q (by show ¬ (3 : Int32) = 0; decide)
        rw [y51, y52, em]
        exact ⟨fun z => absurd z (by show ¬ (3 : Int32) = 1; decide), fun z => absurd z (by show ¬ (3 : Int32) = 2; decide), fun _ => hp, fun z => absurd z (by show ¬ (3 : Int32) = 4; decide), fun z => absurd z (by show ¬ (3 : Int32) = 5; decide), fun z => absurd rfl (z 3 (by decide))⟩
      · have em := one 4 c (by decide)
        obtain ⟨w1, w2⟩ := qv.2 c
        have hp := push (cv e.2.2) (by omega) (ev_4 c)
        refine sd_worked_10 _ _ _ ⟨v4, fun q => ?_, fun _ => ⟨v4, v4, ?_⟩⟩
        · rw [y51, em] at q; exact absurd q (by show ¬ (4 : Int32) = 0; decide)
        rw [y51, y52, em, e70]
        refine ⟨fun z => absurd z (by show ¬ (4 : Int32) = 1; decide), fun z => absurd z (by show ¬ (4 : Int32) = 2; decide), fun z => absurd z (by show ¬ (4 : Int32) = 3; decide), fun _ => ⟨w1, ?_⟩, fun z => absurd z (by show ¬ (4 : Int32) = 5; decide), fun z => absurd rfl (z 4 (by decide))⟩
        show vp_in l3 60 ∧ ∀ y2 : gd, y2 = si y 84 l3.toNatClampNeg (x.1 70 e.2.2.toNatClampNeg) → _
        rw [w2]
        exact hp
      · have em := one 5 c (by decide)
        obtain ⟨h1, hok'⟩ := okQ_5 hok c
        cases st with
        | nil => exact absurd h1 (by show ¬ 1 ≤ 0; decide)
        | cons v st =>
          have e3 : l3.toInt = st.length + 1 := by rw [e3]; rfl
          have l40 : st.length + 1 ≤ 40 := l40
          obtain ⟨sq, ns⟩ := t_s1 (a := l3) (by omega)
          obtain ⟨q3, eq3⟩ : ∃ q, q = l3 - 1 := ⟨_, rfl⟩
          rw [← eq3] at sq ns
          have nN : q3.toNatClampNeg = st.length := by rw [t_cl, sq, e3]; omega
          have vs : vp_in q3 60 := by rw [vp_in_iff]; omega
          have sS : S1 84 q3.toNatClampNeg := sp _ (by rw [nN]; exact Nat.lt_succ_self _)
          have top : y.1 84 q3.toNatClampNeg = v := by rw [nN]; exact hst.1
          have set : ∀ (r : Int32) (y2 : gd), unQ e.2.2 v = r → y2 = si y 84 q3.toNatClampNeg r → MD (d + 2) z_worked 10 [(0, vr 0), (2, vi t), (3, vi l3), (4, vi (l4 + 1))] [] (sadd S1 84 q3.toNatClampNeg) y2 (Di F) := by
            intro r y2 er e2
            have m2 := md_a y 84 q3.toNatClampNeg r (by decide)
            rw [← e2] at m2
            refine next (r :: st) l3 y2 _ hok' (by rw [e3]; rfl) l40 (fun j hj => Or.inr (sp j hj)) (Or.inr s82) (md_tr my m2 rfl rfl) (ssub_tr ss (ssub_ad _ _ _)) (by rw [e2, si_cell (by decide)]; exact y82) ⟨?_, STK_eq (fun j hj => ?_) hst.2⟩ ?_
            · rw [e2, si_get, if_pos ⟨rfl, nN.symm⟩]
            · rw [e2, si_get, if_neg (by omega)]
            · rw [← hev, ev_5 c, er]
          refine sd_worked_10 _ _ _ ⟨v4, fun q => ?_, fun _ => ⟨v4, v4, ?_⟩⟩
          · rw [y51, em] at q; exact absurd q (by show ¬ (5 : Int32) = 0; decide)
          rw [y51, y52, em, ← eq3, top]
          refine ⟨fun z => absurd z (by show ¬ (5 : Int32) = 1; decide), fun z => absurd z (by show ¬ (5 : Int32) = 2; decide), fun z => absurd z (by show ¬ (5 : Int32) = 3; decide), fun z => absurd z (by show ¬ (5 : Int32) = 4; decide), fun _ => ⟨fun n29 => ⟨vs, sS, vs, fun y2 e2 => set _ y2 ?_ e2⟩, fun c29 => ⟨vs, sS, fun n => ⟨vs, fun y2 e2 => set _ y2 ?_ e2⟩, fun z => ⟨vs, fun y2 e2 => set _ y2 ?_ e2⟩⟩⟩, fun z => absurd rfl (z 5 (by decide))⟩
          · unfold unQ; rw [if_neg n29]
          · unfold unQ; rw [if_pos c29, if_neg n]
          · unfold unQ; rw [if_pos c29, if_pos z]
      · have em := one 6 c (by decide)
        obtain ⟨h2, hok'⟩ := okQ_6 hok c
        cases st with
        | nil => exact absurd h2 (by show ¬ 2 ≤ 0; decide)
        | cons v st =>
          cases st with
          | nil => exact absurd h2 (by show ¬ 2 ≤ 1; decide)
          | cons u st =>
            have e3 : l3.toInt = st.length + 2 := by rw [e3]; rfl
            have l40 : st.length + 2 ≤ 40 := l40
            obtain ⟨m3, nm⟩ := t_m1 (a := l3) (by omega)
            obtain ⟨q3, eq3⟩ : ∃ q, q = l3 + -1 := ⟨_, rfl⟩
            rw [← eq3] at m3 nm
            obtain ⟨m4, n4'⟩ := t_s1 (a := q3) (by omega)
            obtain ⟨q4, eq4⟩ : ∃ q, q = q3 - 1 := ⟨_, rfl⟩
            rw [← eq4] at m4 n4'
            have n3 : q3.toNatClampNeg = st.length + 1 := by rw [t_cl, m3, e3]; omega
            have n4 : q4.toNatClampNeg = st.length := by rw [t_cl, m4, m3, e3]; omega
            have v1 : vp_in q3 60 := by rw [vp_in_iff]; omega
            have v2 : vp_in q4 60 := by rw [vp_in_iff]; omega
            refine sd_worked_10 _ _ _ ⟨v4, fun q => ?_, fun _ => ⟨v4, v4, ?_⟩⟩
            · rw [y51, em] at q; exact absurd q (by show ¬ (6 : Int32) = 0; decide)
            have hu : y.1 84 q4.toNatClampNeg = u := by rw [n4]; exact hst.2.1
            have hv : y.1 84 q3.toNatClampNeg = v := by rw [n3]; exact hst.1
            rw [y51, y52, em, ← eq3, ← eq4, hu, hv]
            refine ⟨fun z => absurd z (by show ¬ (6 : Int32) = 1; decide), fun z => absurd z (by show ¬ (6 : Int32) = 2; decide), fun z => absurd z (by show ¬ (6 : Int32) = 3; decide), fun z => absurd z (by show ¬ (6 : Int32) = 4; decide), fun z => absurd z (by show ¬ (6 : Int32) = 5; decide), fun _ => ⟨v2, sp _ (by rw [n4]; show st.length < st.length + 2; omega), v1, sp _ (by rw [n3]; show st.length + 1 < st.length + 2; omega), ds_reckonf (qo.2.2 c) u v (fun r y3 S3 hz => ⟨v2, fun y4 e4' => ?_⟩)⟩⟩
            have m5 := md_a y3 84 q4.toNatClampNeg r (by decide)
            rw [← e4'] at m5
            rcases hz with ⟨hb, ey3, eS3⟩ | ⟨hb, ey3, eS3⟩
            · rw [eS3]
              rw [ey3] at m5 e4'
              have y4z : y4.1 0 82 = 0 := by rw [e4', si_cell (by decide)]; exact y82
              refine ⟨Or.inr s82, fun _ => next (r :: st) q3 y4 _ hok' (by rw [m3, e3]; show (st.length : Int) + 2 - 1 = ((st.length + 1 : Nat) : Int); omega) (by show st.length + 1 ≤ 40; omega) (fun j hj => Or.inr (sp j (by have : j < st.length + 1 := hj; show j < st.length + 2; omega))) (Or.inr s82) (md_tr my m5 rfl rfl) (ssub_tr ss (ssub_ad _ _ _)) y4z ⟨?_, STK_eq (fun j hj => ?_) hst.2.2⟩ ?_, fun n => ?_⟩
              · rw [e4', si_get, if_pos ⟨rfl, n4.symm⟩]
              · rw [e4', si_get, if_neg (by omega)]
              · rw [← hev, ev_6 c hb]
              · exfalso; rw [y4z] at n; exact n (by decide)
            · have y4o : y4.1 0 82 = 1 := by rw [e4', si_cell (by decide), ey3, si_get, if_pos ⟨rfl, rfl⟩]
              have mf := md_f y 82 1
              rw [← ey3] at mf
              have mm : md [82] [84] x y4 := md_tr (md_tr (L3 := [82]) (A3 := [84]) my mf rfl rfl) m5 rfl rfl
              have hn : wkQ lv cv t Q = none := by unfold wkQ; rw [← hev, ev_6n c hb]; rfl
              rw [eS3]
              have s5 : sadd (sadd S1 0 82) 84 q4.toNatClampNeg 0 82 := Or.inr (Or.inl ⟨rfl, rfl⟩)
              refine ⟨s5, fun z => ?_, fun _ => Di_i (h _ _ _ mm (ssub_tr ss (ssub_tr (ssub_ad _ _ _) (ssub_ad _ _ _))) s5 (Or.inr ⟨hn, y4o⟩))⟩
              exfalso; rw [y4o] at z; exact absurd z (by decide)
  refine sd_worked_0 _ _ (fun y e => ?_)
  have m := md_f x 82 0
  rw [← e] at m
  exact loop Q 0 [] y _ 0 w (fun j q hj => by rw [Nat.zero_add]; exact hj) (by omega) ok rfl (by decide) (by omega) (fun j hj => absurd hj (Nat.not_lt_zero _)) (Or.inl ⟨rfl, rfl⟩) (md_w m (by decide) (by decide)) (ssub_ad _ _ _) (by rw [e, si_get, if_pos ⟨rfl, rfl⟩]) trivial rfl
end DSF
