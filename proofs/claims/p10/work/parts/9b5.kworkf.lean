/-! the class: what comes of a sum -/
section KWF
variable {G : kG} {q : kP} {d : Nat} {x y z : gd} {F : Int32 → gd → Prop}
theorem pst_in {k : Int32} (h : ¬ pst k = 0) : k ∈ [(30 : Int32), 12, 51, 52, 53, 54, 55, 56, 57, 58, 59, 60, 28] := by
  apply Classical.byContradiction
  intro c
  exact h (pst_c (fun w hw e => c (by rw [e]; exact hw)))
theorem kf_operate (hq : kV q) {k : Int32} (hk : ¬ pst k = 0) (a b : Int32) (h : ∀ r y, (biQ k a b = some r ∧ y = x) ∨ (biQ k a b = none ∧ y = si x 60 5 1) → F r y) : KT G q d zk_X0_operate 0 [(0, vr 60), (1, vi (kcv k)), (2, vi a), (3, vi b)] [] x (ri F) := by
  have hm := pst_in hk
  have g : ∀ r, biQ k a b = some r → ri F (some (vi r)) x := fun r e => ri_i (h r x (Or.inl ⟨e, rfl⟩))
  have i1 : ∀ w ∈ [(30 : Int32), 12, 51, 52, 53, 54, 55, 56, 57, 58, 59, 60, 28], (kcv w = 60 → w = 30) ∧ (kcv w = 42 → w = 12) ∧ (kcv w = 11 → w = 51) ∧ (kcv w = 12 → w = 52) ∧ (kcv w = 13 → w = 53) ∧ (kcv w = 14 → w = 54) ∧ (kcv w = 15 → w = 55) ∧ (kcv w = 16 → w = 56) ∧ (kcv w = 17 → w = 57) ∧ (kcv w = 18 → w = 58) ∧ (kcv w = 19 → w = 59) ∧ (kcv w = 20 → w = 60) := by decide
  have i2 : ∀ w ∈ [(30 : Int32), 12, 51, 52, 53, 54, 55, 56, 57, 58, 59, 60, 28], (∀ u ∈ [(60 : Int32), (42 : Int32), (11 : Int32), (12 : Int32), (13 : Int32), (14 : Int32), (15 : Int32), (16 : Int32), (17 : Int32), (18 : Int32), (19 : Int32)], ¬ kcv w = u) → w = 60 ∨ w = 28 := by decide
  have i3 : kcv 60 = 20 := by decide
  obtain ⟨j1, j2, j3, j4, j5, j6, j7, j8, j9, j10, j11, j12⟩ := i1 k hm
  refine kg_X0_operate_0 hq _ _ _ ⟨fun c => ?_, fun c => ?_, fun c => ?_, fun c => ?_, fun c => ?_, fun c => ?_, fun c => ?_, fun c => ?_, fun c => ?_, fun c => ?_, fun c => ?_, fun c => ?_⟩
  · have e := j1 c
    subst e
    exact ⟨fun n => g 1 (by show some (if a = 0 then _ else (1 : Int32)) = _; rw [if_neg n]), fun z => ⟨fun z2 => g 0 (by show some (if a = 0 then (if b = 0 then (0 : Int32) else 1) else 1) = _; rw [if_pos z, if_pos z2]), fun n2 => g 1 (by show some (if a = 0 then (if b = 0 then (0 : Int32) else 1) else 1) = _; rw [if_pos z, if_neg n2])⟩⟩
  · have e := j2 c
    subst e
    exact ⟨fun z => g 0 (by show some (if a = 0 then (0 : Int32) else if b = 0 then 0 else 1) = _; rw [if_pos z]), fun n => ⟨fun z2 => g 0 (by show some (if a = 0 then (0 : Int32) else if b = 0 then 0 else 1) = _; rw [if_neg n, if_pos z2]), fun n2 => g 1 (by show some (if a = 0 then (0 : Int32) else if b = 0 then 0 else 1) = _; rw [if_neg n, if_neg n2])⟩⟩
  · have e := j3 c
    subst e
    exact ⟨fun n => g 0 (by show some (if a = b then (1 : Int32) else 0) = _; rw [if_neg n]), fun z => g 1 (by show some (if a = b then (1 : Int32) else 0) = _; rw [if_pos z])⟩
  · have e := j4 c
    subst e
    exact ⟨fun z => g 0 (by show some (if a = b then (0 : Int32) else 1) = _; rw [if_pos z]), fun n => g 1 (by show some (if a = b then (0 : Int32) else 1) = _; rw [if_neg n])⟩
  · have e := j5 c
    subst e
    exact ⟨fun z => g 0 (by show some (if b ≤ a then (0 : Int32) else 1) = _; rw [if_pos z]), fun n => g 1 (by show some (if b ≤ a then (0 : Int32) else 1) = _; rw [if_neg n])⟩
  · have e := j6 c
    subst e
    exact ⟨fun z => g 0 (by show some (if b < a then (0 : Int32) else 1) = _; rw [if_pos z]), fun n => g 1 (by show some (if b < a then (0 : Int32) else 1) = _; rw [if_neg n])⟩
  · have e := j7 c
    subst e
    exact ⟨fun z => g 0 (by show some (if a ≤ b then (0 : Int32) else 1) = _; rw [if_pos z]), fun n => g 1 (by show some (if a ≤ b then (0 : Int32) else 1) = _; rw [if_neg n])⟩
  · have e := j8 c
    subst e
    exact ⟨fun z => g 0 (by show some (if a < b then (0 : Int32) else 1) = _; rw [if_pos z]), fun n => g 1 (by show some (if a < b then (0 : Int32) else 1) = _; rw [if_neg n])⟩
  · have e := j9 c
    subst e
    exact g _ rfl
  · have e := j10 c
    subst e
    exact g _ rfl
  · have e := j11 c
    subst e
    exact g _ rfl
  · rcases i2 k hm c with e | e
    · subst e
      refine ⟨fun n => ⟨fun n20 => absurd i3 n20, fun _ => ⟨n, g _ ?_⟩⟩, fun z y ey => ri_i (h _ y (Or.inr ⟨?_, ey⟩))⟩
      · show (if b = 0 then none else some (a / b)) = _
        rw [if_neg n]
      · show (if b = 0 then none else some (a / b)) = _
        rw [if_pos z]
    · subst e
      refine ⟨fun n => ⟨fun _ => ⟨n, g _ ?_⟩, fun z20 => absurd z20 (by decide)⟩, fun z y ey => ri_i (h _ y (Or.inr ⟨?_, ey⟩))⟩
      · show (if b = 0 then none else some (a - a / b * b)) = _
        rw [if_neg n]
      · show (if b = 0 then none else some (a - a / b * b)) = _
        rw [if_pos z]
theorem cQ_n0 {q : gQ} (h : qOk q) : ¬ (cQ q).1 = 0 ∧ (q.1 = 6 → ¬ (cQ q).1 = 1 ∧ ¬ (cQ q).1 = 2 ∧ ¬ (cQ q).1 = 3 ∧ ¬ (cQ q).1 = 4 ∧ ¬ (cQ q).1 = 5) := by
  obtain ⟨k, p, a⟩ := q
  obtain ⟨h1, -, h6⟩ := h
  have h1 : 1 ≤ k ∧ k ≤ 6 := h1
  have cs : k = 1 ∨ k = 2 ∨ k = 3 ∨ k = 4 ∨ k = 5 ∨ k = 6 := by omega
  rcases cs with e | e | e | e | e | e <;> subst e
  · exact ⟨show ¬ (1 : Int32) = 0 by decide, fun z => absurd z (show ¬ 1 = 6 by decide)⟩
  · exact ⟨show ¬ (2 : Int32) = 0 by decide, fun z => absurd z (show ¬ 2 = 6 by decide)⟩
  · exact ⟨show ¬ (3 : Int32) = 0 by decide, fun z => absurd z (show ¬ 3 = 6 by decide)⟩
  · exact ⟨show ¬ (2 : Int32) = 0 by decide, fun z => absurd z (show ¬ 4 = 6 by decide)⟩
  · refine ⟨?_, fun z => absurd z (show ¬ 5 = 6 by decide)⟩
    show ¬ (if a = 29 then (5 : Int32) else 4) = 0
    split <;> decide
  · have key : ∀ w ∈ [(30 : Int32), 12, 51, 52, 53, 54, 55, 56, 57, 58, 59, 60, 28], ¬ kcv w = 0 ∧ ¬ kcv w = 1 ∧ ¬ kcv w = 2 ∧ ¬ kcv w = 3 ∧ ¬ kcv w = 4 ∧ ¬ kcv w = 5 := by decide
    have r := key a (pst_in (h6 rfl))
    exact ⟨r.1, fun _ => r.2⟩
/-- what of the row that it looks at a sum takes -/
def qVl (a : Nat → Int32) (n : Nat) (b : Int32) (lv : Nat → Int32) (cv : Int32 → Int32) (q : gQ) : Prop := (q.1 = 2 → vp_in (b + Int32.ofNat q.2.1) n ∧ a (b + Int32.ofNat q.2.1).toNatClampNeg = lv q.2.1) ∧ (q.1 = 4 → vp_in (b + q.2.2) n ∧ a (b + q.2.2).toNatClampNeg = cv q.2.2)
def wkR (x y : gd) (w : Option Int32) (r : Int32) : Prop := (∃ v, w = some v ∧ r = v ∧ y.1 60 5 = 0) ∨ (w = none ∧ y.1 60 5 = 1)
theorem kf_work (hq : kV q) {a2 n2 : Nat} (ka : kK a2 = .inr (.int, n2)) (ma : a2 ∈ (kf q).2.1) (ha : ¬ a2 = 60 ∧ ¬ a2 = 65) (s b t : Int32) {Q : List gQ} {lv : Nat → Int32} {cv : Int32 → Int32} (h8 : (x.1 60 3).toInt ≤ 800) (hS : SUk x s (Q.map cQ)) (ok : okQ Q 0) (hQ : ∀ p ∈ Q, qOk p ∧ qVl (x.1 a2) n2 b lv cv p) (h : ∀ r y, fm sWk x y → wkR x y (wkQ lv cv t Q) r → F r y) : KT G q (d + 1) zk_X0_work 0 [(0, vr 60), (1, vi s), (2, vr a2), (3, vi b), (4, vi t)] [] x (ri F) := by
  have k40 : (40 : Int32).toInt = 40 := rfl
  have k1 : (1 : Int32).toInt = 1 := rfl
  have k2 : (2 : Int32).toInt = 2 := rfl
  have k0 : (0 : Int32).toInt = 0 := rfl
  have c0 : (0 : Int32).toNatClampNeg = 0 := rfl
  have v0 : vp_in 0 40 := by rw [vp_in_iff]; decide
  obtain ⟨s0, s1, s2, s3⟩ := hS
  rw [List.length_map] at s1 s3
  have us := t_cl s
  have loop : ∀ (Q1 : List gQ) (m : Nat) (st : List Int32) (p i : Int32) (y : gd), (∀ j q, Q1[j]? = some q → Q[m + j]? = some q) → m + Q1.length = Q.length → okQ Q1 st.length → fm sWk x y → p.toInt = st.length → st.length ≤ 40 → i.toInt = s.toInt + m → y.1 60 5 = 0 → STK (y.1 65) st → evQ lv cv t Q1 st = evQ lv cv t Q [] → KT G q (d + 1) zk_X0_work 11 [(0, vr 60), (2, vr a2), (3, vi b), (4, vi t), (5, vi p), (6, vi i)] [] y (ri F) := by
    intro Q1
    induction Q1 with
    | nil =>
      intro m st p i y hsub hm hok fy ep l40 ei y5 hst hev
      have hok : st.length = 1 := hok
      have hm : m = Q.length := hm
      have eN : i.toNatClampNeg = s.toNatClampNeg + Q.length := by rw [t_cl]; omega
      have yz : y.1 62 i.toNatClampNeg = 0 := by rw [fy 62 _ (by unfold sWk; omega), eN]; exact s3
      have vi9 : vp_in i 800 := by rw [vp_in_iff]; omega
      have out : ri F (some (vi (y.1 65 (0 : Int32).toNatClampNeg))) y := by
        refine ri_i (h _ y fy (Or.inl ⟨_, ?_, rfl, y5⟩))
        unfold wkQ
        rw [← hev]
        cases st with
        | nil => exact absurd hok (by show ¬ 0 = 1; decide)
        | cons v st =>
          have e0 : st.length = 0 := by have : st.length + 1 = 1 := hok; omega
          have := hst.1
          rw [e0] at this
          rw [c0, this]
          rfl
      refine kg_X0_work_11 hq ka ma _ _ _ _ ⟨fun _ => ⟨v0, out⟩, fun c => ⟨fun _ => ⟨v0, out⟩, fun c2 => ⟨fun n5 => absurd y5 n5, fun _ => ⟨vi9, fun _ => ⟨v0, out⟩, fun n => absurd yz n⟩⟩⟩⟩
    | cons e Q1 ih =>
      intro m st p i y hsub hm hok fy ep l40 ei y5 hst hev
      have hm : m + (Q1.length + 1) = Q.length := hm
      have eN : i.toNatClampNeg = s.toNatClampNeg + m := by rw [t_cl]; omega
      have at0 : Q[m]? = some e := hsub 0 e rfl
      obtain ⟨qo, qv⟩ := hQ e (List.mem_of_getElem? at0)
      obtain ⟨p62, p63⟩ := s2 m (cQ e) (by rw [List.getElem?_map, at0]; rfl)
      have y62 : y.1 62 i.toNatClampNeg = (cQ e).1 := by rw [fy 62 _ (by unfold sWk; omega), eN]; exact p62
      have y63 : y.1 63 i.toNatClampNeg = (cQ e).2 := by rw [fy 63 _ (by unfold sWk; omega), eN]; exact p63
      have ya : y.1 a2 = x.1 a2 := by funext k; exact fy a2 k (by unfold sWk; omega)
      have vi9 : vp_in i 800 := by rw [vp_in_iff]; omega
      have i1 : (i + 1).toInt = s.toInt + ((m + 1 : Nat) : Int) := by rw [t_add (by rw [k1]; omega) (by rw [k1]; omega), k1, ei]; push_cast; omega
      have next : ∀ (st2 : List Int32) (p2 : Int32) (z : gd), okQ Q1 st2.length → fm sWk x z → p2.toInt = st2.length → st2.length ≤ 40 → z.1 60 5 = 0 → STK (z.1 65) st2 → evQ lv cv t Q1 st2 = evQ lv cv t Q [] → KT G q (d + 1) zk_X0_work 11 [(0, vr 60), (2, vr a2), (3, vi b), (4, vi t), (5, vi p2), (6, vi (i + 1))] [] z (ri F) := fun st2 p2 z a1 a2' a3 a4 a5 a6 a7 => ih (m + 1) st2 p2 (i + 1) z (fun j q hj => by rw [Nat.add_assoc, Nat.add_comm 1 j]; exact hsub (j + 1) q hj) (by omega) a1 a2' a3 a4 i1 a5 a6 a7
      have up := t_cl p
      -- a value is pushed
      have push : ∀ v : Int32, (1 ≤ e.1 ∧ e.1 ≤ 4) → evQ lv cv t (e :: Q1) st = evQ lv cv t Q1 (v :: st) → st.length < 40 → vp_in p 40 ∧ ∀ z, z = si y 65 p.toNatClampNeg v → KT G q (d + 1) zk_X0_work 11 [(0, vr 60), (2, vr a2), (3, vi b), (4, vi t), (5, vi (p + 1)), (6, vi (i + 1))] [] z (ri F) := fun v c14 hv lt => by
        refine ⟨by rw [vp_in_iff]; omega, fun z ez => next (v :: st) (p + 1) z (okQ_p hok c14).2 (by rw [ez]; exact fm_si fy (Or.inr rfl)) ?_ (by show st.length + 1 ≤ 40; omega) (by rw [ez, si_cell (by decide)]; exact y5) ⟨?_, STK_eq (fun j hj => ?_) hst⟩ (by rw [← hv]; exact hev)⟩
        · rw [t_add (by rw [k1]; omega) (by rw [k1]; omega), k1, ep]; rfl
        · rw [ez, si_get, if_pos ⟨rfl, by omega⟩]
        · rw [ez, si_get, if_neg (by omega)]
      obtain ⟨c62, c6⟩ := cQ_n0 qo
      have cs : e.1 = 1 ∨ e.1 = 2 ∨ e.1 = 3 ∨ e.1 = 4 ∨ e.1 = 5 ∨ e.1 = 6 := by have := qo.1; omega
      have p69 : (1 ≤ e.1 ∧ e.1 ≤ 4) → KT G q (d + 1) zk_X0_work 69 [(0, vr 60), (2, vr a2), (3, vi b), (4, vi t), (5, vi p), (6, vi i), (7, vi (cQ e).1)] [] y (ri F) := by
        intro c14
        have lt := (okQ_p hok c14).1
        refine kg_X0_work_69 hq ka ma _ _ _ _ _ ⟨fun c => ?_, fun _ => ?_⟩
        · exfalso; rw [t_le, k40] at c; omega
        rcases cs with c | c | c | c | c | c
        · have e1 : cQ e = (1, e.2.2) := if_pos c
          have := push e.2.2 c14 (ev_1 c) lt
          rw [y63, e1]
          exact ⟨fun n => absurd rfl n, fun _ => ⟨vi9, this⟩⟩
        · have e1 : cQ e = (2, Int32.ofNat e.2.1) := by unfold cQ; rw [if_neg (by omega), if_pos c]
          obtain ⟨w1, w2⟩ := qv.1 c
          have := push (lv e.2.1) c14 (ev_2 c) lt
          rw [y63, e1, ya]
          show (¬ (2 : Int32) = 1 → (¬ (2 : Int32) = 3 → vp_in i 800 ∧ vp_in (b + Int32.ofNat e.2.1) n2 ∧ vp_in p 40 ∧ ∀ z : gd, z = si y 65 p.toNatClampNeg (x.1 a2 (b + Int32.ofNat e.2.1).toNatClampNeg) → _) ∧ _) ∧ _
          rw [w2]
          exact ⟨fun _ => ⟨fun _ => ⟨vi9, w1, this⟩, fun z => absurd z (show ¬ (2 : Int32) = 3 by decide)⟩, fun z => absurd z (show ¬ (2 : Int32) = 1 by decide)⟩
        · have e1 : cQ e = (3, 0) := by unfold cQ; rw [if_neg (by omega), if_neg (by omega), if_pos c]
          have := push t c14 (ev_3 c) lt
          rw [e1]
          exact ⟨fun _ => ⟨fun n => absurd rfl n, fun _ => this⟩, fun z => absurd z (by decide)⟩
        · have e1 : cQ e = (2, e.2.2) := by unfold cQ; rw [if_neg (by omega), if_neg (by omega), if_neg (by omega), if_pos c]
          obtain ⟨w1, w2⟩ := qv.2 c
          have := push (cv e.2.2) c14 (ev_4 c) lt
          rw [y63, e1, ya]
          show (¬ (2 : Int32) = 1 → (¬ (2 : Int32) = 3 → vp_in i 800 ∧ vp_in (b + e.2.2) n2 ∧ vp_in p 40 ∧ ∀ z : gd, z = si y 65 p.toNatClampNeg (x.1 a2 (b + e.2.2).toNatClampNeg) → _) ∧ _) ∧ _
          rw [w2]
          exact ⟨fun _ => ⟨fun _ => ⟨vi9, w1, this⟩, fun z => absurd z (show ¬ (2 : Int32) = 3 by decide)⟩, fun z => absurd z (show ¬ (2 : Int32) = 1 by decide)⟩
        · omega
        · omega
      have p139 : e.1 = 5 → KT G q (d + 1) zk_X0_work 139 [(0, vr 60), (2, vr a2), (3, vi b), (4, vi t), (5, vi p), (6, vi i), (7, vi (cQ e).1)] [] y (ri F) := by
        intro c
        obtain ⟨h1, hok'⟩ := okQ_5 hok c
        cases st with
        | nil => exact absurd h1 (by show ¬ 1 ≤ 0; decide)
        | cons v st =>
          have ep : p.toInt = st.length + 1 := by rw [ep]; rfl
          have e1 : (p - 1).toInt = st.length := by rw [t_sub (by rw [k1]; omega) (by rw [k1]; omega), k1, ep]; omega
          have eN1 : (p - 1).toNatClampNeg = st.length := by rw [t_cl, e1]; rfl
          have l40 : st.length + 1 ≤ 40 := l40
          have vp : vp_in (p - 1) 40 := by rw [vp_in_iff]; omega
          have top : y.1 65 (p - 1).toNatClampNeg = v := by rw [eN1]; exact hst.1
          have ec : (cQ e).1 = if e.2.2 = 29 then 5 else 4 := by unfold cQ; rw [if_neg (by omega), if_neg (by omega), if_neg (by omega), if_neg (by omega), if_pos c]
          have put : ∀ (r : Int32) (z : gd), unQ e.2.2 v = r → z = si y 65 (p - 1).toNatClampNeg r → KT G q (d + 1) zk_X0_work 11 [(0, vr 60), (2, vr a2), (3, vi b), (4, vi t), (5, vi p), (6, vi (i + 1))] [] z (ri F) := fun r z er ez => by
            refine next (r :: st) p z hok' (by rw [ez]; exact fm_si fy (Or.inr rfl)) (by rw [ep]; rfl) l40 (by rw [ez, si_cell (by decide)]; exact y5) ⟨?_, STK_eq (fun j hj => ?_) hst.2⟩ ?_
            · rw [ez, si_get, if_pos ⟨rfl, eN1.symm⟩]
            · rw [ez, si_get, if_neg (by omega)]
            · rw [← hev, ev_5 c, er]
          refine kg_X0_work_139 hq ka ma _ _ _ _ _ ⟨fun cc => ?_, fun _ => ⟨vp, ?_⟩⟩
          · exfalso; rw [t_lt, k1] at cc; omega
          rw [top, ec]
          by_cases c29 : e.2.2 = 29
          · rw [if_pos c29]
            refine ⟨fun _ => ⟨fun n => ⟨vp, fun z ez => put 0 z ?_ ez⟩, fun z9 => ⟨vp, fun z ez => put 1 z ?_ ez⟩⟩, fun z => absurd z (by decide)⟩
            · unfold unQ; rw [if_pos c29, if_neg n]
            · unfold unQ; rw [if_pos c29, if_pos z9]
          · rw [if_neg c29]
            refine ⟨fun n => absurd rfl n, fun _ => ⟨vp, fun z ez => put _ z ?_ ez⟩⟩
            unfold unQ; rw [if_neg c29]
      have p6 : e.1 = 6 → (p < 2 → KT G q (d + 1) zk_X0_work 11 [(0, vr 60), (2, vr a2), (3, vi b), (4, vi t), (5, vi p), (6, vi (i + 1))] [] y (ri F)) ∧ (¬ p < 2 → vp_in ((p + (-1)) - 1) 40 ∧ vp_in (p + (-1)) 40 ∧ KT G q d zk_X0_operate 0 [(0, vr 60), (1, vi (cQ e).1), (2, vi (y.1 65 ((p + (-1)) - 1 : Int32).toNatClampNeg)), (3, vi (y.1 65 (p + (-1) : Int32).toNatClampNeg))] [] y (ri (fun r20 x19 => vp_in ((p + (-1)) - 1) 40 ∧ (∀ x22 : gd, x22 = si x19 65 ((p + (-1)) - 1 : Int32).toNatClampNeg r20 → KT G q (d + 1) zk_X0_work 11 [(0, vr 60), (2, vr a2), (3, vi b), (4, vi t), (5, vi (p + (-1))), (6, vi (i + 1))] [] x22 (ri F))))) := by
        intro c
        obtain ⟨h2, hok'⟩ := okQ_6 hok c
        cases st with
        | nil => exact absurd h2 (by show ¬ 2 ≤ 0; decide)
        | cons v st =>
          cases st with
          | nil => exact absurd h2 (by show ¬ 2 ≤ 1; decide)
          | cons u st =>
            have ep : p.toInt = st.length + 2 := by rw [ep]; rfl
            have l40 : st.length + 2 ≤ 40 := l40
            obtain ⟨p2, ep2⟩ : ∃ p2, p2 = p + (-1) := ⟨_, rfl⟩
            rw [← ep2]
            have e1 : p2.toInt = st.length + 1 := by rw [ep2, t_add (by rw [tm1]; omega) (by rw [tm1]; omega), tm1]; omega
            have e2 : (p2 - 1).toInt = st.length := by rw [t_sub (by rw [k1]; omega) (by rw [k1]; omega), k1, e1]; omega
            have n1 : p2.toNatClampNeg = st.length + 1 := by rw [t_cl, e1]; rfl
            have n2' : (p2 - 1).toNatClampNeg = st.length := by rw [t_cl, e2]; rfl
            have vp : vp_in (p2 - 1) 40 := by rw [vp_in_iff]; omega
            have ec : (cQ e).1 = kcv e.2.2 := by unfold cQ; rw [if_neg (by omega), if_neg (by omega), if_neg (by omega), if_neg (by omega), if_neg (by omega)]
            refine ⟨fun cc => ?_, fun _ => ⟨vp, by rw [vp_in_iff]; omega, ?_⟩⟩
            · exfalso; rw [t_lt, k2] at cc; omega
            have hu : y.1 65 (p2 - 1).toNatClampNeg = u := by rw [n2']; exact hst.2.1
            have hv : y.1 65 p2.toNatClampNeg = v := by rw [n1]; exact hst.1
            rw [hu, hv, ec]
            refine kf_operate hq (qo.2.2 c) u v (fun r z hz => ⟨vp, fun w ew => ?_⟩)
            rcases hz with ⟨hb, ez⟩ | ⟨hb, ez⟩
            · refine next (r :: st) p2 w hok' (by rw [ew, ez]; exact fm_si fy (Or.inr rfl)) (by rw [e1]; rfl) (by show st.length + 1 ≤ 40; omega) (by rw [ew, si_cell (by decide), ez]; exact y5) ⟨?_, STK_eq (fun j hj => ?_) hst.2.2⟩ ?_
              · rw [ew, si_get, if_pos ⟨rfl, n2'.symm⟩]
              · rw [ew, si_get, if_neg (by omega), ez]
              · rw [← hev, ev_6 c hb]
            · have w5 : w.1 60 5 = 1 := by rw [ew, si_cell (by decide), ez, si_get, if_pos ⟨rfl, rfl⟩]
              have fw : fm sWk x w := by rw [ew, ez]; exact fm_si (fm_si fy (Or.inl ⟨rfl, rfl⟩)) (Or.inr rfl)
              have hn : wkQ lv cv t Q = none := by unfold wkQ; rw [← hev, ev_6n c hb]; rfl
              have out : ri F (some (vi (w.1 65 (0 : Int32).toNatClampNeg))) w := ri_i (h _ w fw (Or.inr ⟨hn, w5⟩))
              refine kg_X0_work_11 hq ka ma _ _ _ _ ⟨fun _ => ⟨v0, out⟩, fun _ => ⟨fun _ => ⟨v0, out⟩, fun _ => ⟨fun _ => ⟨v0, out⟩, fun z5 => ?_⟩⟩⟩
              rw [w5] at z5
              exact absurd z5 (by decide)
      have neg : ¬ i < 0 := by rw [t_lt, k0]; omega
      have lt3 : ¬ y.1 60 3 ≤ i := by rw [fy 60 3 (by unfold sWk; omega), t_le]; omega
      refine kg_X0_work_11 hq ka ma _ _ _ _ ⟨fun cc => absurd cc neg, fun _ => ⟨fun cc => absurd cc lt3, fun _ => ⟨fun n5 => absurd y5 n5, fun _ => ⟨vi9, ?_⟩⟩⟩⟩
      rw [y62]
      refine ⟨fun z => absurd z c62, fun _ => ⟨vi9, ?_⟩⟩
      rcases cs with c | c | c | c | c | c
      · have e1 : (cQ e).1 = 1 := by unfold cQ; rw [if_pos c]
        refine ⟨fun _ => p69 (by omega), fun n => absurd e1 n⟩
      · have e1 : (cQ e).1 = 2 := by unfold cQ; rw [if_neg (by omega), if_pos c]
        exact ⟨fun _ => p69 (by omega), fun _ => ⟨fun _ => p69 (by omega), fun n => absurd e1 n⟩⟩
      · have e1 : (cQ e).1 = 3 := by unfold cQ; rw [if_neg (by omega), if_neg (by omega), if_pos c]
        exact ⟨fun _ => p69 (by omega), fun _ => ⟨fun _ => p69 (by omega), fun _ => ⟨fun n => absurd e1 n, fun _ => p69 (by omega)⟩⟩⟩
      · have e1 : (cQ e).1 = 2 := by unfold cQ; rw [if_neg (by omega), if_neg (by omega), if_neg (by omega), if_pos c]
        exact ⟨fun _ => p69 (by omega), fun _ => ⟨fun _ => p69 (by omega), fun n => absurd e1 n⟩⟩
      · have e1 : (cQ e).1 = 5 ∨ (cQ e).1 = 4 := by
          have : (cQ e).1 = if e.2.2 = 29 then 5 else 4 := by unfold cQ; rw [if_neg (by omega), if_neg (by omega), if_neg (by omega), if_neg (by omega), if_pos c]
          rw [this]
          split
          · exact Or.inl rfl
          · exact Or.inr rfl
        refine ⟨fun z => ?_, fun _ => ⟨fun z => ?_, fun _ => ⟨fun _ => ⟨fun _ => p139 c, fun n4 => ⟨fun n5 => ?_, fun _ => p139 c⟩⟩, fun z => ?_⟩⟩⟩
        · rcases e1 with e1 | e1 <;> (rw [e1] at z; exact absurd z (by decide))
        · rcases e1 with e1 | e1 <;> (rw [e1] at z; exact absurd z (by decide))
        · exact e1.elim (fun z => absurd z n5) (fun z => absurd z n4)
        · rcases e1 with e1 | e1 <;> (rw [e1] at z; exact absurd z (by decide))
      · obtain ⟨z1, z2, z3, z4, z5⟩ := c6 c
        exact ⟨fun z => absurd z z1, fun _ => ⟨fun z => absurd z z2, fun _ => ⟨fun _ => ⟨fun z => absurd z z4, fun _ => ⟨fun _ => p6 c, fun z => absurd z z5⟩⟩, fun z => absurd z z3⟩⟩⟩
  refine kg_X0_work_0 hq ka ma _ _ _ (fun x1 e1 => loop Q 0 [] 0 s x1 (fun j q hj => by rw [Nat.zero_add]; exact hj) (by omega) ok (by rw [e1]; exact fm_si (fm_rf _ _) (Or.inl ⟨rfl, rfl⟩)) rfl (by decide) (by omega) (by rw [e1, si_get, if_pos ⟨rfl, rfl⟩]) trivial rfl)
end KWF
