section
/-! the class's code: definitions -/
/-- no statement is under way (a claim's sort may stand there) -/
def rgO (r : gRg) : Prop := ∃ p, r = ([], [], p, false, none, 0)
/-- outside a thread, from x to y by the events M -/
def CGo (sN : Nat → Nat → Bool) (V K : Nat → Int32) (E : gV) (x y : gd) (M : gU) : Prop := ∀ c d P, eqE c.1 E → rgO c.2.2.2.1 → CCp sN V K x c d P → CCp sN V K y (cds sN K M c) (ces K V M d) (P ++ tPs sN V K M E) ∧ eqE (cds sN K M c).1 (exs M E) ∧ rgO (cds sN K M c).2.2.2.1
/-- a thread begins -/
def CGb (sN : Nat → Nat → Bool) (V K : Nat → Int32) (E : gV) (x y : gd) (M : gU) : Prop := ∀ c d P, eqE c.1 E → rgO c.2.2.2.1 → CCp sN V K x c d P → CCp sN V K y (cds sN K M c) (ces K V M d) (P ++ tPs sN V K M E) ∧ eqE (cds sN K M c).1 (exs M E) ∧ (cds sN K M c).2.2.2.1 = rg0
/-- cells -/
def CEl (x : gd) (l : List (Int32 × Bool)) : Prop := (x.1 60 6).toInt = l.length ∧ ∀ j q, l[j]? = some q → x.1 68 j = q.1 ∧ x.1 69 j = if q.2 = true then 1 else 0
section KCDF
variable {G : kG} {q9 : kP} {dd : Nat} {Fv : gd → Prop}
variable {sN : Nat → Nat → Bool} {V K : Nat → Int32} {Ev Ec Ec' E E' : gV} {x y z w9 : gd} {M N N' : gU} {e i j n t b9 : Nat} {d d' : Nat × Int32 × List (Int32 × Bool)} {P Q : List (Int32 × Int32)} {S : List gSt} {k k' : List Nat} {r r' : gRg} {w w' : List (Nat × Nat) × List (Nat × gU)} {s m v : Int32}
theorem CCp_gen (h : CCp sN V K x (Ec, S, k, r, w) d P) (hp : PR y (P ++ Q)) (g : ∀ c j, 80 ≤ c → c < 90 → y.1 c j = x.1 c j) (hs : (¬ y.1 100 5 = 0 → SKk y (y.1 100 13).toNatClampNeg k') ∧ (y.1 100 5 = 0 → k' = [])) (hb : (y.1 60 10).toInt = w'.1.length ∧ ∀ (t : Nat) (q : Nat × Nat), w'.1[t]? = some q → (y.1 72 t).toInt = q.1 ∧ y.1 73 t = Int32.ofNat q.2) (hc : CEl y d'.2.2) (h5 : (y.1 60 14).toInt = (clF 35 w'.2).length ∧ ∀ k N, (clF 35 w'.2)[k]? = some N → SUc (P ++ Q) (y.1 76 k) (sPs sN V K E0v N)) (h6 : (y.1 60 16).toInt = (clF 36 w'.2).length ∧ ∀ k N, (clF 36 w'.2)[k]? = some N → SUc (P ++ Q) (y.1 78 k) (sPs sN V K E0v N)) : CCp sN V K y (Ec', S, k', r', w') d' (P ++ Q) := by
  obtain ⟨-, ⟨s1, s2⟩, -⟩ := h
  exact ⟨hp, ⟨by rw [g 80 9 (by decide) (by decide)]; exact s1, fun j st hj => kS_mono (kS_eq (fun k q1 q2 => g k j (by omega) q2) (s2 j st hj)) Q⟩, hs, hb, hc, h5, h6⟩
theorem sPs_Eo (h : sEv true N) (h1 : E.2.1 = []) (h2 : E'.2.1 = []) : sPs sN V K E N = sPs sN V K E' N := by
  induction N with
  | nil => rfl
  | cons v N ih =>
    have e : cPt sN V K E v = cPt sN V K E' v := by
      unfold cPt
      rw [if_pos h1, if_pos h2]
      have hv := h v List.mem_cons_self
      by_cases c : v.1 = 3
      · exfalso
        rcases hv with q | q | q | q | q | q
        · omega
        · omega
        · omega
        · omega
        · exact absurd q.1 (by decide)
        · omega
      · rw [if_neg c, if_neg c]
    show (v :: N).filterMap _ = (v :: N).filterMap _
    rw [List.filterMap_cons, List.filterMap_cons, e]
    have := ih (fun w hw => h w (List.mem_cons_of_mem _ hw))
    unfold sPs at this
    rw [this]
/-- cells are told -/
theorem CGo_cell (fr : ∀ c k, ccS c k → ¬ (c = 60 ∧ k = 6) → ¬ c = 68 → ¬ c = 69 → y.1 c k = x.1 c k) (hc : ∀ c, cds sN K N c = c) (ht : tPs sN V K N Ev = []) (hN : still N) (hl : ∀ d, CEl x d.2.2 → CEl y (ces K V N d).2.2) : CGo sN V K Ev x y N := by
  intro c d P he hr h
  obtain ⟨Ec, S, k, rr, ww⟩ := c
  rw [hc, ht, exs_still hN]
  refine ⟨?_, he, hr⟩
  have g8 : ∀ c j, 61 ≤ c → c < 90 → ¬ c = 68 → ¬ c = 69 → y.1 c j = x.1 c j := fun c j q1 q2 q3 q4 => fr c j (Or.inr (Or.inl ⟨q1, q2⟩)) (by omega) q3 q4
  have g6 : ∀ k, k ≠ 13 → k ≠ 6 → y.1 60 k = x.1 60 k := fun k q q2 => fr 60 k (Or.inl ⟨rfl, q⟩) (by omega) (by omega) (by omega)
  have e5 : y.1 100 5 = x.1 100 5 := fr _ _ (Or.inr (Or.inr (Or.inl ⟨rfl, Or.inl rfl⟩))) (by omega) (by omega) (by omega)
  have e13 : y.1 100 13 = x.1 100 13 := fr _ _ (Or.inr (Or.inr (Or.inl ⟨rfl, Or.inr rfl⟩))) (by omega) (by omega) (by omega)
  obtain ⟨⟨p1, p2⟩, -, ⟨k1, k2⟩, ⟨b1, b2⟩, hce, ⟨a1, a2⟩, ⟨f1, f2⟩⟩ := id h
  refine CCp_gen (Q := []) h (by rw [List.append_nil]; exact ⟨by rw [g6 3 (by decide) (by decide)]; exact p1, fun i q hi hq => by rw [g8 62 i (by decide) (by decide) (by decide) (by decide), g8 63 i (by decide) (by decide) (by decide) (by decide)]; exact p2 i q hi hq⟩) (fun c j q1 q2 => g8 c j (by omega) q2 (by omega) (by omega)) ⟨fun q => ?_, fun q => k2 (by rw [← e5]; exact q)⟩ ⟨by rw [g6 10 (by decide) (by decide)]; exact b1, fun t q hq => by rw [g8 72 t (by decide) (by decide) (by decide) (by decide), g8 73 t (by decide) (by decide) (by decide) (by decide)]; exact b2 t q hq⟩ (hl d hce) ⟨by rw [g6 14 (by decide) (by decide)]; exact a1, fun k N hN => by rw [g8 76 k (by decide) (by decide) (by decide) (by decide), List.append_nil]; exact a2 k N hN⟩ ⟨by rw [g6 16 (by decide) (by decide)]; exact f1, fun k N hN => by rw [g8 78 k (by decide) (by decide) (by decide) (by decide), List.append_nil]; exact f2 k N hN⟩
  rw [e13]
  exact SKk_eq (fun i _ => ⟨fr _ _ (Or.inr (Or.inr (Or.inr (Or.inl rfl)))) (by omega) (by omega) (by omega), fr _ _ (Or.inr (Or.inr (Or.inr (Or.inr rfl)))) (by omega) (by omega) (by omega)⟩) (k1 (by rw [← e5]; exact q))
/-- a lock is told -/
theorem CGo_lock (fr : ∀ c k, ccS c k → ¬ (c = 60 ∧ k = 9) → y.1 c k = x.1 c k) : CGo sN V K Ev x y [(33, i, j)] := by
  intro c d P he hr h
  obtain ⟨Ec, S, k, rr, ww⟩ := c
  have e1 : cds sN K [(33, i, j)] (Ec, S, k, rr, ww) = (Ec, S, k, rr, ww) := rfl
  have e2 : tPs sN V K [(33, i, j)] Ev = [] := rfl
  have e3 : ces K V [(33, i, j)] d = d := rfl
  rw [e1, e2, e3, exs_still (stl_k (by decide))]
  refine ⟨?_, he, hr⟩
  have g8 : ∀ c j, 61 ≤ c → c < 90 → y.1 c j = x.1 c j := fun c j q1 q2 => fr c j (Or.inr (Or.inl ⟨q1, q2⟩)) (by omega)
  have g6 : ∀ k, k ≠ 13 → k ≠ 9 → y.1 60 k = x.1 60 k := fun k q q2 => fr 60 k (Or.inl ⟨rfl, q⟩) (by omega)
  have e5 : y.1 100 5 = x.1 100 5 := fr _ _ (Or.inr (Or.inr (Or.inl ⟨rfl, Or.inl rfl⟩))) (by omega)
  have e13 : y.1 100 13 = x.1 100 13 := fr _ _ (Or.inr (Or.inr (Or.inl ⟨rfl, Or.inr rfl⟩))) (by omega)
  obtain ⟨⟨p1, p2⟩, -, ⟨k1, k2⟩, ⟨b1, b2⟩, ⟨c1, c2⟩, ⟨a1, a2⟩, ⟨f1, f2⟩⟩ := id h
  refine CCp_gen (Q := []) h (by rw [List.append_nil]; exact ⟨by rw [g6 3 (by decide) (by decide)]; exact p1, fun i q hi hq => by rw [g8 62 i (by decide) (by decide), g8 63 i (by decide) (by decide)]; exact p2 i q hi hq⟩) (fun c j q1 q2 => g8 c j (by omega) q2) ⟨fun q => ?_, fun q => k2 (by rw [← e5]; exact q)⟩ ⟨by rw [g6 10 (by decide) (by decide)]; exact b1, fun t q hq => by rw [g8 72 t (by decide) (by decide), g8 73 t (by decide) (by decide)]; exact b2 t q hq⟩ ⟨by rw [g6 6 (by decide) (by decide)]; exact c1, fun j q hq => by rw [g8 68 j (by decide) (by decide), g8 69 j (by decide) (by decide)]; exact c2 j q hq⟩ ⟨by rw [g6 14 (by decide) (by decide)]; exact a1, fun k N hN => by rw [g8 76 k (by decide) (by decide), List.append_nil]; exact a2 k N hN⟩ ⟨by rw [g6 16 (by decide) (by decide)]; exact f1, fun k N hN => by rw [g8 78 k (by decide) (by decide), List.append_nil]; exact f2 k N hN⟩
  rw [e13]
  exact SKk_eq (fun i _ => ⟨fr _ _ (Or.inr (Or.inr (Or.inr (Or.inl rfl)))) (by omega), fr _ _ (Or.inr (Or.inr (Or.inr (Or.inr rfl)))) (by omega)⟩) (k1 (by rw [← e5]; exact q))
theorem clF_y {u : Nat} {l : List (Nat × gU)} : clF u (l ++ [(u, N)]) = clF u l ++ [N] := by
  unfold clF
  rw [List.filterMap_append]
  simp
theorem clF_n {u u' : Nat} {l : List (Nat × gU)} (h : ¬ u' = u) : clF u (l ++ [(u', N)]) = clF u l := by
  unfold clF
  rw [List.filterMap_append]
  simp [h]
/-- a claim is told -/
theorem CGo_claim {u : Nat} (fr0 : ∀ c k, ccS c k → y.1 c k = x.1 c k) (hE2 : Ev.2.1 = []) (hs : sEv true N') (hp : CPl y z (sPs sN V K Ev (N' ++ [(54, 0, 0)]))) (fr : ∀ c k, ccS c k → ¬ (c = 60 ∧ k = 3) → ¬ c = 62 → ¬ c = 63 → z.1 c k = y.1 c k) (hsr : s = y.1 60 3) (hu : (u = 35 ∧ w9.1 76 (x.1 60 14).toNatClampNeg = s ∧ (w9.1 60 14).toInt = (x.1 60 14).toInt + 1 ∧ ∀ c k, ccS c k → ¬ (c = 60 ∧ k = 14) → ¬ (c = 76 ∧ k = (x.1 60 14).toNatClampNeg) → w9.1 c k = z.1 c k) ∨ (u = 36 ∧ w9.1 78 (x.1 60 16).toNatClampNeg = s ∧ (w9.1 60 16).toInt = (x.1 60 16).toInt + 1 ∧ ∀ c k, ccS c k → ¬ (c = 60 ∧ k = 16) → ¬ (c = 78 ∧ k = (x.1 60 16).toNatClampNeg) → w9.1 c k = z.1 c k)) : CGo sN V K Ev x w9 ([(u, i, 0)] ++ (N' ++ [(54, 0, 0)])) := by
  intro c d P he hr h
  obtain ⟨Ec, S, k, rr, ww⟩ := c
  obtain ⟨p0, hr⟩ := hr
  have hr : rr = ([], [], p0, false, none, 0) := hr
  have he : eqE Ec Ev := he
  have hEc : Ec.2.1 = [] := by rw [he.2]; exact hE2
  have hu35 : u = 35 ∨ u = 36 := hu.imp (fun q => q.1) (fun q => q.1)
  have e1 : cds sN K ([(u, i, 0)] ++ (N' ++ [(54, 0, 0)])) (Ec, S, k, rr, ww) = (Ec, S, k, ([], [], u, false, none, 0), ww.1, ww.2 ++ [(u, N')]) := by
    have a1 : cds sN K [(u, i, 0)] (Ec, S, k, rr, ww) = (Ec, S, k, ([], [], u, false, none, 0), ww) := by
      rw [hr]
      rcases hu35 with q | q <;> (rw [q]; rfl)
    rw [cds_app, a1, cds_app, cds_sum (r := ([], [], u, false, none, 0)) hs (fun _ => hEc), List.nil_append, cds_one]
    unfold cdV
    rw [if_neg (by decide), if_neg (by decide), if_pos rfl, if_pos hEc]
  have su : still [(u, i, 0)] := by rcases hu35 with q | q <;> (rw [q]; exact stl_k (by decide))
  have sN2 : still (N' ++ [(54, 0, 0)]) := still_54 (sEv_still hs)
  have e2 : tPs sN V K ([(u, i, 0)] ++ (N' ++ [(54, 0, 0)])) Ev = sPs sN V K Ev N' ++ [(0, 0)] := by
    have a1 : tPs sN V K [(u, i, 0)] Ev = [] := by rcases hu35 with q | q <;> (rw [q]; rfl)
    rw [tPs_app, a1, List.nil_append, exs_still su, tPs_x hs, sPs_54]
  have e3 : ces K V ([(u, i, 0)] ++ (N' ++ [(54, 0, 0)])) d = d := by
    have a1 : ces K V [(u, i, 0)] d = d := by rcases hu35 with q | q <;> (rw [q]; rfl)
    rw [ces_app, a1, ces_app, sEv_ce hs]; rfl
  rw [e1, e2, e3, exs_still (still_app su sN2)]
  refine ⟨?_, he, u, rfl⟩
  have hy := CCp_eq fr0 h
  have hz := CCp_sum (r' := rr) hy hp fr
  rw [sPs_54] at hz
  have hss : SUc (P ++ (sPs sN V K Ev N' ++ [(0, 0)])) s (sPs sN V K E0v N') := by
    rw [← sPs_Eo (E := Ev) (E' := E0v) hs hE2 rfl]
    exact SUc_next hy.1 hsr _
  obtain ⟨⟨p1, p2⟩, -, ⟨k1, k2⟩, ⟨b1, b2⟩, ⟨c1, c2⟩, ⟨a1, a2⟩, ⟨f1, f2⟩⟩ := id hz
  have m14 : x.1 60 14 = z.1 60 14 := by rw [fr 60 14 (Or.inl ⟨rfl, by decide⟩) (by omega) (by omega) (by omega), fr0 60 14 (Or.inl ⟨rfl, by decide⟩)]
  have m16 : x.1 60 16 = z.1 60 16 := by rw [fr 60 16 (Or.inl ⟨rfl, by decide⟩) (by omega) (by omega) (by omega), fr0 60 16 (Or.inl ⟨rfl, by decide⟩)]
  have a1 : (z.1 60 14).toInt = (clF 35 ww.2).length := a1
  have f1 : (z.1 60 16).toInt = (clF 36 ww.2).length := f1
  have fin : (∀ c k, ccS c k → ¬ (c = 60 ∧ (k = 14 ∨ k = 16)) → ¬ c = 76 → ¬ c = 78 → w9.1 c k = z.1 c k) → ((w9.1 60 14).toInt = (clF 35 (ww.2 ++ [(u, N')])).length ∧ ∀ k N, (clF 35 (ww.2 ++ [(u, N')]))[k]? = some N → SUc (P ++ (sPs sN V K Ev N' ++ [(0, 0)])) (w9.1 76 k) (sPs sN V K E0v N)) → ((w9.1 60 16).toInt = (clF 36 (ww.2 ++ [(u, N')])).length ∧ ∀ k N, (clF 36 (ww.2 ++ [(u, N')]))[k]? = some N → SUc (P ++ (sPs sN V K Ev N' ++ [(0, 0)])) (w9.1 78 k) (sPs sN V K E0v N)) → CCp sN V K w9 (Ec, S, k, ([], [], u, false, none, 0), ww.1, ww.2 ++ [(u, N')]) d (P ++ (sPs sN V K Ev N' ++ [(0, 0)])) := by
    intro g q5 q6
    have g8 : ∀ c j, 61 ≤ c → c < 90 → ¬ c = 76 → ¬ c = 78 → w9.1 c j = z.1 c j := fun c j q1 q2 q3 q4 => g c j (Or.inr (Or.inl ⟨q1, q2⟩)) (by omega) q3 q4
    have g6 : ∀ k, k ≠ 13 → k ≠ 14 → k ≠ 16 → w9.1 60 k = z.1 60 k := fun k q q2 q3 => g 60 k (Or.inl ⟨rfl, q⟩) (by omega) (by omega) (by omega)
    have e5 : w9.1 100 5 = z.1 100 5 := g _ _ (Or.inr (Or.inr (Or.inl ⟨rfl, Or.inl rfl⟩))) (by omega) (by omega) (by omega)
    have e13 : w9.1 100 13 = z.1 100 13 := g _ _ (Or.inr (Or.inr (Or.inl ⟨rfl, Or.inr rfl⟩))) (by omega) (by omega) (by omega)
    have q := CCp_gen (Q := []) (w' := (ww.1, ww.2 ++ [(u, N')])) (d' := d) (k' := k) (Ec' := Ec) (r' := ([], [], u, false, none, 0)) hz (y := w9) (by rw [List.append_nil]; exact ⟨by rw [g6 3 (by decide) (by decide) (by decide)]; exact p1, fun i q hi hq => by rw [g8 62 i (by decide) (by decide) (by decide) (by decide), g8 63 i (by decide) (by decide) (by decide) (by decide)]; exact p2 i q hi hq⟩) (fun c j q1 q2 => g8 c j (by omega) q2 (by omega) (by omega)) ⟨fun q => (by rw [e13]; exact SKk_eq (fun i _ => ⟨g _ _ (Or.inr (Or.inr (Or.inr (Or.inl rfl)))) (by omega) (by omega) (by omega), g _ _ (Or.inr (Or.inr (Or.inr (Or.inr rfl)))) (by omega) (by omega) (by omega)⟩) (k1 (by rw [← e5]; exact q))), fun q => k2 (by rw [← e5]; exact q)⟩ ⟨by rw [g6 10 (by decide) (by decide) (by decide)]; exact b1, fun t q hq => by rw [g8 72 t (by decide) (by decide) (by decide) (by decide), g8 73 t (by decide) (by decide) (by decide) (by decide)]; exact b2 t q hq⟩ ⟨by rw [g6 6 (by decide) (by decide) (by decide)]; exact c1, fun j q hq => by rw [g8 68 j (by decide) (by decide) (by decide) (by decide), g8 69 j (by decide) (by decide) (by decide) (by decide)]; exact c2 j q hq⟩ (by rw [List.append_nil]; exact q5) (by rw [List.append_nil]; exact q6)
    rw [List.append_nil] at q
    exact q
  rcases hu with ⟨ue, h76, h14, g⟩ | ⟨ue, h78, h16, g⟩
  · rw [m14] at h76 h14 g
    refine fin (fun c k q q1 q2 q3 => g c k q (by omega) (by omega)) ?_ ?_
    · rw [ue, clF_y]
      refine ⟨by rw [h14, a1, List.length_append]; rfl, fun k N hN => ?_⟩
      have en : (z.1 60 14).toNatClampNeg = (clF 35 ww.2).length := by rw [t_cl, a1]; omega
      rcases Nat.lt_or_ge k (clF 35 ww.2).length with hk | hk
      · rw [List.getElem?_append_left hk] at hN
        rw [g 76 k (Or.inr (Or.inl ⟨by decide, by decide⟩)) (by omega) (by omega)]
        exact a2 k N hN
      · rw [List.getElem?_append_right hk] at hN
        have hk0 : k - (clF 35 ww.2).length = 0 := by
          obtain ⟨hl, -⟩ := List.getElem?_eq_some_iff.mp hN
          simp at hl
          omega
        rw [hk0] at hN
        have eN : N' = N := Option.some.inj hN
        have ek : k = (z.1 60 14).toNatClampNeg := by omega
        rw [ek, h76, ← eN]
        exact hss
    · rw [ue, clF_n (by decide), g 60 16 (Or.inl ⟨rfl, by decide⟩) (by omega) (by omega)]
      exact ⟨f1, fun k N hN => by rw [g 78 k (Or.inr (Or.inl ⟨by decide, by decide⟩)) (by omega) (by omega)]; exact f2 k N hN⟩
  · rw [m16] at h78 h16 g
    refine fin (fun c k q q1 q2 q3 => g c k q (by omega) (by omega)) ?_ ?_
    · rw [ue, clF_n (by decide), g 60 14 (Or.inl ⟨rfl, by decide⟩) (by omega) (by omega)]
      exact ⟨a1, fun k N hN => by rw [g 76 k (Or.inr (Or.inl ⟨by decide, by decide⟩)) (by omega) (by omega)]; exact a2 k N hN⟩
    · rw [ue, clF_y]
      refine ⟨by rw [h16, f1, List.length_append]; rfl, fun k N hN => ?_⟩
      have en : (z.1 60 16).toNatClampNeg = (clF 36 ww.2).length := by rw [t_cl, f1]; omega
      rcases Nat.lt_or_ge k (clF 36 ww.2).length with hk | hk
      · rw [List.getElem?_append_left hk] at hN
        rw [g 78 k (Or.inr (Or.inl ⟨by decide, by decide⟩)) (by omega) (by omega)]
        exact f2 k N hN
      · rw [List.getElem?_append_right hk] at hN
        have hk0 : k - (clF 36 ww.2).length = 0 := by
          obtain ⟨hl, -⟩ := List.getElem?_eq_some_iff.mp hN
          simp at hl
          omega
        rw [hk0] at hN
        have eN : N' = N := Option.some.inj hN
        have ek : k = (z.1 60 16).toNatClampNeg := by omega
        rw [ek, h78, ← eN]
        exact hss
/-- a thread begins: its number, whether it is idle, its first step -/
theorem CGb_thread (fr : ∀ c k, ccS c k → ¬ (c = 60 ∧ k = 10) → ¬ (c = 72 ∧ k = (x.1 60 10).toNatClampNeg) → ¬ (c = 73 ∧ k = (x.1 60 10).toNatClampNeg) → ¬ c = 100 → y.1 c k = x.1 c k) (h10 : (y.1 60 10).toInt = (x.1 60 10).toInt + 1) (h72 : y.1 72 (x.1 60 10).toNatClampNeg = x.1 80 9) (h73 : y.1 73 (x.1 60 10).toNatClampNeg = Int32.ofNat b9) (h13 : y.1 100 13 = 0) (x5 : x.1 100 5 = 0) (hE1 : Ev.1 = []) (hE2 : Ev.2.1 = []) (fr2 : ∀ c k, ccS c k → z.1 c k = y.1 c k) (p : Pu z w9 0 s) : CGb sN V K Ev x w9 ([(34, i, b9)] ++ [(20, 0, 0)]) := by
  intro c d P he hr h
  obtain ⟨Ec, S, k, rr, ww⟩ := c
  have he : eqE Ec Ev := he
  obtain ⟨⟨p1, p2⟩, ⟨s1, s2⟩, ⟨k1, k2⟩, ⟨b1, b2⟩, ⟨c1, c2⟩, ⟨a1, a2⟩, ⟨f1, f2⟩⟩ := id h
  have hk : k = [] := k2 x5
  have b1 : (x.1 60 10).toInt = ww.1.length := b1
  have s1 : (x.1 80 9).toInt = S.length := s1
  have e1 : cds sN K ([(34, i, b9)] ++ [(20, 0, 0)]) (Ec, S, k, rr, ww) = (exV E0v (20, 0, 0), S, [], rg0, ww.1 ++ [(S.length, b9)], ww.2) := by rw [hk]; rfl
  have e2 : tPs sN V K ([(34, i, b9)] ++ [(20, 0, 0)]) Ev = [] := rfl
  have e3 : ces K V ([(34, i, b9)] ++ [(20, 0, 0)]) d = d := rfl
  have e4 : exs ([(34, i, b9)] ++ [(20, 0, 0)]) Ev = exV Ev (20, 0, 0) := rfl
  rw [e1, e2, e3, e4]
  refine ⟨?_, exV_q (v := (20, 0, 0)) ⟨by rw [hE1], by rw [hE2]⟩, rfl⟩
  obtain ⟨g1, g2, g3, g4, g5⟩ := p
  have en : (x.1 60 10).toNatClampNeg = ww.1.length := by rw [t_cl, b1]; omega
  rw [en] at fr h72 h73
  have z13 : z.1 100 13 = 0 := by rw [fr2 100 13 (Or.inr (Or.inr (Or.inl ⟨rfl, Or.inr rfl⟩)))]; exact h13
  have n13 : (z.1 100 13).toNatClampNeg = 0 := by rw [z13]; rfl
  rw [n13] at g1 g2 g3 g4
  have o : ∀ c j, ccS c j → ¬ c = 100 → ¬ c = 111 → ¬ c = 112 → w9.1 c j = y.1 c j := fun c j q q1 q2 q3 => by rw [g1 c j q (by omega) (by omega), fr2 c j q]
  have o8 : ∀ c j, 61 ≤ c → c < 90 → ¬ (c = 72 ∧ j = ww.1.length) → ¬ (c = 73 ∧ j = ww.1.length) → w9.1 c j = x.1 c j := fun c j q1 q2 q3 q4 => by rw [o c j (Or.inr (Or.inl ⟨q1, q2⟩)) (by omega) (by omega) (by omega), fr c j (Or.inr (Or.inl ⟨q1, q2⟩)) (by omega) q3 q4 (by omega)]
  have o6 : ∀ k, k ≠ 13 → k ≠ 10 → w9.1 60 k = x.1 60 k := fun k q q2 => by rw [o 60 k (Or.inl ⟨rfl, q⟩) (by omega) (by omega) (by omega), fr 60 k (Or.inl ⟨rfl, q⟩) (by omega) (by omega) (by omega) (by omega)]
  have w5 : w9.1 100 5 = z.1 100 5 := g1 100 5 (Or.inr (Or.inr (Or.inl ⟨rfl, Or.inl rfl⟩))) (by omega) (by omega)
  refine CCp_gen (Q := []) h (by rw [List.append_nil]; exact ⟨by rw [o6 3 (by decide) (by decide)]; exact p1, fun i q hi hq => by rw [o8 62 i (by decide) (by decide) (by omega) (by omega), o8 63 i (by decide) (by decide) (by omega) (by omega)]; exact p2 i q hi hq⟩) (fun c j q1 q2 => o8 c j (by omega) q2 (by omega) (by omega)) ⟨fun q => ?_, fun _ => rfl⟩ ⟨?_, fun t q hq => ?_⟩ ⟨by rw [o6 6 (by decide) (by decide)]; exact c1, fun j q hq => by rw [o8 68 j (by decide) (by decide) (by omega) (by omega), o8 69 j (by decide) (by decide) (by omega) (by omega)]; exact c2 j q hq⟩ ⟨by rw [o6 14 (by decide) (by decide)]; exact a1, fun k N hN => by rw [o8 76 k (by decide) (by decide) (by omega) (by omega), List.append_nil]; exact a2 k N hN⟩ ⟨by rw [o6 16 (by decide) (by decide)]; exact f1, fun k N hN => by rw [o8 78 k (by decide) (by decide) (by omega) (by omega), List.append_nil]; exact f2 k N hN⟩
  · rw [g2]
    exact Or.inl ⟨g3, rfl⟩
  · rw [o 60 10 (Or.inl ⟨rfl, by decide⟩) (by omega) (by omega) (by omega), h10, b1]
    show _ = ((ww.1 ++ [(S.length, b9)]).length : Int)
    rw [List.length_append]; rfl
  · have hq : (ww.1 ++ [(S.length, b9)])[t]? = some q := hq
    rcases Nat.lt_or_ge t ww.1.length with ht | ht
    · rw [List.getElem?_append_left ht] at hq
      rw [o8 72 t (by decide) (by decide) (by omega) (by omega), o8 73 t (by decide) (by decide) (by omega) (by omega)]
      exact b2 t q hq
    · rw [List.getElem?_append_right ht] at hq
      have ht0 : t - ww.1.length = 0 := by
        obtain ⟨hl, -⟩ := List.getElem?_eq_some_iff.mp hq
        simp at hl
        omega
      rw [ht0] at hq
      have eq : (S.length, b9) = q := Option.some.inj hq
      have et : t = ww.1.length := by omega
      rw [et, o 72 _ (Or.inr (Or.inl ⟨by decide, by decide⟩)) (by omega) (by omega) (by omega), o 73 _ (Or.inr (Or.inl ⟨by decide, by decide⟩)) (by omega) (by omega) (by omega), h72, h73, ← eq]
      exact ⟨s1, rfl⟩
/-- cells are added -/
theorem kf_addCells (hq : kV q9) (m v b : Int32) (hb : b = 0 ∨ b = 1) (h0 : 0 ≤ (x.1 60 6).toInt) (hm : 0 ≤ m.toInt) (h1 : (x.1 60 6).toInt + m.toInt ≤ 24) (h : ∀ y, fm (fun c k => (c = 60 ∧ k = 6) ∨ c = 68 ∨ c = 69) x y → (y.1 60 6).toInt = (x.1 60 6).toInt + m.toInt → (∀ l, CEl x l → CEl y (l ++ List.replicate m.toInt.toNat (v, decide (b = 1)))) → Fv y) : KT G q9 dd zk_X0_addCells 0 [(0, vr 60), (1, vi m), (2, vi v), (3, vi b)] [] x (rv Fv) := by
  have k24 : (24 : Int32).toInt = 24 := rfl
  have k0 : (0 : Int32).toInt = 0 := rfl
  have nb : vp_nar .boolean b = if decide (b = 1) = true then 1 else 0 := by
    rcases hb with e | e <;> (rw [e]; rfl)
  have loop : ∀ (n : Nat) (i : Int32) (y : gd), fm (fun c k => (c = 60 ∧ k = 6) ∨ c = 68 ∨ c = 69) x y → 0 ≤ i.toInt → i.toInt ≤ m.toInt → (y.1 60 6).toInt = (x.1 60 6).toInt + i.toInt → (∀ l, CEl x l → CEl y (l ++ List.replicate i.toInt.toNat (v, decide (b = 1)))) → m.toInt - i.toInt ≤ n → KT G q9 dd zk_X0_addCells 3 [(0, vr 60), (1, vi m), (2, vi v), (3, vi b), (4, vi i)] [] y (rv Fv) := by
    intro n
    induction n with
    | zero =>
      intro i y fy i0 i1 ey hl hn
      have em : i.toInt.toNat = m.toInt.toNat := by omega
      rw [em] at hl
      refine kg_X0_addCells_3 hq _ _ _ _ ⟨fun _ => rv_i (h y fy (by omega) hl), fun c => ?_⟩
      exfalso; rw [t_le] at c; omega
    | succ n ih =>
      intro i y fy i0 i1 ey hl hn
      refine kg_X0_addCells_3 hq _ _ _ _ ⟨fun c => rv_i (h y fy (by rw [t_le] at c; omega) (by
        rw [t_le] at c
        have em : i.toInt.toNat = m.toInt.toNat := by omega
        rw [em] at hl
        exact hl)), fun c => ⟨fun c2 => ?_, fun c2 => ?_⟩⟩
      · exfalso; rw [t_le] at c; rw [t_le, k24] at c2; omega
      rw [t_le] at c
      have vi9 : vp_in (y.1 60 6) 24 := by rw [vp_in_iff]; omega
      refine ⟨vi9, fun x4 e4 => ?_⟩
      have q4 : x4.1 60 6 = y.1 60 6 := by rw [e4]; (simp only [si_get, sfl_get, Nat.reduceEqDiff, eq_self, and_false, false_and, and_true, true_and, if_true, if_false, reduceIte, reduceCtorEq])
      refine ⟨by rw [q4]; exact vi9, fun x6 e6 x7 e7 => ?_⟩
      rw [q4] at e6
      have q6 : x6.1 60 6 = y.1 60 6 := by rw [e6, ← q4]; (simp only [si_get, sfl_get, Nat.reduceEqDiff, eq_self, and_false, false_and, and_true, true_and, if_true, if_false, reduceIte, reduceCtorEq])
      have q7 : x7.1 60 6 = y.1 60 6 + 1 := by rw [e7, q6]; (simp only [si_get, sfl_get, Nat.reduceEqDiff, eq_self, and_false, false_and, and_true, true_and, if_true, if_false, reduceIte, reduceCtorEq])
      have t7 : (x7.1 60 6).toInt = (y.1 60 6).toInt + 1 := by rw [q7, t_add (by show _ ≤ _ + (1 : Int); omega) (by show _ + (1 : Int) ≤ _; omega)]; rfl
      have ei : (i + 1).toInt = i.toInt + 1 := t_add (by show _ ≤ _ + (1 : Int); omega) (by show _ + (1 : Int) ≤ _; omega)
      have ei2 : (i + 1).toInt.toNat = i.toInt.toNat + 1 := by omega
      refine ih (i + 1) x7 ?_ (by omega) (by omega) (by omega) (fun l hx => ?_) (by omega)
      · rw [e7, e6, e4]; exact fm_si (fm_si (fm_si fy (Or.inr (Or.inl rfl))) (Or.inr (Or.inr rfl))) (Or.inl ⟨rfl, rfl⟩)
      · rw [ei2, List.replicate_succ', ← List.append_assoc]
        obtain ⟨l1, l2⟩ := hl l hx
        have en : (y.1 60 6).toNatClampNeg = (l ++ List.replicate i.toInt.toNat (v, decide (b = 1))).length := by rw [t_cl, l1]; omega
        rw [en] at e4 e6
        refine ⟨by rw [t7, l1, List.length_append (as := l ++ List.replicate i.toInt.toNat (v, decide (b = 1)))]; rfl, sn_get (fun j r9 hr9 => ?_) ?_⟩
        · have hj := gt_lt hr9
          have a : x7.1 68 j = y.1 68 j := by rw [e7, si_cell (by decide), e6, si_cell (by decide), e4, si_get, if_neg (by omega)]
          have b' : x7.1 69 j = y.1 69 j := by rw [e7, si_cell (by decide), e6, si_get, if_neg (by omega), e4, si_cell (by decide)]
          rw [a, b']
          exact l2 j r9 hr9
        · refine ⟨by rw [e7, si_cell (by decide), e6, si_cell (by decide), e4]; (simp only [si_get, sfl_get, Nat.reduceEqDiff, eq_self, and_false, false_and, and_true, true_and, if_true, if_false, reduceIte, reduceCtorEq]), ?_⟩
          rw [e7, si_cell (by decide), e6, ← nb]; (simp only [si_get, sfl_get, Nat.reduceEqDiff, eq_self, and_false, false_and, and_true, true_and, if_true, if_false, reduceIte, reduceCtorEq])
  refine kg_X0_addCells_0 hq _ _ _ (loop 24 0 x (fm_rf _ _) (by decide) (by rw [k0]; exact hm) (by rw [k0]; omega) (fun l hl => ?_) (by rw [k0]; omega))
  rw [k0]
  show CEl x (l ++ [])
  rw [List.append_nil]
  exact hl
end KCDF
end
section
/-! the class: definitions, and when they are refused; what is told, the counts -/
def tdS (T : gTd) (w : Nat) : gTd := T.filter (fun q => decide (q.2.1 = w))
def TBk (x : gd) (T : gTd) : Prop := ((x.1 40 6).toInt = ((tdS T 0).length : Nat) ∧ ((x.1 40 6).toInt ≤ (x.1 60 6).toInt ∧ (x.1 60 6).toInt = (nbT 0 (tdS T 0) : Nat)) ∧ ∀ (i : Nat) (q : Nat × Nat × Nat × Nat), (tdS T 0)[i]? = some q → (x.1 44 i).toNatClampNeg = q.1 ∧ (x.1 46 i).toInt = (q.2.2.1 : Nat) ∧ (x.1 45 i).toInt = (nbT 0 ((tdS T 0).take i) : Nat)) ∧ ((x.1 40 8).toInt = ((tdS T 1).length : Nat) ∧ ∀ (i : Nat) (q : Nat × Nat × Nat × Nat), (tdS T 1)[i]? = some q → (x.1 48 i).toNatClampNeg = q.1) ∧ ((x.1 40 10).toInt = ((tdS T 2).length : Nat) ∧ ∀ (i : Nat) (q : Nat × Nat × Nat × Nat), (tdS T 2)[i]? = some q → (x.1 50 i).toNatClampNeg = q.1)
def CNk (x : gd) (n : gN) : Prop := (x.1 60 6).toInt = (n.1 : Nat) ∧ (x.1 60 9).toInt = (n.2.1 : Nat) ∧ (x.1 60 10).toInt = (n.2.2.1 : Nat) ∧ (x.1 60 14).toInt = (n.2.2.2.1 : Nat) ∧ (x.1 60 16).toInt = (n.2.2.2.2 : Nat)
section KDG
variable {G : kG} {q : kP} {d : Nat} {x x0 y z xs : gd} {F : Int32 → gd → Prop} {Fv : gd → Prop} {X : String → gd → Prop} {P : Option gv → gd → Prop} {K V : Nat → Int32} {sN : Nat → Nat → Bool} {e : Nat} {Ev : gV} {Ml N : gU} {T : gTd} {n : gN}
theorem TBk_f (h : TBk x T) (g : ∀ c k, c = 40 ∨ (44 ≤ c ∧ c ≤ 51) ∨ (c = 60 ∧ k = 6) → y.1 c k = x.1 c k) : TBk y T := by
  unfold TBk at h ⊢
  have t4 : ∀ k, y.1 40 k = x.1 40 k := fun k => g 40 k (Or.inl rfl)
  have tt : ∀ c k, 44 ≤ c → c ≤ 51 → y.1 c k = x.1 c k := fun c k h1 h2 => g c k (Or.inr (Or.inl ⟨h1, h2⟩))
  have t6 : y.1 60 6 = x.1 60 6 := g 60 6 (Or.inr (Or.inr ⟨rfl, rfl⟩))
  rw [t4, t4, t4, t6]
  obtain ⟨⟨a1, a2, a3⟩, ⟨b1, b2⟩, c1, c2⟩ := h
  exact ⟨⟨a1, a2, fun i q hq => by rw [tt 44 _ (by omega) (by omega), tt 46 _ (by omega) (by omega), tt 45 _ (by omega) (by omega)]; exact a3 i q hq⟩, ⟨b1, fun i q hq => by rw [tt _ _ (by omega) (by omega)]; exact b2 i q hq⟩, c1, fun i q hq => by rw [tt _ _ (by omega) (by omega)]; exact c2 i q hq⟩
theorem TBk_e (h : TBk x T) (g : TBe x y) : TBk y T := TBk_f h (fun c k q => g c k (by unfold Tc; omega))
theorem CNk_e (h : CNk x n) (g : TBe x y) : CNk y n := by
  unfold CNk at h ⊢
  have t : ∀ k, k ≠ 3 → k ≠ 13 → y.1 60 k = x.1 60 k := fun k h1 h2 => g 60 k (Or.inr (Or.inr ⟨rfl, h1, h2⟩))
  rw [t _ (by omega) (by omega), t _ (by omega) (by omega), t _ (by omega) (by omega), t _ (by omega) (by omega), t _ (by omega) (by omega)]
  exact h
theorem tdS_y {a b c w : Nat} : tdS (T ++ [(a, w, b, c)]) w = tdS T w ++ [(a, w, b, c)] := by
  unfold tdS
  rw [List.filter_append]
  simp
theorem tdS_n {a b c v w : Nat} (h : ¬ v = w) : tdS (T ++ [(a, v, b, c)]) w = tdS T w := by
  unfold tdS
  rw [List.filter_append]
  simp [h]
theorem ap1 {α : Type} {l : List α} {a b : α} {i : Nat} (h : (l ++ [a])[i]? = some b) : (i < l.length ∧ l[i]? = some b) ∨ (i = l.length ∧ b = a) := by
  by_cases c : i < l.length
  · rw [List.getElem?_append_left c] at h
    exact Or.inl ⟨c, h⟩
  · rw [List.getElem?_append_right (by omega)] at h
    have : i - l.length = 0 := by
      obtain ⟨hl, -⟩ := List.getElem?_eq_some_iff.mp h
      simp at hl
      omega
    rw [this] at h
    exact Or.inr ⟨by omega, (Option.some.inj h).symm⟩
/-- outside a thread: a token is passed -/
theorem kh_pass (hq : kV q) (hx : 700 ≤ nn x → RX x0 X) (hB : OTb x0 x) (hR : RIw K V sN e Ev xs x Ml) (k0 : ¬ K (nn x) = 0) (k3 : ¬ K (nn x) = 3) (h : nn x < 700 → ∀ y, OTb x0 y → nx y = nx x + 1 → GS x y → nn y = nn x + 1 → RIw K V sN e Ev xs y Ml → y.1 42 (nn x) = 0 → (∀ c k, ccS c k → y.1 c k = x.1 c k) → Fv y) : KE G q (d + 7) zk_X7_pass 0 [(0, vr 100)] [] x (rv Fv) X := by
  have b0 := hB.1.1.2.1
  have c0 := nn_is b0
  refine kf_pass hq hB.2.2.2.2.2 (fun c => hx (by omega)) hB.1 (sort_n0 hR.1 hR.2.1 k0) (FR_12 hB.2.1) (fun c7 y f n S fr la _ => ?_)
  have g : GS x y := ⟨la, fm_w f (fun c k q => by unfold sSum; omega)⟩
  have ut : y.1 42 (nn x) = 0 := by rw [f 42 _ (by omega)]; exact hB.2.1
  refine h (by omega) y (OTb_on hB ?_ fr g) n g (nn_up b0 n) (RI_tok hR b0 c7 k0 k3 la n ut) ut (fun c k q => f c k (by unfold ccS at q; omega))
  unfold SU
  rw [f 60 3 (by omega)]; exact S
theorem kh_need (hq : kV q) (w kw : Int32) (hkw : kc w = kw) (hkn : ¬ kw = -1 ∧ ¬ kw = 0 ∧ ¬ kw = 3) (hw : ¬ w = 0) (hx : ¬ (K (nn x) = kw ∧ nn x < 700) → RX x0 X) (hB : OTb x0 x) (hR : RIw K V sN e Ev xs x Ml) (h : K (nn x) = kw → nn x < 700 → ∀ y, OTb x0 y → nx y = nx x + 1 → GS x y → nn y = nn x + 1 → RIw K V sN e Ev xs y Ml → y.1 42 (nn x) = 0 → (∀ c k, ccS c k → y.1 c k = x.1 c k) → Fv y) : KE G q (d + 7) zk_X7_need 0 [(0, vr 100), (1, vi w)] [] x (rv Fv) X := by
  have b0 := hB.1.1.2.1
  have c0 := nn_is b0
  have ki : x.1 23 (x.1 100 4).toNatClampNeg = w ↔ K (nn x) = kw := by
    rw [← hkw]
    exact KA_k hR.1 hR.2.1 w (by rw [hkw]; exact hkn.1)
  refine kf_need hq hB.2.2.2.2.2 w (fun c => hx (fun z => c.elim (fun c => c (ki.mpr z.1)) (fun c => absurd z.2 (by omega)))) hB.1 hw hB.2.1 (fun cw c7 y f n S fr la _ => ?_)
  have kk := ki.mp cw
  have g : GS x y := ⟨la, fm_w f (fun c k q => by unfold sSum; omega)⟩
  have ut : y.1 42 (nn x) = 0 := by rw [f 42 _ (by omega)]; exact hB.2.1
  refine h kk (by omega) y (OTb_on hB ?_ fr g) n g (nn_up b0 n) (RI_tok hR b0 c7 (by rw [kk]; exact hkn.2.1) (by rw [kk]; exact hkn.2.2) la n ut) ut (fun c k q => f c k (by unfold ccS at q; omega))
  unfold SU
  rw [f 60 3 (by omega)]; exact S
theorem kh_needFor (hq : kV q) (w u kw : Int32) (hkw : kc w = kw) (hkn : ¬ kw = -1 ∧ ¬ kw = 0 ∧ ¬ kw = 3) (hw : ¬ w = 0) (hu : ¬ u = 12) (hx : ¬ (K (nn x) = kw ∧ nn x < 700) → RX x0 X) (hB : OTb x0 x) (hA : KA K V sN e x) (hn : nn x ≤ e) (h : K (nn x) = kw → nn x < 700 → ∀ y, OTb x0 y → nx y = nx x + 1 → GS x y → nn y = nn x + 1 → KA K V sN e y → nn y ≤ e → y.1 42 (nn x) = u → tk y (x.1 100 4) → (∀ c k, ccS c k → y.1 c k = x.1 c k) → F (x.1 100 4) y) : KE G q (d + 7) zk_X7_needFor 0 [(0, vr 100), (1, vi w), (2, vi u)] [] x (ri F) X := by
  have b0 := hB.1.1.2.1
  have c0 := nn_is b0
  have ki : x.1 23 (x.1 100 4).toNatClampNeg = w ↔ K (nn x) = kw := by
    rw [← hkw]
    exact KA_k hA hn w (by rw [hkw]; exact hkn.1)
  refine kf_needFor hq hB.2.2.2.2.2 w u (fun c => hx (fun z => c.elim (fun c => c (ki.mpr z.1)) (fun c => absurd z.2 (by omega)))) hB.1 hw (fun q => absurd q hu) (fun cw c7 y f eu n S fr la _ ht => ?_)
  have kk := ki.mp cw
  have g : GS x y := ⟨la, fm_w f (fun c k q => by unfold sSum; omega)⟩
  have en := nn_up b0 n
  refine h kk (by omega) y (OTb_on hB ?_ fr g) n g en (KA_fm hA la.1) (by rw [en]; exact KA_on hA hn (by omega) (by rw [kk]; exact hkn.2.1) (by rw [kk]; exact hkn.2.2)) eu ht (fun c k q => f c k (by unfold ccS at q; omega))
  unfold SU
  rw [f 60 3 (by omega)]; exact S
theorem kh_sum (hq : kV q) (D : Int32) (L : gU) (hx : pX K true (17 - D.toNatClampNeg) (nn x) L = none → RX x0 X) (hB : OTb x0 x) (hA : KA K V sN e x) (hn : nn x ≤ e) (hD : 1 ≤ D.toInt) (hD2 : D.toInt ≤ 18) (h : ∀ r y, OTb x0 y → nx x < nx y → GS x y → ∀ N, RIw K V sN e Ev x y N → still N → pX K true (17 - D.toNatClampNeg) (nn x) L = some (nn y, L ++ N) → (Ev.2.1 = [] → CPl x y (sPs sN V K Ev N)) → r = x.1 60 3 → F r y) : KE G q (d + 9) zk_X7_sum 0 [(0, vr 100), (1, vi D)] [] x (ri F) X :=
  kf_sum hq hB.2.2.2.2.2 D L hx hB.1 hB.2.1 (fun c => absurd hB.2.2.2.2.1 c) ⟨fun _ => hB.2.2.2.2.1, fun _ => rfl⟩ ⟨hA, hn, UR_0 rfl⟩ hD hD2 (fun r y S fr la f n N hR hN hp hcp hr => h r y (OTb_on hB S fr ⟨la, f⟩) n ⟨la, f⟩ N hR hN hp (fun q => hcp (fun _ => q)) hr)
theorem kh_refuse (hq : kV q) (hx : RX x0 X) (hB : OTb x0 x) (n : Int32) (hn : ¬ n = 0 := by decide) : KE G q (d + 6) zk_X7_refuse 0 [(0, vr 100), (1, vi n)] [] x P X := kp_refuse hq n (RB_at hB.1.1) hB.2.2.2.2.2 hx hn
/-- a cell's start value -/
theorem kh_startValue (hq : kV q) (L : gU) {W : gOp} (hx : W = none → RX x0 X) (eW : W = pCv K (nn x, L)) (hB : OTb x0 x) (hA : KA K V sN e x) (hn : nn x ≤ e) (h : ∀ r y, OTb x0 y → nx x ≤ nx y → GS x y → ∀ N, RIw K V sN e Ev x y N → still N → (∀ v ∈ N, ¬ (31 ≤ v.1 ∧ v.1 ≤ 36)) → W = some (nn y, L ++ N) → ((∀ c, ces K V N c = (c.1, r, c.2.2)) ∧ (∀ c, cds sN K N c = c) ∧ tPs sN V K N Ev = []) → (∀ c k, ccS c k → y.1 c k = x.1 c k) → F r y) : KE G q (d + 8) zk_X7_startValue 0 [(0, vr 100)] [] x (ri F) X := by
  have hR0 : RIw K V sN e Ev x x [] := ⟨hA, hn, UR_0 rfl⟩
  have i50 : x.1 23 (x.1 100 4).toNatClampNeg = 10 ↔ K (nn x) = 50 := KA_k hA hn 10 (by decide)
  have p38 : ∀ (s : Int32) (y : gd) (v : Nat), ((s = 0 ∧ v = 80) ∨ (¬ s = 0 ∧ v = 81)) → (∀ c k, ccS c k → y.1 c k = x.1 c k) → OTb x0 y → GS x y → RIw K V sN e Ev x y [] → dull (v, nn y, 0) → still [(v, nn y, 0)] → ¬ (31 ≤ v ∧ v ≤ 36) → W = (if K (nn y) = 2 ∧ nn y < 700 then some (nn y + 1, L ++ [(v, nn y, 0)]) else none) → KE G q (d + 8) zk_X7_startValue 38 [(0, vr 100), (1, vi s)] [] y (ri F) X := by
    intro s y v hsv hcy hBy gy hRy hv hst hv3 hWy
    -- no told
    have nt : ∀ w ∈ ([] ++ [(v, nn y, 0)] : gU), ¬ (31 ≤ w.1 ∧ w.1 ≤ 36) := fun w hw => by rw [List.mem_singleton.mp hw]; exact hv3
    refine kg_X7_startValue_38 hq _ (kh_needFor hq 3 0 2 (by decide) (by decide) (by decide) (by decide) (fun no => hx (by rw [hWy, if_neg no])) hBy hRy.1 hRy.2.1 (fun kk c7 z hBz nz gz en hAz hnz eu ht hcz => ?_))
    have ln := gy.1.2.1
    have by0 := hBy.1.1.2.1
    have hRz : RIw K V sN e Ev x z ([] ++ [(v, nn y, 0)]) := RI_use hRy by0 gz.1 hAz hnz en (HAs_one.mpr (HA_dull hv)) (fun q => absurd eu q)
    rw [if_pos ⟨kk, c7⟩, ← en] at hWy
    have v27 : z.1 27 (y.1 100 4).toNatClampNeg = V (nn y) := hAz.2.1 _ hRy.2.1 kk
    have hcx : ∀ c k, ccS c k → z.1 c k = x.1 c k := fun c k q => (hcz c k q).trans (hcy c k q)
    refine ⟨fun c0 => ⟨RB_at hBy.1.1, ri_i (h _ z hBz (by omega) (GS_tr gy gz) _ hRz hst nt hWy ?_ hcx)⟩, fun c0 => ⟨RB_at hBy.1.1, ri_i (h _ z hBz (by omega) (GS_tr gy gz) _ hRz hst nt hWy ?_ hcx)⟩⟩
    · have ev : v = 80 := by
        rcases hsv with ⟨-, e⟩ | ⟨e, -⟩
        · exact e
        · exact absurd c0 e
      rw [v27, ev]
      exact ⟨fun c => rfl, fun c => rfl, rfl⟩
    · have ev : v = 81 := by
        rcases hsv with ⟨e, -⟩ | ⟨-, e⟩
        · exact absurd e c0
        · exact e
      rw [v27, ev]
      exact ⟨fun c => rfl, fun c => rfl, rfl⟩
  refine kg_X7_startValue_0 hq (kp_sort hq hB.1.1 ⟨fun c => ?_, fun c => ri_i (h _ x hB (Int.le_refl _) GS_rf [(82, 0, 0)] (RI_dull hR0 (dull_k (by decide))) (stl_k (by decide)) (fun w hw => by rw [List.mem_singleton.mp hw]; decide) ?_ ⟨fun c => rfl, fun c => rfl, rfl⟩ (fun c k _ => rfl))⟩)
  · have k50 := i50.mp c
    refine kh_pass (xs := x) (Ml := []) (Ev := Ev) hq (fun c7 => hx (by rw [eW]; unfold pCv; rw [if_pos k50, if_neg (show ¬ nn x < 700 by omega)])) hB hR0 (by rw [k50]; decide) (by rw [k50]; decide) (fun c7 y hBy ny gy eny hRy u0 hcy => ?_)
    have i58 : y.1 23 (y.1 100 4).toNatClampNeg = 18 ↔ K (nn y) = 58 := KA_k hRy.1 hRy.2.1 18 (by decide)
    have hW1 : W = if K (nn y) = 58 then (if nn y < 700 ∧ K (nn y + 1) = 2 ∧ nn y + 1 < 700 then some (nn y + 2, L ++ [(81, nn y + 1, 0)]) else none) else (if K (nn y) = 2 ∧ nn y < 700 then some (nn y + 1, L ++ [(80, nn y, 0)]) else none) := by
      rw [eW, eny]; unfold pCv; rw [if_pos k50, if_pos c7]
    refine kp_sort hq hBy.1.1 ⟨fun c2 => ?_, fun c2 => ?_⟩
    · refine kg_X7_startValue_29 hq _ ⟨fun _ => p38 _ y 80 (Or.inl ⟨rfl, rfl⟩) hcy hBy gy hRy (dull_k (by decide)) (stl_k (by decide)) (by decide) (by rw [hW1, if_neg (fun z => c2 (i58.mpr z))]), fun q => absurd rfl q⟩
    · have k58 := i58.mp c2
      rw [if_pos k58] at hW1
      refine kg_X7_startValue_29 hq _ ⟨fun q => absurd q (by decide), fun _ => kh_pass hq (fun c8 => hx (by rw [hW1, if_neg (fun z => absurd z.1 (by omega))])) hBy hRy (by rw [k58]; decide) (by rw [k58]; decide) (fun c8 z hBz nz gz enz hRz _ hcz => p38 _ z 81 (Or.inr ⟨by decide, rfl⟩) (fun c k q => (hcz c k q).trans (hcy c k q)) hBz (GS_tr gy gz) hRz (dull_k (by decide)) (stl_k (by decide)) (by decide) ?_)⟩
      rw [hW1, enz]
      by_cases cc : K (nn y + 1) = 2 ∧ nn y + 1 < 700
      · rw [if_pos ⟨c8, cc⟩, if_pos cc]
      · rw [if_neg (fun z => cc z.2), if_neg cc]
  · rw [eW]; unfold pCv; rw [if_neg (fun z => c (i50.mpr z))]
/-- the row ahead: what its size will be -/
theorem kf_rowAhead (hq : kV q) (hR : RB x) (hA : KA K V sN e x) (hn : nn x ≤ e) (hk : K (nn x) = 1) (h7 : nn x < 700) (h : ∀ r : Int32, 0 ≤ r.toInt → r.toInt ≤ 8 → ((r = 0 ∧ ¬ K (nn x + 1) = 65) ∨ (0 < r.toInt ∧ K (nn x + 1) = 65 ∧ (nn x + 1 < 700 → r.toInt = (prz K V (nn x + 2) : Nat)))) → F r x) : KT G q (d + 1) zk_X7_rowAhead 0 [(0, vr 100)] [] x (ri F) := by
  have k2 : (2 : Int32).toInt = 2 := rfl
  have k1 : (1 : Int32).toInt = 1 := rfl
  have k8 : (8 : Int32).toInt = 8 := rfl
  have k700 : (700 : Int32).toInt = 700 := rfl
  have b1 := hR.2.1
  have b2 := hR.2.2.1
  have cx := nn_is b1
  have e1 := KA_on hA hn h7 (by rw [hk]; decide) (by rw [hk]; decide)
  have i65 : x.1 23 ((x.1 100 4).toNatClampNeg + 1) = 25 ↔ K (nn x + 1) = 65 := KA_k hA e1 25 (by decide)
  have e2 : (x.1 100 4 + 2).toInt = nx x + 2 := by rw [t_add (by rw [k2]; unfold nx at *; omega) (by rw [k2]; unfold nx at *; omega), k2]
  have e2c : (x.1 100 4 + 2).toNatClampNeg = nn x + 2 := by rw [t_cl, e2]; omega
  have one : ∀ (v : Int32), v = 1 → K (nn x + 1) = 65 → (nn x + 1 < 700 → prz K V (nn x + 2) = 1) → F v x := fun v hv c hp => h v (by rw [hv]; decide) (by rw [hv]; decide) (Or.inr ⟨by rw [hv]; decide, c, fun c7 => by rw [hv, hp c7]; rfl⟩)
  refine kg_X7_rowAhead_0 hq (kp_sortBehind hq hR ⟨fun c => ?_, fun c => ri_i (h _ (by decide) (by decide) (Or.inl ⟨rfl, fun z => c (i65.mpr z)⟩))⟩)
  have k65 := i65.mp c
  have on2 : nn x + 1 < 700 → nn x + 2 ≤ e := fun c7 => KA_on hA e1 c7 (by rw [k65]; decide) (by rw [k65]; decide)
  refine ⟨fun c7 => ri_i (one _ rfl k65 (fun c8 => ?_)), fun c7 => ?_⟩
  · exfalso; rw [t_lt, k700, e2] at c7; omega
  rw [t_lt, k700, e2] at c7
  have v : vp_in (x.1 100 4 + 2) 702 := by rw [vp_in_iff]; omega
  rw [e2c]
  refine ⟨v, fun c3 => ⟨v, ?_⟩, fun c3 => ri_i (one _ rfl k65 (fun c8 => ?_))⟩
  · have pz : nn x + 1 < 700 → K (nn x + 2) = 2 ∧ x.1 27 (nn x + 2) = V (nn x + 2) := fun c8 => by
      have kk := (KA_k hA (on2 c8) 3 (by decide)).mp c3
      have kk : K (nn x + 2) = 2 := kk
      exact ⟨kk, hA.2.1 _ (on2 c8) kk⟩
    have no : ¬ (1 ≤ (x.1 27 (nn x + 2)).toInt ∧ (x.1 27 (nn x + 2)).toInt ≤ 8) → nn x + 1 < 700 → prz K V (nn x + 2) = 1 := fun z c8 => by
      unfold prz
      rw [if_neg (fun w => z ?_)]
      obtain ⟨w0, w1, w2⟩ := w
      rw [t_le, k1] at w1
      rw [t_le, k8] at w2
      rw [(pz c8).2]
      exact ⟨w1, w2⟩
    refine kg_X6_isRowSize_0 hq _ ⟨fun c1 => ri_i ⟨fun _ => ri_i (one _ rfl k65 (no ?_)), fun q => absurd rfl q⟩, fun c1 => ⟨fun c8 => ri_i ⟨fun _ => ri_i (one _ rfl k65 (no ?_)), fun q => absurd rfl q⟩, fun c8 => ri_i ⟨fun q => absurd q (by decide), fun _ => ⟨v, ?_⟩⟩⟩⟩
    · rw [t_lt, k1] at c1; omega
    · rw [t_lt, k8] at c8; omega
    · rw [t_lt, k1] at c1
      rw [t_lt, k8] at c8
      refine ri_i (h _ (by omega) (by omega) (Or.inr ⟨by omega, k65, fun c9 => ?_⟩))
      obtain ⟨z1, z2⟩ := pz c9
      unfold prz
      rw [if_pos ⟨z1, by rw [t_le, k1, ← z2]; omega, by rw [t_le, k8, ← z2]; omega⟩, ← z2, t_cl]
      omega
  · unfold prz
    rw [if_neg (fun w => c3 ((KA_k hA (on2 c8) 3 (by decide)).mpr w.1))]
theorem kf_tellCell (hq : kV q) (t f9 r : Int32) (hc : 0 ≤ (x.1 40 6).toInt ∧ (x.1 40 6).toInt < 24) (h : ∀ y, fm (fun c k => (c = 40 ∧ k = 6) ∨ (44 ≤ c ∧ c ≤ 46 ∧ k = (x.1 40 6).toNatClampNeg)) x y → (y.1 40 6).toInt = (x.1 40 6).toInt + 1 → y.1 44 (x.1 40 6).toNatClampNeg = t → y.1 45 (x.1 40 6).toNatClampNeg = f9 → y.1 46 (x.1 40 6).toNatClampNeg = r → Fv y) : KT G q d zk_X6_tellCell 0 [(0, vr 40), (1, vi t), (2, vi f9), (3, vi r)] [] x (rv Fv) := by
  have k24 : (24 : Int32).toInt = 24 := rfl
  refine kg_X6_tellCell_0 hq _ _ _ ⟨fun c => ?_, fun c => ?_⟩
  · exfalso; rw [t_le, k24] at c; omega
  have v : vp_in (x.1 40 6) 24 := by rw [vp_in_iff]; omega
  refine ⟨v, fun x3 e3 => ?_⟩
  have q3 : x3.1 40 6 = x.1 40 6 := by rw [e3]; (simp only [si_get, sfl_get, Nat.reduceEqDiff, eq_self, and_false, false_and, and_true, true_and, if_true, if_false, reduceIte, reduceCtorEq])
  refine ⟨by rw [q3]; exact v, fun x5 e5 => ?_⟩
  rw [q3] at e5
  have q5 : x5.1 40 6 = x.1 40 6 := by rw [e5, ← q3]; (simp only [si_get, sfl_get, Nat.reduceEqDiff, eq_self, and_false, false_and, and_true, true_and, if_true, if_false, reduceIte, reduceCtorEq])
  refine ⟨by rw [q5]; exact v, fun x7 e7 z ez => rv_i ?_⟩
  rw [q5] at e7
  have q7 : x7.1 40 6 = x.1 40 6 := by rw [e7, ← q5]; (simp only [si_get, sfl_get, Nat.reduceEqDiff, eq_self, and_false, false_and, and_true, true_and, if_true, if_false, reduceIte, reduceCtorEq])
  rw [q7] at ez
  have z6 : (z.1 40 6).toInt = (x.1 40 6).toInt + 1 := by
    have : z.1 40 6 = x.1 40 6 + 1 := by rw [ez]; (simp only [si_get, sfl_get, Nat.reduceEqDiff, eq_self, and_false, false_and, and_true, true_and, if_true, if_false, reduceIte, reduceCtorEq])
    rw [this, t_add (by show _ ≤ _ + (1 : Int); omega) (by show _ + (1 : Int) ≤ _; omega)]; rfl
  refine h z ?_ z6 ?_ ?_ ?_
  · rw [ez, e7, e5, e3]; exact fm_si (fm_si (fm_si (fm_si (fm_rf _ _) (Or.inr ⟨by omega, by omega, rfl⟩)) (Or.inr ⟨by omega, by omega, rfl⟩)) (Or.inr ⟨by omega, by omega, rfl⟩)) (Or.inl ⟨rfl, rfl⟩)
  · rw [ez, e7, e5, e3]; (simp only [si_get, sfl_get, Nat.reduceEqDiff, eq_self, and_false, false_and, and_true, true_and, if_true, if_false, reduceIte, reduceCtorEq])
  · rw [ez, e7, e5, e3]; (simp only [si_get, sfl_get, Nat.reduceEqDiff, eq_self, and_false, false_and, and_true, true_and, if_true, if_false, reduceIte, reduceCtorEq])
  · rw [ez, e7, e5, e3]; (simp only [si_get, sfl_get, Nat.reduceEqDiff, eq_self, and_false, false_and, and_true, true_and, if_true, if_false, reduceIte, reduceCtorEq])
end KDG
end
