/-! the class's code: the steps of open statements -/
/-- a statement is opened -/
def Pu (x y : gd) (k s : Int32) : Prop := (∀ c j, ccS c j → ¬ (c = 100 ∧ j = 13) → ¬ ((c = 111 ∨ c = 112) ∧ j = (x.1 100 13).toNatClampNeg) → y.1 c j = x.1 c j) ∧ (y.1 100 13).toNatClampNeg = (x.1 100 13).toNatClampNeg + 1 ∧ y.1 111 (x.1 100 13).toNatClampNeg = k ∧ y.1 112 (x.1 100 13).toNatClampNeg = s ∧ ¬ x.1 100 5 = 0
/-- one with the step t is closed -/
def Po (x y : gd) (t : Nat) : Prop := (∀ c j, ccS c j → ¬ (c = 100 ∧ j = 13) → y.1 c j = x.1 c j) ∧ (y.1 100 13).toNatClampNeg + 1 = (x.1 100 13).toNatClampNeg ∧ ¬ x.1 111 (y.1 100 13).toNatClampNeg = 0 ∧ (x.1 112 (y.1 100 13).toNatClampNeg).toInt = (t : Nat) ∧ ¬ x.1 100 5 = 0
/-- from x, where the innermost statement (step n) is closed already but not in the events, to y by the events N -/
def CGn (sN : Nat → Nat → Bool) (V K : Nat → Int32) (n : Nat) (Ev : gV) (x y : gd) (N : gU) : Prop := ∀ Ec S k w d P, eqE Ec Ev → CCp sN V K x (Ec, S, k, rg0, w) d P → CCp sN V K y (cds sN K N (Ec, S, n :: k, rg0, w)) (ces K V N d) (P ++ tPs sN V K N Ev) ∧ eqE (cds sN K N (Ec, S, n :: k, rg0, w)).1 (exs N Ev) ∧ (cds sN K N (Ec, S, n :: k, rg0, w)).2.2.2.1 = rg0
/-- an if ends, and those around it -/
def CE (sN : Nat → Nat → Bool) (V K : Nat → Int32) (n : Nat) (x y : gd) (N : gU) : Prop := ∀ Ec S k r w d P, CCp sN V K x (Ec, S, k, r, w) d P → ∃ S' k', cds sN K ([(63, 0, 0)] ++ N) (Ec, S, n :: k, r, w) = (Ec, S', k', r, w) ∧ CCp sN V K y (Ec, S', k', r, w) d P
section KCK
variable {sN : Nat → Nat → Bool} {V K : Nat → Int32} {Ev Ec Ec' : gV} {x y z w9 x1 x4 : gd} {M N N' : gU} {e i j n t z9 v9 : Nat} {d : Nat × Int32 × List (Int32 × Bool)} {P : List (Int32 × Int32)} {S : List gSt} {k k' : List Nat} {r r' : gRg} {w : List (Nat × Nat) × List (Nat × gU)} {kk s a b o v : Int32}
theorem CCp_stk (h : CCp sN V K x (Ec, S, k, r, w) d P) (g : ∀ c j, ccS c j → ¬ (c = 100 ∧ (j = 13 ∨ j = 5)) → ¬ c = 111 → ¬ c = 112 → y.1 c j = x.1 c j) (hs : (¬ y.1 100 5 = 0 → SKk y (y.1 100 13).toNatClampNeg k') ∧ (y.1 100 5 = 0 → k' = [])) : CCp sN V K y (Ec', S, k', r', w) d P := by
  obtain ⟨⟨p1, p2⟩, ⟨s1, s2⟩, -, ⟨b1, b2⟩, ⟨c1, c2⟩, ⟨a1, a2⟩, ⟨f1, f2⟩⟩ := h
  have g8 : ∀ c k, 61 ≤ c → c < 90 → y.1 c k = x.1 c k := fun c k q1 q2 => g c k (Or.inr (Or.inl ⟨q1, q2⟩)) (by omega) (by omega) (by omega)
  have g6 : ∀ k, k ≠ 13 → y.1 60 k = x.1 60 k := fun k q => g 60 k (Or.inl ⟨rfl, q⟩) (by omega) (by omega) (by omega)
  exact ⟨⟨by rw [g6 3 (by decide)]; exact p1, fun i q hi hq => by rw [g8 62 i (by decide) (by decide), g8 63 i (by decide) (by decide)]; exact p2 i q hi hq⟩, ⟨by rw [g8 80 9 (by decide) (by decide)]; exact s1, fun j st hj => kS_eq (fun k q1 q2 => g8 k j (by omega) q2) (s2 j st hj)⟩, hs, ⟨by rw [g6 10 (by decide)]; exact b1, fun t q hq => by rw [g8 72 t (by decide) (by decide), g8 73 t (by decide) (by decide)]; exact b2 t q hq⟩, ⟨by rw [g6 6 (by decide)]; exact c1, fun j q hq => by rw [g8 68 j (by decide) (by decide), g8 69 j (by decide) (by decide)]; exact c2 j q hq⟩, ⟨by rw [g6 14 (by decide)]; exact a1, fun k N hN => by rw [g8 76 k (by decide) (by decide)]; exact a2 k N hN⟩, ⟨by rw [g6 16 (by decide)]; exact f1, fun k N hN => by rw [g8 78 k (by decide) (by decide)]; exact f2 k N hN⟩⟩
theorem CCp_E (h : CCp sN V K x (Ec, S, k, r, w) d P) : CCp sN V K x (Ec', S, k, r', w) d P := h
theorem CCp_push (h : CCp sN V K x (Ec, S, k, r, w) d P) (g : Pu x y kk s) (hk : ¬ kk = 0) (hs : s.toInt = (j : Nat)) : CCp sN V K y (Ec', S, j :: k, r', w) d P := by
  obtain ⟨g1, g2, g3, g4, g5⟩ := g
  have e5 : y.1 100 5 = x.1 100 5 := g1 _ _ (Or.inr (Or.inr (Or.inl ⟨rfl, Or.inl rfl⟩))) (by omega) (by omega)
  refine CCp_stk h (fun c j q q1 q2 q3 => g1 c j q (by omega) (by omega)) ⟨fun _ => ?_, fun q => absurd (by rw [← e5]; exact q) g5⟩
  rw [g2]
  exact Or.inr ⟨by rw [g3]; exact hk, j, k, rfl, by rw [g4]; exact hs, SKk_eq (fun i hi => ⟨g1 111 i (Or.inr (Or.inr (Or.inr (Or.inl rfl)))) (by omega) (by omega), g1 112 i (Or.inr (Or.inr (Or.inr (Or.inr rfl)))) (by omega) (by omega)⟩) (h.2.2.1.1 g5)⟩
theorem CCp_pop (h : CCp sN V K x (Ec, S, k, r, w) d P) (g : Po x y t) : ∃ k', k = t :: k' ∧ ∀ Ec' r', CCp sN V K y (Ec', S, k', r', w) d P := by
  obtain ⟨g1, g2, g3, g4, g5⟩ := g
  have e5 : y.1 100 5 = x.1 100 5 := g1 _ _ (Or.inr (Or.inr (Or.inl ⟨rfl, Or.inl rfl⟩))) (by omega)
  have hs := h.2.2.1.1 g5
  rw [← g2] at hs
  rcases hs with ⟨q, -⟩ | ⟨-, j, k', q1, q2, q3⟩
  · exact absurd q g3
  have ej : j = t := by
    rw [g4] at q2
    omega
  rw [ej] at q1
  refine ⟨k', q1, fun Ec' r' => CCp_stk h (fun c j q q1 q2 q3 => g1 c j q (by omega)) ⟨fun _ => ?_, fun q => absurd (by rw [← e5]; exact q) g5⟩⟩
  exact SKk_eq (fun i hi => ⟨g1 111 i (Or.inr (Or.inr (Or.inr (Or.inl rfl)))) (by omega), g1 112 i (Or.inr (Or.inr (Or.inr (Or.inr rfl)))) (by omega)⟩) q3
/-- a step's target is set -/
theorem CCp_to (h : CCp sN V K x (Ec, S, k, r, w) d P) (ey : y = si x 84 j v) (hv : v.toInt = (n : Nat)) (h8 : ¬ x.1 81 j = 8) : CCp sN V K y (Ec', cTo S j n, k, r', w) d P := by
  obtain ⟨⟨p1, p2⟩, ⟨s1, s2⟩, ⟨k1, k2⟩, ⟨b1, b2⟩, ⟨c1, c2⟩, ⟨a1, a2⟩, ⟨f1, f2⟩⟩ := h
  have g : ∀ c i, ¬ c = 84 → y.1 c i = x.1 c i := fun c i q => by rw [ey, si_get, if_neg (fun z => q z.1)]
  refine ⟨⟨by rw [g 60 3 (by decide)]; exact p1, fun i q hi hq => by rw [g 62 i (by decide), g 63 i (by decide)]; exact p2 i q hi hq⟩, ⟨by rw [g 80 9 (by decide)]; show _ = ((cTo S j n).length : Int); rw [cTo_len]; exact s1, fun i st hi => ?_⟩, ⟨fun q => ?_, fun q => k2 (by rw [← g 100 5 (by decide)]; exact q)⟩, ⟨by rw [g 60 10 (by decide)]; exact b1, fun t q hq => by rw [g 72 t (by decide), g 73 t (by decide)]; exact b2 t q hq⟩, ⟨by rw [g 60 6 (by decide)]; exact c1, fun j q hq => by rw [g 68 j (by decide), g 69 j (by decide)]; exact c2 j q hq⟩, ⟨by rw [g 60 14 (by decide)]; exact a1, fun k N hN => by rw [g 76 k (by decide)]; exact a2 k N hN⟩, ⟨by rw [g 60 16 (by decide)]; exact f1, fun k N hN => by rw [g 78 k (by decide)]; exact f2 k N hN⟩⟩
  · have hi : (cTo S j n)[i]? = some st := hi
    rw [cTo_at] at hi
    obtain ⟨st0, h0, h1⟩ := Option.map_eq_some_iff.mp hi
    have hk := s2 i st0 h0
    by_cases c : i = j
    · rw [if_pos c] at h1
      obtain ⟨q1, q2, q3, q4, q5, q6, q7, q8⟩ := hk
      rw [← h1]
      unfold kS
      rw [g 81 i (by decide), g 83 i (by decide), g 85 i (by decide), g 87 i (by decide), g 88 i (by decide), g 89 i (by decide)]
      refine ⟨q1, q2, fun _ => ?_, fun q => ?_, q5, q6, q7, q8⟩
      · rw [ey, si_get, if_pos ⟨rfl, c⟩]
        exact hv
      · exfalso
        have q : st0.1 = 8 := q
        rw [q, c] at q1
        exact h8 q1
    · rw [if_neg c] at h1
      rw [← h1]
      have e84 : y.1 84 i = x.1 84 i := by rw [ey, si_get, if_neg (fun z => c z.2)]
      exact kS_eq (fun k q1 q2 => by
        by_cases ck : k = 84
        · rw [ck]; exact e84
        · exact g k i ck) hk
  · rw [g 100 13 (by decide)]
    exact SKk_eq (fun i _ => ⟨g 111 i (by decide), g 112 i (by decide)⟩) (k1 (by rw [← g 100 5 (by decide)]; exact q))
theorem CCp_sm (h : CCp sN V K x (Ec, S, k, r, w) d P) : (x.1 80 9).toInt = (S.length : Nat) := h.2.1.1
/-- if, while -/
theorem CG_test {N2 : gU} (h : PD sN V K Ev x y none N [(s, N2)] 0 false) (hEv : ¬ Ev.2.1 = []) (hE : KV' K e y Ev) (a : stK y z 17 (y.1 100 9) (-1) (-1) (-1) s (-1)) (fr : ∀ c k, ccS c k → w9.1 c k = z.1 c k) (p : Pu w9 x1 kk (y.1 80 9)) (hk : ¬ kk = 0) (hv : v9 = 60 ∨ v9 = 61) : CG sN V K Ev x x1 (N ++ [(v9, i, 0)] ++ [(20, z9, 0)]) := by
  obtain ⟨h1, h2, h3, h4, h5⟩ := h
  intro c d P he hr hc
  obtain ⟨Ec, S, k, rr, ww⟩ := c
  have hr : rr = rgT none 0 := hr
  have he : eqE Ec Ev := he
  obtain ⟨g1, g2⟩ := h5 _ d P he hc
  have hEc : ¬ Ec.2.1 = [] := by rw [he.2]; exact hEv
  have kl : (y.1 100 9).toInt = (Ec.1.length : Nat) := by rw [hE.1, eqE_len he]
  have su : cSu sN V K (P ++ tPs sN V K N Ev) Ec.1 s (some N2) := by
    have hm : (s, N2) ∈ [(s, N2)] := List.mem_singleton.mpr rfl
    have q1 := g2 _ hm
    have q2 : sPs sN V K Ev N2 = sPs sN V K (Ec.1, [0], 0) N2 := sPs_E (h3 _ hm) (fun t => kfi_len he.1.symm)
    show SUc _ _ (sPs sN V K (Ec.1, [0], 0) N2)
    rw [← q2]
    exact q1
  have q := CCp_add (st := (17, i, knw Ec, none, none, false, none, some N2, none)) (r' := rg0) g1 a rfl kl (fun _ => rfl) (fun q => absurd q (show ¬ 17 = 8 by decide)) (fun _ => rfl) rfl su rfl
  have q' := CCp_push (Ec' := exV Ec (20, z9, 0)) (r' := rg0) (CCp_eq fr q) p hk (CCp_sm g1)
  have ec : cds sN K (N ++ [(v9, i, 0)] ++ [(20, z9, 0)]) (Ec, S, k, rr, ww) = (exV Ec (20, z9, 0), S ++ [(17, i, knw Ec, none, none, false, none, some N2, none)], S.length :: k, rg0, ww) := by
    rw [hr, cds_app, cds_app, h4 _ _ _ _ _ hEc]
    rcases hv with e | e
    · rw [e]; rfl
    · rw [e]; rfl
  have ee : ces K V (N ++ [(v9, i, 0)] ++ [(20, z9, 0)]) d = d := by
    rw [ces_app, ces_app, h2]
    rcases hv with e | e <;> (rw [e]; rfl)
  have sv : still (N ++ [(v9, i, 0)]) := still_app h1 (by rcases hv with e | e <;> (rw [e]; exact stl_k (by decide)))
  have ep : tPs sN V K (N ++ [(v9, i, 0)] ++ [(20, z9, 0)]) Ev = tPs sN V K N Ev := by
    have e1 : tPs sN V K [(v9, i, 0)] Ev = [] := by rcases hv with e | e <;> (rw [e]; rfl)
    have e2 : tPs sN V K [(20, z9, 0)] Ev = [] := rfl
    rw [tPs_app, exs_still sv, e2, List.append_nil, tPs_app, exs_still h1, e1, List.append_nil]
  have ex : exs (N ++ [(v9, i, 0)] ++ [(20, z9, 0)]) Ev = exV Ev (20, z9, 0) := by rw [exs_app, exs_still sv]; rfl
  rw [ec, ee, ep, ex]
  exact ⟨q', exV_q he, rfl⟩
/-- a lock's block -/
theorem CG_lock (fr0 : ∀ c k, ccS c k → y.1 c k = x.1 c k) (hE : KV' K e y Ev) (hoi : a.toInt = (j : Nat)) (ha : stK y z 5 (y.1 100 9) b a (-1) (-1) (-1)) (fr : ∀ c k, ccS c k → w9.1 c k = z.1 c k) (p : Pu w9 x1 2 (y.1 80 9)) : CG sN V K Ev x x1 ([(65, i, j)] ++ [(20, 2, 0)]) := by
  intro c d P he hr hc
  obtain ⟨Ec, S, k, rr, ww⟩ := c
  have hr : rr = rg0 := hr
  have he : eqE Ec Ev := he
  have g1 := CCp_eq fr0 hc
  have kl : (y.1 100 9).toInt = (Ec.1.length : Nat) := by rw [hE.1, eqE_len he]
  have q := CCp_add (st := (5, i, knw Ec, none, some j, false, none, none, none)) (r' := rg0) g1 ha rfl kl (fun q => absurd q (show ¬ (5 = 0 ∨ (2 ≤ 5 ∧ 5 ≤ 4) ∨ 5 = 16 ∨ 5 = 17 ∨ 5 = 20) by decide)) (fun q => absurd q (show ¬ 5 = 8 by decide)) (fun _ => hoi) rfl rfl rfl
  have q' := CCp_push (Ec' := exV Ec (20, 2, 0)) (r' := rg0) (CCp_eq fr q) p (by decide) (CCp_sm g1)
  have ec : cds sN K ([(65, i, j)] ++ [(20, 2, 0)]) (Ec, S, k, rr, ww) = (exV Ec (20, 2, 0), S ++ [(5, i, knw Ec, none, some j, false, none, none, none)], S.length :: k, rg0, ww) := by
    rfl
  have ee : ces K V ([(65, i, j)] ++ [(20, 2, 0)]) d = d := rfl
  have ep : tPs sN V K ([(65, i, j)] ++ [(20, 2, 0)]) Ev = [] := rfl
  have ex : exs ([(65, i, j)] ++ [(20, 2, 0)]) Ev = exV Ev (20, 2, 0) := rfl
  rw [ec, ee, ep, ex, List.append_nil]
  exact ⟨q', exV_q he, rfl⟩
/-- an if ends -/
theorem CE_0 (ey : y = si x 84 n (x.1 80 9)) (h8 : ¬ x.1 81 n = 8) : CE sN V K n x y [] := fun Ec S k r w d P h => ⟨_, _, rfl, CCp_to h ey (CCp_sm h) h8⟩
theorem CE_more (h : CE sN V K n x y N) (p : Po y z t) (ey : w9 = si z 84 t (z.1 80 9)) (h8 : ¬ z.1 81 t = 8) : CE sN V K n x w9 (N ++ [(63, 0, 0)]) := by
  intro Ec S k r w d P hc
  obtain ⟨S', k', e1, q1⟩ := h Ec S k r w d P hc
  obtain ⟨k2, e2, q2⟩ := CCp_pop q1 p
  refine ⟨cTo S' t S'.length, k2, ?_, CCp_to (q2 Ec r) ey (CCp_sm (q2 Ec r)) h8⟩
  rw [← List.append_assoc, cds_app, e1, e2]
  rfl
theorem n63_tPs {E : gV} : ∀ {N : gU}, (∀ v ∈ N, v = ((63, 0, 0) : Nat × Nat × Nat)) → tPs sN V K N E = [] ∧ exs N E = E ∧ ∀ d, ces K V N d = d := by
  intro N
  induction N with
  | nil => intro _; exact ⟨rfl, rfl, fun d => rfl⟩
  | cons v N ih =>
    intro h
    obtain ⟨i1, i2, i3⟩ := ih (fun w hw => h w (List.mem_cons_of_mem _ hw))
    rw [h v List.mem_cons_self]
    exact ⟨i1, i2, i3⟩
theorem CE_n (h : CE sN V K n x y N) (hN : ∀ v ∈ N, v = ((63, 0, 0) : Nat × Nat × Nat)) : CGn sN V K n Ev x y ([(63, 0, 0)] ++ N) := by
  intro Ec S k w d P he hc
  obtain ⟨S', k', e1, q1⟩ := h Ec S k rg0 w d P hc
  obtain ⟨i1, i2, i3⟩ := n63_tPs (sN := sN) (V := V) (K := K) (E := Ev) (N := [(63, 0, 0)] ++ N) (fun v hv => (List.mem_append.mp hv).elim (fun q => List.mem_singleton.mp q) (hN v))
  rw [e1, i1, i2, i3, List.append_nil]
  exact ⟨q1, he, rfl⟩
/-- the end of an if's or else's block -/
theorem CG_21n (fr : ∀ c k, ccS c k → x1.1 c k = x.1 c k) (p : Po x1 x4 t) (hz : z9 = 3 ∨ z9 = 4) (h : CGn sN V K t (exV Ev (21, z9, 0)) x4 y N) : CG sN V K Ev x y ([(21, z9, 0)] ++ N) := by
  intro c d P he hr hc
  obtain ⟨Ec, S, k, rr, ww⟩ := c
  have hr : rr = rg0 := hr
  have he : eqE Ec Ev := he
  obtain ⟨k2, e2, q2⟩ := CCp_pop (CCp_eq fr hc) p
  have e1 : cds sN K [(21, z9, 0)] (Ec, S, k, rr, ww) = (exV Ec (21, z9, 0), S, t :: k2, rg0, ww) := by
    rw [cds_one, cd_21, hr, e2]
    rcases hz with q | q <;> (rw [q]; rfl)
  have e3 : tPs sN V K [(21, z9, 0)] Ev = [] := rfl
  have e4 : ces K V [(21, z9, 0)] d = d := rfl
  obtain ⟨g1, g2, g3⟩ := h _ S k2 ww d P (exV_q (v := (21, z9, 0)) he) (q2 _ _)
  rw [cds_app, e1, ces_app, e4, tPs_app, e3, List.nil_append, exs_app]
  exact ⟨g1, g2, g3⟩
/-- of a while's -/
theorem CG_21w (fr : ∀ c k, ccS c k → x1.1 c k = x.1 c k) (p : Po x1 x4 t) (hE : KV' K e x4 (exV Ev (21, 1, 0))) (hs : s.toInt = (t : Nat)) (a : stK x4 y 20 (x4.1 100 9) s (-1) (-1) (-1) (-1)) (ez : z = si y 84 t (y.1 80 9)) (h8 : ¬ y.1 81 t = 8) : CG sN V K Ev x z [(21, 1, 0)] := by
  intro c d P he hr hc
  obtain ⟨Ec, S, k, rr, ww⟩ := c
  have hr : rr = rg0 := hr
  have he : eqE Ec Ev := he
  obtain ⟨k2, e2, q2⟩ := CCp_pop (CCp_eq fr hc) p
  have he' := exV_q (v := (21, 1, 0)) he
  have kl : (x4.1 100 9).toInt = ((exV Ec (21, 1, 0)).1.length : Nat) := by rw [hE.1, eqE_len he']
  have q := CCp_add (st := (20, 0, knw (exV Ec (21, 1, 0)), some t, none, false, none, none, none)) (r' := rg0) (q2 (exV Ec (21, 1, 0)) rg0) a rfl kl (fun _ => hs) (fun q => absurd q (show ¬ 20 = 8 by decide)) (fun _ => rfl) rfl rfl rfl
  have q3 := CCp_to (Ec' := exV Ec (21, 1, 0)) (r' := rg0) q ez (CCp_sm q) h8
  have e1 : cds sN K [(21, 1, 0)] (Ec, S, k, rr, ww) = (exV Ec (21, 1, 0), cTo (S ++ [(20, 0, knw (exV Ec (21, 1, 0)), some t, none, false, none, none, none)]) t (S ++ [(20, 0, knw (exV Ec (21, 1, 0)), some t, none, false, none, none, none)]).length, k2, rg0, ww) := by
    rw [cds_one, cd_21, hr, e2, List.length_append]
    rfl
  have e3 : tPs sN V K [(21, 1, 0)] Ev = [] := rfl
  have e4 : ces K V [(21, 1, 0)] d = d := rfl
  rw [e1, e4, e3, List.append_nil]
  exact ⟨q3, he', rfl⟩
/-- of a lock's -/
theorem CG_21l (fr : ∀ c k, ccS c k → x1.1 c k = x.1 c k) (p : Po x1 x4 t) (hE : KV' K e x4 (exV Ev (21, 2, 0))) (ht : (t : Int) < (x4.1 80 9).toInt) (h5 : x4.1 81 t = 5) (a : stK x4 y 6 (x4.1 100 9) b (x4.1 85 t) (-1) (-1) (-1)) : CG sN V K Ev x y [(21, 2, 0)] := by
  intro c d P he hr hc
  obtain ⟨Ec, S, k, rr, ww⟩ := c
  have hr : rr = rg0 := hr
  have he : eqE Ec Ev := he
  obtain ⟨k2, e2, q2⟩ := CCp_pop (CCp_eq fr hc) p
  have he' := exV_q (v := (21, 2, 0)) he
  have kl : (x4.1 100 9).toInt = ((exV Ec (21, 2, 0)).1.length : Nat) := by rw [hE.1, eqE_len he']
  have c4 := q2 (exV Ec (21, 2, 0)) rg0
  rw [CCp_sm c4] at ht
  have ht : t < S.length := by omega
  obtain ⟨st, hst⟩ : ∃ st, S[t]? = some st := ⟨_, List.getElem?_eq_getElem ht⟩
  have ks := c4.2.1.2 t st hst
  have n16 : ¬ st.1 = 16 := fun q => by
    have := ks.1
    rw [h5, q] at this
    exact absurd this (by decide)
  have n13 : ¬ st.1 = 13 := fun q => by
    have := ks.1
    rw [h5, q] at this
    exact absurd this (by decide)
  have hob : obI V (x4.1 85 t) 6 st.2.2.2.2.1 := by
    have h9 := ks.2.2.2.2.1 n16
    cases h8 : st.2.2.2.2.1 with
    | none => rw [h8] at h9; exact h9
    | some t0 =>
      rw [h8] at h9
      have h9 : if st.1 = 13 then x4.1 85 t = V t0 else (x4.1 85 t).toInt = (t0 : Nat) := h9
      rw [if_neg n13] at h9
      exact h9
  have q := CCp_add (st := (6, st.2.1, knw (exV Ec (21, 2, 0)), none, st.2.2.2.2.1, false, none, none, none)) (r' := rg0) c4 a rfl kl (fun q => absurd q (show ¬ (6 = 0 ∨ (2 ≤ 6 ∧ 6 ≤ 4) ∨ 6 = 16 ∨ 6 = 17 ∨ 6 = 20) by decide)) (fun q => absurd q (show ¬ 6 = 8 by decide)) (fun _ => hob) rfl rfl rfl
  have e1 : cds sN K [(21, 2, 0)] (Ec, S, k, rr, ww) = (exV Ec (21, 2, 0), S ++ [(6, st.2.1, knw (exV Ec (21, 2, 0)), none, st.2.2.2.2.1, false, none, none, none)], k2, rg0, ww) := by
    rw [cds_one, cd_21, hr, e2]
    have eg : gtS S t = st := by unfold gtS; rw [hst]; rfl
    show (exV Ec (21, 2, 0), S ++ [(6, (gtS S t).2.1, knw (exV Ec (21, 2, 0)), none, (gtS S t).2.2.2.2.1, false, none, none, none)], k2, rg0, ww) = _
    rw [eg]
  have e3 : tPs sN V K [(21, 2, 0)] Ev = [] := rfl
  have e4 : ces K V [(21, 2, 0)] d = d := rfl
  rw [e1, e4, e3, List.append_nil]
  exact ⟨q, he', rfl⟩
/-- of a thread's -/
theorem CG_21t (fr : ∀ c k, ccS c k → x1.1 c k = x.1 c k) (f4 : ∀ c j, ccS c j → ¬ (c = 100 ∧ j = 13) → x4.1 c j = x1.1 c j) (h13 : (x1.1 100 13).toNatClampNeg = 1) (h111 : x1.1 111 0 = 0) (h5 : ¬ x1.1 100 5 = 0) (a : stK x4 y 21 0 (-1) (-1) (-1) (-1) (-1)) (fz : ∀ c k, ¬ (c = 100 ∧ k = 5) → z.1 c k = y.1 c k) (z5 : z.1 100 5 = 0) (o4 : (x4.1 100 13).toNatClampNeg = 0) (hE : (exV Ev (21, 0, 0)).1 = []) : CG sN V K Ev x z [(21, 0, 0)] := by
  intro c d P he hr hc
  obtain ⟨Ec, S, k, rr, ww⟩ := c
  have hr : rr = rg0 := hr
  have he : eqE Ec Ev := he
  have c1 := CCp_eq fr hc
  have hk := c1.2.2.1.1 h5
  rw [h13] at hk
  have hk : k = [] := by
    rcases hk with ⟨-, q⟩ | ⟨q, -⟩
    · exact q
    · exact absurd h111 q
  have e5 : x4.1 100 5 = x1.1 100 5 := f4 _ _ (Or.inr (Or.inr (Or.inl ⟨rfl, Or.inl rfl⟩))) (by omega)
  have c4 : CCp sN V K x4 (exV Ec (21, 0, 0), S, [], rg0, ww) d P := CCp_stk c1 (fun c j q q1 q2 q3 => f4 c j q (by omega)) ⟨fun _ => by rw [o4]; rfl, fun _ => rfl⟩
  have he' := exV_q (v := (21, 0, 0)) he
  have kl : (0 : Int32).toInt = ((exV Ec (21, 0, 0)).1.length : Nat) := by
    rw [eqE_len he', hE]; rfl
  have q := CCp_add (st := (21, 0, knw (exV Ec (21, 0, 0)), none, none, false, none, none, none)) (r' := rg0) c4 a rfl kl (fun q => absurd q (show ¬ (21 = 0 ∨ (2 ≤ 21 ∧ 21 ≤ 4) ∨ 21 = 16 ∨ 21 = 17 ∨ 21 = 20) by decide)) (fun q => absurd q (show ¬ 21 = 8 by decide)) (fun _ => rfl) rfl rfl rfl
  have q3 : CCp sN V K z (exV Ec (21, 0, 0), S ++ [(21, 0, knw (exV Ec (21, 0, 0)), none, none, false, none, none, none)], [], rg0, ww) d P := CCp_stk q (fun c j q q1 q2 q3 => fz c j (by omega)) ⟨fun q => absurd z5 q, fun _ => rfl⟩
  have e1 : cds sN K [(21, 0, 0)] (Ec, S, k, rr, ww) = (exV Ec (21, 0, 0), S ++ [(21, 0, knw (exV Ec (21, 0, 0)), none, none, false, none, none, none)], [], rg0, ww) := by
    rw [cds_one, cd_21, hr, hk]
    rfl
  have e3 : tPs sN V K [(21, 0, 0)] Ev = [] := rfl
  have e4 : ces K V [(21, 0, 0)] d = d := rfl
  rw [e1, e4, e3, List.append_nil]
  exact ⟨q3, he', rfl⟩
/-- else -/
theorem CG_62 (hE : KV' K e x Ev) (a : stK x y 20 (x.1 100 9) (-1) (-1) (-1) (-1) (-1)) (ez : z = si y 84 n (y.1 80 9)) (h8 : ¬ y.1 81 n = 8) (fr : ∀ c k, ccS c k → w9.1 c k = z.1 c k) (p : Pu w9 x1 kk (x.1 80 9)) (hk : ¬ kk = 0) : CGn sN V K n Ev x x1 [(62, i, 0)] := by
  intro Ec S k w d P he hc
  have kl : (x.1 100 9).toInt = (Ec.1.length : Nat) := by rw [hE.1, eqE_len he]
  have q := CCp_add (st := (20, 0, knw Ec, none, none, false, none, none, none)) (r' := rg0) hc a rfl kl (fun _ => rfl) (fun q => absurd q (show ¬ 20 = 8 by decide)) (fun _ => rfl) rfl rfl rfl
  have q3 := CCp_to (Ec' := Ec) (r' := rg0) q ez (CCp_sm q) h8
  have q' := CCp_push (Ec' := Ec) (r' := rg0) (CCp_eq fr q3) p hk (CCp_sm hc)
  have e1 : cds sN K [(62, i, 0)] (Ec, S, n :: k, rg0, w) = (Ec, cTo (S ++ [(20, 0, knw Ec, none, none, false, none, none, none)]) n (S ++ [(20, 0, knw Ec, none, none, false, none, none, none)]).length, S.length :: k, rg0, w) := by
    rw [cds_one, cd_62, List.length_append]
    rfl
  have e3 : tPs sN V K [(62, i, 0)] Ev = [] := rfl
  have e4 : ces K V [(62, i, 0)] d = d := rfl
  have ex : exs [(62, i, 0)] Ev = Ev := exs_still (stl_k (by decide))
  rw [e1, e4, e3, List.append_nil, ex]
  exact ⟨q', he, rfl⟩
theorem CGn_20 (h : CGn sN V K n Ev x y [(62, i, 0)]) : CGn sN V K n Ev x y ([(62, i, 0)] ++ [(20, z9, 0)]) := by
  intro Ec S k w d P he hc
  obtain ⟨g1, g2, g3⟩ := h Ec S k w d P he hc
  have e3 : tPs sN V K ([(62, i, 0)] ++ [(20, z9, 0)]) Ev = tPs sN V K [(62, i, 0)] Ev := rfl
  rw [cds_app, ces_app, e3, exs_app]
  refine ⟨?_, exV_q (v := (20, z9, 0)) g2, g3⟩
  exact g1
end KCK
