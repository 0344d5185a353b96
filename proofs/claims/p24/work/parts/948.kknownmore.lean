section
/-! the class: one local more is known -/
section KMK
variable {G : kG} {q : kP} {d : Nat} {x x0 y z xs : gd} {F : Int32 → gd → Prop} {Fv : gd → Prop} {X : String → gd → Prop} {P : Option gv → gd → Prop} {M : Int} {E : Nat → Prop} {K V : Nat → Int32} {sN : Nat → Nat → Bool} {e : Nat} {Ev : gV} {Ml N : gU}
theorem kd_makeKnown (hq : kV q) (hB : BB x0 x M E) (t : Int32) (ht : tk x t) (h1 : (x.1 100 9).toInt + 1 ≤ (x.1 100 7).toInt) (hM : M ≤ (x.1 60 13).toInt ∨ M ≤ (x.1 100 9).toInt + 1) (hE : KV' K e x Ev) (hk1 : K t.toNatClampNeg = 1) (hte : t.toNatClampNeg ≤ e) (b : Nat) (h : ∀ y, BB x0 y (y.1 60 13).toInt E → nx y = nx x → om y = om x → ssm y = ssm x → KV' K e y (exV Ev (22, t.toNatClampNeg, b)) → fm (fun c k => (c = 100 ∧ (k = 7 ∨ k = 9)) ∨ c = 109 ∨ (c = 60 ∧ k = 13)) x y → y.1 100 7 = x.1 100 7 → Fv y) : KT G q (d + 1) zk_X7_makeKnown 0 [(0, vr 100), (1, vi t)] [] x (rv Fv) := by
  have k8 : (8 : Int32).toInt = 8 := rfl
  obtain ⟨kx, ox, cx⟩ := BB_k hB
  have l8 := ox.2.2.2.2
  have k0 := kx.1.1
  have m0 := cx.2.2.2.2.2.1
  refine kg_X7_makeKnown_0 hq _ ⟨fun c => ?_, fun c => ⟨by rw [vp_in_iff]; omega, fun x3 e3 x4 e4 => ?_⟩⟩
  · exfalso; rw [t_le, k8] at c; omega
  refine kg_X7_makeKnown_29 hq (fun r hr r1 r2 z ez => rv_i ?_)
  have x39 : x3.1 100 9 = x.1 100 9 := by rw [e3]; (simp only [si_get, sfl_get, Nat.reduceEqDiff, eq_self, and_false, false_and, and_true, true_and, if_true, if_false, reduceIte, reduceCtorEq])
  have x49 : x4.1 100 9 = x.1 100 9 + 1 := by rw [e4, x39]; (simp only [si_get, sfl_get, Nat.reduceEqDiff, eq_self, and_false, false_and, and_true, true_and, if_true, if_false, reduceIte, reduceCtorEq])
  have t49 : (x4.1 100 9).toInt = (x.1 100 9).toInt + 1 := by rw [x49, t_add (by show _ ≤ _ + (1 : Int); omega) (by show _ + (1 : Int) ≤ _; omega)]; rfl
  have x413 : x4.1 60 13 = x.1 60 13 := by rw [e4, e3]; (simp only [si_get, sfl_get, Nat.reduceEqDiff, eq_self, and_false, false_and, and_true, true_and, if_true, if_false, reduceIte, reduceCtorEq])
  rw [x413] at hr r1
  have f : fm (fun c k => (c = 100 ∧ (k = 7 ∨ k = 9)) ∨ c = 109 ∨ (c = 60 ∧ k = 13)) x z := by
    rw [ez, e4, e3]; exact fm_si (fm_si (fm_si (fm_rf _ _) (Or.inr (Or.inl rfl))) (Or.inl ⟨rfl, Or.inr rfl⟩)) (Or.inr (Or.inr ⟨rfl, rfl⟩))
  have z9 : z.1 100 9 = x4.1 100 9 := by rw [ez]; (simp only [si_get, sfl_get, Nat.reduceEqDiff, eq_self, and_false, false_and, and_true, true_and, if_true, if_false, reduceIte, reduceCtorEq])
  have z7 : z.1 100 7 = x.1 100 7 := by rw [ez, e4, e3]; (simp only [si_get, sfl_get, Nat.reduceEqDiff, eq_self, and_false, false_and, and_true, true_and, if_true, if_false, reduceIte, reduceCtorEq])
  have z13 : z.1 60 13 = r := by rw [ez]; (simp only [si_get, sfl_get, Nat.reduceEqDiff, eq_self, and_false, false_and, and_true, true_and, if_true, if_false, reduceIte, reduceCtorEq])
  have eN : (((x.1 100 9).toNatClampNeg : Nat) : Int) = (x.1 100 9).toInt := by rw [t_cl]; omega
  have hKz : KN z := by
    unfold KN tk at kx ⊢
    rw [z9, t49, f 20 7 (by omega)]
    refine ⟨by omega, fun i hi => ?_⟩
    by_cases hi2 : i = (x.1 100 9).toNatClampNeg
    · have : z.1 109 i = t := by rw [hi2, ez, e4, e3]; (simp only [si_get, sfl_get, Nat.reduceEqDiff, eq_self, and_false, false_and, and_true, true_and, if_true, if_false, reduceIte, reduceCtorEq])
      rw [this]; exact ht
    · have : z.1 109 i = x.1 109 i := by
        rw [ez, e4, e3, si_get, if_neg (by omega), si_get, if_neg (by omega), si_get, if_neg (fun q => hi2 q.2)]
      rw [this]; exact kx.2 i (by omega)
  have hEz : KV' K e z (exV Ev (22, t.toNatClampNeg, b)) := by
    obtain ⟨e9, he⟩ := hE
    show (z.1 100 9).toInt = (((t.toNatClampNeg, Ev.2.2) :: Ev.1).length : Nat) ∧ ∀ (p : Nat) (k : Nat × Nat), ((t.toNatClampNeg, Ev.2.2) :: Ev.1)[p]? = some k → (z.1 109 (((t.toNatClampNeg, Ev.2.2) :: Ev.1).length - 1 - p)).toNatClampNeg = k.1 ∧ K k.1 = 1 ∧ k.1 ≤ e
    rw [List.length_cons]
    refine ⟨by rw [z9, t49]; omega, fun p k hp => ?_⟩
    cases p with
    | zero =>
      have ek : (t.toNatClampNeg, Ev.2.2) = k := Option.some.inj hp
      rw [← ek]
      have ei : Ev.1.length + 1 - 1 - 0 = (x.1 100 9).toNatClampNeg := by omega
      have : z.1 109 (x.1 100 9).toNatClampNeg = t := by rw [ez, e4, e3]; (simp only [si_get, sfl_get, Nat.reduceEqDiff, eq_self, and_false, false_and, and_true, true_and, if_true, if_false, reduceIte, reduceCtorEq])
      rw [ei, this]
      exact ⟨rfl, hk1, hte⟩
    | succ p =>
      have hp2 : Ev.1[p]? = some k := hp
      obtain ⟨hpl, -⟩ := List.getElem?_eq_some_iff.mp hp2
      have ei : Ev.1.length + 1 - 1 - (p + 1) = Ev.1.length - 1 - p := by omega
      have : z.1 109 (Ev.1.length - 1 - p) = x.1 109 (Ev.1.length - 1 - p) := by
        rw [ez, e4, e3, si_get, if_neg (by omega), si_get, if_neg (by omega), si_get, if_neg (by omega)]
      rw [ei, this]
      exact he p k hp2
  refine h z (BB_kn hB (M' := (z.1 60 13).toInt) (by rw [z13]; omega) f hKz (by rw [z9, t49]; omega) (by rw [z9, t49, z7]; omega) (by rw [z13]; omega) (by rw [z9, z13]; omega)) ?_ ?_ ?_ hEz f z7
  · unfold nx; rw [f 100 4 (by omega)]
  · unfold om; rw [f 100 13 (by omega)]
  · unfold ssm; rw [f 80 9 (by omega)]
end KMK
end
section
/-! the class: the open statements as the grammar's stack u of kinds, and where blocks' locals begin (B; an else-if's place is no block) -/
def SKs (x : gd) : Nat → List Nat → List Nat → Prop
  | 0, u, B => u = [] ∧ B = []
  | n + 1, u, B => ∃ z u', u = z :: u' ∧ (x.1 111 n).toInt = (z : Nat) ∧ ((z = 5 ∧ SKs x n u' B) ∨ (¬ z = 5 ∧ ∃ b B', B = b :: B' ∧ (x.1 113 n).toNatClampNeg = b ∧ SKs x n u' B'))
theorem SKs_eq {x y : gd} : ∀ {n : Nat} {u B : List Nat}, (∀ k, k < n → y.1 111 k = x.1 111 k ∧ y.1 113 k = x.1 113 k) → SKs x n u B → SKs y n u B := by
  intro n
  induction n with
  | zero => intro u B _ h; exact h
  | succ n ih =>
    intro u B g h
    obtain ⟨z, u', h1, h2, h3⟩ := h
    obtain ⟨e1, e2⟩ := g n (Nat.lt_succ_self _)
    have g' : ∀ k, k < n → y.1 111 k = x.1 111 k ∧ y.1 113 k = x.1 113 k := fun k hk => g k (Nat.lt_succ_of_lt hk)
    refine ⟨z, u', h1, by rw [e1]; exact h2, ?_⟩
    rcases h3 with ⟨a, b⟩ | ⟨a, b, B', c1, c2, c3⟩
    · exact Or.inl ⟨a, ih g' b⟩
    · exact Or.inr ⟨a, b, B', c1, by rw [e2]; exact c2, ih g' c3⟩
theorem SKs_len {x : gd} : ∀ {n : Nat} {u B : List Nat}, SKs x n u B → u.length = n := by
  intro n
  induction n with
  | zero => intro u B h; rw [h.1]; rfl
  | succ n ih =>
    intro u B h
    obtain ⟨z, u', h1, h2, h3⟩ := h
    rw [h1, List.length_cons]
    rcases h3 with ⟨a, b⟩ | ⟨a, b, B', c1, c2, c3⟩
    · rw [ih b]
    · rw [ih c3]
/-- the innermost block -/
theorem SKs_top {x : gd} {n : Nat} {u B : List Nat} (h : SKs x (n + 1) u B) (h5 : ¬ x.1 111 n = 5) : ∃ z u' B', u = z :: u' ∧ (x.1 111 n).toInt = (z : Nat) ∧ ¬ z = 5 ∧ (x.1 113 n).toNatClampNeg = B.headD 0 ∧ B = B.headD 0 :: B' ∧ SKs x n u' B' := by
  obtain ⟨z, u', h1, h2, h3⟩ := h
  have k5 : (5 : Int32).toInt = 5 := rfl
  rcases h3 with ⟨a, b⟩ | ⟨a, b, B', c1, c2, c3⟩
  · exfalso
    apply h5
    rw [t_eq, k5]
    omega
  · exact ⟨z, u', B', h1, h2, a, by rw [c1]; exact c2, by rw [c1]; rfl, c3⟩
/-- fewer locals are known -/
theorem KV_drop {K : Nat → Int32} {e : Nat} {x y : gd} {E : gV} {B : List Nat} {c : Nat} (h : KV' K e x E) {m : Nat} (hm : m ≤ E.1.length) (e9 : (y.1 100 9).toInt = m) (e109 : ∀ k, y.1 109 k = x.1 109 k) : KV' K e y (E.1.drop (E.1.length - m), B, c) := by
  obtain ⟨h1, h2⟩ := h
  have el : (E.1.drop (E.1.length - m)).length = m := by rw [List.length_drop]; omega
  show (y.1 100 9).toInt = ((E.1.drop (E.1.length - m)).length : Nat) ∧ ∀ (p : Nat) (k : Nat × Nat), (E.1.drop (E.1.length - m))[p]? = some k → (y.1 109 ((E.1.drop (E.1.length - m)).length - 1 - p)).toNatClampNeg = k.1 ∧ K k.1 = 1 ∧ k.1 ≤ e
  rw [el]
  refine ⟨e9, fun p k hp => ?_⟩
  rw [List.getElem?_drop] at hp
  obtain ⟨hl, -⟩ := List.getElem?_eq_some_iff.mp hp
  have := h2 _ k hp
  have ei : E.1.length - 1 - (E.1.length - m + p) = m - 1 - p := by omega
  rw [ei] at this
  rw [e109]
  exact this
end
section
/-! the class's code: the steps of open statements -/
/-- a statement is opened -/
def Pu (x y : gd) (k s : Int32) : Prop := (∀ c j, ccS c j → ¬ (c = 100 ∧ j = 13) → ¬ ((c = 111 ∨ c = 112) ∧ j = (x.1 100 13).toNatClampNeg) → y.1 c j = x.1 c j) ∧ (y.1 100 13).toNatClampNeg = (x.1 100 13).toNatClampNeg + 1 ∧ y.1 111 (x.1 100 13).toNatClampNeg = k ∧ y.1 112 (x.1 100 13).toNatClampNeg = s ∧ ¬ x.1 100 5 = 0
/-- one with the step t is closed -/
def Po (x y : gd) (t : Nat) : Prop := (∀ c j, ccS c j → ¬ (c = 100 ∧ j = 13) → y.1 c j = x.1 c j) ∧ (y.1 100 13).toNatClampNeg + 1 = (x.1 100 13).toNatClampNeg ∧ ¬ x.1 111 (y.1 100 13).toNatClampNeg = 0 ∧ (x.1 112 (y.1 100 13).toNatClampNeg).toInt = (t : Nat) ∧ ¬ x.1 100 5 = 0
/-- from x, where the innermost statement (step n) is closed already but not in the events, to y by the events N -/
def CGn (sN : Nat → Nat → Bool) (V K : Nat → Int32) (n : Nat) (Ev : gV) (x y : gd) (N : gU) : Prop := ∀ Ec S k w d P, eqE Ec Ev → CCp sN V K x (Ec, S, k, rg0, w) d P → CCp sN V K y (cds sN K N (Ec, S, n :: k, rg0, w)) (ces K V N d) (P ++ tPs sN V K N Ev) ∧ eqE (cds sN K N (Ec, S, n :: k, rg0, w)).1 (exs N Ev) ∧ (cds sN K N (Ec, S, n :: k, rg0, w)).2.2.2.1 = rg0
/-- an if ends, and those around it -/
def CE (sN : Nat → Nat → Bool) (V K : Nat → Int32) (n : Nat) (x y : gd) (N : gU) : Prop := ∀ Ec S k r w d P, CCp sN V K x (Ec, S, k, r, w) d P → ∃ S' k', cds sN K ([(63, 0, 0)] ++ N) (Ec, S, n :: k, r, w) = (Ec, S', k', r, w) ∧ CCp sN V K y (Ec, S', k', r, w) d P
section KCK
variable {sN : Nat → Nat → Bool} {V K : Nat → Int32} {Ev Ec Ec' : gV} {x y z w9 x1 x4 : gd} {M N N' : gU} {e i j n t z9 v9 : Nat} {d : Nat × Int32 × List (Int32 × Bool)} {P : List (Int32 × Int32)} {S : List gSt} {k k' : List Nat} {r r' : gRg} {w : List (Nat × Nat) × List (Nat × gU)} {kk s a b o v : Int32}
theorem CCp_stk (h : CCp sN V K x (Ec, S, k, r, w) d P) (g : ∀ c j, ccS c j → ¬ (c = 100 ∧ (j = 13 ∨ j = 5)) → ¬ c = 111 → ¬ c = 112 → y.1 c j = x.1 c j) (hs : (¬ y.1 100 5 = 0 → SKk y (y.1 100 13).toNatClampNeg k') ∧ (y.1 100 5 = 0 → k' = [])) : CCp sN V K y (Ec', S, k', r', w) d P := by
  obtain ⟨⟨p1, p2⟩, ⟨s1, s2⟩, -, ⟨b1, b2⟩, ⟨c1, c2⟩, ⟨a1, a2⟩, ⟨f1, f2⟩⟩ := h
  have g8 : ∀ c k, 61 ≤ c → c < 90 → y.1 c k = x.1 c k := fun c k q1 q2 => g c k (Or.inr (Or.inl ⟨q1, q2⟩)) (by omega) (by omega) (by omega)
  have g6 : ∀ k, k ≠ 13 → y.1 60 k = x.1 60 k := fun k q => g 60 k (Or.inl ⟨rfl, q⟩) (by omega) (by omega) (by omega)
  exact ⟨⟨by rw [g6 3 (by decide)]; exact p1, fun i q hi hq => by rw [g8 62 i (by decide) (by decide), g8 63 i (by decide) (by decide)]; exact p2 i q hi hq⟩, ⟨by rw [g8 80 9 (by decide) (by decide)]; exact s1, fun j st hj => kS_eq (fun k q1 q2 => g8 k j (by omega) q2) (s2 j st hj)⟩, hs, ⟨by rw [g6 10 (by decide)]; exact b1, fun t q hq => by rw [g8 72 t (by decide) (by decide), g8 73 t (by decide) (by decide)]; exact b2 t q hq⟩, ⟨by rw [g6 6 (by decide)]; exact c1, fun j q hq => by rw [g8 68 j (by decide) (by decide), g8 69 j (by decide) (by decide)]; exact c2 j q hq⟩, ⟨by rw [g6 14 (by decide)]; exact a1, fun k N hN => by rw [g8 76 k (by decide) (by decide)]; exact a2 k N hN⟩, ⟨by rw [g6 16 (by decide)]; exact f1, fun k N hN => by rw [g8 78 k (by decide) (by decide)]; exact f2 k N hN⟩⟩
theorem CCp_push (h : CCp sN V K x (Ec, S, k, r, w) d P) (g : Pu x y kk s) (hk : ¬ kk = 0) (hs : s.toInt = (j : Nat)) : CCp sN V K y (Ec', S, j :: k, r', w) d P := by
  obtain ⟨g1, g2, g3, g4, g5⟩ := g
  have e5 : y.1 100 5 = x.1 100 5 := g1 _ _ (Or.inr (Or.inr (Or.inl ⟨rfl, Or.inl rfl⟩))) (by omega) (by omega)
  refine CCp_stk h (fun c j q q1 q2 q3 => g1 c j q (by omega) (by omega)) ⟨fun _ => ?_, fun q => absurd (by rw [← e5]; exact q) g5⟩
  rw [g2]
  exact Or.inr ⟨by rw [g3]; exact hk, j, k, rfl, by rw [g4]; exact hs, SKk_eq (fun i hi => ⟨g1 111 i (Or.inr (Or.inr (Or.inr (Or.inl rfl)))) (by omega) (by omega), g1 112 i (Or.inr (Or.inr (Or.inr (Or.inr rfl)))) (by omega) (by omega)⟩) (h.2.2.1.1 g5)⟩
theorem CCp_pop (h : CCp sN V K x (Ec, S, k, r, w) d P) (g : Po x y t) : ∃ k', k = t :: k' ∧ ∀ Ec' r', CCp sN V K y (Ec', S, k', r', w) d P := by
  obtain ⟨g1, g2, g3, g4, g5⟩ := g
  have e5 : y.1 100 5 = x.1 100 5 := g1 _ _ (Or.inr (Or.inr (Or.inl ⟨rfl, Or.inl rfl⟩))) (by omega)
  have hs := h.2.2.1.1 g5
  rw [← g2] at hs
  rcases hs with ⟨q, -⟩ | ⟨-, j, k', q1, q2, q3⟩
  · exact absurd q g3
  have ej : j = t := by
    rw [g4] at q2
    omega
  rw [ej] at q1
  refine ⟨k', q1, fun Ec' r' => CCp_stk h (fun c j q q1 q2 q3 => g1 c j q (by omega)) ⟨fun _ => ?_, fun q => absurd (by rw [← e5]; exact q) g5⟩⟩
  exact SKk_eq (fun i hi => ⟨g1 111 i (Or.inr (Or.inr (Or.inr (Or.inl rfl)))) (by omega), g1 112 i (Or.inr (Or.inr (Or.inr (Or.inr rfl)))) (by omega)⟩) q3
/-- a step's target is set -/
theorem CCp_to (h : CCp sN V K x (Ec, S, k, r, w) d P) (ey : y = si x 84 j v) (hv : v.toInt = (n : Nat)) (h8 : ¬ x.1 81 j = 8) : CCp sN V K y (Ec', cTo S j n, k, r', w) d P := by
  obtain ⟨⟨p1, p2⟩, ⟨s1, s2⟩, ⟨k1, k2⟩, ⟨b1, b2⟩, ⟨c1, c2⟩, ⟨a1, a2⟩, ⟨f1, f2⟩⟩ := h
  have g : ∀ c i, ¬ c = 84 → y.1 c i = x.1 c i := fun c i q => by rw [ey, si_get, if_neg (fun z => q z.1)]
  refine ⟨⟨by rw [g 60 3 (by decide)]; exact p1, fun i q hi hq => by rw [g 62 i (by decide), g 63 i (by decide)]; exact p2 i q hi hq⟩, ⟨by rw [g 80 9 (by decide)]; show _ = ((cTo S j n).length : Int); rw [cTo_len]; exact s1, fun i st hi => ?_⟩, ⟨fun q => ?_, fun q => k2 (by rw [← g 100 5 (by decide)]; exact q)⟩, ⟨by rw [g 60 10 (by decide)]; exact b1, fun t q hq => by rw [g 72 t (by decide), g 73 t (by decide)]; exact b2 t q hq⟩, ⟨by rw [g 60 6 (by decide)]; exact c1, fun j q hq => by rw [g 68 j (by decide), g 69 j (by decide)]; exact c2 j q hq⟩, ⟨by rw [g 60 14 (by decide)]; exact a1, fun k N hN => by rw [g 76 k (by decide)]; exact a2 k N hN⟩, ⟨by rw [g 60 16 (by decide)]; exact f1, fun k N hN => by rw [g 78 k (by decide)]; exact f2 k N hN⟩⟩
  · have hi : (cTo S j n)[i]? = some st := hi
    rw [cTo_at] at hi
    obtain ⟨st0, h0, h1⟩ := Option.map_eq_some_iff.mp hi
    have hk := s2 i st0 h0
    by_cases c : i = j
    · rw [if_pos c] at h1
      obtain ⟨q1, q2, q3, q4, q5, q6, q7, q8⟩ := hk
      rw [← h1]
      unfold kS
      rw [g 81 i (by decide), g 83 i (by decide), g 85 i (by decide), g 87 i (by decide), g 88 i (by decide), g 89 i (by decide)]
      refine ⟨q1, q2, fun _ => ?_, fun q => ?_, q5, q6, q7, q8⟩
      · rw [ey, si_get, if_pos ⟨rfl, c⟩]
        exact hv
      · exfalso
        have q : st0.1 = 8 := q
        rw [q, c] at q1
        exact h8 q1
    · rw [if_neg c] at h1
      rw [← h1]
      have e84 : y.1 84 i = x.1 84 i := by rw [ey, si_get, if_neg (fun z => c z.2)]
      exact kS_eq (fun k q1 q2 => by
        by_cases ck : k = 84
        · rw [ck]; exact e84
        · exact g k i ck) hk
  · rw [g 100 13 (by decide)]
    exact SKk_eq (fun i _ => ⟨g 111 i (by decide), g 112 i (by decide)⟩) (k1 (by rw [← g 100 5 (by decide)]; exact q))
theorem CCp_sm (h : CCp sN V K x (Ec, S, k, r, w) d P) : (x.1 80 9).toInt = (S.length : Nat) := h.2.1.1
/-- if, while -/
theorem CG_test {N2 : gU} (h : PD sN V K Ev x y none N [(s, N2)] 0 false) (hEv : ¬ Ev.2.1 = []) (hE : KV' K e y Ev) (a : stK y z 17 (y.1 100 9) (-1) (-1) (-1) s (-1)) (fr : ∀ c k, ccS c k → w9.1 c k = z.1 c k) (p : Pu w9 x1 kk (y.1 80 9)) (hk : ¬ kk = 0) (hv : v9 = 60 ∨ v9 = 61) : CG sN V K Ev x x1 (N ++ [(v9, i, 0)] ++ [(20, z9, 0)]) := by
  obtain ⟨h1, h2, h3, h4, h5⟩ := h
  intro c d P he hr hc
  obtain ⟨Ec, S, k, rr, ww⟩ := c
  have hr : rr = rgT none 0 := hr
  have he : eqE Ec Ev := he
  obtain ⟨g1, g2⟩ := h5 _ d P he hc
  have hEc : ¬ Ec.2.1 = [] := by rw [he.2]; exact hEv
  have kl : (y.1 100 9).toInt = (Ec.1.length : Nat) := by rw [hE.1, eqE_len he]
  have su : cSu sN V K (P ++ tPs sN V K N Ev) Ec.1 s (some N2) := by
    have hm : (s, N2) ∈ [(s, N2)] := List.mem_singleton.mpr rfl
    have q1 := g2 _ hm
    have q2 : sPs sN V K Ev N2 = sPs sN V K (Ec.1, [0], 0) N2 := sPs_E (h3 _ hm) (fun t => kfi_len he.1.symm)
    show SUc _ _ (sPs sN V K (Ec.1, [0], 0) N2)
    rw [← q2]
    exact q1
  have q := CCp_add (st := (17, i, knw Ec, none, none, false, none, some N2, none)) (r' := rg0) g1 a rfl kl (fun _ => rfl) (fun q => absurd q (show ¬ 17 = 8 by decide)) (fun _ => rfl) rfl su rfl
  have q' := CCp_push (Ec' := exV Ec (20, z9, 0)) (r' := rg0) (CCp_eq fr q) p hk (CCp_sm g1)
  have ec : cds sN K (N ++ [(v9, i, 0)] ++ [(20, z9, 0)]) (Ec, S, k, rr, ww) = (exV Ec (20, z9, 0), S ++ [(17, i, knw Ec, none, none, false, none, some N2, none)], S.length :: k, rg0, ww) := by
    rw [hr, cds_app, cds_app, h4 _ _ _ _ _ hEc]
    rcases hv with e | e
    · rw [e]; rfl
    · rw [e]; rfl
  have ee : ces K V (N ++ [(v9, i, 0)] ++ [(20, z9, 0)]) d = d := by
    rw [ces_app, ces_app, h2]
    rcases hv with e | e <;> (rw [e]; rfl)
  have sv : still (N ++ [(v9, i, 0)]) := still_app h1 (by rcases hv with e | e <;> (rw [e]; exact stl_k (by decide)))
  have ep : tPs sN V K (N ++ [(v9, i, 0)] ++ [(20, z9, 0)]) Ev = tPs sN V K N Ev := by
    have e1 : tPs sN V K [(v9, i, 0)] Ev = [] := by rcases hv with e | e <;> (rw [e]; rfl)
    have e2 : tPs sN V K [(20, z9, 0)] Ev = [] := rfl
    rw [tPs_app, exs_still sv, e2, List.append_nil, tPs_app, exs_still h1, e1, List.append_nil]
  have ex : exs (N ++ [(v9, i, 0)] ++ [(20, z9, 0)]) Ev = exV Ev (20, z9, 0) := by rw [exs_app, exs_still sv]; rfl
  rw [ec, ee, ep, ex]
  exact ⟨q', exV_q he, rfl⟩
/-- a lock's block -/
theorem CG_lock (fr0 : ∀ c k, ccS c k → y.1 c k = x.1 c k) (hE : KV' K e y Ev) (hoi : a.toInt = (j : Nat)) (ha : stK y z 5 (y.1 100 9) b a (-1) (-1) (-1)) (fr : ∀ c k, ccS c k → w9.1 c k = z.1 c k) (p : Pu w9 x1 2 (y.1 80 9)) : CG sN V K Ev x x1 ([(65, i, j)] ++ [(20, 2, 0)]) := by
  intro c d P he hr hc
  obtain ⟨Ec, S, k, rr, ww⟩ := c
  have hr : rr = rg0 := hr
  have he : eqE Ec Ev := he
  have g1 := CCp_eq fr0 hc
  have kl : (y.1 100 9).toInt = (Ec.1.length : Nat) := by rw [hE.1, eqE_len he]
  have q := CCp_add (st := (5, i, knw Ec, none, some j, false, none, none, none)) (r' := rg0) g1 ha rfl kl (fun q => absurd q (show ¬ (5 = 0 ∨ (2 ≤ 5 ∧ 5 ≤ 4) ∨ 5 = 16 ∨ 5 = 17 ∨ 5 = 20) by decide)) (fun q => absurd q (show ¬ 5 = 8 by decide)) (fun _ => hoi) rfl rfl rfl
  have q' := CCp_push (Ec' := exV Ec (20, 2, 0)) (r' := rg0) (CCp_eq fr q) p (by decide) (CCp_sm g1)
  have ec : cds sN K ([(65, i, j)] ++ [(20, 2, 0)]) (Ec, S, k, rr, ww) = (exV Ec (20, 2, 0), S ++ [(5, i, knw Ec, none, some j, false, none, none, none)], S.length :: k, rg0, ww) := by
    rfl
  have ee : ces K V ([(65, i, j)] ++ [(20, 2, 0)]) d = d := rfl
  have ep : tPs sN V K ([(65, i, j)] ++ [(20, 2, 0)]) Ev = [] := rfl
  have ex : exs ([(65, i, j)] ++ [(20, 2, 0)]) Ev = exV Ev (20, 2, 0) := rfl
  rw [ec, ee, ep, ex, List.append_nil]
  exact ⟨q', exV_q he, rfl⟩
/-- an if ends -/
theorem CE_0 (ey : y = si x 84 n (x.1 80 9)) (h8 : ¬ x.1 81 n = 8) : CE sN V K n x y [] := fun Ec S k r w d P h => ⟨_, _, rfl, CCp_to h ey (CCp_sm h) h8⟩
theorem CE_more (h : CE sN V K n x y N) (p : Po y z t) (ey : w9 = si z 84 t (z.1 80 9)) (h8 : ¬ z.1 81 t = 8) : CE sN V K n x w9 (N ++ [(63, 0, 0)]) := by
  intro Ec S k r w d P hc
  obtain ⟨S', k', e1, q1⟩ := h Ec S k r w d P hc
  obtain ⟨k2, e2, q2⟩ := CCp_pop q1 p
  refine ⟨cTo S' t S'.length, k2, ?_, CCp_to (q2 Ec r) ey (CCp_sm (q2 Ec r)) h8⟩
  rw [← List.append_assoc, cds_app, e1, e2]
  rfl
theorem n63_tPs {E : gV} : ∀ {N : gU}, (∀ v ∈ N, v = ((63, 0, 0) : Nat × Nat × Nat)) → tPs sN V K N E = [] ∧ exs N E = E ∧ ∀ d, ces K V N d = d := by
  intro N
  induction N with
  | nil => intro _; exact ⟨rfl, rfl, fun d => rfl⟩
  | cons v N ih =>
    intro h
    obtain ⟨i1, i2, i3⟩ := ih (fun w hw => h w (List.mem_cons_of_mem _ hw))
    rw [h v List.mem_cons_self]
    exact ⟨i1, i2, i3⟩
theorem CE_n (h : CE sN V K n x y N) (hN : ∀ v ∈ N, v = ((63, 0, 0) : Nat × Nat × Nat)) : CGn sN V K n Ev x y ([(63, 0, 0)] ++ N) := by
  intro Ec S k w d P he hc
  obtain ⟨S', k', e1, q1⟩ := h Ec S k rg0 w d P hc
  obtain ⟨i1, i2, i3⟩ := n63_tPs (sN := sN) (V := V) (K := K) (E := Ev) (N := [(63, 0, 0)] ++ N) (fun v hv => (List.mem_append.mp hv).elim (fun q => List.mem_singleton.mp q) (hN v))
  rw [e1, i1, i2, i3, List.append_nil]
  exact ⟨q1, he, rfl⟩
/-- the end of an if's or else's block -/
theorem CG_21n (fr : ∀ c k, ccS c k → x1.1 c k = x.1 c k) (p : Po x1 x4 t) (hz : z9 = 3 ∨ z9 = 4) (h : CGn sN V K t (exV Ev (21, z9, 0)) x4 y N) : CG sN V K Ev x y ([(21, z9, 0)] ++ N) := by
  intro c d P he hr hc
  obtain ⟨Ec, S, k, rr, ww⟩ := c
  have hr : rr = rg0 := hr
  have he : eqE Ec Ev := he
  obtain ⟨k2, e2, q2⟩ := CCp_pop (CCp_eq fr hc) p
  have e1 : cds sN K [(21, z9, 0)] (Ec, S, k, rr, ww) = (exV Ec (21, z9, 0), S, t :: k2, rg0, ww) := by
    rw [cds_one, cd_21, hr, e2]
    rcases hz with q | q <;> (rw [q]; rfl)
  have e3 : tPs sN V K [(21, z9, 0)] Ev = [] := rfl
  have e4 : ces K V [(21, z9, 0)] d = d := rfl
  obtain ⟨g1, g2, g3⟩ := h _ S k2 ww d P (exV_q (v := (21, z9, 0)) he) (q2 _ _)
  rw [cds_app, e1, ces_app, e4, tPs_app, e3, List.nil_append, exs_app]
  exact ⟨g1, g2, g3⟩
/-- of a while's -/
theorem CG_21w (fr : ∀ c k, ccS c k → x1.1 c k = x.1 c k) (p : Po x1 x4 t) (hE : KV' K e x4 (exV Ev (21, 1, 0))) (hs : s.toInt = (t : Nat)) (a : stK x4 y 20 (x4.1 100 9) s (-1) (-1) (-1) (-1)) (ez : z = si y 84 t (y.1 80 9)) (h8 : ¬ y.1 81 t = 8) : CG sN V K Ev x z [(21, 1, 0)] := by
  intro c d P he hr hc
  obtain ⟨Ec, S, k, rr, ww⟩ := c
  have hr : rr = rg0 := hr
  have he : eqE Ec Ev := he
  obtain ⟨k2, e2, q2⟩ := CCp_pop (CCp_eq fr hc) p
  have he' := exV_q (v := (21, 1, 0)) he
  have kl : (x4.1 100 9).toInt = ((exV Ec (21, 1, 0)).1.length : Nat) := by rw [hE.1, eqE_len he']
  have q := CCp_add (st := (20, 0, knw (exV Ec (21, 1, 0)), some t, none, false, none, none, none)) (r' := rg0) (q2 (exV Ec (21, 1, 0)) rg0) a rfl kl (fun _ => hs) (fun q => absurd q (show ¬ 20 = 8 by decide)) (fun _ => rfl) rfl rfl rfl
  have q3 := CCp_to (Ec' := exV Ec (21, 1, 0)) (r' := rg0) q ez (CCp_sm q) h8
  have e1 : cds sN K [(21, 1, 0)] (Ec, S, k, rr, ww) = (exV Ec (21, 1, 0), cTo (S ++ [(20, 0, knw (exV Ec (21, 1, 0)), some t, none, false, none, none, none)]) t (S ++ [(20, 0, knw (exV Ec (21, 1, 0)), some t, none, false, none, none, none)]).length, k2, rg0, ww) := by
    rw [cds_one, cd_21, hr, e2, List.length_append]
    rfl
  have e3 : tPs sN V K [(21, 1, 0)] Ev = [] := rfl
  have e4 : ces K V [(21, 1, 0)] d = d := rfl
  rw [e1, e4, e3, List.append_nil]
  exact ⟨q3, he', rfl⟩
/-- of a lock's -/
theorem CG_21l (fr : ∀ c k, ccS c k → x1.1 c k = x.1 c k) (p : Po x1 x4 t) (hE : KV' K e x4 (exV Ev (21, 2, 0))) (ht : (t : Int) < (x4.1 80 9).toInt) (h5 : x4.1 81 t = 5) (a : stK x4 y 6 (x4.1 100 9) b (x4.1 85 t) (-1) (-1) (-1)) : CG sN V K Ev x y [(21, 2, 0)] := by
  intro c d P he hr hc
  obtain ⟨Ec, S, k, rr, ww⟩ := c
  have hr : rr = rg0 := hr
  have he : eqE Ec Ev := he
  obtain ⟨k2, e2, q2⟩ := CCp_pop (CCp_eq fr hc) p
  have he' := exV_q (v := (21, 2, 0)) he
  have kl : (x4.1 100 9).toInt = ((exV Ec (21, 2, 0)).1.length : Nat) := by rw [hE.1, eqE_len he']
  have c4 := q2 (exV Ec (21, 2, 0)) rg0
  rw [CCp_sm c4] at ht
  have ht : t < S.length := by omega
  obtain ⟨st, hst⟩ : ∃ st, S[t]? = some st := ⟨_, List.getElem?_eq_getElem ht⟩
  have ks := c4.2.1.2 t st hst
  have n16 : ¬ st.1 = 16 := fun q => by
    have := ks.1
    rw [h5, q] at this
    exact absurd this (by decide)
  have n13 : ¬ st.1 = 13 := fun q => by
    have := ks.1
    rw [h5, q] at this
    exact absurd this (by decide)
  have hob : obI V (x4.1 85 t) 6 st.2.2.2.2.1 := by
    have h9 := ks.2.2.2.2.1 n16
    cases h8 : st.2.2.2.2.1 with
    | none => rw [h8] at h9; exact h9
    | some t0 =>
      rw [h8] at h9
      have h9 : if st.1 = 13 then x4.1 85 t = V t0 else (x4.1 85 t).toInt = (t0 : Nat) := h9
      rw [if_neg n13] at h9
      exact h9
  have q := CCp_add (st := (6, st.2.1, knw (exV Ec (21, 2, 0)), none, st.2.2.2.2.1, false, none, none, none)) (r' := rg0) c4 a rfl kl (fun q => absurd q (show ¬ (6 = 0 ∨ (2 ≤ 6 ∧ 6 ≤ 4) ∨ 6 = 16 ∨ 6 = 17 ∨ 6 = 20) by decide)) (fun q => absurd q (show ¬ 6 = 8 by decide)) (fun _ => hob) rfl rfl rfl
  have e1 : cds sN K [(21, 2, 0)] (Ec, S, k, rr, ww) = (exV Ec (21, 2, 0), S ++ [(6, st.2.1, knw (exV Ec (21, 2, 0)), none, st.2.2.2.2.1, false, none, none, none)], k2, rg0, ww) := by
    rw [cds_one, cd_21, hr, e2]
    have eg : gtS S t = st := by unfold gtS; rw [hst]; rfl
    show (exV Ec (21, 2, 0), S ++ [(6, (gtS S t).2.1, knw (exV Ec (21, 2, 0)), none, (gtS S t).2.2.2.2.1, false, none, none, none)], k2, rg0, ww) = _
    rw [eg]
  have e3 : tPs sN V K [(21, 2, 0)] Ev = [] := rfl
  have e4 : ces K V [(21, 2, 0)] d = d := rfl
  rw [e1, e4, e3, List.append_nil]
  exact ⟨q, he', rfl⟩
/-- of a thread's -/
theorem CG_21t (fr : ∀ c k, ccS c k → x1.1 c k = x.1 c k) (f4 : ∀ c j, ccS c j → ¬ (c = 100 ∧ j = 13) → x4.1 c j = x1.1 c j) (h13 : (x1.1 100 13).toNatClampNeg = 1) (h111 : x1.1 111 0 = 0) (h5 : ¬ x1.1 100 5 = 0) (a : stK x4 y 21 0 (-1) (-1) (-1) (-1) (-1)) (fz : ∀ c k, ¬ (c = 100 ∧ k = 5) → z.1 c k = y.1 c k) (z5 : z.1 100 5 = 0) (o4 : (x4.1 100 13).toNatClampNeg = 0) (hE : (exV Ev (21, 0, 0)).1 = []) : CG sN V K Ev x z [(21, 0, 0)] := by
  intro c d P he hr hc
  obtain ⟨Ec, S, k, rr, ww⟩ := c
  have hr : rr = rg0 := hr
  have he : eqE Ec Ev := he
  have c1 := CCp_eq fr hc
  have hk := c1.2.2.1.1 h5
  rw [h13] at hk
  have hk : k = [] := by
    rcases hk with ⟨-, q⟩ | ⟨q, -⟩
    · exact q
    · exact absurd h111 q
  have e5 : x4.1 100 5 = x1.1 100 5 := f4 _ _ (Or.inr (Or.inr (Or.inl ⟨rfl, Or.inl rfl⟩))) (by omega)
  have c4 : CCp sN V K x4 (exV Ec (21, 0, 0), S, [], rg0, ww) d P := CCp_stk c1 (fun c j q q1 q2 q3 => f4 c j q (by omega)) ⟨fun _ => by rw [o4]; rfl, fun _ => rfl⟩
  have he' := exV_q (v := (21, 0, 0)) he
  have kl : (0 : Int32).toInt = ((exV Ec (21, 0, 0)).1.length : Nat) := by
    rw [eqE_len he', hE]; rfl
  have q := CCp_add (st := (21, 0, knw (exV Ec (21, 0, 0)), none, none, false, none, none, none)) (r' := rg0) c4 a rfl kl (fun q => absurd q (show ¬ (21 = 0 ∨ (2 ≤ 21 ∧ 21 ≤ 4) ∨ 21 = 16 ∨ 21 = 17 ∨ 21 = 20) by decide)) (fun q => absurd q (show ¬ 21 = 8 by decide)) (fun _ => rfl) rfl rfl rfl
  have q3 : CCp sN V K z (exV Ec (21, 0, 0), S ++ [(21, 0, knw (exV Ec (21, 0, 0)), none, none, false, none, none, none)], [], rg0, ww) d P := CCp_stk q (fun c j q q1 q2 q3 => fz c j (by omega)) ⟨fun q => absurd z5 q, fun _ => rfl⟩
  have e1 : cds sN K [(21, 0, 0)] (Ec, S, k, rr, ww) = (exV Ec (21, 0, 0), S ++ [(21, 0, knw (exV Ec (21, 0, 0)), none, none, false, none, none, none)], [], rg0, ww) := by
    rw [cds_one, cd_21, hr, hk]
    rfl
  have e3 : tPs sN V K [(21, 0, 0)] Ev = [] := rfl
  have e4 : ces K V [(21, 0, 0)] d = d := rfl
  rw [e1, e4, e3, List.append_nil]
  exact ⟨q3, he', rfl⟩
/-- else -/
theorem CG_62 (hE : KV' K e x Ev) (a : stK x y 20 (x.1 100 9) (-1) (-1) (-1) (-1) (-1)) (ez : z = si y 84 n (y.1 80 9)) (h8 : ¬ y.1 81 n = 8) (fr : ∀ c k, ccS c k → w9.1 c k = z.1 c k) (p : Pu w9 x1 kk (x.1 80 9)) (hk : ¬ kk = 0) : CGn sN V K n Ev x x1 [(62, i, 0)] := by
  intro Ec S k w d P he hc
  have kl : (x.1 100 9).toInt = (Ec.1.length : Nat) := by rw [hE.1, eqE_len he]
  have q := CCp_add (st := (20, 0, knw Ec, none, none, false, none, none, none)) (r' := rg0) hc a rfl kl (fun _ => rfl) (fun q => absurd q (show ¬ 20 = 8 by decide)) (fun _ => rfl) rfl rfl rfl
  have q3 := CCp_to (Ec' := Ec) (r' := rg0) q ez (CCp_sm q) h8
  have q' := CCp_push (Ec' := Ec) (r' := rg0) (CCp_eq fr q3) p hk (CCp_sm hc)
  have e1 : cds sN K [(62, i, 0)] (Ec, S, n :: k, rg0, w) = (Ec, cTo (S ++ [(20, 0, knw Ec, none, none, false, none, none, none)]) n (S ++ [(20, 0, knw Ec, none, none, false, none, none, none)]).length, S.length :: k, rg0, w) := by
    rw [cds_one, cd_62, List.length_append]
    rfl
  have e3 : tPs sN V K [(62, i, 0)] Ev = [] := rfl
  have e4 : ces K V [(62, i, 0)] d = d := rfl
  have ex : exs [(62, i, 0)] Ev = Ev := exs_still (stl_k (by decide))
  rw [e1, e4, e3, List.append_nil, ex]
  exact ⟨q', he, rfl⟩
theorem CGn_20 (h : CGn sN V K n Ev x y [(62, i, 0)]) : CGn sN V K n Ev x y ([(62, i, 0)] ++ [(20, z9, 0)]) := by
  intro Ec S k w d P he hc
  obtain ⟨g1, g2, g3⟩ := h Ec S k w d P he hc
  have e3 : tPs sN V K ([(62, i, 0)] ++ [(20, z9, 0)]) Ev = tPs sN V K [(62, i, 0)] Ev := rfl
  rw [cds_app, ces_app, e3, exs_app]
  refine ⟨?_, exV_q (v := (20, z9, 0)) g2, g3⟩
  exact g1
end KCK
end
section
/-! the class: blocks are opened and closed -/
section KOP
variable {G : kG} {q : kP} {d : Nat} {x x0 y z : gd} {F : Int32 → gd → Prop} {Fv : gd → Prop} {X : String → gd → Prop} {P : Option gv → gd → Prop} {M : Int} {E : Nat → Prop}
/-- the block that is opened -/
def NB (x : gd) (k s : Int32) : Prop := (om x = 0 → k = 0 ∧ s = -1) ∧ (0 < om x → (1 ≤ k.toInt ∧ k.toInt ≤ 5) ∧ ∃ n : Nat, s.toInt = n ∧ (n : Int) < ssm x ∧ (k = 1 ∨ k = 3 → sop x n = 17) ∧ (k = 2 → sop x n = 5) ∧ (k = 4 ∨ k = 5 → sop x n = 20))
theorem NB_GS {k s : Int32} (g : GS x y) (h : NB x k s) : NB y k s := by
  unfold NB at h ⊢
  rw [GS_om g, GS_sm g]
  refine ⟨h.1, fun c => ?_⟩
  obtain ⟨p1, n, p2, p3, p4⟩ := h.2 c
  refine ⟨p1, n, p2, p3, ?_⟩
  unfold sop at p4 ⊢
  rw [GS_at g 81 n (by unfold sSum; omega)]; exact p4
/-- where a step jumps is set -/
theorem BB_tg (hB : BB x0 x M E) (hsm : ssm x < 1000) {n : Nat} (hn : (n : Int) < ssm x) (ho : sop x n = 17 ∨ sop x n = 20) {v : Int32} (ez : z = si x 84 n v) (hv : 0 ≤ v.toInt ∧ v.toInt ≤ ssm x ∧ (sop x n = 20 → (n : Int) < v.toInt ∨ sop x v.toInt.toNat = 17)) : BB x0 z M (fun i => E i ∧ i ≠ n) := by
  have f : fm (fun c k => c = 84 ∧ k = n) x z := by rw [ez]; exact fm_si (fm_rf _ _) ⟨rfl, rfl⟩
  have zv : z.1 84 n = v := by rw [ez]; (simp only [si_get, sfl_get, Nat.reduceEqDiff, eq_self, and_false, false_and, and_true, true_and, if_true, if_false, reduceIte, reduceCtorEq])
  obtain ⟨hS, hF, ⟨r1, r2, r3, ⟨r4, r6⟩, r7⟩, hC, r5, r0, hI⟩ := hB
  have e4 : nx z = nx x := by unfold nx; rw [f 100 4 (by omega)]
  have es : ssm z = ssm x := by unfold ssm; rw [f 80 9 (by omega)]
  have eo : om z = om x := by unfold om; rw [f 100 13 (by omega)]
  have z5 : z.1 100 5 = x.1 100 5 := f _ _ (by omega)
  have la : La x z := ⟨fun c k q1 q2 => f c k (by omega), by omega, fun j _ => f 42 j (by omega)⟩
  refine ⟨?_, ?_, ⟨fun c => ?_, NM_fm r2 (fun c k q1 q2 q3 q4 => f c k (by omega)) (f _ _ (by omega)) (f _ _ (by omega)), ?_, ⟨by omega, fun i hi => ?_⟩, ?_⟩, fun i hi he => ?_, by rw [z5]; exact r5, fm_tr r0 (fm_w f (fun c k q => by unfold sR; omega)), TR_eq hI (fun e => ⟨e, fun e2 => ?_⟩) (f _ _ (by omega)) (fun k => f _ _ (by omega))⟩
  · obtain ⟨⟨hT, b1, b2, b3⟩, ⟨u1, u2⟩, hp, hP⟩ := hS
    unfold SU SV US RB mt
    rw [f 20 7 (by omega), f 60 3 (by omega), e4]
    refine ⟨⟨kT_fm hT la.1, b1, b2, b3⟩, ⟨fun j h1 h2 => ?_, fun j h1 h2 => ?_⟩, hp, fun i hi => La_PQ la (f _ _ (by omega)) (f _ _ (by omega)) (hP i hi)⟩
    · rw [f 42 j (by omega)]; exact u1 j h1 h2
    · rw [f 42 j (by omega)] at h2; rw [f 42 _ (by omega)]; exact u2 j h1 h2
  · unfold FR at hF ⊢
    rw [f 100 4 (by omega), f 42 _ (by omega)]; exact hF
  · obtain ⟨k1, o1, o2, o3, o4⟩ := r1 r5
    refine ⟨KN_fm k1 (f _ _ (by omega)) (f _ _ (by omega)) (fun k => f _ _ (by omega)), ?_⟩
    unfold OPs
    rw [eo, f 100 9 (by omega), f 100 7 (by omega)]
    refine ⟨o1, fun k hk => OP1_eq (fun j => f _ _ (by omega)) (f _ _ (by omega)) (fun c j q1 q2 => f _ _ (by omega)) (f _ _ (by omega)) (o2 k hk), fun j k hj hk => ?_, o4⟩
    rw [f 113 j (by omega), f 113 k (by omega)]; exact o3 j k hj hk
  · unfold CD at r3 ⊢
    rw [f 60 6 (by omega), f 60 9 (by omega), f 60 10 (by omega), f 60 14 (by omega), f 60 16 (by omega), f 60 13 (by omega), z5, f 100 9 (by omega), f 40 8 (by omega), f 40 10 (by omega)]
    exact r3
  · by_cases hi2 : i = n
    · have g := r6 i (by omega)
      rw [hi2] at g ⊢
      unfold SA at g ⊢
      have ep : sop z n = sop x n := by unfold sop; rw [f 81 _ (by omega)]
      rw [ep, f 83 _ (by omega), f 85 _ (by omega), e4]
      refine ⟨g.1, g.2.1, fun c => by clear g; omega, fun c => by clear g; omega⟩
    · exact SA_La la (f _ _ (by omega)) (f _ _ (by omega)) (f _ _ (by omega)) (f _ _ (by omega)) (Int.le_refl _) (r6 i (by omega))
  · unfold TS at r7 ⊢
    rw [f 60 10 (by omega), z5, es]
    refine ⟨fun t ht => ?_, fun c => absurd c r5⟩
    rw [f 72 t (by omega)]; exact r7.1 t ht
  · by_cases hi2 : i = n
    · rw [hi2]
      intro _
      have e2 : stg z n = v.toInt := by unfold stg; rw [zv]
      have ep : ∀ j, sop z j = sop x j := fun j => by unfold sop; rw [f 81 _ (by omega)]
      rw [e2, es, z5, ep, ep]
      exact Or.inr ⟨hv.1, hv.2.1, fun c => absurd c r5, hv.2.2⟩
    · exact SC_eq (fun j => f _ _ (by omega)) (f _ _ (by omega)) (f _ _ (by omega)) (f _ _ (by omega)) z5 (fun j => f _ _ (by omega)) (hC i (by omega) (fun e => he ⟨e, hi2⟩))
  · omega
/-- the innermost block is left -/
theorem BB_pop (hB : BB x0 x M E) (h1 : 1 ≤ om x) (f : fm (fun c k => c = 100 ∧ (k = 9 ∨ k = 13)) x z) (ho : om z = om x - 1) (hk : 0 ≤ (z.1 100 9).toInt ∧ (z.1 100 9).toInt ≤ (x.1 100 9).toInt) (hj : ∀ j : Nat, (j : Int) < om z → (x.1 113 j).toInt ≤ (z.1 100 9).toInt) : BB x0 z M (fun i => E i ∨ (i : Int) = (x.1 112 ((om x).toNat - 1)).toInt ∨ i = 1000000) := by
  obtain ⟨hS, hF, ⟨r1, r2, r3, ⟨r4, r6⟩, r7⟩, hC, r5, r0, hI⟩ := hB
  have e4 : nx z = nx x := by unfold nx; rw [f 100 4 (by omega)]
  have es : ssm z = ssm x := by unfold ssm; rw [f 80 9 (by omega)]
  have z5 : z.1 100 5 = x.1 100 5 := f _ _ (by omega)
  have la : La x z := ⟨fun c k q1 q2 => f c k (by omega), by omega, fun j _ => f 42 j (by omega)⟩
  refine ⟨?_, ?_, ⟨fun c => ?_, NM_fm r2 (fun c k q1 q2 q3 q4 => f c k (by omega)) (f _ _ (by omega)) (f _ _ (by omega)), ?_, ⟨by omega, fun i hi => SA_La la (f _ _ (by omega)) (f _ _ (by omega)) (f _ _ (by omega)) (f _ _ (by omega)) (Int.le_refl _) (r6 i (by omega))⟩, ?_⟩, fun i hi he => ?_, by rw [z5]; exact r5, fm_tr r0 (fm_w f (fun c k q => by unfold sR; omega)), ⟨fun he => absurd (Or.inr (Or.inr rfl)) he, fun j hj9 c => ?_⟩⟩
  · obtain ⟨⟨hT, b1, b2, b3⟩, ⟨u1, u2⟩, hp, hP⟩ := hS
    unfold SU SV US RB mt
    rw [f 20 7 (by omega), f 60 3 (by omega), e4]
    refine ⟨⟨kT_fm hT la.1, b1, b2, b3⟩, ⟨fun j h1 h2 => ?_, fun j h1 h2 => ?_⟩, hp, fun i hi => La_PQ la (f _ _ (by omega)) (f _ _ (by omega)) (hP i hi)⟩
    · rw [f 42 j (by omega)]; exact u1 j h1 h2
    · rw [f 42 j (by omega)] at h2; rw [f 42 _ (by omega)]; exact u2 j h1 h2
  · unfold FR at hF ⊢
    rw [f 100 4 (by omega), f 42 _ (by omega)]; exact hF
  · obtain ⟨k1, o1, o2, o3, o4, o5⟩ := r1 r5
    refine ⟨?_, ?_⟩
    · unfold KN tk at k1 ⊢
      rw [f 20 7 (by omega)]
      refine ⟨by omega, fun i hi => ?_⟩
      rw [f 109 i (by omega)]; exact k1.2 i (by omega)
    · unfold OPs
      rw [ho, f 100 7 (by omega)]
      refine ⟨by omega, fun k hk2 => ?_, fun j k hj hk => ?_, by omega, o5⟩
      · have := o2 k (by omega)
        unfold OP1 at this ⊢
        rw [f 111 k (by omega), f 112 k (by omega), f 113 k (by omega), es]
        refine ⟨this.1, fun c => ?_, this.2.2.1, hj k (by omega)⟩
        obtain ⟨p1, n, p2, p3, p4⟩ := this.2.1 c
        refine ⟨p1, n, p2, p3, ?_⟩
        unfold sop at p4 ⊢
        rw [f 81 n (by omega)]; exact p4
      · rw [f 113 j (by omega), f 113 k (by omega)]; exact o3 j k hj (by omega)
  · unfold CD at r3 ⊢
    rw [f 60 6 (by omega), f 60 9 (by omega), f 60 10 (by omega), f 60 14 (by omega), f 60 16 (by omega), f 60 13 (by omega), z5, f 40 8 (by omega), f 40 10 (by omega)]
    exact ⟨r3.1, r3.2.1, r3.2.2.1, r3.2.2.2.1, r3.2.2.2.2.1, r3.2.2.2.2.2.1, fun c => Int.le_trans hk.2 (r3.2.2.2.2.2.2 c)⟩
  · unfold TS at r7 ⊢
    rw [f 60 10 (by omega), z5, es]
    refine ⟨fun t ht => ?_, fun c => absurd c r5⟩
    rw [f 72 t (by omega)]; exact r7.1 t ht
  · have ep : ∀ j, sop z j = sop x j := fun j => by unfold sop; rw [f 81 j (by omega)]
    have et : stg z i = stg x i := by unfold stg; rw [f 84 i (by omega)]
    have := hC i (by omega) (fun e => he (Or.inl e))
    unfold SC at this ⊢
    rw [ep, et, z5, es, ep]
    intro c
    rcases this c with ⟨p1, p2, j, p3, p4⟩ | p
    · refine Or.inl ⟨p1, p2, j, ?_, by rw [f 112 j (by omega)]; exact p4⟩
      by_cases hjl : (j : Int) < om z
      · exact hjl
      · exfalso
        refine he (Or.inr (Or.inl ?_))
        have : j = (om x).toNat - 1 := by omega
        rw [← this]; exact p4.symm
    · exact Or.inr p
  · rw [f 111 _ (by omega)] at c ⊢
    exact hI.2 j (by omega) c
end KOP
end
section
/-! the class: a block is opened -/
section KOPF
variable {G : kG} {q : kP} {d : Nat} {x x0 y z xs : gd} {F : Int32 → gd → Prop} {Fv : gd → Prop} {X : String → gd → Prop} {P : Option gv → gd → Prop} {M : Int} {E : Nat → Prop} {K V : Nat → Int32} {sN : Nat → Nat → Bool} {e : Nat} {Ev Ev9 : gV} {Ml N : gU}
theorem kd_enter (hq : kV q) (hB : BB x0 x M E) (ho : om x ≤ 17) (hsm : ssm x < 1000) (k s : Int32) (h5 : TIk x ∨ k = 3 ∨ k = 4 ∨ k = 5) (hn : NB x k s) (hE : ∀ i : Nat, (i : Int) < ssm x → E i → (i : Int) = s.toInt → stg x i = -1) (h : ∀ y, BB x0 y M (fun i => (i = 1000000 ∧ k = 5) ∨ (i ≠ 1000000 ∧ E i ∧ ¬ (i : Int) = s.toInt)) → nx y = nx x → ssm y = ssm x → om y = om x + 1 → (∀ c j, c < 100 → y.1 c j = x.1 c j) → y.1 100 4 = x.1 100 4 → fm (fun c j => (c = 100 ∧ j = 13) ∨ (111 ≤ c ∧ c ≤ 113 ∧ j = (x.1 100 13).toNatClampNeg)) x y → y.1 111 (x.1 100 13).toNatClampNeg = k → y.1 113 (x.1 100 13).toNatClampNeg = x.1 100 9 → Pu x y k s → Fv y) : KT G q d zk_X7_enter 0 [(0, vr 100), (1, vi k), (2, vi s)] [] x (rv Fv) := by
  have k20 : (20 : Int32).toInt = 20 := rfl
  have o0 := (BB_om hB).1.1
  have vin : vp_in (x.1 100 13) 20 := by rw [vp_in_iff]; unfold om at *; omega
  refine kg_X7_enter_0 hq _ _ ⟨fun c => ?_, fun c => ⟨vin, fun x3 e3 => ?_⟩⟩
  · exfalso; rw [t_le, k20] at c; unfold om at *; omega
  have q3 : x3.1 100 13 = x.1 100 13 := by rw [e3]; (simp only [si_get, sfl_get, Nat.reduceEqDiff, eq_self, and_false, false_and, and_true, true_and, if_true, if_false, reduceIte, reduceCtorEq])
  refine ⟨by rw [q3]; exact vin, fun x5 e5 => ?_⟩
  rw [q3] at e5
  have q5 : x5.1 100 13 = x.1 100 13 := by rw [e5, ← q3]; (simp only [si_get, sfl_get, Nat.reduceEqDiff, eq_self, and_false, false_and, and_true, true_and, if_true, if_false, reduceIte, reduceCtorEq])
  refine ⟨by rw [q5]; exact vin, fun x7 e7 z ez => rv_i ?_⟩
  have x59 : x5.1 100 9 = x.1 100 9 := by rw [e5, e3]; (simp only [si_get, sfl_get, Nat.reduceEqDiff, eq_self, and_false, false_and, and_true, true_and, if_true, if_false, reduceIte, reduceCtorEq])
  rw [q5, x59] at e7
  have q7 : x7.1 100 13 = x.1 100 13 := by rw [e7, ← q5]; (simp only [si_get, sfl_get, Nat.reduceEqDiff, eq_self, and_false, false_and, and_true, true_and, if_true, if_false, reduceIte, reduceCtorEq])
  rw [q7] at ez
  have f : fm (fun c j => (c = 100 ∧ j = 13) ∨ (111 ≤ c ∧ c ≤ 113 ∧ j = (x.1 100 13).toNatClampNeg)) x z := by
    rw [ez, e7, e5, e3]
    exact fm_si (fm_si (fm_si (fm_si (fm_rf _ _) (Or.inr ⟨by omega, by omega, rfl⟩)) (Or.inr ⟨by omega, by omega, rfl⟩)) (Or.inr ⟨by omega, by omega, rfl⟩)) (Or.inl ⟨rfl, rfl⟩)
  have eO : om z = om x + 1 := by
    have : z.1 100 13 = x.1 100 13 + 1 := by rw [ez]; (simp only [si_get, sfl_get, Nat.reduceEqDiff, eq_self, and_false, false_and, and_true, true_and, if_true, if_false, reduceIte, reduceCtorEq])
    unfold om at *
    rw [this, t_add (by show _ ≤ _ + (1 : Int); omega) (by show _ + (1 : Int) ≤ _; omega)]; rfl
  have eN : (((x.1 100 13).toNatClampNeg : Nat) : Int) = om x := by rw [t_cl]; unfold om at *; omega
  have z1 : z.1 111 (x.1 100 13).toNatClampNeg = k := by rw [ez, e7, e5, e3]; (simp only [si_get, sfl_get, Nat.reduceEqDiff, eq_self, and_false, false_and, and_true, true_and, if_true, if_false, reduceIte, reduceCtorEq])
  have z2 : z.1 112 (x.1 100 13).toNatClampNeg = s := by rw [ez, e7, e5, e3]; (simp only [si_get, sfl_get, Nat.reduceEqDiff, eq_self, and_false, false_and, and_true, true_and, if_true, if_false, reduceIte, reduceCtorEq])
  have z3 : z.1 113 (x.1 100 13).toNatClampNeg = x.1 100 9 := by rw [ez, e7, e5, e3]; (simp only [si_get, sfl_get, Nat.reduceEqDiff, eq_self, and_false, false_and, and_true, true_and, if_true, if_false, reduceIte, reduceCtorEq])
  obtain ⟨hS, hF, ⟨r1, r2, r3, ⟨r4, r6⟩, r7⟩, hC, r5, r0, hI⟩ := hB
  have e4 : nx z = nx x := by unfold nx; rw [f 100 4 (by omega)]
  have es : ssm z = ssm x := by unfold ssm; rw [f 80 9 (by omega)]
  have z5 : z.1 100 5 = x.1 100 5 := f _ _ (by omega)
  have la : La x z := ⟨fun c k q1 q2 => f c k (by omega), by omega, fun j _ => f 42 j (by omega)⟩
  refine h z ⟨?_, ?_, ⟨fun c => ?_, NM_fm r2 (fun c k q1 q2 q3 q4 => f c k (by omega)) (f _ _ (by omega)) (f _ _ (by omega)), ?_, ⟨by omega, fun i hi => SA_La la (f _ _ (by omega)) (f _ _ (by omega)) (f _ _ (by omega)) (f _ _ (by omega)) (Int.le_refl _) (r6 i (by omega))⟩, ?_⟩, fun i hi he => ?_, by rw [z5]; exact r5, fm_tr r0 (fm_w f (fun c k q => by unfold sR; omega)), ⟨fun he j hj => ?_, fun j hj c => ?_⟩⟩ e4 es eO (fun c j hc => f c j (by omega)) (f _ _ (by omega)) f z1 z3 ⟨fun c j q q1 q2 => f c j (by unfold ccS at q; omega), by rw [t_cl, t_cl]; show (om z).toNat = (om x).toNat + 1; omega, z1, z2, r5⟩
  · obtain ⟨⟨hT, b1, b2, b3⟩, ⟨u1, u2⟩, hp, hP⟩ := hS
    unfold SU SV US RB mt
    rw [f 20 7 (by omega), f 60 3 (by omega), e4]
    refine ⟨⟨kT_fm hT la.1, b1, b2, b3⟩, ⟨fun j h1 h2 => ?_, fun j h1 h2 => ?_⟩, hp, fun i hi => La_PQ la (f _ _ (by omega)) (f _ _ (by omega)) (hP i hi)⟩
    · rw [f 42 j (by omega)]; exact u1 j h1 h2
    · rw [f 42 j (by omega)] at h2; rw [f 42 _ (by omega)]; exact u2 j h1 h2
  · unfold FR at hF ⊢
    rw [f 100 4 (by omega), f 42 _ (by omega)]; exact hF
  · obtain ⟨k1, o1, o2, o3, o4⟩ := r1 r5
    refine ⟨KN_fm k1 (f _ _ (by omega)) (f _ _ (by omega)) (fun k => f _ _ (by omega)), ?_⟩
    unfold OPs
    rw [eO, f 100 9 (by omega), f 100 7 (by omega)]
    refine ⟨by omega, fun j hj => ?_, fun i j hij hj => ?_, o4⟩
    · by_cases hj2 : j = (x.1 100 13).toNatClampNeg
      · subst hj2
        unfold OP1
        rw [z1, z2, z3, f 100 9 (by omega)]
        refine ⟨fun c => hn.1 (by omega), fun c => ?_, k1.1.1, Int.le_refl _⟩
        obtain ⟨p1, n, p2, p3, p4⟩ := hn.2 (by omega)
        refine ⟨p1, n, p2, by omega, ?_⟩
        unfold sop at p4 ⊢
        rw [f 81 n (by omega)]; exact p4
      · have := o2 j (by omega)
        unfold OP1 at this ⊢
        rw [f 111 j (by omega), f 112 j (by omega), f 113 j (by omega), f 100 9 (by omega), es]
        refine ⟨this.1, fun c => ?_, this.2.2⟩
        obtain ⟨p1, n, p2, p3, p4⟩ := this.2.1 c
        refine ⟨p1, n, p2, p3, ?_⟩
        unfold sop at p4 ⊢
        rw [f 81 n (by omega)]; exact p4
    · by_cases hj2 : j = (x.1 100 13).toNatClampNeg
      · by_cases hi2 : i = (x.1 100 13).toNatClampNeg
        · rw [hi2, hj2]; exact Int.le_refl _
        · rw [hj2, z3, f 113 i (by omega)]
          exact (o2 i (by omega)).2.2.2
      · rw [f 113 i (by omega), f 113 j (by omega)]; exact o3 i j hij (by omega)
  · unfold CD at r3 ⊢
    rw [f 60 6 (by omega), f 60 9 (by omega), f 60 10 (by omega), f 60 14 (by omega), f 60 16 (by omega), f 60 13 (by omega), z5, f 100 9 (by omega), f 40 8 (by omega), f 40 10 (by omega)]
    exact r3
  · unfold TS at r7 ⊢
    rw [f 60 10 (by omega), z5, es]
    refine ⟨fun t ht => ?_, fun c => absurd c r5⟩
    rw [f 72 t (by omega)]; exact r7.1 t ht
  · have ep : sop z i = sop x i := by unfold sop; rw [f 81 i (by omega)]
    have et : stg z i = stg x i := by unfold stg; rw [f 84 i (by omega)]
    by_cases hEi : E i
    · by_cases hi6 : i = 1000000
      · exfalso; omega
      · have heq : (i : Int) = s.toInt := by
          by_cases h9 : (i : Int) = s.toInt
          · exact h9
          · exact absurd (Or.inr ⟨hi6, hEi, h9⟩) he
        intro _
        refine Or.inl ⟨by rw [et]; exact hE i (by omega) hEi heq, by rw [z5]; exact r5, (x.1 100 13).toNatClampNeg, by omega, by rw [z2]; omega⟩
    · have := hC i (by omega) hEi
      unfold SC at this ⊢
      rw [ep, et, z5, es]
      intro c
      rcases this c with ⟨p1, p2, j, p3, p4⟩ | ⟨p1, p2, p3, p4⟩
      · exact Or.inl ⟨p1, p2, j, by omega, by rw [f 112 j (by omega)]; exact p4⟩
      · refine Or.inr ⟨p1, p2, p3, fun c2 => (p4 c2).imp id (fun e => ?_)⟩
        unfold sop at e ⊢
        rw [f 81 _ (by omega)]; exact e
  · have : j = (x.1 100 13).toNatClampNeg := by omega
    rw [this, z1]
    intro c
    exact he (Or.inl ⟨rfl, c⟩)
  · by_cases hj2 : j + 1 = (x.1 100 13).toNatClampNeg
    · rw [hj2, z1]
      rcases h5 with e | e
      · rw [f 111 j (by omega)] at c
        exact absurd c (e j (by omega))
      · exact e
    · rw [f 111 j (by omega)] at c
      rw [f 111 (j + 1) (by omega)]
      exact hI.2 j (by omega) c
theorem kd_openBlock (hq : kV q) (k s : Int32) (hx : ¬ (K (nn x) = 63 ∧ nn x < 700) → RX x0 X) (hR : RIw K V sN e Ev xs x Ml) (hV : KV' K e x Ev9) {u B : List Nat} {z9 : Nat} (hz : k.toInt = (z9 : Nat)) (hS : SKs x (om x).toNat u B) (hB : BB x0 x M E) (ho : om x ≤ 17) (hsm : ssm x < 1000) (hk5 : ¬ k = 5) (h5 : TIk x ∨ k = 3 ∨ k = 4 ∨ k = 5) (hn : NB x k s) (hE : ∀ i : Nat, (i : Int) < ssm x → E i → i = 1000000 ∨ ((i : Int) = s.toInt ∧ stg x i = -1)) (h : ∀ y, BB x0 y M E0 → nx y = nx x + 1 → ssm y = ssm x → om y = om x + 1 → y.1 60 13 = x.1 60 13 → K (nn x) = 63 → nn x < 700 → nn y = nn x + 1 → Lb x y → RIw K V sN e Ev xs y Ml → KV' K e y Ev9 → SKs y (om y).toNat (z9 :: u) ((x.1 100 9).toNatClampNeg :: B) → y.1 100 7 = x.1 100 7 → (∃ w, (∀ c k, ccS c k → w.1 c k = x.1 c k) ∧ Pu w y k s) → Fv y) : KE G q (d + 8) zk_X7_openBlock 0 [(0, vr 100), (1, vi k), (2, vi s)] [] x (rv Fv) X := by
  refine kg_X7_openBlock_0 hq _ _ (kd_need hq 23 63 (by decide) (by decide) (by decide) hx hB hR (fun kk c7 y hBy ny gy en hRy _ hcy => ?_))
  have e1 := GS_om gy
  have e2 := GS_sm gy
  refine kd_enter hq hBy (by omega) (by omega) k s (h5.imp (fun e => TI_eq e (GS_at gy _ _ (by unfold sSum; omega)) (fun k => GS_at gy _ _ (by unfold sSum; omega))) id) (NB_GS gy hn) (fun i hi he hs => ?_) (fun z hBz nz sz oz fz z4 ff t1 t3 hpu => rv_i (h z (BB_E hBz ?_ ?_) (by omega) (by omega) (by omega) (by rw [fz 60 13 (by omega), GS_at gy 60 13 (by unfold sSum; omega)]) kk c7 (by rw [← en]; unfold nn; rw [z4]) (Lb_tr (Lb_GS gy) (Lb_fm ff (fun c k q => by unfold Tc; omega))) (RI_st hRy z4 (fun j => fz _ _ (by omega)) (fun c k q1 q2 => fz _ _ (by omega))) (KV_fm (KV_GS gy hV) (ff _ _ (by omega)) (fun k => ff _ _ (by omega))) ?_ (by rw [ff 100 7 (by omega), GS_at gy 100 7 (by unfold sSum; omega)]) ⟨y, hcy, hpu⟩))
  · have : stg y i = stg x i := by unfold stg; rw [GS_at gy 84 i (by unfold sSum; omega)]
    rw [this]
    rcases hE i (by omega) he with e | e
    · omega
    · exact e.2
  · rintro (⟨-, e⟩ | ⟨e, -⟩)
    · exact absurd e hk5
    · exact absurd rfl e
  · rintro i hi (⟨e, -⟩ | ⟨e0, e, e2⟩) _
    · omega
    · rcases hE i (by omega) e with g | g
      · exact absurd g e0
      · exact absurd g.1 e2
  · have o0 := (BB_om hB).1.1
    have ey : (y.1 100 13).toNatClampNeg = (om x).toNat := by rw [t_cl]; show (om y).toNat = _; rw [e1]
    have ez : (om z).toNat = (om x).toNat + 1 := by omega
    rw [ey] at t1 t3 ff
    rw [ez]
    refine ⟨z9, u, rfl, by rw [t1]; exact hz, Or.inr ⟨?_, (x.1 100 9).toNatClampNeg, B, rfl, ?_, SKs_eq (fun k hk => ⟨?_, ?_⟩) hS⟩⟩
    · intro q5
      apply hk5
      have k5 : (5 : Int32).toInt = 5 := rfl
      rw [t_eq, k5, hz, q5]; rfl
    · rw [t3, GS_at gy 100 9 (by unfold sSum; omega)]
    · rw [ff 111 k (by omega), GS_at gy 111 k (by unfold sSum; omega)]
    · rw [ff 113 k (by omega), GS_at gy 113 k (by unfold sSum; omega)]
end KOPF
end
section
/-! the class: if and while -/
section KTF2
variable {G : kG} {q : kP} {d : Nat} {x x0 y z xs : gd} {F : Int32 → gd → Prop} {Fv : gd → Prop} {X : String → gd → Prop} {P : Option gv → gd → Prop} {M : Int} {E : Nat → Prop} {K V : Nat → Int32} {sN : Nat → Nat → Bool} {e : Nat} {Ev : gV} {Ml N : gU} {W : gTs}
theorem kd_test (hq : kV q) (k : Int32) (f c9 z9 v9 : Nat) (L : gU) {u B : List Nat} (hx : W = none → RX x0 X) (eW : W = eX K u c9 (nn x) L) (hf : (f : Int) + om x = 16) (hkz : (k = 1 ∧ K (nn x) = 41 ∧ z9 = 1 ∧ v9 = 61) ∨ (k = 3 ∧ K (nn x) = 24 ∧ z9 = 3 ∧ v9 = 60)) (hA : KA K V sN e x) (hn : nn x ≤ e) (hV : KV' K e x Ev) (hEv : ¬ Ev.2.1 = []) (hS : SKs x (om x).toNat u B) (hB : BB x0 x M E) (hE : ∀ i, E i → i = 1000000) (h1 : 1 ≤ om x) (ho : om x ≤ 16) (ha : 2 * ssm x + om x ≤ nx x) (hk : k = 1 ∨ k = 3) (h5 : TIk x ∨ k = 3) (h : ∀ y, BB x0 y M E0 → nx x < nx y → om y = om x + 1 → 2 * ssm y + om y ≤ nx y → y.1 60 13 = x.1 60 13 → Lb x y → KV' K e y Ev → SKs y (om y).toNat (z9 :: u) (Ev.1.length :: B) → y.1 100 7 = x.1 100 7 → ∀ N, RIw K V sN e Ev x y (N ++ [(20, z9, 0)]) → still N → W = eS K (z9 :: u) c9 (nn y) (L ++ (N ++ [(20, z9, 0)])) → CG sN V K Ev x y (N ++ [(20, z9, 0)]) → Fv y) : KE G q (d + 10) zk_X7_testStatement 0 [(0, vr 100), (1, vi k)] [] x (rv Fv) X := by
  have bx0 := hB.1.1.2.1
  have cx := nn_is bx0
  have o0 := (BB_om hB).1.1
  have ul := SKs_len hS
  have hf1 : 17 - u.length = f + 1 := by omega
  have hk0 : ¬ K (nn x) = 0 ∧ ¬ K (nn x) = 3 := by rcases hkz with ⟨-, e, -⟩ | ⟨-, e, -⟩ <;> rw [e] <;> decide
  have z5 : ¬ z9 = 5 := by rcases hkz with ⟨-, -, e, -⟩ | ⟨-, -, e, -⟩ <;> omega
  have hkz9 : k.toInt = (z9 : Nat) := by rcases hkz with ⟨e1, -, e2, -⟩ | ⟨e1, -, e2, -⟩ <;> rw [e1, e2] <;> rfl
  have hv9 : dull (v9, nn x, 0) ∧ still [(v9, nn x, 0)] := by rcases hkz with ⟨-, -, -, e⟩ | ⟨-, -, -, e⟩ <;> rw [e] <;> exact ⟨dull_k (by decide), stl_k (by decide)⟩
  have d20 : dull (20, z9, 0) := dull_k (by decide)
  refine kg_X7_testStatement_0 hq _ ⟨RB_at hB.1.1, kd_pass (xs := x) (Ml := []) (Ev := Ev) hq (fun c7 => hx ?_) hB ⟨hA, hn, UR_0 rfl⟩ hk0.1 hk0.2 (fun c7 y hBy ny gy eny hRy u0 hcy => ?_)⟩
  · rw [eW]
    refine eX_0 ?_
    rw [hf1, pS, if_pos c7]
  have hW1 : W = (pX K false f (nn x + 1) L).bind (fun q => (pBk (pS K f) K z9 c9 q.1 (q.2 ++ [(v9, nn x, 0)])).bind (fun q => eC K z9 u q.1 q.2.1 q.2.2)) := by
    rw [eW]
    cases hp : pX K false f (nn x + 1) L with
    | none =>
      refine eX_0 ?_
      rw [hf1, pS, if_neg (by omega)]
      rcases hkz with ⟨-, e, -⟩ | ⟨-, e, -⟩
      · rw [if_neg (by rw [e]; decide), if_pos e, hp]; rfl
      · rw [if_pos e, hp]; rfl
    | some q9 =>
      rcases hkz with ⟨-, e, e2, e3⟩ | ⟨-, e, e2, e3⟩
      · rw [e2, e3, eX_while hf1 c7 e hp]; rfl
      · rw [e2, e3, eX_if hf1 c7 e hp]; rfl
  have by0 := hBy.1.1.2.1
  have e1 := GS_om gy
  have e2 := GS_sm gy
  obtain ⟨p1, p2⟩ := BB_om hBy
  have eF : 17 - (y.1 100 13 + 1).toNatClampNeg = f := by
    have u := t_cl (y.1 100 13 + 1)
    rw [p2 (by omega)] at u
    omega
  have hVy := KV_GS gy hV
  refine kd_sum hq _ L (fun q9 => hx (by rw [eF, eny] at q9; rw [hW1, q9]; rfl)) hBy hRy.1 hRy.2.1 hVy (by rw [p2 (by omega)]; omega) (by rw [p2 (by omega)]; omega) (fun r z hBz nz gz N2 hRz hN2 hpX hcp hrr => ?_)
  rw [eF, eny] at hpX
  obtain ⟨N20, -, hPz⟩ := PD_xp (PD_0 (x := x) (t := none) (N := []) hcy (Or.inl rfl)) hpX hcp gz hrr
  rw [hpX] at hW1
  have hW2 : W = (pBk (pS K f) K z9 c9 (nn z) (L ++ N2 ++ [(v9, nn x, 0)])).bind (fun q => eC K z9 u q.1 q.2.1 q.2.2) := hW1
  have hRxz : RIw K V sN e Ev x z (N2 ++ [(v9, nn x, 0)]) := by
    have r1 := RI_app by0 still_nil hRy gz.1 hRz
    exact ⟨r1.1, r1.2.1, UR_dull r1.2.2 hv9.1⟩
  have hVz := KV_GS gz hVy
  have e3 := GS_om gz
  have e4 := GS_sm gz
  obtain ⟨a1, a2, a3, a4, a5⟩ := BB_400 hBz (by omega)
  refine kf_add hq _ _ _ a1 a2 (fun w hA vin hF9 => ⟨vin, fun v ev => ?_⟩)
  obtain ⟨f1, f2, f3, f4, f5⟩ := hA
  have fz : fm (fun c k => (81 ≤ c ∧ c ≤ 89 ∧ k = (z.1 80 9).toNatClampNeg) ∨ (c = 80 ∧ k = 9)) z v := by rw [ev]; exact fm_si f1 (Or.inl ⟨by omega, by omega, rfl⟩)
  have es : ssm v = ssm z + 1 := by
    have : v.1 80 9 = w.1 80 9 := by rw [ev]; (simp only [si_get, sfl_get, Nat.reduceEqDiff, eq_self, and_false, false_and, and_true, true_and, if_true, if_false, reduceIte, reduceCtorEq])
    unfold ssm at *; rw [this]; exact f2
  have z81 : v.1 81 (z.1 80 9).toNatClampNeg = 17 := by rw [ev]; (simp only [si_get, sfl_get, Nat.reduceEqDiff, eq_self, and_false, false_and, and_true, true_and, if_true, if_false, reduceIte, reduceCtorEq]); exact f3
  have z83 : v.1 83 (z.1 80 9).toNatClampNeg = z.1 100 9 := by rw [ev]; (simp only [si_get, sfl_get, Nat.reduceEqDiff, eq_self, and_false, false_and, and_true, true_and, if_true, if_false, reduceIte, reduceCtorEq]); exact f4
  have z84 : v.1 84 (z.1 80 9).toNatClampNeg = -1 := by rw [ev]; (simp only [si_get, sfl_get, Nat.reduceEqDiff, eq_self, and_false, false_and, and_true, true_and, if_true, if_false, reduceIte, reduceCtorEq]); exact f5
  have k17 : (17 : Int32).toInt = 17 := rfl
  have hstK : stK z v 17 (z.1 100 9) (-1) (-1) (-1) r (-1) := ⟨fun c k q q1 q2 => fz c k (fun w => w.elim q1 q2), es, z81, z83, z84, by rw [ev]; (simp only [si_get, sfl_get, Nat.reduceEqDiff, eq_self, and_false, false_and, and_true, true_and, if_true, if_false, reduceIte, reduceCtorEq]); exact hF9.1, by rw [ev]; (simp only [si_get, sfl_get, Nat.reduceEqDiff, eq_self, and_false, false_and, and_true, true_and, if_true, if_false, reduceIte, reduceCtorEq]); exact hF9.2.1, by rw [ev]; (simp only [si_get, sfl_get, Nat.reduceEqDiff, eq_self, and_false, false_and, and_true, true_and, if_true, if_false, reduceIte, reduceCtorEq]), by rw [ev]; (simp only [si_get, sfl_get, Nat.reduceEqDiff, eq_self, and_false, false_and, and_true, true_and, if_true, if_false, reduceIte, reduceCtorEq]); exact hF9.2.2.2⟩
  have hv60 : v9 = 60 ∨ v9 = 61 := by rcases hkz with ⟨-, -, -, e⟩ | ⟨-, -, -, e⟩ <;> omega
  have hk00 : ¬ k = 0 := by rcases hk with e | e <;> rw [e] <;> decide
  have hSA : SA v M (z.1 80 9).toNatClampNeg := by
    unfold SA sop stg
    rw [z81, z83, k17]
    exact ⟨by omega, ⟨a4, a5⟩, fun c => by omega, fun c => by omega⟩
  have hBv := BB_add hBz (n := (z.1 80 9).toNatClampNeg) (by omega) fz es hSA
  have n4 : nx v = nx z := by unfold nx; rw [fz 100 4 (by omega)]
  have n13 : om v = om z := by unfold om; rw [fz 100 13 (by omega)]
  have hk' : (1 ≤ k.toInt ∧ k.toInt ≤ 5) ∧ ¬ k = 5 ∧ ¬ k = 2 ∧ ¬ k = 4 := by rcases hk with rfl | rfl <;> decide
  have nvz : nn v = nn z := by unfold nn; rw [fz 100 4 (by omega)]
  have hRv : RIw K V sN e Ev x v (N2 ++ [(v9, nn x, 0)]) := RI_st hRxz (fz _ _ (by omega)) (fun j => fz _ _ (by omega)) (fun c k q1 q2 => fz _ _ (by omega))
  have hVv : KV' K e v Ev := KV_fm hVz (fz _ _ (by omega)) (fun k => fz _ _ (by omega))
  have hSv : SKs v (om v).toNat u B := by
    rw [n13, e3, e1]
    exact SKs_eq (fun k _ => ⟨by rw [fz 111 k (by omega), GS_at gz 111 k (by unfold sSum; omega), GS_at gy 111 k (by unfold sSum; omega)], by rw [fz 113 k (by omega), GS_at gz 113 k (by unfold sSum; omega), GS_at gy 113 k (by unfold sSum; omega)]⟩) hS
  have v9c : (v.1 100 9).toNatClampNeg = Ev.1.length := by rw [t_cl, hVv.1]; rfl
  refine kd_openBlock hq k _ (fun no => hx (by rw [hW2, pBk, if_neg (by rw [← nvz]; exact no)]; rfl)) hRv hVv hkz9 hSv hBv (by omega) (by omega) hk'.2.1 (h5.imp (fun e => TI_eq (TI_eq (TI_eq e (GS_at gy _ _ (by unfold sSum; omega)) (fun k => GS_at gy _ _ (by unfold sSum; omega))) (GS_at gz _ _ (by unfold sSum; omega)) (fun k => GS_at gz _ _ (by unfold sSum; omega))) (fz _ _ (by omega)) (fun k => fz _ _ (by omega))) Or.inl) ⟨fun c => by omega, fun _ => ⟨hk'.1, (z.1 80 9).toNatClampNeg, a3.symm, by omega, fun _ => by unfold sop; rw [z81]; rfl, fun c => absurd c hk'.2.2.1, fun c => ?_⟩⟩ (fun i hi he => ?_) (fun w9 hBu nu su ou u13 kk c79 enu lau hRu hVu hSu u7 hpu => rv_i (h w9 hBu (by omega) (by omega) (by omega) (by rw [u13, fz 60 13 (by omega), GS_at gz 60 13 (by unfold sSum; omega), GS_at gy 60 13 (by unfold sSum; omega)]) (Lb_tr (Lb_tr (Lb_GS (GS_tr gy gz)) (Lb_fm fz (fun c k q => by unfold Tc; omega))) lau) hVu (by rw [v9c] at hSu; exact hSu) (by rw [u7, fz 100 7 (by omega), GS_at gz 100 7 (by unfold sSum; omega), GS_at gy 100 7 (by unfold sSum; omega)]) (N2 ++ [(v9, nn x, 0)]) ⟨hRu.1, hRu.2.1, UR_dull hRu.2.2 d20⟩ (still_app hN2 hv9.2) (by rw [nvz] at kk c79 enu; rw [hW2, eS_block z5 (by omega) kk c79, enu, List.append_assoc L, List.append_assoc L]) (hpu.elim (fun w0 q0 => CG_test hPz hEv hVz hstK q0.1 q0.2 hk00 hv60))))
  · rcases c with c | c
    · exact absurd c hk'.2.2.2
    · exact absurd c hk'.2.1
  · rcases he with he | he
    · exact Or.inl (hE i he)
    · refine Or.inr ⟨by rw [he]; exact a3, ?_⟩
      rw [he]; unfold stg; rw [z84]; rfl
end KTF2
end
section
/-! the class: blocks are closed; statements -/
abbrev E1 : Nat → Prop := fun i => i = 1000000
/-- outside a thread -/
def OT (x0 x : gd) : Prop := SU x ∧ FR x ∧ RI0 x (x.1 60 13).toInt ∧ SCs x E0 ∧ x.1 100 5 = 0 ∧ fm sR x0 x ∧ 2 * ssm x ≤ nx x
/-- within a thread, between statements -/
def IT (x0 x : gd) : Prop := (BB x0 x (x.1 60 13).toInt E0 ∨ (BB x0 x (x.1 60 13).toInt E1 ∧ x.1 23 (x.1 100 4).toNatClampNeg = 54)) ∧ 1 ≤ om x ∧ om x ≤ 17 ∧ 2 * ssm x + om x ≤ nx x
section KCL
variable {G : kG} {q : kP} {d : Nat} {x x0 y z : gd} {F : Int32 → gd → Prop} {Fv : gd → Prop} {X : String → gd → Prop} {P : Option gv → gd → Prop} {M : Int} {E : Nat → Prop}
end KCL
end
