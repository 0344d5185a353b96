/-! the class's code as the events say it, while it is read: names stand as their tokens -/
/-- a local's name alone is a sum -/
def alP (sN : Nat → Nat → Bool) (E : gV) (i : Nat) : List (Int32 × Int32) := match kfi sN E.1 i with
  | some p => [(2, Int32.ofNat p), (0, 0)]
  | none => []
def tPv (sN : Nat → Nat → Bool) (V K : Nat → Int32) (E : gV) (v : Nat × Nat × Nat) : List (Int32 × Int32) := if v.1 = 24 then alP sN E v.2.1 else if v.1 = 27 then alP sN E v.2.2 else (cPt sN V K E v).toList
/-- the parts of events in a row -/
def tPs (sN : Nat → Nat → Bool) (V K : Nat → Int32) : gU → gV → List (Int32 × Int32)
  | [], _ => []
  | v :: M, E => tPv sN V K E v ++ tPs sN V K M (exV E v)
/-- a sum's parts and its end stand in P from r on -/
def SUc (P : List (Int32 × Int32)) (r : Int32) (Q : List (Int32 × Int32)) : Prop := ∃ n : Nat, r.toInt = (min n 800 : Nat) ∧ ∀ i q, (Q ++ [(0, 0)])[i]? = some q → P[n + i]? = some q
def cSu (sN : Nat → Nat → Bool) (V K : Nat → Int32) (P : List (Int32 × Int32)) (ks : gK) (v : Int32) : Option gU → Prop
  | none => v = -1
  | some N => SUc P v (sPs sN V K (ks, [0], 0) N)
def tgI (v : Int32) (o : Option Nat) : Prop := match o with
  | none => v = -1
  | some n => v.toInt = (n : Nat)
def obI (V : Nat → Int32) (v : Int32) (op : Nat) (o : Option Nat) : Prop := match o with
  | none => v = -1
  | some t => if op = 13 then v = V t else v.toInt = (t : Nat)
/-- one step: op 81, known 83, target 84, object 85, index 87, first 88, second 89 -/
def kS (sN : Nat → Nat → Bool) (V K : Nat → Int32) (x : gd) (P : List (Int32 × Int32)) (j : Nat) (st : gSt) : Prop :=
  x.1 81 j = Int32.ofNat st.1 ∧ (x.1 83 j).toInt = st.2.2.1.1.length ∧
  ((st.1 = 0 ∨ (2 ≤ st.1 ∧ st.1 ≤ 4) ∨ st.1 = 16 ∨ st.1 = 17 ∨ st.1 = 20) → tgI (x.1 84 j) st.2.2.2.1) ∧ (st.1 = 8 → (x.1 84 j = 1 ↔ st.2.2.2.2.2.1 = true)) ∧
  (¬ st.1 = 16 → obI V (x.1 85 j) st.1 st.2.2.2.2.1) ∧
  cSu sN V K P st.2.2.1.1 (x.1 87 j) st.2.2.2.2.2.2.1 ∧ cSu sN V K P st.2.2.1.1 (x.1 88 j) st.2.2.2.2.2.2.2.1 ∧ cSu sN V K P st.2.2.1.1 (x.1 89 j) st.2.2.2.2.2.2.2.2
def SRk (sN : Nat → Nat → Bool) (V K : Nat → Int32) (x : gd) (P : List (Int32 × Int32)) (S : List gSt) : Prop := (x.1 80 9).toInt = S.length ∧ ∀ j st, S[j]? = some st → kS sN V K x P j st
/-- the steps of the open statements (a thread's block has none) -/
def SKk (x : gd) : Nat → List Nat → Prop
  | 0, k => k = []
  | n + 1, k => (x.1 111 n = 0 ∧ SKk x n k) ∨ (¬ x.1 111 n = 0 ∧ ∃ j k', k = j :: k' ∧ (x.1 112 n).toInt = (j : Nat) ∧ SKk x n k')
def CCp (sN : Nat → Nat → Bool) (V K : Nat → Int32) (x : gd) (c : gCd) (d : Nat × Int32 × List (Int32 × Bool)) (P : List (Int32 × Int32)) : Prop :=
  PR x P ∧ SRk sN V K x P c.2.1 ∧ ((¬ x.1 100 5 = 0 → SKk x (x.1 100 13).toNatClampNeg c.2.2.1) ∧ (x.1 100 5 = 0 → c.2.2.1 = [])) ∧
  ((x.1 60 10).toInt = c.2.2.2.2.1.length ∧ ∀ (t : Nat) (q : Nat × Nat), c.2.2.2.2.1[t]? = some q → (x.1 72 t).toInt = q.1 ∧ x.1 73 t = Int32.ofNat q.2) ∧
  ((x.1 60 6).toInt = d.2.2.length ∧ ∀ j q, d.2.2[j]? = some q → x.1 68 j = q.1 ∧ x.1 69 j = if q.2 = true then 1 else 0) ∧
  ((x.1 60 14).toInt = (clF 35 c.2.2.2.2.2).length ∧ ∀ k N, (clF 35 c.2.2.2.2.2)[k]? = some N → SUc P (x.1 76 k) (sPs sN V K E0v N)) ∧
  ((x.1 60 16).toInt = (clF 36 c.2.2.2.2.2).length ∧ ∀ k N, (clF 36 c.2.2.2.2.2)[k]? = some N → SUc P (x.1 78 k) (sPs sN V K E0v N))
/-- what reading a piece does to the code: from x to y by the events M (no statement is under way before it, none behind it) -/
def CG (sN : Nat → Nat → Bool) (V K : Nat → Int32) (E : gV) (x y : gd) (M : gU) : Prop := ∀ c d P, eqE c.1 E → c.2.2.2.1 = rg0 → CCp sN V K x c d P → CCp sN V K y (cds sN K M c) (ces K V M d) (P ++ tPs sN V K M E) ∧ eqE (cds sN K M c).1 (exs M E) ∧ (cds sN K M c).2.2.2.1 = rg0
/-- the cells on which it rests -/
def ccS (c k : Nat) : Prop := (c = 60 ∧ k ≠ 13) ∨ (61 ≤ c ∧ c < 90) ∨ (c = 100 ∧ (k = 5 ∨ k = 13)) ∨ c = 111 ∨ c = 112
section KCO
variable {sN : Nat → Nat → Bool} {V K : Nat → Int32} {E : gV} {x y z : gd} {M N : gU} {c : gCd} {d : Nat × Int32 × List (Int32 × Bool)} {P Q : List (Int32 × Int32)} {S : List gSt}
theorem tPs_app : ∀ {M : gU} {E : gV}, tPs sN V K (M ++ N) E = tPs sN V K M E ++ tPs sN V K N (exs M E) := by
  intro M
  induction M with
  | nil => intro E; rfl
  | cons v M ih =>
    intro E
    show tPv sN V K E v ++ tPs sN V K (M ++ N) (exV E v) = (tPv sN V K E v ++ tPs sN V K M (exV E v)) ++ tPs sN V K N (exs M (exV E v))
    rw [ih, List.append_assoc]
theorem tPs_still : ∀ {M : gU}, still M → (∀ v ∈ M, ¬ v.1 = 24 ∧ ¬ v.1 = 27) → tPs sN V K M E = sPs sN V K E M := by
  intro M
  induction M with
  | nil => intro _ _; rfl
  | cons v M ih =>
    intro h g
    show tPv sN V K E v ++ tPs sN V K M (exV E v) = (v :: M).filterMap (cPt sN V K E)
    have e : tPv sN V K E v = (cPt sN V K E v).toList := by
      unfold tPv
      rw [if_neg (g v List.mem_cons_self).1, if_neg (g v List.mem_cons_self).2]
    rw [e, exV_still (h v List.mem_cons_self), ih (fun w hw => h w (List.mem_cons_of_mem _ hw)) (fun w hw => g w (List.mem_cons_of_mem _ hw)), List.filterMap_cons]
    cases cPt sN V K E v <;> rfl
theorem SUc_mono {r : Int32} (h : SUc P r Q) (P' : List (Int32 × Int32)) : SUc (P ++ P') r Q := by
  obtain ⟨n, h1, h2⟩ := h
  refine ⟨n, h1, fun i q hq => ?_⟩
  have a := h2 i q hq
  rw [List.getElem?_append_left (gt_lt a)]
  exact a
theorem cSu_mono {ks : gK} {v : Int32} {o : Option gU} (h : cSu sN V K P ks v o) (P' : List (Int32 × Int32)) : cSu sN V K (P ++ P') ks v o := by
  cases o with
  | none => exact h
  | some N => exact SUc_mono h P'
theorem kS_mono {j : Nat} {st : gSt} (h : kS sN V K x P j st) (P' : List (Int32 × Int32)) : kS sN V K x (P ++ P') j st := by
  obtain ⟨h1, h2, h3, h4, h5, h6, h7, h8⟩ := h
  exact ⟨h1, h2, h3, h4, h5, cSu_mono h6 P', cSu_mono h7 P', cSu_mono h8 P'⟩
theorem kS_eq {j : Nat} {st : gSt} (e : ∀ k, 81 ≤ k → k < 90 → y.1 k j = x.1 k j) (h : kS sN V K x P j st) : kS sN V K y P j st := by
  unfold kS
  rw [e 81 (by decide) (by decide), e 83 (by decide) (by decide), e 84 (by decide) (by decide), e 85 (by decide) (by decide), e 87 (by decide) (by decide), e 88 (by decide) (by decide), e 89 (by decide) (by decide)]
  exact h
theorem SKk_eq : ∀ {n : Nat} {k : List Nat}, (∀ i, i < n → y.1 111 i = x.1 111 i ∧ y.1 112 i = x.1 112 i) → SKk x n k → SKk y n k := by
  intro n
  induction n with
  | zero => intro k _ h; exact h
  | succ n ih =>
    intro k e h
    obtain ⟨e1, e2⟩ := e n (Nat.lt_succ_self _)
    have e' : ∀ i, i < n → y.1 111 i = x.1 111 i ∧ y.1 112 i = x.1 112 i := fun i hi => e i (Nat.lt_succ_of_lt hi)
    rcases h with ⟨h1, h2⟩ | ⟨h1, j, k', h2, h3, h4⟩
    · exact Or.inl ⟨by rw [e1]; exact h1, ih e' h2⟩
    · exact Or.inr ⟨by rw [e1]; exact h1, j, k', h2, by rw [e2]; exact h3, ih e' h4⟩
theorem CCp_eq (e : ∀ c k, ccS c k → y.1 c k = x.1 c k) (h : CCp sN V K x c d P) : CCp sN V K y c d P := by
  obtain ⟨⟨p1, p2⟩, ⟨s1, s2⟩, ⟨k1, k2⟩, ⟨b1, b2⟩, ⟨c1, c2⟩, ⟨a1, a2⟩, ⟨f1, f2⟩⟩ := h
  have g : ∀ c k, 61 ≤ c → c < 90 → y.1 c k = x.1 c k := fun c k q1 q2 => e c k (Or.inr (Or.inl ⟨q1, q2⟩))
  have g6 : ∀ k, k ≠ 13 → y.1 60 k = x.1 60 k := fun k q => e 60 k (Or.inl ⟨rfl, q⟩)
  have e5 : y.1 100 5 = x.1 100 5 := e _ _ (Or.inr (Or.inr (Or.inl ⟨rfl, Or.inl rfl⟩)))
  have e13 : y.1 100 13 = x.1 100 13 := e _ _ (Or.inr (Or.inr (Or.inl ⟨rfl, Or.inr rfl⟩)))
  refine ⟨⟨by rw [g6 3 (by decide)]; exact p1, fun i q hi hq => by rw [g 62 i (by decide) (by decide), g 63 i (by decide) (by decide)]; exact p2 i q hi hq⟩, ⟨by rw [g 80 9 (by decide) (by decide)]; exact s1, fun j st hj => kS_eq (fun k q1 q2 => g k j (by omega) q2) (s2 j st hj)⟩, ⟨fun q => ?_, fun q => k2 (by rw [← e5]; exact q)⟩, ⟨by rw [g6 10 (by decide)]; exact b1, fun t q hq => by rw [g 72 t (by decide) (by decide), g 73 t (by decide) (by decide)]; exact b2 t q hq⟩, ⟨by rw [g6 6 (by decide)]; exact c1, fun j q hq => by rw [g 68 j (by decide) (by decide), g 69 j (by decide) (by decide)]; exact c2 j q hq⟩, ⟨by rw [g6 14 (by decide)]; exact a1, fun k N hN => by rw [g 76 k (by decide) (by decide)]; exact a2 k N hN⟩, ⟨by rw [g6 16 (by decide)]; exact f1, fun k N hN => by rw [g 78 k (by decide) (by decide)]; exact f2 k N hN⟩⟩
  rw [e13]
  exact SKk_eq (fun i _ => ⟨e _ _ (Or.inr (Or.inr (Or.inr (Or.inl rfl)))), e _ _ (Or.inr (Or.inr (Or.inr (Or.inr rfl))))⟩) (k1 (by rw [← e5]; exact q))
theorem CG_rf : CG sN V K E x x [] := fun c d P he hr h => ⟨by
  show CCp sN V K x c d (P ++ [])
  rw [List.append_nil]; exact h, he, hr⟩
theorem CG_app (h : CG sN V K E x y M) (g : CG sN V K (exs M E) y z N) : CG sN V K E x z (M ++ N) := fun c d P he hr hc => by
  obtain ⟨h1, h2, h3⟩ := h c d P he hr hc
  obtain ⟨g1, g2, g3⟩ := g _ _ _ h2 h3 h1
  rw [cds_app, ces_app, tPs_app, exs_app, ← List.append_assoc]
  exact ⟨g1, g2, g3⟩
theorem CG_st (h : CG sN V K E x y M) (e : ∀ c k, ccS c k → z.1 c k = y.1 c k) : CG sN V K E x z M := fun c d P he hr hc => ⟨CCp_eq e (h c d P he hr hc).1, (h c d P he hr hc).2⟩
theorem CG_pre (e : ∀ c k, ccS c k → y.1 c k = x.1 c k) (h : CG sN V K E y z M) : CG sN V K E x z M := fun c d P he hr hc => h c d P he hr (CCp_eq e hc)
/-- one step is added -/
def stK (x y : gd) (o kn tg ob ix e f : Int32) : Prop := (∀ c k, ccS c k → ¬ (81 ≤ c ∧ c ≤ 89 ∧ k = (x.1 80 9).toNatClampNeg) → ¬ (c = 80 ∧ k = 9) → y.1 c k = x.1 c k) ∧ (y.1 80 9).toInt = (x.1 80 9).toInt + 1 ∧ y.1 81 (x.1 80 9).toNatClampNeg = o ∧ y.1 83 (x.1 80 9).toNatClampNeg = kn ∧ y.1 84 (x.1 80 9).toNatClampNeg = tg ∧ y.1 85 (x.1 80 9).toNatClampNeg = ob ∧ y.1 87 (x.1 80 9).toNatClampNeg = ix ∧ y.1 88 (x.1 80 9).toNatClampNeg = e ∧ y.1 89 (x.1 80 9).toNatClampNeg = f
theorem CCp_add {o kn tg ob ix e f : Int32} {st : gSt} {Ec : gV} {k : List Nat} {r r' : gRg} {w : List (Nat × Nat) × List (Nat × gU)} (h : CCp sN V K x (Ec, S, k, r, w) d P) (a : stK x y o kn tg ob ix e f) (h1 : o = Int32.ofNat st.1) (h2 : kn.toInt = st.2.2.1.1.length) (h3 : (st.1 = 0 ∨ (2 ≤ st.1 ∧ st.1 ≤ 4) ∨ st.1 = 16 ∨ st.1 = 17 ∨ st.1 = 20) → tgI tg st.2.2.2.1) (h4 : st.1 = 8 → (tg = 1 ↔ st.2.2.2.2.2.1 = true)) (h5 : ¬ st.1 = 16 → obI V ob st.1 st.2.2.2.2.1) (h6 : cSu sN V K P st.2.2.1.1 ix st.2.2.2.2.2.2.1) (h7 : cSu sN V K P st.2.2.1.1 e st.2.2.2.2.2.2.2.1) (h8 : cSu sN V K P st.2.2.1.1 f st.2.2.2.2.2.2.2.2) : CCp sN V K y (Ec, S ++ [st], k, r', w) d P := by
  obtain ⟨⟨p1, p2⟩, ⟨s1, s2⟩, ⟨k1, k2⟩, ⟨b1, b2⟩, ⟨c1, c2⟩, ⟨a1, a2⟩, ⟨f1, f2⟩⟩ := h
  have s1 : (x.1 80 9).toInt = S.length := s1
  obtain ⟨fr, g9, v81, v83, v84, v85, v87, v88, v89⟩ := a
  have en : (x.1 80 9).toNatClampNeg = S.length := by rw [t_cl, s1]; omega
  rw [en] at fr v81 v83 v84 v85 v87 v88 v89
  have g : ∀ c k, 61 ≤ c → c < 80 → y.1 c k = x.1 c k := fun c k q1 q2 => fr c k (Or.inr (Or.inl ⟨q1, by omega⟩)) (by omega) (by omega)
  have g6 : ∀ k, k ≠ 13 → y.1 60 k = x.1 60 k := fun k q => fr 60 k (Or.inl ⟨rfl, q⟩) (by omega) (by omega)
  have e5 : y.1 100 5 = x.1 100 5 := fr _ _ (Or.inr (Or.inr (Or.inl ⟨rfl, Or.inl rfl⟩))) (by omega) (by omega)
  have e13 : y.1 100 13 = x.1 100 13 := fr _ _ (Or.inr (Or.inr (Or.inl ⟨rfl, Or.inr rfl⟩))) (by omega) (by omega)
  refine ⟨⟨by rw [g6 3 (by decide)]; exact p1, fun i q hi hq => by rw [g 62 i (by decide) (by decide), g 63 i (by decide) (by decide)]; exact p2 i q hi hq⟩, ⟨by rw [g9, s1]; show _ = (((S ++ [st]).length : Nat) : Int); rw [List.length_append]; rfl, sn_get (fun j r9 hr9 => ?_) ?_⟩, ⟨fun q => ?_, fun q => k2 (by rw [← e5]; exact q)⟩, ⟨by rw [g6 10 (by decide)]; exact b1, fun t q hq => by rw [g 72 t (by decide) (by decide), g 73 t (by decide) (by decide)]; exact b2 t q hq⟩, ⟨by rw [g6 6 (by decide)]; exact c1, fun j q hq => by rw [g 68 j (by decide) (by decide), g 69 j (by decide) (by decide)]; exact c2 j q hq⟩, ⟨by rw [g6 14 (by decide)]; exact a1, fun k N hN => by rw [g 76 k (by decide) (by decide)]; exact a2 k N hN⟩, ⟨by rw [g6 16 (by decide)]; exact f1, fun k N hN => by rw [g 78 k (by decide) (by decide)]; exact f2 k N hN⟩⟩
  · have hj := gt_lt hr9
    exact kS_eq (fun k q1 q2 => fr k j (Or.inr (Or.inl ⟨by omega, q2⟩)) (by omega) (by omega)) (s2 j r9 hr9)
  · unfold kS
    rw [v81, v83, v84, v85, v87, v88, v89]
    exact ⟨h1, h2, h3, h4, h5, h6, h7, h8⟩
  · rw [e13]
    exact SKk_eq (fun i _ => ⟨fr _ _ (Or.inr (Or.inr (Or.inr (Or.inl rfl)))) (by omega) (by omega), fr _ _ (Or.inr (Or.inr (Or.inr (Or.inr rfl)))) (by omega) (by omega)⟩) (k1 (by rw [← e5]; exact q))
/-- a sum's parts are written, no more -/
theorem CCp_sum {Ec : gV} {k : List Nat} {r r' : gRg} {w : List (Nat × Nat) × List (Nat × gU)} (h : CCp sN V K x (Ec, S, k, r, w) d P) (a : CPl x y Q) (e : ∀ c k, ccS c k → ¬ (c = 60 ∧ k = 3) → ¬ c = 62 → ¬ c = 63 → y.1 c k = x.1 c k) : CCp sN V K y (Ec, S, k, r', w) d (P ++ Q) := by
  obtain ⟨p, ⟨s1, s2⟩, ⟨k1, k2⟩, ⟨b1, b2⟩, ⟨c1, c2⟩, ⟨a1, a2⟩, ⟨f1, f2⟩⟩ := h
  have g : ∀ c k, 64 ≤ c → c < 90 → y.1 c k = x.1 c k := fun c k q1 q2 => e c k (Or.inr (Or.inl ⟨by omega, q2⟩)) (by omega) (by omega) (by omega)
  have g6 : ∀ k, k ≠ 13 → k ≠ 3 → y.1 60 k = x.1 60 k := fun k q q2 => e 60 k (Or.inl ⟨rfl, q⟩) (by omega) (by omega) (by omega)
  have e5 : y.1 100 5 = x.1 100 5 := e _ _ (Or.inr (Or.inr (Or.inl ⟨rfl, Or.inl rfl⟩))) (by omega) (by omega) (by omega)
  have e13 : y.1 100 13 = x.1 100 13 := e _ _ (Or.inr (Or.inr (Or.inl ⟨rfl, Or.inr rfl⟩))) (by omega) (by omega) (by omega)
  refine ⟨a P p, ⟨by rw [g 80 9 (by decide) (by decide)]; exact s1, fun j st hj => kS_mono (kS_eq (fun k q1 q2 => g k j (by omega) q2) (s2 j st hj)) Q⟩, ⟨fun q => ?_, fun q => k2 (by rw [← e5]; exact q)⟩, ⟨by rw [g6 10 (by decide) (by decide)]; exact b1, fun t q hq => by rw [g 72 t (by decide) (by decide), g 73 t (by decide) (by decide)]; exact b2 t q hq⟩, ⟨by rw [g6 6 (by decide) (by decide)]; exact c1, fun j q hq => by rw [g 68 j (by decide) (by decide), g 69 j (by decide) (by decide)]; exact c2 j q hq⟩, ⟨by rw [g6 14 (by decide) (by decide)]; exact a1, fun k N hN => by rw [g 76 k (by decide) (by decide)]; exact SUc_mono (a2 k N hN) Q⟩, ⟨by rw [g6 16 (by decide) (by decide)]; exact f1, fun k N hN => by rw [g 78 k (by decide) (by decide)]; exact SUc_mono (f2 k N hN) Q⟩⟩
  rw [e13]
  exact SKk_eq (fun i _ => ⟨e _ _ (Or.inr (Or.inr (Or.inr (Or.inl rfl)))) (by omega) (by omega) (by omega), e _ _ (Or.inr (Or.inr (Or.inr (Or.inr rfl)))) (by omega) (by omega) (by omega)⟩) (k1 (by rw [← e5]; exact q))
/-- where a sum begins that is written next -/
theorem SUc_next {r : Int32} (hp : PR x P) (hr : r = x.1 60 3) (Q : List (Int32 × Int32)) : SUc (P ++ (Q ++ [(0, 0)])) r Q := by
  refine ⟨P.length, by rw [hr]; exact hp.1, fun i q hq => ?_⟩
  rw [List.getElem?_append_right (by omega), Nat.add_sub_cancel_left]
  exact hq
theorem sPs_54 : sPs sN V K E (N ++ [(54, 0, 0)]) = sPs sN V K E N ++ [(0, 0)] := by
  rw [sPs_app]
  rfl
/-- a thread's sum: only the names known count -/
theorem sPs_E {E' : gV} (h : sEv false N) (he : ∀ t, kfi sN E.1 t = kfi sN E'.1 t) : sPs sN V K E N = sPs sN V K E' N := by
  induction N with
  | nil => rfl
  | cons v N ih =>
    have e : cPt sN V K E v = cPt sN V K E' v := by
      unfold cPt
      rw [he]
      have hv := h v List.mem_cons_self
      by_cases c : v.1 = 6 ∨ v.1 = 7
      · exfalso
        rcases hv with q | q | q | q | q | q
        · omega
        · omega
        · omega
        · omega
        · have := q.2; omega
        · exact absurd q.1 (by decide)
      · rw [if_neg c, if_neg c]
    show (v :: N).filterMap _ = (v :: N).filterMap _
    rw [List.filterMap_cons, List.filterMap_cons, e]
    have := ih (fun w hw => h w (List.mem_cons_of_mem _ hw))
    unfold sPs at this
    rw [this]
end KCO
