/-! the code of a text, as the row of its events says it: op, the statement's token, what is known there (and the next slot), local or step it goes to, name or whole, [ ] (or all), sums -/
abbrev gSt := Nat × Nat × (gK × Nat) × Option Nat × Option Nat × Bool × Option gU × Option gU × Option gU
/-- the sum under way, sums, place, whether it is a row, target (none: a let), the statement's token -/
abbrev gRg := gU × List gU × Nat × Bool × Option Nat × Nat
/-- names known; steps; steps of the open statements; the above; threads (first step, idle); claims -/
abbrev gCd := gV × List gSt × List Nat × gRg × List (Nat × Nat) × List (Nat × gU)
abbrev rg0 : gRg := ([], [], 0, false, none, 0)
abbrev st0 : gSt := (0, 0, ([], 0), none, none, false, none, none, none)
abbrev cd0 : gCd := (E0v, [], [], rg0, [], [])
def toL (sN : Nat → Nat → Bool) (ks : gK) : Option Nat → Option Nat
  | none => some ks.length
  | some t => kfi sN ks t
def opW (k : Int32) : Nat := if k = 36 then 5 else if k = 22 then 6 else if k = 38 then 7 else if k = 33 then 9 else if k = 25 then 10 else 8
def opX (k : Int32) : Nat := if k = 35 then 2 else if k = 10 then 3 else 4
def opP (k : Int32) : Nat := if k = 20 then 11 else if k = 31 then 12 else 19
def opS (k : Int32) : Nat := if k = 13 then 18 else 14
abbrev knw (E : gV) : gK × Nat := (E.1, E.2.2)
def cEm (c : gCd) (st : gSt) : gCd := (c.1, c.2.1 ++ [st], c.2.2.1, rg0, c.2.2.2.2)
def cPu (c : gCd) (st : gSt) : gCd := (c.1, c.2.1 ++ [st], c.2.1.length :: c.2.2.1, rg0, c.2.2.2.2)
def stS (st : gSt) (n : Nat) : gSt := (st.1, st.2.1, st.2.2.1, some n, st.2.2.2.2)
def cTo (S : List gSt) (j n : Nat) : List gSt := S.mapIdx (fun i st => if i = j then stS st n else st)
def gtS (S : List gSt) (j : Nat) : gSt := S[j]?.getD st0
def cSe (sN : Nat → Nat → Bool) (c : gCd) (tg : Option Nat) (tk : Nat) (N : gU) : gCd := match toL sN c.1.1 tg with
  | some p => cEm c (16, tk, knw c.1, some p, none, false, none, some N, none)
  | none => cEm c (1, tk, knw c.1, none, tg, false, none, some N, none)
def cAl (sN : Nat → Nat → Bool) (c : gCd) (tg : Option Nat) (tk i : Nat) : gCd := match kfi sN c.1.1 i with
  | some _ => cSe sN c tg tk [(3, i, 0)]
  | none => cEm c (0, tk, knw c.1, toL sN c.1.1 tg, some i, false, none, none, none)
def cXc (sN : Nat → Nat → Bool) (K : Nat → Int32) (c : gCd) (i : Nat) : gCd := if c.2.2.2.1.2.2.2.1 = true then cEm c (opX (K i), c.2.2.2.1.2.2.2.2.2, knw c.1, toL sN c.1.1 c.2.2.2.1.2.2.2.2.1, some c.2.2.2.1.2.2.1, true, some (c.2.2.2.1.2.1.getD 0 []), some (c.2.2.2.1.2.1.getD 1 []), if K i = 16 then some (c.2.2.2.1.2.1.getD 2 []) else none) else cEm c (opX (K i), c.2.2.2.1.2.2.2.2.2, knw c.1, toL sN c.1.1 c.2.2.2.1.2.2.2.2.1, some c.2.2.2.1.2.2.1, false, none, some (c.2.2.2.1.2.1.getD 0 []), if K i = 16 then some (c.2.2.2.1.2.1.getD 1 []) else none)
def cJu (c : gCd) (to : Option Nat) : gSt := (20, 0, knw c.1, to, none, false, none, none, none)
def cCl (c : gCd) (z : Nat) : gCd :=
  if z = 0 then (c.1, c.2.1 ++ [(21, 0, knw c.1, none, none, false, none, none, none)], c.2.2)
  else if z = 1 then (c.1, cTo (c.2.1 ++ [cJu c (some (c.2.2.1.headD 0))]) (c.2.2.1.headD 0) (c.2.1.length + 1), c.2.2.1.tail, c.2.2.2)
  else if z = 2 then (c.1, c.2.1 ++ [(6, (gtS c.2.1 (c.2.2.1.headD 0)).2.1, knw c.1, none, (gtS c.2.1 (c.2.2.1.headD 0)).2.2.2.2.1, false, none, none, none)], c.2.2.1.tail, c.2.2.2)
  else c
def cdV (sN : Nat → Nat → Bool) (K : Nat → Int32) (c : gCd) (v : Nat × Nat × Nat) : gCd :=
  if v.1 = 50 ∨ v.1 = 51 ∨ v.1 = 52 ∨ v.1 = 53 ∨ v.1 = 3 ∨ v.1 = 12 then (c.1, c.2.1, c.2.2.1, (c.2.2.2.1.1 ++ [v], c.2.2.2.1.2), c.2.2.2.2)
  else if v.1 = 6 ∨ v.1 = 7 then (if c.1.2.1 = [] then (c.1, c.2.1, c.2.2.1, (c.2.2.2.1.1 ++ [v], c.2.2.2.1.2), c.2.2.2.2) else (c.1, c.2.1, c.2.2.1, (c.2.2.2.1.1, c.2.2.2.1.2.1, v.2.1, decide (v.1 = 7), c.2.2.2.1.2.2.2.2), c.2.2.2.2))
  else if v.1 = 54 then (if c.1.2.1 = [] then (c.1, c.2.1, c.2.2.1, ([], c.2.2.2.1.2), c.2.2.2.2.1, c.2.2.2.2.2 ++ [(c.2.2.2.1.2.2.1, c.2.2.2.1.1)]) else (c.1, c.2.1, c.2.2.1, ([], c.2.2.2.1.2.1 ++ [c.2.2.2.1.1], c.2.2.2.1.2.2), c.2.2.2.2))
  else if v.1 = 20 then (exV c.1 v, c.2)
  else if v.1 = 21 then cCl (exV c.1 v, c.2) v.2.1
  else if v.1 = 22 then (exV c.1 v, c.2)
  else if v.1 = 23 then (c.1, c.2.1, c.2.2.1, (c.2.2.2.1.1, c.2.2.2.1.2.1, c.2.2.2.1.2.2.1, c.2.2.2.1.2.2.2.1, none, v.2.1 - 1), c.2.2.2.2)
  else if v.1 = 25 ∨ v.1 = 26 then (c.1, c.2.1, c.2.2.1, (c.2.2.2.1.1, c.2.2.2.1.2.1, c.2.2.2.1.2.2.1, c.2.2.2.1.2.2.2.1, some v.2.1, v.2.1), c.2.2.2.2)
  else if v.1 = 24 then cAl sN c c.2.2.2.1.2.2.2.2.1 c.2.2.2.1.2.2.2.2.2 v.2.1
  else if v.1 = 27 then cAl sN c (some v.2.1) v.2.1 v.2.2
  else if v.1 = 76 then cSe sN c c.2.2.2.1.2.2.2.2.1 c.2.2.2.1.2.2.2.2.2 (c.2.2.2.1.2.1.getD 0 [])
  else if v.1 = 75 then cEm c (0, c.2.2.2.1.2.2.2.2.2, knw c.1, toL sN c.1.1 c.2.2.2.1.2.2.2.2.1, some c.2.2.2.1.2.2.1, c.2.2.2.1.2.2.2.1, (if c.2.2.2.1.2.2.2.1 = true then some (c.2.2.2.1.2.1.getD 0 []) else none), none, none)
  else if v.1 = 74 then cXc sN K c v.2.1
  else if v.1 = 78 then cEm c (1, v.2.1, knw c.1, none, some c.2.2.2.1.2.2.1, true, some (c.2.2.2.1.2.1.getD 0 []), some (c.2.2.2.1.2.1.getD 1 []), none)
  else if v.1 = 60 ∨ v.1 = 61 then cPu c (17, v.2.1, knw c.1, none, none, false, none, some (c.2.2.2.1.2.1.getD 0 []), none)
  else if v.1 = 65 then cPu c (5, v.2.1, knw c.1, none, some v.2.2, false, none, none, none)
  else if v.1 = 62 then (c.1, cTo (c.2.1 ++ [cJu c none]) (c.2.2.1.headD 0) (c.2.1.length + 1), c.2.1.length :: c.2.2.1.tail, c.2.2.2)
  else if v.1 = 63 then (c.1, cTo c.2.1 (c.2.2.1.headD 0) c.2.1.length, c.2.2.1.tail, c.2.2.2)
  else if v.1 = 66 ∨ v.1 = 67 then cEm c (opW (K v.2.1), v.2.1, knw c.1, none, some v.2.2, decide (K v.2.1 = 40), none, none, none)
  else if v.1 = 68 then cEm c (opP (K v.2.1), v.2.1, knw c.1, none, none, false, none, none, none)
  else if v.1 = 69 then cEm c (opS (K v.2.1), v.2.1, knw c.1, none, none, false, none, some (c.2.2.2.1.2.1.getD 0 []), none)
  else if v.1 = 70 then cEm c (13, v.2.1, knw c.1, none, some v.2.2, false, none, some (c.2.2.2.1.2.1.getD 0 []), none)
  else if v.1 = 34 then (E0v, c.2.1, c.2.2.1, rg0, c.2.2.2.2.1 ++ [(c.2.1.length, v.2.2)], c.2.2.2.2.2)
  else if v.1 = 35 ∨ v.1 = 36 then (c.1, c.2.1, c.2.2.1, (c.2.2.2.1.1, c.2.2.2.1.2.1, v.1, c.2.2.2.1.2.2.2), c.2.2.2.2)
  else c
def cds (sN : Nat → Nat → Bool) (K : Nat → Int32) (L : gU) (c : gCd) : gCd := L.foldl (cdV sN K) c
/-- events of a sum (in a claim: o) -/
def sEv (o : Bool) (N : gU) : Prop := ∀ v ∈ N, v.1 = 50 ∨ v.1 = 51 ∨ v.1 = 52 ∨ v.1 = 53 ∨ (o = false ∧ v.1 = 3) ∨ (o = true ∧ (v.1 = 6 ∨ v.1 = 7 ∨ v.1 = 12))
section COD
variable {sN : Nat → Nat → Bool} {K : Nat → Int32} {c : gCd} {L M N : gU} {v : Nat × Nat × Nat} {i j n : Nat} {E : gV} {S : List gSt} {k : List Nat} {r : gRg} {w : List (Nat × Nat) × List (Nat × gU)} {cu : gU} {su : List gU} {pl tk : Nat} {ro o : Bool} {tg : Option Nat}
theorem cds_app : cds sN K (L ++ M) c = cds sN K M (cds sN K L c) := List.foldl_append
theorem cds_nil : cds sN K [] c = c := rfl
theorem cds_one : cds sN K [v] c = cdV sN K c v := rfl
theorem cds_cons : cds sN K (v :: L) c = cds sN K L (cdV sN K c v) := rfl
theorem sEv_nil : sEv o [] := fun _ h => by cases h
theorem sEv_app (h : sEv o N) (g : sEv o M) : sEv o (N ++ M) := fun v hv => (List.mem_append.mp hv).elim (h v) (g v)
theorem sEv_one (h : v.1 = 50 ∨ v.1 = 51 ∨ v.1 = 52 ∨ v.1 = 53 ∨ (o = false ∧ v.1 = 3) ∨ (o = true ∧ (v.1 = 6 ∨ v.1 = 7 ∨ v.1 = 12))) : sEv o [v] := fun w hw => by
  rw [List.mem_singleton.mp hw]; exact h
/-- a sum's events -/
theorem cds_sum : ∀ {N : gU} {cu : gU}, sEv o N → (o = true → E.2.1 = []) → cds sN K N (E, S, k, (cu, r.2), w) = (E, S, k, (cu ++ N, r.2), w) := by
  intro N
  induction N with
  | nil => intro cu _ _; rw [List.append_nil]; rfl
  | cons v N ih =>
    intro cu h g
    have e : cdV sN K (E, S, k, (cu, r.2), w) v = (E, S, k, (cu ++ [v], r.2), w) := by
      rcases h v List.mem_cons_self with q | q | q | q | q | q
      · unfold cdV; rw [if_pos (Or.inl q)]
      · unfold cdV; rw [if_pos (Or.inr (Or.inl q))]
      · unfold cdV; rw [if_pos (Or.inr (Or.inr (Or.inl q)))]
      · unfold cdV; rw [if_pos (Or.inr (Or.inr (Or.inr (Or.inl q))))]
      · unfold cdV; rw [if_pos (Or.inr (Or.inr (Or.inr (Or.inr (Or.inl q.2)))))]
      · obtain ⟨a, q | q | q⟩ := q
        · unfold cdV; rw [if_neg (by omega), if_pos (Or.inl q), if_pos (g a)]
        · unfold cdV; rw [if_neg (by omega), if_pos (Or.inr q), if_pos (g a)]
        · unfold cdV; rw [if_pos (Or.inr (Or.inr (Or.inr (Or.inr (Or.inr q)))))]
    rw [cds_cons, e, ih (fun u hu => h u (List.mem_cons_of_mem _ hu)) g, List.append_assoc]
    rfl
/-- a whole sum in a thread -/
theorem cds_x (h : sEv false N) (hE : ¬ E.2.1 = []) : cds sN K (N ++ [(54, 0, 0)]) (E, S, k, ([], su, pl, ro, tg, tk), w) = (E, S, k, ([], su ++ [N], pl, ro, tg, tk), w) := by
  rw [cds_app, cds_sum (r := ([], su, pl, ro, tg, tk)) h (fun q => absurd q (by decide)), cds_one]
  show cdV sN K (E, S, k, ([] ++ N, su, pl, ro, tg, tk), w) (54, 0, 0) = _
  rw [List.nil_append]
  unfold cdV
  rw [if_neg (by decide), if_neg (by decide), if_pos rfl, if_neg hE]
theorem cd_6 (hE : ¬ E.2.1 = []) : cdV sN K (E, S, k, (cu, su, pl, ro, tg, tk), w) (6, i, j) = (E, S, k, (cu, su, i, false, tg, tk), w) := by
  unfold cdV
  rw [if_neg (show ¬ (6 = 50 ∨ 6 = 51 ∨ 6 = 52 ∨ 6 = 53 ∨ 6 = 3 ∨ 6 = 12) by decide), if_pos (Or.inl rfl), if_neg hE]
  rfl
theorem cd_7 (hE : ¬ E.2.1 = []) : cdV sN K (E, S, k, (cu, su, pl, ro, tg, tk), w) (7, i, j) = (E, S, k, (cu, su, i, true, tg, tk), w) := by
  unfold cdV
  rw [if_neg (show ¬ (7 = 50 ∨ 7 = 51 ∨ 7 = 52 ∨ 7 = 53 ∨ 7 = 3 ∨ 7 = 12) by decide), if_pos (Or.inr rfl), if_neg hE]
  rfl
theorem cd_20 : cdV sN K (E, S, k, r, w) (20, i, j) = (exV E (20, i, j), S, k, r, w) := rfl
theorem cd_21 : cdV sN K (E, S, k, r, w) (21, i, j) = cCl (exV E (21, i, j), S, k, r, w) i := rfl
theorem cd_22 : cdV sN K (E, S, k, r, w) (22, i, j) = (exV E (22, i, j), S, k, r, w) := rfl
theorem cd_23 : cdV sN K (E, S, k, (cu, su, pl, ro, tg, tk), w) (23, i, j) = (E, S, k, (cu, su, pl, ro, none, i - 1), w) := rfl
theorem cd_25 : cdV sN K (E, S, k, (cu, su, pl, ro, tg, tk), w) (25, i, j) = (E, S, k, (cu, su, pl, ro, some i, i), w) := rfl
theorem cd_26 : cdV sN K (E, S, k, (cu, su, pl, ro, tg, tk), w) (26, i, j) = (E, S, k, (cu, su, pl, ro, some i, i), w) := rfl
theorem cd_24 : cdV sN K (E, S, k, (cu, su, pl, ro, tg, tk), w) (24, i, j) = cAl sN (E, S, k, (cu, su, pl, ro, tg, tk), w) tg tk i := rfl
theorem cd_27 : cdV sN K c (27, i, j) = cAl sN c (some i) i j := rfl
theorem cd_76 : cdV sN K (E, S, k, (cu, su, pl, ro, tg, tk), w) (76, i, j) = cSe sN (E, S, k, (cu, su, pl, ro, tg, tk), w) tg tk (su.getD 0 []) := rfl
theorem cd_75 : cdV sN K (E, S, k, (cu, su, pl, ro, tg, tk), w) (75, i, j) = (E, S ++ [(0, tk, knw E, toL sN E.1 tg, some pl, ro, (if ro = true then some (su.getD 0 []) else none), none, none)], k, rg0, w) := rfl
theorem cd_74 : cdV sN K c (74, i, j) = cXc sN K c i := rfl
theorem cd_78 : cdV sN K (E, S, k, (cu, su, pl, ro, tg, tk), w) (78, i, j) = (E, S ++ [(1, i, knw E, none, some pl, true, some (su.getD 0 []), some (su.getD 1 []), none)], k, rg0, w) := rfl
theorem cd_60 : cdV sN K (E, S, k, (cu, su, pl, ro, tg, tk), w) (60, i, j) = (E, S ++ [(17, i, knw E, none, none, false, none, some (su.getD 0 []), none)], S.length :: k, rg0, w) := rfl
theorem cd_61 : cdV sN K (E, S, k, (cu, su, pl, ro, tg, tk), w) (61, i, j) = (E, S ++ [(17, i, knw E, none, none, false, none, some (su.getD 0 []), none)], S.length :: k, rg0, w) := rfl
theorem cd_65 : cdV sN K (E, S, k, r, w) (65, i, j) = (E, S ++ [(5, i, knw E, none, some j, false, none, none, none)], S.length :: k, rg0, w) := rfl
theorem cd_62 : cdV sN K (E, S, k, r, w) (62, i, j) = (E, cTo (S ++ [(20, 0, knw E, none, none, false, none, none, none)]) (k.headD 0) (S.length + 1), S.length :: k.tail, r, w) := rfl
theorem cd_63 : cdV sN K (E, S, k, r, w) (63, i, j) = (E, cTo S (k.headD 0) S.length, k.tail, r, w) := rfl
theorem cd_66 : cdV sN K (E, S, k, r, w) (66, i, j) = (E, S ++ [(opW (K i), i, knw E, none, some j, decide (K i = 40), none, none, none)], k, rg0, w) := rfl
theorem cd_67 : cdV sN K (E, S, k, r, w) (67, i, j) = (E, S ++ [(opW (K i), i, knw E, none, some j, decide (K i = 40), none, none, none)], k, rg0, w) := rfl
theorem cd_68 : cdV sN K (E, S, k, r, w) (68, i, j) = (E, S ++ [(opP (K i), i, knw E, none, none, false, none, none, none)], k, rg0, w) := rfl
theorem cd_69 : cdV sN K (E, S, k, (cu, su, pl, ro, tg, tk), w) (69, i, j) = (E, S ++ [(opS (K i), i, knw E, none, none, false, none, some (su.getD 0 []), none)], k, rg0, w) := rfl
theorem cd_70 : cdV sN K (E, S, k, (cu, su, pl, ro, tg, tk), w) (70, i, j) = (E, S ++ [(13, i, knw E, none, some j, false, none, some (su.getD 0 []), none)], k, rg0, w) := rfl
theorem cd_77 : cdV sN K c (77, i, j) = c := rfl
/-- a place: its name, its index -/
def pPl (tp : Nat) (N0 : gU) (ro : Bool) (ix : Option gU) (N1 : gU) : Prop := (ro = false ∧ ix = none ∧ N1 = [(6, tp, 0)]) ∨ (ro = true ∧ ix = some N0 ∧ sEv false N0 ∧ N1 = [(7, tp, 0)] ++ (N0 ++ [(54, 0, 0)]))
theorem cds_pl {tp : Nat} {N0 N1 : gU} {ix : Option gU} (h : pPl tp N0 ro ix N1) (hE : ¬ E.2.1 = []) : cds sN K N1 (E, S, k, ([], [], 0, false, tg, tk), w) = (E, S, k, ([], ix.toList, tp, ro, tg, tk), w) := by
  rcases h with ⟨rfl, rfl, rfl⟩ | ⟨rfl, rfl, h, rfl⟩
  · rw [cds_one, cd_6 hE]; rfl
  · rw [cds_app, cds_one, cd_7 hE, cds_x h hE]; rfl
theorem cds_r75 {tp t : Nat} {N0 N1 : gU} {ix : Option gU} (h : pPl tp N0 ro ix N1) (hE : ¬ E.2.1 = []) : cds sN K (N1 ++ [(75, t, 0)]) (E, S, k, ([], [], 0, false, tg, tk), w) = (E, S ++ [(0, tk, knw E, toL sN E.1 tg, some tp, ro, ix, none, none)], k, rg0, w) := by
  rw [cds_app, cds_pl h hE, cds_one, cd_75]
  rcases h with ⟨rfl, rfl, -⟩ | ⟨rfl, rfl, -⟩ <;> rfl
theorem cds_r74 {tp t : Nat} {N0 N1 N2 : gU} {ix : Option gU} (h : pPl tp N0 ro ix N1) (h2 : sEv false N2) (hE : ¬ E.2.1 = []) (hK : ¬ K t = 16) : cds sN K (N1 ++ ((N2 ++ [(54, 0, 0)]) ++ [(74, t, 0)])) (E, S, k, ([], [], 0, false, tg, tk), w) = (E, S ++ [(opX (K t), tk, knw E, toL sN E.1 tg, some tp, ro, ix, some N2, none)], k, rg0, w) := by
  rw [cds_app, cds_pl h hE, cds_app, cds_x h2 hE, cds_one, cd_74]
  unfold cXc
  rcases h with ⟨rfl, rfl, -⟩ | ⟨rfl, rfl, -⟩
  · rw [if_neg (show ¬ false = true by decide), if_neg hK]; rfl
  · rw [if_pos rfl, if_neg hK]; rfl
theorem cds_r74c {tp t : Nat} {N0 N1 N2 N3 : gU} {ix : Option gU} (h : pPl tp N0 ro ix N1) (h2 : sEv false N2) (h3 : sEv false N3) (hE : ¬ E.2.1 = []) (hK : K t = 16) : cds sN K (N1 ++ ((N2 ++ [(54, 0, 0)]) ++ ((N3 ++ [(54, 0, 0)]) ++ [(74, t, 0)]))) (E, S, k, ([], [], 0, false, tg, tk), w) = (E, S ++ [(4, tk, knw E, toL sN E.1 tg, some tp, ro, ix, some N2, some N3)], k, rg0, w) := by
  rw [cds_app, cds_pl h hE, cds_app, cds_x h2 hE, cds_app, cds_x h3 hE, cds_one, cd_74]
  unfold cXc
  rcases h with ⟨rfl, rfl, -⟩ | ⟨rfl, rfl, -⟩
  · rw [if_neg (show ¬ false = true by decide), if_pos hK, hK]; rfl
  · rw [if_pos rfl, if_pos hK, hK]; rfl
theorem cTo_len : (cTo S i n).length = S.length := by
  unfold cTo
  rw [List.length_mapIdx]
theorem cTo_at : (cTo S i n)[j]? = S[j]?.map (fun st => if j = i then stS st n else st) := by
  unfold cTo
  rw [List.getElem?_mapIdx]
end COD
