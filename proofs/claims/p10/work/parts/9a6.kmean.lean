/-! the class: what is linked, in numbers -/
def cQ (q : gQ) : Int32 × Int32 := if q.1 = 1 then (1, q.2.2) else if q.1 = 2 then (2, Int32.ofNat q.2.1) else if q.1 = 3 then (3, 0) else if q.1 = 4 then (2, q.2.2) else if q.1 = 5 then (if q.2.2 = 29 then 5 else 4, 0) else (kcv q.2.2, 0)
def SUk (x : gd) (r : Int32) (P : List (Int32 × Int32)) : Prop := 0 ≤ r.toInt ∧ r.toInt + P.length < (x.1 60 3).toInt ∧ (∀ i q, P[i]? = some q → x.1 62 (r.toNatClampNeg + i) = q.1 ∧ x.1 63 (r.toNatClampNeg + i) = q.2) ∧ x.1 62 (r.toNatClampNeg + P.length) = 0
def kNs (x : gd) (v : Int32) : Option (List gQ) → Prop
  | none => v = -1
  | some Q => SUk x v (Q.map cQ)
def kN (x : gd) (j : Nat) (st : gNs) : Prop := x.1 81 j = Int32.ofNat st.1 ∧ (x.1 83 j).toInt = st.2.1.length ∧ ((st.1 = 0 ∨ (2 ≤ st.1 ∧ st.1 ≤ 4) ∨ st.1 = 16 ∨ st.1 = 17 ∨ st.1 = 20) → tgI (x.1 84 j) st.2.2.2.1) ∧ (st.1 = 8 → (x.1 84 j = 1 ↔ st.2.2.2.2.2.2.1 = true)) ∧ (¬ st.1 = 16 → x.1 85 j = st.2.2.2.2.1) ∧ (st.1 ≤ 4 → ¬ st.2.2.2.2.2.2.2.1 = none → x.1 86 j = st.2.2.2.2.2.1) ∧ kNs x (x.1 87 j) st.2.2.2.2.2.2.2.1 ∧ kNs x (x.1 88 j) st.2.2.2.2.2.2.2.2.1 ∧ kNs x (x.1 89 j) st.2.2.2.2.2.2.2.2.2
def CK (x : gd) (C : gCo) : Prop := ((x.1 80 9).toInt = C.1.length ∧ ∀ j st, C.1[j]? = some st → kN x j st) ∧ ((x.1 60 10).toInt = C.2.1.length ∧ ∀ (t : Nat) (q : Nat × Nat), C.2.1[t]? = some q → (x.1 72 t).toInt = q.1 ∧ x.1 73 t = Int32.ofNat q.2) ∧ ((x.1 60 6).toInt = C.2.2.1.length ∧ ∀ j q, C.2.2.1[j]? = some q → x.1 68 j = q.1 ∧ x.1 69 j = if q.2 = true then 1 else 0) ∧ ((x.1 60 14).toInt = C.2.2.2.1.length ∧ ∀ k Q, C.2.2.2.1[k]? = some Q → SUk x (x.1 76 k) (Q.map cQ)) ∧ ((x.1 60 16).toInt = C.2.2.2.2.length ∧ ∀ k Q, C.2.2.2.2[k]? = some Q → SUk x (x.1 78 k) (Q.map cQ))
/-- what a part becomes -/
def lkF (x : gd) (q : Int32 × Int32) : Int32 × Int32 := if q.1 = 6 then (2, x.1 45 (x.1 43 q.2.toNatClampNeg).toNatClampNeg + (if x.1 42 q.2.toNatClampNeg = 7 then x.1 27 (q.2.toNatClampNeg + 2) else 0)) else q
/-- before it is linked -/
def LPk (sN : Nat → Nat → Bool) (V K : Nat → Int32) (L : gU) (z : gd) : Prop := CCp sN V K z (cds sN K L cd0) (ces K V L (0, 0, [])) (tPs sN V K L E0v) ∧ TBk z (L.filterMap (te1 K V)) ∧ (∀ j : Nat, (j : Int) < mt z → MNg (fun a b => sN a b = true) (L.filterMap (te1 K V)) (z.1 42) (z.1 43) j ∧ ¬ z.1 42 j = 9) ∧ (∀ j, K j = 2 → z.1 27 j = V j) ∧ (∃ n, HAs sN (z.1 42) n L E0v ∧ (n : Int) ≤ mt z) ∧ (tPs sN V K L E0v).length ≤ 700 ∧ mt z ≤ 701
section KMN
variable {sN : Nat → Nat → Bool} {T : gTd} {V K : Nat → Int32} {x y : gd} {L N : gU} {ks : gK} {v : Nat × Nat × Nat} {P Q : List (Int32 × Int32)} {E : gV} {w t : Nat}
theorem nm_at : ∀ {T : gTd} {k : Nat} {q : Nat × Nat × Nat × Nat}, (tdS T w)[k]? = some q → sN q.1 t = true → (∀ (k' : Nat) (q' : Nat × Nat × Nat × Nat), k' < k → (tdS T w)[k']? = some q' → ¬ sN q'.1 t = true) → nmT sN w t T = nbT w ((tdS T w).take k) ∧ mtP sN T w t = some q := by
  intro T
  induction T with
  | nil => intro k q h; cases h
  | cons p T ih =>
    intro k q hq hs hf
    have em : mtP sN (p :: T) w t = if (decide (p.2.1 = w) && sN p.1 t) = true then some p else mtP sN T w t := by
      unfold mtP
      rw [List.find?_cons]
      cases (decide (p.2.1 = w) && sN p.1 t) <;> rfl
    by_cases c : p.2.1 = w
    · have e : tdS (p :: T) w = p :: tdS T w := by
        unfold tdS
        rw [List.filter_cons, if_pos (by simp [c])]
      rw [e] at hq hf ⊢
      cases k with
      | zero =>
        cases Option.some.inj hq
        have b : (decide (p.2.1 = w) && sN p.1 t) = true := by rw [hs]; simp [c]
        rw [em, nmT, if_pos b, if_pos b]
        exact ⟨rfl, rfl⟩
      | succ k =>
        have hq : (tdS T w)[k]? = some q := hq
        have n0 := hf 0 p (Nat.zero_lt_succ _) rfl
        have b : ¬ (decide (p.2.1 = w) && sN p.1 t) = true := by
          intro z
          exact n0 (by simp at z; exact z.2)
        obtain ⟨r1, r2⟩ := ih hq hs (fun k' q' hk' hq' => hf (k' + 1) q' (Nat.succ_lt_succ hk') hq')
        rw [em, nmT, if_neg b, if_neg b, if_pos c, r1, List.take_succ_cons, nbT, if_pos c]
        exact ⟨rfl, r2⟩
    · have e : tdS (p :: T) w = tdS T w := by
        unfold tdS
        rw [List.filter_cons, if_neg (by simp [c])]
      rw [e] at hq hf ⊢
      have b : ¬ (decide (p.2.1 = w) && sN p.1 t) = true := by simp [c]
      obtain ⟨r1, r2⟩ := ih hq hs hf
      rw [em, nmT, if_neg b, if_neg b, if_neg c, Nat.zero_add]
      exact ⟨r1, r2⟩
/-- no name is told twice: the first is the only one -/
theorem nm_is (hS : ∀ a b, sN a b = true → sN b a = true) (hTr : ∀ a b c, sN a b = true → sN b c = true → sN a c = true) (nt : nTw sN T) (srt : T.Pairwise (fun a b => a.1 < b.1)) {k : Nat} {q : Nat × Nat × Nat × Nat} (hq : (tdS T w)[k]? = some q) (hs : sN q.1 t = true) : nmT sN w t T = nbT w ((tdS T w).take k) ∧ mtP sN T w t = some q := by
  refine nm_at hq hs (fun k' q' hk' hq' hs' => ?_)
  have m := (tdS_mem.mp (List.mem_of_getElem? hq)).1
  have m' := (tdS_mem.mp (List.mem_of_getElem? hq')).1
  have e := nTw_one hS hTr nt m' m hs' hs
  have pw : (tdS T w).Pairwise (fun a b => a.1 < b.1) := srt.filter _
  have l := gt_lt hq
  have l' := gt_lt hq'
  have lt := List.pairwise_iff_getElem.mp pw k' k l' l hk'
  rw [List.getElem?_eq_getElem l] at hq
  rw [List.getElem?_eq_getElem l'] at hq'
  rw [Option.some.inj hq, Option.some.inj hq', e] at lt
  exact Nat.lt_irrefl _ lt
theorem nbT_len : ∀ {l : gTd}, (∀ q ∈ l, q.2.1 = w ∧ q.2.2.1 = 0) → nbT w l = l.length := by
  intro l
  induction l with
  | nil => intro _; rfl
  | cons q l ih =>
    intro h
    obtain ⟨a, b⟩ := h q List.mem_cons_self
    rw [nbT, if_pos a, b, ih (fun p hp => h p (List.mem_cons_of_mem _ hp)), List.length_cons]
    show 1 + l.length = l.length + 1
    omega
theorem te_sz {q : Nat × Nat × Nat × Nat} (h : q ∈ L.filterMap (te1 K V)) (h0 : ¬ q.2.1 = 0) : q.2.2.1 = 0 := by
  obtain ⟨v, -, e⟩ := List.mem_filterMap.mp h
  unfold te1 at e
  split at e
  · cases Option.some.inj e; rfl
  · split at e
    · cases Option.some.inj e; exact absurd rfl h0
    · split at e
      · cases Option.some.inj e; rfl
      · split at e
        · cases Option.some.inj e; rfl
        · exact absurd e (by simp)
theorem kcv_6 {k : Int32} (h : ¬ pst k = 0) : ¬ kcv k = 6 := by
  have key : ∀ w ∈ [(30 : Int32), 12, 51, 52, 53, 54, 55, 56, 57, 58, 59, 60, 28], ¬ kcv w = 6 := by decide
  refine key k ?_
  apply Classical.byContradiction
  intro c
  exact h (pst_c (fun w hw e => c (by rw [e]; exact hw)))
theorem fm_cg {α β : Type} {f g : α → Option β} : ∀ {l : List α}, (∀ a ∈ l, f a = g a) → l.filterMap f = l.filterMap g := by
  intro l
  induction l with
  | nil => intro _; rfl
  | cons a l ih =>
    intro h
    rw [List.filterMap_cons, List.filterMap_cons, h a List.mem_cons_self, ih (fun b hb => h b (List.mem_cons_of_mem _ hb))]
/-- a thread's sum -/
theorem sPs_t (hs : sEv false N) (hk : ∀ v ∈ N, v.1 = 3 → ∃ p, kfi sN ks v.2.1 = some p) : sPs sN V K (ks, [0], 0) N = (nQs sN T V K ks N).map cQ := by
  unfold sPs nQs
  rw [List.map_filterMap]
  refine fm_cg (fun v hv => ?_)
  have h3 := hk v hv
  obtain ⟨a, b, c⟩ := v
  rcases hs _ hv with e | e | e | e | ⟨-, e⟩ | ⟨e, -⟩
  · have e : a = 50 := e
    subst e; rfl
  · have e : a = 51 := e
    subst e; rfl
  · have e : a = 52 := e
    subst e; rfl
  · have e : a = 53 := e
    subst e; rfl
  · have e : a = 3 := e
    subst e
    obtain ⟨p, hp⟩ := h3 rfl
    have hp : kfi sN ks b = some p := hp
    show some ((2 : Int32), (match kfi sN ks b with | some p => Int32.ofNat p | none => -1)) = some (2, Int32.ofNat ((kfi sN ks b).getD 0))
    rw [hp]
    rfl
  · cases e
theorem lkF_no {q : Int32 × Int32} (h : ¬ q.1 = 6) : lkF x q = q := if_neg h
theorem sPs_n6 (hs : sEv false N) (hv : ∀ v ∈ N, sVv K v) : ∀ q ∈ sPs sN V K (ks, [0], 0) N, ¬ q.1 = 6 := by
  intro q hq
  obtain ⟨v, hm, e⟩ := List.mem_filterMap.mp hq
  have h51 := (hv v hm).2.1
  obtain ⟨a, b, c⟩ := v
  rcases hs _ hm with e9 | e9 | e9 | e9 | ⟨-, e9⟩ | ⟨e9, -⟩
  · have e9 : a = 50 := e9
    subst e9
    cases Option.some.inj e
    show ¬ (if K b = 29 then (5 : Int32) else 4) = 6
    split <;> decide
  · have e9 : a = 51 := e9
    subst e9
    cases Option.some.inj e
    exact kcv_6 (h51 rfl)
  · have e9 : a = 52 := e9
    subst e9
    cases Option.some.inj e
    show ¬ (1 : Int32) = 6
    decide
  · have e9 : a = 53 := e9
    subst e9
    cases Option.some.inj e
    show ¬ (3 : Int32) = 6
    decide
  · have e9 : a = 3 := e9
    subst e9
    cases Option.some.inj e
    show ¬ (2 : Int32) = 6
    decide
  · cases e9
/-- a sum as it stands when it is linked -/
theorem SUk_lk {r : Int32} (hP : PR x P) (hl : P.length ≤ 700) (l2 : ∀ i : Nat, (i : Int) < (x.1 60 3).toInt → LK2 x y i) (e3 : y.1 60 3 = x.1 60 3) (h : SUc P r Q) : SUk y r (Q.map (lkF x)) := by
  obtain ⟨n, h1, h2⟩ := h
  obtain ⟨p1, p2⟩ := hP
  have hend : P[n + Q.length]? = some (0, 0) := h2 Q.length (0, 0) (by rw [List.getElem?_append_right (Nat.le_refl _), Nat.sub_self]; rfl)
  have le := gt_lt hend
  have er : r.toNatClampNeg = n := by
    rw [t_cl, h1]; omega
  have p3 : (x.1 60 3).toInt = P.length := by rw [p1]; omega
  have one : ∀ i q, P[n + i]? = some q → y.1 62 (n + i) = (lkF x q).1 ∧ y.1 63 (n + i) = (lkF x q).2 := fun i q hq => by
    have lt := gt_lt hq
    obtain ⟨a1, a2⟩ := p2 (n + i) q (by omega) hq
    obtain ⟨k1, k2⟩ := l2 (n + i) (by omega)
    rw [a1, a2] at k1 k2
    unfold lkF
    by_cases c : q.1 = 6
    · obtain ⟨t, t1, -, -, -, t3, t4⟩ := k1 c
      have et : q.2.toNatClampNeg = t := by rw [t_cl, t1]; rfl
      rw [if_pos c, et]
      exact ⟨t3, t4⟩
    · rw [if_neg c]
      exact k2 c
  refine ⟨by omega, ?_, fun i q hq => ?_, ?_⟩
  · rw [e3, List.length_map]; omega
  · rw [List.getElem?_map] at hq
    obtain ⟨q0, g0, e⟩ := Option.map_eq_some_iff.mp hq
    subst e
    rw [er]
    refine one i q0 (h2 i q0 ?_)
    rw [List.getElem?_append_left (gt_lt g0)]
    exact g0
  · rw [er, List.length_map]
    have := (one Q.length (0, 0) hend).1
    rw [lkF_no (by decide)] at this
    exact this
end KMN
