/-! the same of the whole row of uses -/
def cdl : List Nat := [3, 6, 7, 12, 20, 21, 22, 23, 24, 25, 26, 27, 50, 51, 52, 53, 54, 60, 61, 62, 63, 65, 66, 67, 68, 69, 70, 74, 75, 76, 77, 78]
def cd (L : gU) : Prop := ∀ v ∈ L, cdl.elem v.1 = true
theorem cd_k {k a b : Nat} (h : cdl.elem k = true) : cd [(k, a, b)] := fun v hv => by rw [List.mem_singleton.mp hv]; exact h
theorem cd_app {L M : gU} (h : cd L) (g : cd M) : cd (L ++ M) := fun v hv => (List.mem_append.mp hv).elim (h v) (g v)
theorem cd_nil : cd [] := fun _ h => by cases h
theorem cd_54 {M : gU} (h : cd M) : cd (M ++ [(54, 0, 0)]) := cd_app h (cd_k rfl)
theorem vV_cd {x : gd} {o : Bool} : ∀ {n : Nat} {e : Int32} {M : gU}, vV x o n e M → cd M := by
  intro n
  induction n with
  | zero => intro e M h; exact h.elim
  | succ n ih =>
    intro e M h
    obtain ⟨-, h⟩ := h
    rcases h with ⟨q, r, _⟩ | ⟨q, r⟩ | ⟨q, r⟩ | ⟨q, r, _⟩ | ⟨q, M1, g, r⟩ | ⟨q, M1, M2, g1, g2, _, r⟩
    · rw [r]; exact cd_k rfl
    · rw [r]; exact cd_k rfl
    · rw [r]; cases o <;> exact cd_k rfl
    · rw [r]; exact cd_app (L := [_]) (M := [_]) (cd_k rfl) (cd_k rfl)
    · rcases r with ⟨_, r2⟩ | ⟨_, _, r3⟩
      · rw [r2]; exact ih g
      · rw [r3]; exact cd_app (ih g) (cd_k rfl)
    · rw [r]; exact cd_app (ih g1) (cd_app (ih g2) (cd_k rfl))
theorem vQ_cd {x : gd} {p : Int32} {M : gU} (h : vQ x p M) : cd M := by
  obtain ⟨-, ⟨_, h⟩ | ⟨_, n, M1, h1, h⟩⟩ := h
  · rw [h]; exact cd_k rfl
  · rw [h]; exact cd_app (cd_k rfl) (cd_54 (vV_cd h1))
theorem vRr_cd {x : gd} {r : Int32} {tg : Option Nat} {M : gU} (h : vRr x r tg M) : cd M := by
  have sa : cd (pma tg) := by cases tg with | none => exact cd_nil | some t => exact cd_k rfl
  have se : cd (pme tg) := by cases tg with | none => exact cd_nil | some t => exact cd_k rfl
  obtain ⟨b, t, et, h⟩ := h
  rcases h with ⟨q1, q2, q3, q4, q5, q6⟩ | ⟨q1, q2, n, M1, q3, q4⟩ | ⟨q1, M1, q2, q3⟩ | ⟨q1, n, M1, M2, q2, q3, q4⟩ | ⟨q1, q2, n, m, M1, M2, M3, q3, q4, q5, q6⟩
  · rw [q3]; cases tg with | none => exact cd_k rfl | some t => exact cd_k rfl
  · rw [q4]; exact cd_app sa (cd_app (cd_54 (vV_cd q3)) (cd_k rfl))
  · rw [q3]; exact cd_app se (cd_app (vQ_cd q2) (cd_k rfl))
  · rw [q4]; exact cd_app se (cd_app (vQ_cd q2) (cd_app (cd_54 (vV_cd q3)) (cd_k rfl)))
  · rw [q6]; exact cd_app se (cd_app (vQ_cd q3) (cd_app (cd_54 (vV_cd q4)) (cd_app (cd_54 (vV_cd q5)) (cd_k rfl))))
theorem wB_cd {x : gd} {m : Int} {V : Int32 → gU → Prop} {z : Nat} {e : Int32} {M : gU} (hV : ∀ e M, V e M → cd M) (h : wB x m V z e M) : cd M := by
  obtain ⟨-, -, R, -, h5, rfl⟩ := h
  refine cd_app (cd_k rfl) (cd_app (fun v hv => ?_) (cd_k rfl))
  obtain ⟨q, hq, hv⟩ := List.mem_flatMap.mp hv
  exact hV _ _ (h5 q hq).1 v hv
theorem wS_cd {x : gd} {m : Int} : ∀ (k : Nat) (e : Int32) (M : gU), wSt x m k e M → cd M := by
  intro k
  induction k with
  | zero => intro e M h; exact h.elim
  | succ k ih =>
    intro e M h
    obtain ⟨-, -, h⟩ := h
    unfold wD at h
    rcases h with ⟨g, N1, q1, q⟩ | ⟨g, _, N1, q1, q⟩ | ⟨g, _, _, _, N1, N2, q1, q2, q⟩ | ⟨g, n1, N1, N2, N3, q1, q2, _, q3, q⟩ | ⟨g, _, N1, N2, q1, q2, _, q⟩ | ⟨g, N2, q1, _, q⟩ | ⟨g, _, ⟨_, q⟩ | ⟨_, q⟩⟩ | ⟨g, _, q⟩ | ⟨g, _, _, N1, q1, q⟩ | ⟨g, _, N1, q1, q⟩ | ⟨g, _, q⟩
    · rw [q]; exact cd_app (cd_k rfl) (cd_app (vRr_cd q1.1) (cd_k rfl))
    · rw [q]; exact cd_app (vRr_cd q1.1) (cd_k rfl)
    · rw [q]; exact cd_app (cd_k rfl) (cd_app (cd_54 (vV_cd q1)) (cd_app (cd_54 (vV_cd q2)) (cd_k rfl)))
    · rw [q]
      have n3 : cd N3 := by
        rcases q3 with ⟨_, q3⟩ | ⟨_, _, j, N4, q4, q5 | ⟨_, q5, N5, q6⟩⟩
        · rw [q3]; exact cd_nil
        · rw [q4]; exact cd_app (cd_k rfl) (wB_cd ih q5)
        · rw [q4]; exact cd_app (cd_k rfl) (ih _ _ q5)
      exact cd_app (cd_54 (vV_cd q1)) (cd_app (cd_k rfl) (cd_app (wB_cd ih q2) (cd_app n3 (cd_k rfl))))
    · rw [q]; exact cd_app (cd_54 (vV_cd q1)) (cd_app (cd_k rfl) (wB_cd ih q2))
    · rw [q]; exact cd_app (cd_k rfl) (wB_cd ih q1)
    · rw [q]; exact cd_k rfl
    · rw [q]; exact cd_k rfl
    · rw [q]; exact cd_k rfl
    · rw [q]; exact cd_app (cd_54 (vV_cd q1)) (cd_k rfl)
    · rw [q]; exact cd_app (cd_54 (vV_cd q1)) (cd_k rfl)
    · rw [q]; exact cd_k rfl
/-- lets so far say nothing of faults -/
theorem fv_e {sN : Nat → Nat → Bool} {T : gTd} {V : Nat → Int32} {E E' : gV} {v : Nat × Nat × Nat} (h1 : E.1 = E'.1) (h2 : E.2.1 = E'.2.1) : fv sN T V E v ↔ fv sN T V E' v := by
  unfold fv
  rw [h1, h2]
theorem kfi_len {sN : Nat → Nat → Bool} : ∀ {k k' : gK} {t : Nat}, k.map Prod.fst = k'.map Prod.fst → kfi sN k t = kfi sN k' t := by
  intro k
  induction k with
  | nil => intro k' t h; cases k' with | nil => rfl | cons a r => cases h
  | cons a r ih =>
    intro k' t h
    cases k' with
    | nil => cases h
    | cons a' r' =>
      have h1 : a.1 = a'.1 := (List.cons.inj h).1
      have h2 : r.map Prod.fst = r'.map Prod.fst := (List.cons.inj h).2
      have h3 : r.length = r'.length := by
        have := congrArg List.length h2
        rw [List.length_map, List.length_map] at this
        exact this
      rw [kfi, kfi, h1, h3, ih h2]
/-- the same locals known (whatever their slots), the same blocks open -/
def eqE (E E' : gV) : Prop := E.1.map Prod.fst = E'.1.map Prod.fst ∧ E.2.1 = E'.2.1
theorem eqE_len {E E' : gV} (h : eqE E E') : E.1.length = E'.1.length := by
  have := congrArg List.length h.1
  rw [List.length_map, List.length_map] at this
  exact this
theorem fv_q {sN : Nat → Nat → Bool} {T : gTd} {V : Nat → Int32} {E E' : gV} {v : Nat × Nat × Nat} (h : eqE E E') : fv sN T V E v ↔ fv sN T V E' v := by
  have k : ∀ t, kfi sN E.1 t = kfi sN E'.1 t := fun t => kfi_len h.1
  have l := eqE_len h
  have tk : (∃ k ∈ E.1.take (E.1.length - E.2.1.headD 0), sN k.1 v.2.1 = true) ↔ ∃ k ∈ E'.1.take (E'.1.length - E'.2.1.headD 0), sN k.1 v.2.1 = true := by
    have e : (E.1.take (E.1.length - E.2.1.headD 0)).map Prod.fst = (E'.1.take (E'.1.length - E'.2.1.headD 0)).map Prod.fst := by
      rw [List.map_take, List.map_take, h.1, l, h.2]
    refine ⟨fun ⟨a, ha, hs⟩ => ?_, fun ⟨a, ha, hs⟩ => ?_⟩
    · have m : a.1 ∈ (E'.1.take (E'.1.length - E'.2.1.headD 0)).map Prod.fst := by rw [← e]; exact List.mem_map.mpr ⟨a, ha, rfl⟩
      obtain ⟨c, hc, ec⟩ := List.mem_map.mp m
      exact ⟨c, hc, by rw [ec]; exact hs⟩
    · have m : a.1 ∈ (E.1.take (E.1.length - E.2.1.headD 0)).map Prod.fst := by rw [e]; exact List.mem_map.mpr ⟨a, ha, rfl⟩
      obtain ⟨c, hc, ec⟩ := List.mem_map.mp m
      exact ⟨c, hc, by rw [ec]; exact hs⟩
  unfold fv
  rw [k, k, tk]
theorem exV_q {E E' : gV} {v : Nat × Nat × Nat} (h : eqE E E') : eqE (exV E v) (exV E' v) := by
  have l := eqE_len h
  unfold exV
  by_cases c20 : v.1 = 20
  · rw [if_pos c20, if_pos c20]
    exact ⟨h.1, by show _ :: _ = _ :: _; rw [l, h.2]⟩
  · rw [if_neg c20, if_neg c20]
    by_cases c21 : v.1 = 21
    · rw [if_pos c21, if_pos c21]
      exact ⟨by show (E.1.drop _).map _ = (E'.1.drop _).map _; rw [List.map_drop, List.map_drop, h.1, l, h.2], by show E.2.1.tail = E'.2.1.tail; rw [h.2]⟩
    · rw [if_neg c21, if_neg c21]
      by_cases c22 : v.1 = 22
      · rw [if_pos c22, if_pos c22]
        exact ⟨by show _ :: _ = _ :: _; rw [h.1], h.2⟩
      · rw [if_neg c22, if_neg c22]; exact h
theorem flt_q {sN : Nat → Nat → Bool} {T : gTd} {V : Nat → Int32} : ∀ {L : gU} {E E' : gV}, eqE E E' → (flt sN T V L E ↔ flt sN T V L E') := by
  intro L
  induction L with
  | nil => intro E E' _; exact Iff.rfl
  | cons v L ih =>
    intro E E' h
    show fv sN T V E v ∨ flt sN T V L (exV E v) ↔ fv sN T V E' v ∨ flt sN T V L (exV E' v)
    rw [fv_q h, ih (exV_q h)]
/-- a chunk: what begins it, then uses that are none of those -/
def shp (M : gU) : Prop := ∃ v N, M = v :: N ∧ (∀ w ∈ N, ¬ (31 ≤ w.1 ∧ w.1 ≤ 36)) ∧ nl N ∧ (31 ≤ v.1 ∧ v.1 ≤ 36) ∧ (v.1 ≤ 33 → ∀ (sN : Nat → Nat → Bool) (T : gTd) (V : Nat → Int32) (E : gV), ¬ flt sN T V N E)
theorem te_flat {K V : Nat → Int32} : ∀ {Ds : List gU}, (∀ M ∈ Ds, shp M) → Ds.flatten.filterMap (te1 K V) = Ds.filterMap (te K V) := by
  intro Ds
  induction Ds with
  | nil => intro _; rfl
  | cons M Ds ih =>
    intro h
    obtain ⟨v, N, e, h1, -⟩ := h M List.mem_cons_self
    rw [List.flatten_cons, List.filterMap_append, ih (fun M' hM => h M' (List.mem_cons_of_mem _ hM)), e]
    have n0 : N.filterMap (te1 K V) = [] := List.filterMap_eq_nil_iff.mpr (fun w hw => te1_no (h1 w hw))
    have e1 : (v :: N).filterMap (te1 K V) = (te1 K V v).toList := by
      rw [List.filterMap_cons, n0]
      cases te1 K V v <;> rfl
    have e2 : te K V (v :: N) = te1 K V v := rfl
    rw [e1, List.filterMap_cons, e2]
    cases te1 K V v <;> rfl
/-- the whole row, chunk by chunk -/
theorem flt_flat {sN : Nat → Nat → Bool} {T : gTd} {V : Nat → Int32} : ∀ {Ds : List gU}, (∀ M ∈ Ds, shp M) → ∀ {E : gV}, eqE E E0v → (flt sN T V Ds.flatten E ↔ ∃ M ∈ Ds, flt sN T V M E0v) := by
  intro Ds
  induction Ds with
  | nil => intro _ E _; exact ⟨fun q => q.elim, fun ⟨M, q, _⟩ => by cases q⟩
  | cons M Ds ih =>
    intro h E hE
    obtain ⟨v, N, e, h1, hn, hv, -⟩ := h M List.mem_cons_self
    have nlM : nl M := by
      rw [e]
      exact nl_app (L := [v]) (nl_still (still_one ⟨by omega, by omega, by omega⟩)) hn
    have hE2 : eqE (exs M E) E0v := ⟨by rw [(nlM E).1]; exact hE.1, by rw [(nlM E).2]; exact hE.2⟩
    rw [List.flatten_cons, flt_app, ih (fun M' hM => h M' (List.mem_cons_of_mem _ hM)) hE2, flt_q hE]
    refine ⟨fun q => q.elim (fun q => ⟨M, List.mem_cons_self, q⟩) (fun ⟨M', a, b⟩ => ⟨M', List.mem_cons_of_mem _ a, b⟩), fun ⟨M', a, b⟩ => ?_⟩
    rcases List.mem_cons.mp a with a | a
    · rw [a] at b; exact Or.inl b
    · exact Or.inr ⟨M', a, b⟩
theorem hd_flt {sN : Nat → Nat → Bool} {T : gTd} {V : Nat → Int32} {v : Nat × Nat × Nat} {N : gU} (hv : 31 ≤ v.1 ∧ v.1 ≤ 36) : flt sN T V (v :: N) E0v ↔ flt sN T V N E0v := by
  show fv sN T V E0v v ∨ flt sN T V N (exV E0v v) ↔ _
  rw [exV_still ⟨by omega, by omega, by omega⟩]
  refine ⟨fun q => q.resolve_left (fv_no (fun u hu => ?_)), Or.inr⟩
  simp only [List.mem_cons, List.not_mem_nil, or_false] at hu
  omega
theorem PV_shp {x : gd} {Ds : List gU} (pv : PV x Ds) : ∀ M ∈ Ds, shp M := by
  obtain ⟨⟨-, ⟨-, bt⟩, ⟨-, at'⟩, ⟨-, ft⟩⟩, sq⟩ := pv
  have lowc : ∀ {N : gU}, cd N → ∀ w ∈ N, ¬ (31 ≤ w.1 ∧ w.1 ≤ 36) := fun h w hw q => by
    have a := h w hw
    have b : ∀ k, k < 37 → 31 ≤ k → cdl.elem k = false := by decide
    rw [b _ (by omega) q.1] at a
    exact absurd a (by decide)
  have idx : ∀ {u : Nat} {v : Nat × Nat × Nat} {N : gU}, v :: N ∈ Ds → v.1 = u → ∃ t : Nat, (Ds.filterMap (bN u))[t]? = some N := fun {u v N} hm hu => by
    have m : N ∈ Ds.filterMap (bN u) := List.mem_filterMap.mpr ⟨_, hm, by show (if v.1 = u then some N else none) = some N; rw [if_pos hu]⟩
    obtain ⟨t, ht, e⟩ := List.getElem_of_mem m
    exact ⟨t, by rw [List.getElem?_eq_getElem ht, e]⟩
  have hV : ∀ e M, wSt x 0 17 e M → ∀ E, sufE E (exs M E) := fun e M g => (wS_env 17 e M g).1
  intro M hM
  obtain ⟨v, N, e, q⟩ := sq M hM
  rw [e] at hM
  rcases q with ⟨q1, q2⟩ | ⟨q1, q2⟩ | q1 | q1 | q1
  · refine ⟨v, N, e, fun w hw => by have := q2 w hw; omega, nl_still (fun w hw => by have := q2 w hw; omega), by omega, fun _ sN T V E => ?_⟩
    have key : ∀ (L : gU) (E : gV), (∀ w ∈ L, 80 ≤ w.1) → ¬ flt sN T V L E := by
      intro L
      induction L with
      | nil => intro E _ z; exact z
      | cons w L ih =>
        intro E hw z
        have w8 := hw w List.mem_cons_self
        rcases z with z | z
        · refine fv_no (fun u hu => ?_) z
          simp only [List.mem_cons, List.not_mem_nil, or_false] at hu
          omega
        · exact ih _ (fun u hu => hw u (List.mem_cons_of_mem _ hu)) z
    exact key N E q2
  · rw [q2] at e
    exact ⟨v, [], e, (fun w hw => absurd hw List.not_mem_nil), nl_still still_nil, by omega, fun _ _ _ _ _ z => z⟩
  · obtain ⟨t, ht⟩ := idx hM q1
    have wb := bt t N ht
    exact ⟨v, N, e, lowc (wB_cd (fun e M g => wS_cd 17 e M g) wb), wB_nl hV wb, by omega, fun z => by omega⟩
  · obtain ⟨t, ht⟩ := idx hM q1
    obtain ⟨n, N', vv, eN⟩ := at' t N ht
    exact ⟨v, N, e, lowc (by rw [eN]; exact cd_54 (vV_cd vv)), nl_still (by rw [eN]; exact still_54 (vV_st vv)), by omega, fun z => by omega⟩
  · obtain ⟨t, ht⟩ := idx hM q1
    obtain ⟨n, N', vv, eN⟩ := ft t N ht
    exact ⟨v, N, e, lowc (by rw [eN]; exact cd_54 (vV_cd vv)), nl_still (by rw [eN]; exact still_54 (vV_st vv)), by omega, fun z => by omega⟩
theorem jF_flat {sN : Nat → Nat → Bool} {K V : Nat → Int32} {Ds : List gU} (h : ∀ M ∈ Ds, shp M) : jF sN V (Ds.filterMap (te K V)) (Ds.filterMap (bN 34)) (Ds.filterMap (bN 35)) (Ds.filterMap (bN 36)) ↔ jFl sN K V Ds.flatten := by
  unfold jFl
  rw [te_flat h, flt_flat h ⟨rfl, rfl⟩]
  unfold jF
  have one : ∀ {u : Nat}, (∃ N ∈ Ds.filterMap (bN u), flt sN (Ds.filterMap (te K V)) V N E0v) → 31 ≤ u ∧ u ≤ 36 → ∃ M ∈ Ds, flt sN (Ds.filterMap (te K V)) V M E0v := by
    intro u ⟨N, hN, hf⟩ hu
    obtain ⟨M, hM, e⟩ := List.mem_filterMap.mp hN
    cases M with
    | nil => exact absurd e (by simp [bN])
    | cons v L =>
      have e : (if v.1 = u then some L else none) = some N := e
      by_cases c : v.1 = u
      · rw [if_pos c] at e
        cases Option.some.inj e
        exact ⟨v :: N, hM, (hd_flt (by omega)).mpr hf⟩
      · rw [if_neg c] at e; exact absurd e (by simp)
  refine ⟨fun q => ?_, fun q => ?_⟩
  · rcases q with ((q | q) | q) | q
    · exact Or.inl q
    · exact Or.inr (one q (by decide))
    · exact Or.inr (one q (by decide))
    · exact Or.inr (one q (by decide))
  · rcases q with q | ⟨M, hM, hf⟩
    · exact Or.inl (Or.inl (Or.inl q))
    · obtain ⟨v, N, e, -, -, hv, hz⟩ := h M hM
      rw [e] at hf hM
      have hf2 := (hd_flt hv).mp hf
      have mem : ∀ {u : Nat}, v.1 = u → N ∈ Ds.filterMap (bN u) := fun {u} hu => List.mem_filterMap.mpr ⟨_, hM, by show (if v.1 = u then some N else none) = some N; rw [if_pos hu]⟩
      by_cases c : v.1 ≤ 33
      · exact absurd hf2 (hz c _ _ _ _)
      · have : v.1 = 34 ∨ v.1 = 35 ∨ v.1 = 36 := by omega
        rcases this with c | c | c
        · exact Or.inl (Or.inl (Or.inr ⟨N, mem c, hf2⟩))
        · exact Or.inl (Or.inr ⟨N, mem c, hf2⟩)
        · exact Or.inr ⟨N, mem c, hf2⟩
