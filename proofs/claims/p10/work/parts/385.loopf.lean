/-! the whole text as it is read: Ds, what each definition told -/
def te (K V : Nat → Int32) : gU → Option (Nat × Nat × Nat × Nat)
  | [] => none
  | v :: _ => if v.1 = 31 then some (v.2.1, 0, 0, 0) else if v.1 = 32 then some (v.2.1, 0, prz K V v.2.2, v.2.2) else if v.1 = 33 then some (v.2.1, 1, 0, 0) else if v.1 = 34 then some (v.2.1, 2, 0, 0) else none
def bN (u : Nat) : gU → Option gU
  | [] => none
  | v :: M => if v.1 = u then some M else none
/-- a told name: its token, sort, how many cells its row has (0: no row), the row's whole -/
def tdE (z : gd) (j : Nat) (q : Nat × Nat × Nat × Nat) : Prop := vp_in (z.1 30 j) 710 ∧ (z.1 30 j).toNatClampNeg = q.1 ∧ (z.1 31 j).toInt = q.2.1 ∧ ((q.2.2.1 = 0 ∧ z.1 34 j = 0) ∨ (0 < q.2.2.1 ∧ z.1 34 j = 1 ∧ (z.1 33 j).toNatClampNeg = q.2.2.1 ∧ vp_in (z.1 35 j) 710 ∧ (z.1 35 j).toNatClampNeg = q.2.2.2))
def PV4 (z : gd) (Ds : List gU) : Prop :=
  ((Ds.filterMap (te (z.1 5) (z.1 7))).length = (z.1 0 28).toNatClampNeg ∧ ∀ j q, (Ds.filterMap (te (z.1 5) (z.1 7)))[j]? = some q → tdE z j q) ∧
  ((Ds.filterMap (bN 34)).length = (z.1 0 25).toNatClampNeg ∧ ∀ t N, (Ds.filterMap (bN 34))[t]? = some N → wB z 0 (wSt z 0 17) 0 (z.1 39 t) N) ∧
  ((Ds.filterMap (bN 35)).length = (z.1 0 26).toNatClampNeg ∧ ∀ t N, (Ds.filterMap (bN 35))[t]? = some N → ∃ n N', vV z true n (z.1 40 t) N' ∧ N = N' ++ [(54, 0, 0)]) ∧
  ((Ds.filterMap (bN 36)).length = (z.1 0 27).toNatClampNeg ∧ ∀ t N, (Ds.filterMap (bN 36))[t]? = some N → ∃ n N', vV z true n (z.1 41 t) N' ∧ N = N' ++ [(54, 0, 0)])
/-- a definition's uses: what begins it, and which may follow -/
def shq (M : gU) : Prop := ∃ v N, M = v :: N ∧ (((v.1 = 31 ∨ v.1 = 32) ∧ ∀ w ∈ N, 80 ≤ w.1) ∨ (v.1 = 33 ∧ N = []) ∨ v.1 = 34 ∨ v.1 = 35 ∨ v.1 = 36)
def PV (z : gd) (Ds : List gU) : Prop := PV4 z Ds ∧ ∀ M ∈ Ds, shq M
theorem sn_get {α : Type} {T : List α} {q : α} {P : Nat → α → Prop} (h : ∀ j r, T[j]? = some r → P j r) (hq : P T.length q) : ∀ j r, (T ++ [q])[j]? = some r → P j r := by
  intro j r e
  by_cases c : j < T.length
  · rw [List.getElem?_append_left c] at e
    exact h j r e
  · rw [List.getElem?_append_right (by omega)] at e
    have c2 : j - T.length = 0 := by
      by_cases d : j - T.length = 0
      · exact d
      · rw [List.getElem?_eq_none (by show 1 ≤ j - T.length; omega)] at e
        exact absurd e (by simp)
    rw [c2] at e
    have e2 : q = r := by simpa using e
    have ej : j = T.length := by omega
    rw [ej, ← e2]
    exact hq
theorem fm_one {α β : Type} {f : α → Option β} {D : List α} {M : α} {r : β} (h : f M = some r) : (D ++ [M]).filterMap f = D.filterMap f ++ [r] := by
  rw [List.filterMap_append]
  simp [h]
theorem fm_no {α β : Type} {f : α → Option β} {D : List α} {M : α} (h : f M = none) : (D ++ [M]).filterMap f = D.filterMap f := by
  rw [List.filterMap_append]
  simp [h]
theorem gt_lt {α : Type} {T : List α} {j : Nat} {r : α} (h : T[j]? = some r) : j < T.length := by
  by_cases c : j < T.length
  · exact c
  · rw [List.getElem?_eq_none (by omega)] at h
    exact absurd h (by simp)
theorem prz_pos {K V : Nat → Int32} {w : Nat} : 0 < prz K V w := by
  unfold prz
  split
  · next c =>
    have c1 := c.2.1
    rw [t_le] at c1
    have k1 : (1 : Int32).toInt = 1 := rfl
    rw [t_cl]
    omega
  · omega
/-- what is told before stays told -/
theorem tdE_keep {z y : gd} {j : Nat} {q : Nat × Nat × Nat × Nat} (h : ∀ c : Nat, 30 ≤ c → c ≤ 35 → y.1 c j = z.1 c j) (g : tdE z j q) : tdE y j q := by
  unfold tdE at g ⊢
  rw [h 30 (by decide) (by decide), h 31 (by decide) (by decide), h 33 (by decide) (by decide), h 34 (by decide) (by decide), h 35 (by decide) (by decide)]
  exact g
theorem tAd_low {x y : gd} {a b c d e f : Int32} (h : tAd x y a b c d e f) {j : Nat} (hj : j < (x.1 0 28).toNatClampNeg) : ∀ c : Nat, 30 ≤ c → c ≤ 35 → y.1 c j = x.1 c j := by
  intro c' h1 h2
  have hne : ¬ j = (x.1 0 28).toNatClampNeg := by omega
  obtain ⟨-, a0, a1, a2, a3, a4, a5⟩ := h
  have hc : c' = 30 ∨ c' = 31 ∨ c' = 32 ∨ c' = 33 ∨ c' = 34 ∨ c' = 35 := by omega
  rcases hc with rfl | rfl | rfl | rfl | rfl | rfl
  · rw [a0, if_neg hne]
  · rw [a1, if_neg hne]
  · rw [a2, if_neg hne]
  · rw [a3, if_neg hne]
  · rw [a4, if_neg hne]
  · rw [a5, if_neg hne]
theorem vV_80 {x : gd} {o : Bool} : ∀ {n : Nat} {e : Int32} {M : gU}, vV x o n e M → ∀ v ∈ M, v.1 < 31 ∨ (36 < v.1 ∧ v.1 < 80) := by
  intro n
  induction n with
  | zero => intro e M h; exact h.elim
  | succ n ih =>
    intro e M h
    obtain ⟨-, h⟩ := h
    have one : ∀ {k a b : Nat}, k < 31 ∨ (36 < k ∧ k < 80) → ∀ v ∈ [(k, a, b)], v.1 < 31 ∨ (36 < v.1 ∧ v.1 < 80) := fun hk v hv => by rw [List.mem_singleton.mp hv]; exact hk
    rcases h with ⟨q, r, _⟩ | ⟨q, r⟩ | ⟨q, r⟩ | ⟨q, r, _⟩ | ⟨q, M1, g, r⟩ | ⟨q, M1, M2, g1, g2, _, r⟩
    · rw [r]; exact one (by decide)
    · rw [r]; exact one (by decide)
    · rw [r]; cases o <;> exact one (by decide)
    · rw [r]
      intro v hv
      rcases List.mem_cons.mp hv with hv | hv
      · rw [hv]; exact Or.inl (by show 7 < 31; decide)
      · exact one (by decide) v hv
    · rcases r with ⟨_, r2⟩ | ⟨_, _, r3⟩
      · rw [r2]; exact ih g
      · rw [r3]; exact fun v hv => (List.mem_append.mp hv).elim (ih g v) (one (by decide) v)
    · rw [r]
      exact fun v hv => (List.mem_append.mp hv).elim (ih g1 v) (fun hv => (List.mem_append.mp hv).elim (ih g2 v) (one (by decide) v))
def lo80 (M : gU) : Prop := ∀ v ∈ M, v.1 < 31 ∨ (36 < v.1 ∧ v.1 < 80)
theorem lo_k {k a b : Nat} (h : k < 31 ∨ (36 < k ∧ k < 80)) : lo80 [(k, a, b)] := fun v hv => by rw [List.mem_singleton.mp hv]; exact h
theorem lo_app {M N : gU} (h : lo80 M) (g : lo80 N) : lo80 (M ++ N) := fun v hv => (List.mem_append.mp hv).elim (h v) (g v)
theorem lo_54 {M : gU} (h : lo80 M) : lo80 (M ++ [(54, 0, 0)]) := lo_app h (lo_k (by decide))
theorem lo_nil : lo80 [] := fun _ h => by cases h
theorem vQ_80 {x : gd} {p : Int32} {M : gU} (h : vQ x p M) : lo80 M := by
  obtain ⟨-, ⟨_, h⟩ | ⟨_, n, M1, h1, h⟩⟩ := h
  · rw [h]; exact lo_k (by decide)
  · rw [h]; exact lo_app (lo_k (by decide)) (lo_54 (vV_80 h1))
theorem vRr_80 {x : gd} {r : Int32} {tg : Option Nat} {M : gU} (h : vRr x r tg M) : lo80 M := by
  have sa : lo80 (pma tg) := by cases tg with | none => exact lo_nil | some t => exact lo_k (by decide)
  have se : lo80 (pme tg) := by cases tg with | none => exact lo_nil | some t => exact lo_k (by decide)
  obtain ⟨b, t, et, h⟩ := h
  rcases h with ⟨q1, q2, q3, q4, q5, q6⟩ | ⟨q1, q2, n, M1, q3, q4⟩ | ⟨q1, M1, q2, q3⟩ | ⟨q1, n, M1, M2, q2, q3, q4⟩ | ⟨q1, q2, n, m, M1, M2, M3, q3, q4, q5, q6⟩
  · rw [q3]; cases tg with | none => exact lo_k (by decide) | some t => exact lo_k (by decide)
  · rw [q4]; exact lo_app sa (lo_app (lo_54 (vV_80 q3)) (lo_k (by decide)))
  · rw [q3]; exact lo_app se (lo_app (vQ_80 q2) (lo_k (by decide)))
  · rw [q4]; exact lo_app se (lo_app (vQ_80 q2) (lo_app (lo_54 (vV_80 q3)) (lo_k (by decide))))
  · rw [q6]; exact lo_app se (lo_app (vQ_80 q3) (lo_app (lo_54 (vV_80 q4)) (lo_app (lo_54 (vV_80 q5)) (lo_k (by decide)))))
theorem wB_lo {x : gd} {m : Int} {V : Int32 → gU → Prop} {z : Nat} {e : Int32} {M : gU} (hV : ∀ e M, V e M → lo80 M) (h : wB x m V z e M) : lo80 M := by
  obtain ⟨-, -, R, -, h5, rfl⟩ := h
  refine lo_app (lo_k (by decide)) (lo_app ?_ (lo_k (by decide)))
  intro v hv
  obtain ⟨q, hq, hv⟩ := List.mem_flatMap.mp hv
  exact hV _ _ (h5 q hq).1 v hv
theorem wS_lo {x : gd} {m : Int} : ∀ (k : Nat) (e : Int32) (M : gU), wSt x m k e M → lo80 M := by
  intro k
  induction k with
  | zero => intro e M h; exact h.elim
  | succ k ih =>
    intro e M h
    obtain ⟨-, -, h⟩ := h
    unfold wD at h
    rcases h with ⟨g, N, q1, q⟩ | ⟨g, _, N1, q1, q⟩ | ⟨g, _, _, _, N1, N2, q1, q2, q⟩ | ⟨g, n1, N1, N2, N3, q1, q2, _, q3, q⟩ | ⟨g, _, N1, N2, q1, q2, _, q⟩ | ⟨g, N2, q1, _, q⟩ | ⟨g, _, ⟨_, q⟩ | ⟨_, q⟩⟩ | ⟨g, _, q⟩ | ⟨g, _, _, N1, q1, q⟩ | ⟨g, _, N1, q1, q⟩ | ⟨g, _, q⟩
    · rw [q]; exact lo_app (lo_k (by decide)) (lo_app (vRr_80 q1.1) (lo_k (by decide)))
    · rw [q]; exact lo_app (vRr_80 q1.1) (lo_k (by decide))
    · rw [q]; exact lo_app (lo_k (by decide)) (lo_app (lo_54 (vV_80 q1)) (lo_app (lo_54 (vV_80 q2)) (lo_k (by decide))))
    · rw [q]
      have n3 : lo80 N3 := by
        rcases q3 with ⟨_, q3⟩ | ⟨_, _, j, N4, q4, q5 | ⟨_, q5, N5, q6⟩⟩
        · rw [q3]; exact lo_nil
        · rw [q4]; exact lo_app (lo_k (by decide)) (wB_lo ih q5)
        · rw [q4]; exact lo_app (lo_k (by decide)) (ih _ _ q5)
      exact lo_app (lo_54 (vV_80 q1)) (lo_app (lo_k (by decide)) (lo_app (wB_lo ih q2) (lo_app n3 (lo_k (by decide)))))
    · rw [q]; exact lo_app (lo_54 (vV_80 q1)) (lo_app (lo_k (by decide)) (wB_lo ih q2))
    · rw [q]; exact lo_app (lo_k (by decide)) (wB_lo ih q1)
    · rw [q]; exact lo_k (by decide)
    · rw [q]; exact lo_k (by decide)
    · rw [q]; exact lo_k (by decide)
    · rw [q]; exact lo_app (lo_54 (vV_80 q1)) (lo_k (by decide))
    · rw [q]; exact lo_app (lo_54 (vV_80 q1)) (lo_k (by decide))
    · rw [q]; exact lo_k (by decide)
theorem lo_not {M : gU} (h : lo80 M) : ∀ v ∈ M, ¬ (v.1 = 31 ∨ v.1 = 32 ∨ 80 ≤ v.1) := fun v hv q => by
  have := h v hv
  omega
section PVS
variable {z y : gd} {Ds : List gU} {M : gU}
theorem NN_vV (h : NN z y) (h5 : y.1 5 = z.1 5) (h7 : y.1 7 = z.1 7) {o : Bool} {n : Nat} {e : Int32} {N : gU} (g : vV z o n e N) : vV y o n e N := vV_keep h.1 h5 h7 (fun c h1 h2 j hj => h.2 c h1 (by omega) j hj) n e N g
theorem NN_wB (h : NN z y) (h5 : y.1 5 = z.1 5) (h7 : y.1 7 = z.1 7) {v : Nat} {e : Int32} {N : gU} (g : wB z 0 (wSt z 0 17) v e N) : wB y 0 (wSt y 0 17) v e N :=
  wB_keep (Int.le_refl _) (l := e.toInt) ⟨NN_NL 0 e.toInt h, h5, h7⟩ (fun _ _ he g => wS_keep (Int.le_refl _) (l := e.toInt) ⟨NN_NL 0 e.toInt h, h5, h7⟩ _ _ _ he g) (Int.le_refl _) g
/-- the told names, one more -/
theorem PV_told {a b c d e f : Int32} {q : Nat × Nat × Nat × Nat} (h : (Ds.filterMap (te (z.1 5) (z.1 7))).length = (z.1 0 28).toNatClampNeg ∧ ∀ j q, (Ds.filterMap (te (z.1 5) (z.1 7)))[j]? = some q → tdE z j q) (g : GB z) (h5 : y.1 5 = z.1 5) (h7 : y.1 7 = z.1 7) (t : tAd z y a b c d e f) (hq : te (z.1 5) (z.1 7) M = some q) (ha : vp_in a 710 ∧ a.toNatClampNeg = q.1 ∧ b.toInt = q.2.1 ∧ ((q.2.2.1 = 0 ∧ vp_nar .boolean e = 0) ∨ (0 < q.2.2.1 ∧ vp_nar .boolean e = 1 ∧ d.toNatClampNeg = q.2.2.1 ∧ vp_in f 710 ∧ f.toNatClampNeg = q.2.2.2))) : ((Ds ++ [M]).filterMap (te (y.1 5) (y.1 7))).length = (y.1 0 28).toNatClampNeg ∧ ∀ j q, ((Ds ++ [M]).filterMap (te (y.1 5) (y.1 7)))[j]? = some q → tdE y j q := by
  have g28 := vp_in_iff.mp (GB_v g)
  have k1 : (1 : Int32).toInt = 1 := rfl
  have u : (y.1 0 28).toNatClampNeg = (z.1 0 28).toNatClampNeg + 1 := by
    have e1 := t_add (a := z.1 0 28) (b := 1) (by omega) (by omega)
    rw [← t.1] at e1
    rw [t_cl, t_cl]
    omega
  rw [h5, h7, fm_one hq]
  refine ⟨by rw [List.length_append, h.1, u]; rfl, sn_get (fun j r hr => ?_) ?_⟩
  · have hj := gt_lt hr
    rw [h.1] at hj
    exact tdE_keep (tAd_low t hj) (h.2 j r hr)
  · rw [h.1]
    obtain ⟨-, a0, a1, a2, a3, a4, a5⟩ := t
    unfold tdE
    rw [a0, a1, a3, a4, a5, if_pos rfl, if_pos rfl, if_pos rfl, if_pos rfl, if_pos rfl]
    exact ha
theorem PV_toldk (h : (Ds.filterMap (te (z.1 5) (z.1 7))).length = (z.1 0 28).toNatClampNeg ∧ ∀ j q, (Ds.filterMap (te (z.1 5) (z.1 7)))[j]? = some q → tdE z j q) (h5 : y.1 5 = z.1 5) (h7 : y.1 7 = z.1 7) (h28 : y.1 0 28 = z.1 0 28) (ha : ∀ c : Nat, 30 ≤ c → c ≤ 35 → y.1 c = z.1 c) (hq : te (z.1 5) (z.1 7) M = none) : ((Ds ++ [M]).filterMap (te (y.1 5) (y.1 7))).length = (y.1 0 28).toNatClampNeg ∧ ∀ j q, ((Ds ++ [M]).filterMap (te (y.1 5) (y.1 7)))[j]? = some q → tdE y j q := by
  rw [h5, h7, fm_no hq, h28]
  exact ⟨h.1, fun j q e => tdE_keep (fun c h1 h2 => by rw [ha c h1 h2]) (h.2 j q e)⟩
theorem PV_th (h : (Ds.filterMap (bN 34)).length = (z.1 0 25).toNatClampNeg ∧ ∀ t N, (Ds.filterMap (bN 34))[t]? = some N → wB z 0 (wSt z 0 17) 0 (z.1 39 t) N) (nn : NN z y) (h5 : y.1 5 = z.1 5) (h7 : y.1 7 = z.1 7) (h25 : y.1 0 25 = z.1 0 25) (h39 : y.1 39 = z.1 39) (hq : bN 34 M = none) : ((Ds ++ [M]).filterMap (bN 34)).length = (y.1 0 25).toNatClampNeg ∧ ∀ t N, ((Ds ++ [M]).filterMap (bN 34))[t]? = some N → wB y 0 (wSt y 0 17) 0 (y.1 39 t) N := by
  rw [fm_no hq, h25, h39]
  exact ⟨h.1, fun t N e => NN_wB nn h5 h7 (h.2 t N e)⟩
theorem PV_cl {u c k : Nat} (h : (Ds.filterMap (bN u)).length = (z.1 0 k).toNatClampNeg ∧ ∀ t N, (Ds.filterMap (bN u))[t]? = some N → ∃ n N', vV z true n (z.1 c t) N' ∧ N = N' ++ [(54, 0, 0)]) (nn : NN z y) (h5 : y.1 5 = z.1 5) (h7 : y.1 7 = z.1 7) (hk : y.1 0 k = z.1 0 k) (hc : y.1 c = z.1 c) (hq : bN u M = none) : ((Ds ++ [M]).filterMap (bN u)).length = (y.1 0 k).toNatClampNeg ∧ ∀ t N, ((Ds ++ [M]).filterMap (bN u))[t]? = some N → ∃ n N', vV y true n (y.1 c t) N' ∧ N = N' ++ [(54, 0, 0)] := by
  rw [fm_no hq, hk, hc]
  refine ⟨h.1, fun t N e => ?_⟩
  obtain ⟨n, N', g, e2⟩ := h.2 t N e
  exact ⟨n, N', NN_vV nn h5 h7 g, e2⟩
theorem PV_cl1 {u c k n : Nat} {r : Int32} {N : gU} (h : (Ds.filterMap (bN u)).length = (z.1 0 k).toNatClampNeg ∧ ∀ t N, (Ds.filterMap (bN u))[t]? = some N → ∃ n N', vV z true n (z.1 c t) N' ∧ N = N' ++ [(54, 0, 0)]) (nn : NN z y) (h5 : y.1 5 = z.1 5) (h7 : y.1 7 = z.1 7) (h0 : 0 ≤ (z.1 0 k).toInt) (hk : (y.1 0 k).toInt = (z.1 0 k).toInt + 1) (hc : ∀ j : Nat, y.1 c j = if j = (z.1 0 k).toNatClampNeg then r else z.1 c j) (hq : bN u M = some (N ++ [(54, 0, 0)])) (hv : vV y true n r N) : ((Ds ++ [M]).filterMap (bN u)).length = (y.1 0 k).toNatClampNeg ∧ ∀ t N, ((Ds ++ [M]).filterMap (bN u))[t]? = some N → ∃ n N', vV y true n (y.1 c t) N' ∧ N = N' ++ [(54, 0, 0)] := by
  rw [fm_one hq]
  refine ⟨by rw [List.length_append, h.1, cl_up h0 hk]; rfl, sn_get (fun t N e => ?_) ?_⟩
  · obtain ⟨n, N', g, e2⟩ := h.2 t N e
    have ht := gt_lt e
    rw [h.1] at ht
    rw [hc t, if_neg (by omega)]
    exact ⟨n, N', NN_vV nn h5 h7 g, e2⟩
  · rw [hc, h.1, if_pos rfl]
    exact ⟨n, N, hv, rfl⟩
theorem PV4_step (h : PV4 z Ds) (g : GB z) (nn : NN z y) (h5 : y.1 5 = z.1 5) (h7 : y.1 7 = z.1 7) (d : DC z y M ∨ DLk z y M ∨ DT z y M ∨ DA z y M ∨ DF z y M) : PV4 y (Ds ++ [M]) := by
  obtain ⟨hT, hB, hA, hF⟩ := h
  have g26 := g.2.2.2.2.2.2.1
  have g27 := g.2.2.2.2.2.2.2.2.1
  have g25 := g.2.2.2.2.1
  rcases d with ⟨l2, l3, l4, s0, v, su, i, m, N, md1, ta, hl2, h1, h2, h3, h4, h6, h8, h9, h10, h11, rfl⟩ | ⟨l2, md1, ta, hl2, h1, rfl⟩ | ⟨l2, r9, id', N, md1, ta, hl2, h1, h2, h3, h4, h6, rfl⟩ | ⟨n, i, e, N, md1, h1, h2, h3, rfl⟩ | ⟨n, i, e, N, md1, h1, h2, h3, rfl⟩
  · have th := md1.1 25 (by decide)
    rcases h11 with ⟨e1, e2, rfl⟩ | ⟨e1, e2, e3, rfl⟩
    · refine ⟨PV_told hT g h5 h7 ta (q := (l2.toNatClampNeg, 0, 0, 0)) rfl ⟨hl2, rfl, rfl, Or.inl ⟨rfl, ?_⟩⟩, PV_th hB nn h5 h7 th (md1.2.1 39 (by decide) (by decide)) rfl, PV_cl hA nn h5 h7 (md1.1 26 (by decide)) (md1.2.1 40 (by decide) (by decide)) rfl, PV_cl hF nn h5 h7 (md1.1 27 (by decide)) (md1.2.1 41 (by decide) (by decide)) rfl⟩
      rw [h9, if_pos e1]; decide
    · refine ⟨PV_told hT g h5 h7 ta (q := (l2.toNatClampNeg, 0, prz (z.1 5) (z.1 7) l4.toNatClampNeg, l4.toNatClampNeg)) rfl ⟨hl2, rfl, rfl, Or.inr ⟨prz_pos, ?_, e3, e2, rfl⟩⟩, PV_th hB nn h5 h7 th (md1.2.1 39 (by decide) (by decide)) rfl, PV_cl hA nn h5 h7 (md1.1 26 (by decide)) (md1.2.1 40 (by decide) (by decide)) rfl, PV_cl hF nn h5 h7 (md1.1 27 (by decide)) (md1.2.1 41 (by decide) (by decide)) rfl⟩
      rw [h9, if_neg e1]; decide
  · exact ⟨PV_told hT g h5 h7 ta (q := (l2.toNatClampNeg, 1, 0, 0)) rfl ⟨hl2, rfl, rfl, Or.inl ⟨rfl, by decide⟩⟩, PV_th hB nn h5 h7 (md1.1 25 (by decide)) (md1.2.1 39 (by decide) (by decide)) rfl, PV_cl hA nn h5 h7 (md1.1 26 (by decide)) (md1.2.1 40 (by decide) (by decide)) rfl, PV_cl hF nn h5 h7 (md1.1 27 (by decide)) (md1.2.1 41 (by decide) (by decide)) rfl⟩
  · refine ⟨PV_told hT g h5 h7 ta (q := (l2.toNatClampNeg, 2, 0, 0)) rfl ⟨hl2, rfl, rfl, Or.inl ⟨rfl, by decide⟩⟩, ?_, PV_cl hA nn h5 h7 (md1.1 26 (by decide)) (md1.2.1 40 (by decide) (by decide)) rfl, PV_cl hF nn h5 h7 (md1.1 27 (by decide)) (md1.2.1 41 (by decide) (by decide)) rfl⟩
    have hq : bN 34 ([(34, l2.toNatClampNeg, id'.toNatClampNeg)] ++ N) = some N := rfl
    rw [fm_one hq]
    refine ⟨by rw [List.length_append, hB.1, cl_up g25 h1]; rfl, sn_get (fun t N e => ?_) ?_⟩
    · have ht := gt_lt e
      rw [hB.1] at ht
      rw [h4 t, if_neg (by omega)]
      exact NN_wB nn h5 h7 (hB.2 t N e)
    · rw [h4, hB.1, if_pos rfl]
      exact h6
  · exact ⟨PV_toldk hT h5 h7 (md1.1 28 (by decide)) (fun c h1 h2 => md1.2.1 c (by omega) (by intro q; simp only [List.mem_cons, List.not_mem_nil, or_false] at q; omega)) rfl, PV_th hB nn h5 h7 (md1.1 25 (by decide)) (md1.2.1 39 (by decide) (by decide)) rfl, PV_cl1 hA nn h5 h7 g26 h1 h2 rfl h3, PV_cl hF nn h5 h7 (md1.1 27 (by decide)) (md1.2.1 41 (by decide) (by decide)) rfl⟩
  · exact ⟨PV_toldk hT h5 h7 (md1.1 28 (by decide)) (fun c h1 h2 => md1.2.1 c (by omega) (by intro q; simp only [List.mem_cons, List.not_mem_nil, or_false] at q; omega)) rfl, PV_th hB nn h5 h7 (md1.1 25 (by decide)) (md1.2.1 39 (by decide) (by decide)) rfl, PV_cl hA nn h5 h7 (md1.1 26 (by decide)) (md1.2.1 40 (by decide) (by decide)) rfl, PV_cl1 hF nn h5 h7 g27 h1 h2 rfl h3⟩
theorem shq_of (d : DC z y M ∨ DLk z y M ∨ DT z y M ∨ DA z y M ∨ DF z y M) : shq M := by
  rcases d with ⟨l2, l3, l4, s0, v, su, i, m, N, -, -, -, -, -, -, -, -, -, -, hN, hm, rfl⟩ | ⟨l2, -, -, -, -, rfl⟩ | ⟨l2, r9, id', N, -, -, -, -, -, -, -, -, rfl⟩ | ⟨n, i, e, N, -, -, -, -, rfl⟩ | ⟨n, i, e, N, -, -, -, -, rfl⟩
  · have hn : ∀ w ∈ N ++ [(83, i, l2.toNatClampNeg)], 80 ≤ w.1 := by
      intro w hw
      rcases List.mem_append.mp hw with hw | hw
      · rcases hN with ⟨hN, _⟩ | ⟨u, hN, _⟩ | ⟨u, hN, _⟩
        · rw [hN] at hw; rw [List.mem_singleton.mp hw]; show 80 ≤ 82; decide
        · rw [hN] at hw; rw [List.mem_singleton.mp hw]; show 80 ≤ 80; decide
        · rw [hN] at hw; rw [List.mem_singleton.mp hw]; show 80 ≤ 81; decide
      · rw [List.mem_singleton.mp hw]; show 80 ≤ 83; decide
    rcases hm with ⟨_, _, rfl⟩ | ⟨_, _, _, rfl⟩
    · exact ⟨_, _, rfl, Or.inl ⟨Or.inl rfl, hn⟩⟩
    · exact ⟨_, _, rfl, Or.inl ⟨Or.inr rfl, hn⟩⟩
  · exact ⟨_, _, rfl, Or.inr (Or.inl ⟨rfl, rfl⟩)⟩
  · exact ⟨_, _, rfl, Or.inr (Or.inr (Or.inl rfl))⟩
  · exact ⟨_, _, rfl, Or.inr (Or.inr (Or.inr (Or.inl rfl)))⟩
  · exact ⟨_, _, rfl, Or.inr (Or.inr (Or.inr (Or.inr rfl)))⟩
theorem PV_step (h : PV z Ds) (g : GB z) (nn : NN z y) (h5 : y.1 5 = z.1 5) (h7 : y.1 7 = z.1 7) (d : DC z y M ∨ DLk z y M ∨ DT z y M ∨ DA z y M ∨ DF z y M) : PV y (Ds ++ [M]) :=
  ⟨PV4_step h.1 g nn h5 h7 d, fun M' hM => (List.mem_append.mp hM).elim (h.2 M') (fun q => by rw [List.mem_singleton.mp q]; exact shq_of d)⟩
/-- numbers of what is told; starts of cells; idle threads -/
def PN5 (z : gd) (Ds : List gU) : Prop :=
  ((∀ j q, (Ds.filterMap (te (z.1 5) (z.1 7)))[j]? = some q → (z.1 32 j).toInt = nbT q.2.1 ((Ds.filterMap (te (z.1 5) (z.1 7))).take j)) ∧ (z.1 0 23).toInt = nbT 0 (Ds.filterMap (te (z.1 5) (z.1 7))) ∧ (z.1 0 24).toInt = nbT 1 (Ds.filterMap (te (z.1 5) (z.1 7))) ∧ (z.1 0 25).toInt = nbT 2 (Ds.filterMap (te (z.1 5) (z.1 7)))) ∧
  ((z.1 0 23).toInt = (cel (z.1 5) (z.1 7) Ds.flatten).length ∧ ∀ j q, (cel (z.1 5) (z.1 7) Ds.flatten)[j]? = some q → z.1 36 j = q.1 ∧ z.1 37 j = if q.2 = true then 1 else 0) ∧
  ((z.1 0 25).toInt = (Ds.filterMap (fun M => M.head?.bind idE)).length ∧ ∀ j q, (Ds.filterMap (fun M => M.head?.bind idE))[j]? = some q → z.1 38 j = Int32.ofNat q)
/-- the told names, one more: its number -/
theorem PN_told {a b c d e f : Int32} {q : Nat × Nat × Nat × Nat} (hl : (Ds.filterMap (te (z.1 5) (z.1 7))).length = (z.1 0 28).toNatClampNeg) (h : (∀ j q, (Ds.filterMap (te (z.1 5) (z.1 7)))[j]? = some q → (z.1 32 j).toInt = nbT q.2.1 ((Ds.filterMap (te (z.1 5) (z.1 7))).take j)) ∧ (z.1 0 23).toInt = nbT 0 (Ds.filterMap (te (z.1 5) (z.1 7))) ∧ (z.1 0 24).toInt = nbT 1 (Ds.filterMap (te (z.1 5) (z.1 7))) ∧ (z.1 0 25).toInt = nbT 2 (Ds.filterMap (te (z.1 5) (z.1 7)))) (h5 : y.1 5 = z.1 5) (h7 : y.1 7 = z.1 7) (t : tAd z y a b c d e f) (hq : te (z.1 5) (z.1 7) M = some q) (hc : c.toInt = nbT q.2.1 (Ds.filterMap (te (z.1 5) (z.1 7)))) (n0 : (y.1 0 23).toInt = (z.1 0 23).toInt + (if q.2.1 = 0 then max q.2.2.1 1 else 0 : Nat)) (n1 : (y.1 0 24).toInt = (z.1 0 24).toInt + (if q.2.1 = 1 then max q.2.2.1 1 else 0 : Nat)) (n2 : (y.1 0 25).toInt = (z.1 0 25).toInt + (if q.2.1 = 2 then max q.2.2.1 1 else 0 : Nat)) : (∀ j q, ((Ds ++ [M]).filterMap (te (y.1 5) (y.1 7)))[j]? = some q → (y.1 32 j).toInt = nbT q.2.1 (((Ds ++ [M]).filterMap (te (y.1 5) (y.1 7))).take j)) ∧ (y.1 0 23).toInt = nbT 0 ((Ds ++ [M]).filterMap (te (y.1 5) (y.1 7))) ∧ (y.1 0 24).toInt = nbT 1 ((Ds ++ [M]).filterMap (te (y.1 5) (y.1 7))) ∧ (y.1 0 25).toInt = nbT 2 ((Ds ++ [M]).filterMap (te (y.1 5) (y.1 7))) := by
  rw [h5, h7, fm_one hq]
  have nb : ∀ w, nbT w (Ds.filterMap (te (z.1 5) (z.1 7)) ++ [q]) = nbT w (Ds.filterMap (te (z.1 5) (z.1 7))) + (if q.2.1 = w then max q.2.2.1 1 else 0) := fun w => by
    rw [nbT_app, nbT, nbT, Nat.add_zero]
  refine ⟨fun j r hr => ?_, by rw [nb, n0, h.2.1]; exact (Int.natCast_add _ _).symm, by rw [nb, n1, h.2.2.1]; exact (Int.natCast_add _ _).symm, by rw [nb, n2, h.2.2.2]; exact (Int.natCast_add _ _).symm⟩
  obtain ⟨-, -, -, a2, -⟩ := t
  by_cases cj : j < (Ds.filterMap (te (z.1 5) (z.1 7))).length
  · rw [List.getElem?_append_left cj] at hr
    rw [a2, if_neg (by omega), List.take_append_of_le_length (by omega)]
    exact h.1 j r hr
  · have hlt := gt_lt hr
    have ej : j = (Ds.filterMap (te (z.1 5) (z.1 7))).length := by
      rw [List.length_append] at hlt
      have hlt : j < (Ds.filterMap (te (z.1 5) (z.1 7))).length + 1 := hlt
      omega
    rw [ej, List.getElem?_append_right (Nat.le_refl _), Nat.sub_self] at hr
    have e : q = r := Option.some.inj hr
    rw [a2, if_pos (by omega), ej, List.take_left, ← e]
    exact hc
theorem cel_no (h5 : y.1 5 = z.1 5) (h7 : y.1 7 = z.1 7) (hM : ∀ v ∈ M, ¬ (v.1 = 31 ∨ v.1 = 32 ∨ 80 ≤ v.1)) : cel (y.1 5) (y.1 7) (Ds ++ [M]).flatten = cel (z.1 5) (z.1 7) Ds.flatten := by
  unfold cel
  rw [h5, h7, List.flatten_append, ces_app, show ([M] : List gU).flatten = M by simp, ces_no hM]
theorem id_no (h : M.head?.bind idE = none) : (Ds ++ [M]).filterMap (fun M => M.head?.bind idE) = Ds.filterMap (fun M => M.head?.bind idE) := fm_no h
theorem PN5_step (h : PN5 z Ds) (hp : PV4 z Ds) (g : GB z) (nn : NN z y) (h5 : y.1 5 = z.1 5) (h7 : y.1 7 = z.1 7) (d : DC z y M ∨ DLk z y M ∨ DT z y M ∨ DA z y M ∨ DF z y M) : PN5 y (Ds ++ [M]) := by
  obtain ⟨hT, hC, hI⟩ := h
  have hl := hp.1.1
  have z0 : (0 : Int32).toInt = 0 := rfl
  rcases d with ⟨l2, l3, l4, s0, v, su, i, m, N, md1, ta, hl2, h1, h2, h3, h4, h6, h8, h9, h10, h11, rfl⟩ | ⟨l2, md1, ta, hl2, h1, rfl⟩ | ⟨l2, r9, id', N, md1, ta, hl2, h1, h2, h3, h4, h6, rfl⟩ | ⟨n, i, e, N, md1, h1, h2, h3, rfl⟩ | ⟨n, i, e, N, md1, h1, h2, h3, rfl⟩
  · have f24 : y.1 0 24 = z.1 0 24 := md1.1 24 (by decide)
    have f25 : y.1 0 25 = z.1 0 25 := md1.1 25 (by decide)
    have ml : l3.toInt = ((if l4 = -1 then 1 else prz (z.1 5) (z.1 7) l4.toNatClampNeg : Nat) : Int) := by
      have u := t_cl l3
      rcases h11 with ⟨e1, e2, e3⟩ | ⟨e1, e2, e3, e4⟩
      · rw [if_pos e1, e2]; rfl
      · rw [if_neg e1, ← e3]; omega
    have hcs : ces (z.1 5) (z.1 7) (m ++ (N ++ [(83, i, l2.toNatClampNeg)])) (ces (z.1 5) (z.1 7) Ds.flatten (0, 0, [])) = (l3.toNatClampNeg, v, (ces (z.1 5) (z.1 7) Ds.flatten (0, 0, [])).2.2 ++ List.replicate l3.toNatClampNeg (v, decide (z.1 5 i = 34))) := by
      obtain ⟨c, ec⟩ : ∃ c, c = ces (z.1 5) (z.1 7) Ds.flatten (0, 0, []) := ⟨_, rfl⟩
      rw [← ec]
      have e1 : ces (z.1 5) (z.1 7) m c = (l3.toNatClampNeg, c.2) := by
        rcases h11 with ⟨e1, e2, e3⟩ | ⟨e1, e2, e3, e4⟩
        · rw [e3, e2]; rfl
        · rw [e4, e3]; rfl
      have e2 : ces (z.1 5) (z.1 7) N (l3.toNatClampNeg, c.2) = (l3.toNatClampNeg, v, c.2.2) := by
        rcases h10 with ⟨e1, e2⟩ | ⟨w, e1, e2⟩ | ⟨w, e1, e2⟩
        · rw [e1, e2]; rfl
        · rw [e1, e2]; rfl
        · rw [e1, e2]; rfl
      rw [ces_app, ces_app, e1, e2]
      rfl
    have hcel : cel (y.1 5) (y.1 7) (Ds ++ [m ++ (N ++ [(83, i, l2.toNatClampNeg)])]).flatten = cel (z.1 5) (z.1 7) Ds.flatten ++ List.replicate l3.toNatClampNeg (v, decide (z.1 5 i = 34)) := by
      unfold cel
      rw [h5, h7, List.flatten_append, ces_app, show ([m ++ (N ++ [(83, i, l2.toNatClampNeg)])] : List gU).flatten = m ++ (N ++ [(83, i, l2.toNatClampNeg)]) by simp, hcs]
    have u3 := t_cl l3
    have uz := t_cl (z.1 0 23)
    have uy := t_cl (y.1 0 23)
    refine ⟨?_, ⟨?_, fun j q hj => ?_⟩, ?_⟩
    · rcases h11 with ⟨e1, e2, e3⟩ | ⟨e1, e2, e3, e4⟩
      · refine PN_told hl hT h5 h7 ta (q := (l2.toNatClampNeg, 0, 0, 0)) (by rw [e3]; rfl) hT.2.1 (by rw [h2, e2]; rfl) (by rw [f24]; exact (Int.add_zero _).symm) (by rw [f25]; exact (Int.add_zero _).symm)
      · have pp := prz_pos (K := z.1 5) (V := z.1 7) (w := l4.toNatClampNeg)
        refine PN_told hl hT h5 h7 ta (q := (l2.toNatClampNeg, 0, prz (z.1 5) (z.1 7) l4.toNatClampNeg, l4.toNatClampNeg)) (by rw [e4]; rfl) hT.2.1 (by rw [h2, ml, if_neg e1]; show _ = _ + ((max (prz (z.1 5) (z.1 7) l4.toNatClampNeg) 1 : Nat) : Int); rw [Nat.max_eq_left pp]) (by rw [f24]; exact (Int.add_zero _).symm) (by rw [f25]; exact (Int.add_zero _).symm)
    · rw [hcel, List.length_append, List.length_replicate, h2, hC.1]
      omega
    · rw [hcel] at hj
      by_cases cj : j < (cel (z.1 5) (z.1 7) Ds.flatten).length
      · rw [List.getElem?_append_left cj] at hj
        have hc1 := hC.1
        rw [h3, h4, if_neg (by omega), if_neg (by omega)]
        exact hC.2 j q hj
      · have hlt := gt_lt hj
        rw [List.length_append, List.length_replicate] at hlt
        rw [List.getElem?_append_right (by omega), List.getElem?_replicate] at hj
        have hc1 := hC.1
        rw [if_pos (by omega)] at hj
        have e := Option.some.inj hj
        rw [h3, h4, if_pos (by omega), if_pos (by omega), ← e]
        refine ⟨rfl, ?_⟩
        rw [h8]
        by_cases cs : z.1 5 i = 34
        · rw [if_pos cs, if_pos (decide_eq_true cs)]; decide
        · rw [if_neg cs, if_neg (fun w => cs (of_decide_eq_true w))]; decide
    · have hn : (m ++ (N ++ [(83, i, l2.toNatClampNeg)])).head?.bind idE = none := by
        rcases h11 with ⟨_, _, e3⟩ | ⟨_, _, _, e3⟩ <;> (rw [e3]; rfl)
      rw [id_no hn, f25]
      exact ⟨hI.1, fun j q hj => by rw [md1.2.1 38 (by decide) (by decide)]; exact hI.2 j q hj⟩
  · refine ⟨PN_told hl hT h5 h7 ta (q := (l2.toNatClampNeg, 1, 0, 0)) rfl hT.2.2.1 (by rw [md1.1 23 (by decide)]; exact (Int.add_zero _).symm) (by rw [h1]; rfl) (by rw [md1.1 25 (by decide)]; exact (Int.add_zero _).symm), ?_, ?_⟩
    · rw [cel_no h5 h7 (fun w hw => by rw [List.mem_singleton.mp hw]; show ¬ (33 = 31 ∨ 33 = 32 ∨ 80 ≤ 33); decide), md1.1 23 (by decide), md1.2.1 36 (by decide) (by decide), md1.2.1 37 (by decide) (by decide)]
      exact hC
    · rw [id_no rfl, md1.1 25 (by decide), md1.2.1 38 (by decide) (by decide)]
      exact hI
  · have g25 := g.2.2.2.2.1
    have hlow : ∀ w ∈ N, ¬ (w.1 = 31 ∨ w.1 = 32 ∨ 80 ≤ w.1) := lo_not (wB_lo (fun e M g => wS_lo 17 e M g) h6)
    have hM : ∀ w ∈ [(34, l2.toNatClampNeg, id'.toNatClampNeg)] ++ N, ¬ (w.1 = 31 ∨ w.1 = 32 ∨ 80 ≤ w.1) := fun w hw => by
      rcases List.mem_append.mp hw with hw | hw
      · rw [List.mem_singleton.mp hw]; show ¬ (34 = 31 ∨ 34 = 32 ∨ 80 ≤ 34); decide
      · exact hlow w hw
    refine ⟨PN_told hl hT h5 h7 ta (q := (l2.toNatClampNeg, 2, 0, 0)) rfl hT.2.2.2 (by rw [md1.1 23 (by decide)]; exact (Int.add_zero _).symm) (by rw [md1.1 24 (by decide)]; exact (Int.add_zero _).symm) (by rw [h1]; rfl), ?_, ?_⟩
    · rw [cel_no h5 h7 hM, md1.1 23 (by decide), md1.2.1 36 (by decide) (by decide), md1.2.1 37 (by decide) (by decide)]
      exact hC
    · have hq : ([(34, l2.toNatClampNeg, id'.toNatClampNeg)] ++ N).head?.bind idE = some id'.toNatClampNeg := rfl
      rw [fm_one (f := fun M : gU => M.head?.bind idE) (M := [(34, l2.toNatClampNeg, id'.toNatClampNeg)] ++ N) hq]
      have u25 := t_cl (z.1 0 25)
      have c1 := hI.1
      refine ⟨by rw [h1, c1, List.length_append]; rfl, sn_get (fun t q e => ?_) ?_⟩
      · have ht := gt_lt e
        rw [h3 t, if_neg (by omega)]
        exact hI.2 t q e
      · rw [h3, if_pos (by omega)]
        rcases h2 with e | e <;> (rw [e]; decide)
  · have hM : ∀ w ∈ [(35, i, 0)] ++ (N ++ [(54, 0, 0)]), ¬ (w.1 = 31 ∨ w.1 = 32 ∨ 80 ≤ w.1) := fun w hw => by
      rcases List.mem_append.mp hw with hw | hw
      · rw [List.mem_singleton.mp hw]; show ¬ (35 = 31 ∨ 35 = 32 ∨ 80 ≤ 35); decide
      · rcases List.mem_append.mp hw with hw | hw
        · have := vV_80 h3 w hw; omega
        · rw [List.mem_singleton.mp hw]; show ¬ (54 = 31 ∨ 54 = 32 ∨ 80 ≤ 54); decide
    refine ⟨?_, ?_, ?_⟩
    · rw [h5, h7, fm_no (f := te (z.1 5) (z.1 7)) (M := [(35, i, 0)] ++ (N ++ [(54, 0, 0)])) rfl, md1.1 23 (by decide), md1.1 24 (by decide), md1.1 25 (by decide), md1.2.1 32 (by decide) (by decide)]
      exact hT
    · rw [cel_no h5 h7 hM, md1.1 23 (by decide), md1.2.1 36 (by decide) (by decide), md1.2.1 37 (by decide) (by decide)]
      exact hC
    · rw [id_no rfl, md1.1 25 (by decide), md1.2.1 38 (by decide) (by decide)]
      exact hI
  · have hM : ∀ w ∈ [(36, i, 0)] ++ (N ++ [(54, 0, 0)]), ¬ (w.1 = 31 ∨ w.1 = 32 ∨ 80 ≤ w.1) := fun w hw => by
      rcases List.mem_append.mp hw with hw | hw
      · rw [List.mem_singleton.mp hw]; show ¬ (36 = 31 ∨ 36 = 32 ∨ 80 ≤ 36); decide
      · rcases List.mem_append.mp hw with hw | hw
        · have := vV_80 h3 w hw; omega
        · rw [List.mem_singleton.mp hw]; show ¬ (54 = 31 ∨ 54 = 32 ∨ 80 ≤ 54); decide
    refine ⟨?_, ?_, ?_⟩
    · rw [h5, h7, fm_no (f := te (z.1 5) (z.1 7)) (M := [(36, i, 0)] ++ (N ++ [(54, 0, 0)])) rfl, md1.1 23 (by decide), md1.1 24 (by decide), md1.1 25 (by decide), md1.2.1 32 (by decide) (by decide)]
      exact hT
    · rw [cel_no h5 h7 hM, md1.1 23 (by decide), md1.2.1 36 (by decide) (by decide), md1.2.1 37 (by decide) (by decide)]
      exact hC
    · rw [id_no rfl, md1.1 25 (by decide), md1.2.1 38 (by decide) (by decide)]
      exact hI
end PVS
/-- what reading all definitions does -/
def FA (x z : gd) : Prop := ∃ Ds : List gU, pAl (x.1 5) (x.1 7) 701 (0, 0, 0, 0, 0) 0 [] = (nwo z).map (fun j => (cn z, j, Ds.flatten)) ∧ ((z.1 0 9).toInt = 0 → PV z Ds ∧ PN5 z Ds)
theorem sf_defs {G : mG} {D : Nat} {x : gd} {P : Option gv → gd → Prop} (hD : 87 ≤ D) (pn : PN x) (pg : PG x) (hb : (x.1 0 9).toInt = 0) (h8 : x.1 0 8 = 0) (hc : cn x = (0, 0, 0, 0, 0)) (h28 : x.1 0 28 = 0) (next : ∀ z, mQ x z → PN z → ((z.1 0 9).toInt = 0 → PG z) → FA x z → MT G D z_compile 69 [(0, vr 0)] [] z P) : MT G D z_compile 48 [(0, vr 0)] [] x P := by
  obtain ⟨D, rfl⟩ : ∃ m, D = m + 87 := ⟨D - 87, by omega⟩
  obtain ⟨K, eK⟩ : ∃ K, K = x.1 5 := ⟨_, rfl⟩
  obtain ⟨V, eV⟩ : ∃ V, V = x.1 7 := ⟨_, rfl⟩
  have z5 : ∀ {z : gd}, mQ x z → z.1 5 = K := fun m => by rw [eK]; exact m.2.1 5 (by decide) (by decide)
  have z7 : ∀ {z : gd}, mQ x z → z.1 7 = V := fun m => by rw [eV]; exact m.2.1 7 (by decide) (by decide)
  have fin : ∀ z (Ds : List gU) (f : Nat), mQ x z → PN z → ((z.1 0 9).toInt = 0 → PG z) → pAl K V 701 (0, 0, 0, 0, 0) 0 [] = (nwo z).bind (fun j => pAl K V (f + 1) (cn z) j Ds.flatten) → ((z.1 0 9).toInt = 0 → PV z Ds ∧ PN5 z Ds) → (∀ j, nwo z = some j → K j = 0) → MT G (D + 87) z_compile 69 [(0, vr 0)] [] z P := by
    intro z Ds f mz pz gz e v hk
    refine next z mz pz gz ⟨Ds, ?_, v⟩
    rw [← eK, ← eV, e]
    cases q : nwo z with
    | none => rfl
    | some j =>
      show pAl K V (f + 1) (cn z) j Ds.flatten = some (cn z, j, Ds.flatten)
      rw [pAl, if_pos (hk j q)]
  have loop : ∀ (n : Nat) (z : gd) (Ds : List gU), mQ x z → PN z → ((z.1 0 9).toInt = 0 → PG z) → ((z.1 0 9).toInt = 0 → 700 - (z.1 0 8).toInt < n + 1) → pAl K V 701 (0, 0, 0, 0, 0) 0 [] = (nwo z).bind (fun j => pAl K V (n + 1) (cn z) j Ds.flatten) → ((z.1 0 9).toInt = 0 → PV z Ds ∧ PN5 z Ds) → MT G (D + 87) z_compile 48 [(0, vr 0)] [] z P := by
    intro n
    induction n with
    | zero =>
      intro z Ds mz pz gz hn e v
      have nob : ∀ c : ¬ z.1 0 9 = 0, ∀ j, nwo z = some j → K j = 0 := fun c j hj => absurd (t_eq.mpr (nwo_is hj).1) c
      refine sg_compile_48 ⟨fun c => fin z Ds 0 mz pz gz e v (nob c), fun c => sp_here pz (fun r _ hr => ⟨fun c2 => fin z Ds 0 mz pz gz e v (fun j hj => ?_), fun c2 => ?_⟩)⟩
      · have q := nwo_is hj
        rw [← z5 mz, ← q.2, ← hr q.1]
        exact c2
      · have bz : (z.1 0 9).toInt = 0 := by rw [c]; rfl
        -- the last place: whatever stands there is refused
        refine sf_readDef (by omega) pz (gz bz) bz (fun y hy hf => ?_)
        have p8 := pz.2.1
        have h7 := hn bz
        have y8 := hy.2.1.2.1
        have yb : ¬ (y.1 0 9).toInt = 0 := fun q => by have := (hy.2.2 q).2; omega
        have y9 := hy.2.1.2.2.1
        have my : mQ x y := md_tr mz hy.1 rfl rfl
        obtain ⟨M, f1, -⟩ := hf
        have ny : nwo y = none := nwo_b (by omega)
        refine sg_compile_48 ⟨fun _ => next y my hy.2.1 (fun q => absurd q yb) ⟨[], ?_, fun q => absurd q yb⟩, fun c3 => absurd (by rw [c3]; rfl) yb⟩
        rw [← eK, ← eV, e, ny, nwo_o bz]
        show pAl K V (0 + 1) (cn z) (z.1 0 8).toNatClampNeg Ds.flatten = none
        rw [pAl]
        have f2 := f1 Ds.flatten
        rw [ny, nwo_o bz, z5 mz, z7 mz] at f2
        have f3 : pD K V (cn z) (z.1 0 8).toNatClampNeg Ds.flatten = none := f2
        rw [f3, if_neg]
        · rfl
        · rw [← z5 mz, ← hr bz]
          exact c2
    | succ n ih =>
      intro z Ds mz pz gz hn e v
      have nob : ∀ c : ¬ z.1 0 9 = 0, ∀ j, nwo z = some j → K j = 0 := fun c j hj => absurd (t_eq.mpr (nwo_is hj).1) c
      refine sg_compile_48 ⟨fun c => fin z Ds (n + 1) mz pz gz e v (nob c), fun c => sp_here pz (fun r _ hr => ⟨fun c2 => fin z Ds (n + 1) mz pz gz e v (fun j hj => ?_), fun c2 => ?_⟩)⟩
      · have q := nwo_is hj
        rw [← z5 mz, ← q.2, ← hr q.1]
        exact c2
      · have bz : (z.1 0 9).toInt = 0 := by rw [c]; rfl
        refine sf_readDef (by omega) pz (gz bz) bz (fun y hy hf => ?_)
        obtain ⟨M, f1, f2⟩ := hf
        have my : mQ x y := md_tr mz hy.1 rfl rfl
        refine ih y (Ds ++ [M]) my hy.2.1 (fun q => (hy.2.2 q).1) (fun q => ?_) ?_ (fun q => ?_)
        · have := (hy.2.2 q).2
          have := hn bz
          omega
        · rw [e]
          have g := f1 Ds.flatten
          rw [z5 mz, z7 mz] at g
          have nz := nwo_o bz
          rw [nz] at g ⊢
          have g : pD K V (cn z) (z.1 0 8).toNatClampNeg Ds.flatten = (nwo y).map (fun j => (cn y, j, Ds.flatten ++ M)) := g
          show pAl K V (n + 1 + 1) (cn z) (z.1 0 8).toNatClampNeg Ds.flatten = _
          rw [pAl, if_neg (by rw [← z5 mz, ← hr bz]; exact c2), g, List.flatten_append]
          have e2 : ([M] : List gU).flatten = M := by simp
          rw [e2]
          cases nwo y <;> rfl
        · obtain ⟨nn, d⟩ := f2 q
          have y5 : y.1 5 = z.1 5 := by rw [z5 mz, z5 my]
          have y7 : y.1 7 = z.1 7 := by rw [z7 mz, z7 my]
          exact ⟨PV_step (v bz).1 (gz bz).2.2.1 nn y5 y7 d, PN5_step (v bz).2 (v bz).1.1 (gz bz).2.2.1 nn y5 y7 d⟩
  have n0 : nwo x = some 0 := by rw [nwo_o hb, h8]; rfl
  refine loop 700 x [] (md_w (md_rf x) (by decide) (by decide)) pn (fun _ => pg) (fun _ => by have := pn.1; omega) ?_ (fun _ => ?_)
  · rw [n0, hc]; rfl
  · have c2 : (x.1 0 25).toNatClampNeg = 0 := congrArg (fun n : gN => n.2.2.1) hc
    have c3 : (x.1 0 26).toNatClampNeg = 0 := congrArg (fun n : gN => n.2.2.2.1) hc
    have c4 : (x.1 0 27).toNatClampNeg = 0 := congrArg (fun n : gN => n.2.2.2.2) hc
    have gb := pg.2.2.1
    have c0 : (x.1 0 23).toNatClampNeg = 0 := congrArg (fun n : gN => n.1) hc
    have c1 : (x.1 0 24).toNatClampNeg = 0 := congrArg (fun n : gN => n.2.1) hc
    have u0 := t_cl (x.1 0 23)
    have u1 := t_cl (x.1 0 24)
    have u2 := t_cl (x.1 0 25)
    obtain ⟨b1, b2, b3, b4, b5, b6, _⟩ := gb
    refine ⟨⟨⟨⟨by rw [h28]; rfl, fun j q e => ?_⟩, ⟨by rw [c2]; rfl, fun j q e => ?_⟩, ⟨by rw [c3]; rfl, fun j q e => ?_⟩, ⟨by rw [c4]; rfl, fun j q e => ?_⟩⟩, fun M hM => by cases hM⟩, ⟨fun j q e => ?_, by show (x.1 0 23).toInt = 0; omega, by show (x.1 0 24).toInt = 0; omega, by show (x.1 0 25).toInt = 0; omega⟩, ⟨by show (x.1 0 23).toInt = 0; omega, fun j q e => absurd (show j < 0 from gt_lt e) (Nat.not_lt_zero _)⟩, by show (x.1 0 25).toInt = 0; omega, fun j q e => ?_⟩
    all_goals
      have := gt_lt e
      simp at this
