/-! readR: what it reads -/
theorem FX_pre {x : gd} (N : gU) : FX x x (fun i L => some (i, L ++ N)) N := by
  intro L
  cases nwo x with
  | none => rfl
  | some i => rfl
theorem pE_name {K : Nat → Int32} {f i : Nat} {L : gU} (h : K i = 1) (h2 : pst (K (i + 1)) = 0) : pE K false f 0 i L = if i < 700 ∧ 1 ≤ f then some (i + 1, L ++ [(3, i, 0)]) else none := by
  cases f with
  | zero => rw [if_neg (by omega)]; rfl
  | succ f =>
    rw [pE, if_pos (Or.inr (Or.inr (Or.inl h))), if_neg (by rw [h]; decide), pO_n (by rw [h]; decide) (by rw [h]; decide) (by rw [h]; decide) rfl, psw]
    by_cases q : i < 700
    · rw [if_pos (show K i = 1 ∧ i < 700 from ⟨h, q⟩), if_pos (show i < 700 ∧ 1 ≤ f + 1 from ⟨q, by omega⟩)]
      show pW (pE K false f) K 0 (700 + 1) (i + 1) (L ++ [(3, i, 0)]) = _
      rw [pW, if_neg (by omega)]
    · rw [if_neg (fun z => q z.2), if_neg (fun z => q z.1)]; rfl
section PR
variable {K : Nat → Int32} {f i : Nat} {t : Option Nat} {L : gU}
theorem pR_x (h : K i = 35 ∨ K i = 10 ∨ K i = 16) : pR K f t i L = (ps1 i).bind (fun j => (pP K f j (L ++ pme t)).bind (fun q => (pt K 68 q).bind (fun q => (pXq K f q).bind (fun q => (if K i = 16 then (pt K 68 q).bind (pXq K f) else some q).bind (pan (74, i, 0)))))) := by
  rw [pR, if_pos h, ps1]
  by_cases q : i < 700
  · rw [if_pos q, if_pos q, Option.bind_assoc, Option.bind_assoc]
    rfl
  · rw [if_neg q, if_neg q]; rfl
theorem pR_row (h : K i = 1) (hi : i < 700) (h2 : K (i + 1) = 65) : pR K f t i L = (pP K f i (L ++ pme t)).bind (pan (75, i, 0)) := by
  rw [pR, if_neg (by rw [h]; decide), if_pos ⟨h, hi, h2⟩]
theorem pR_al (h : K i = 1) (h2 : K (i + 1) = 67) : pR K f t i L = if i < 700 ∧ 1 ≤ f then some (i + 1, L ++ [pal t i]) else none := by
  rw [pR, if_neg (by rw [h]; decide), if_neg (fun z => by rw [h2] at z; exact absurd z.2.2 (by decide)), if_pos ⟨h, h2⟩]
theorem pR_e (h : ¬ (K i = 35 ∨ K i = 10 ∨ K i = 16)) (h1 : ¬ (K i = 1 ∧ i < 700 ∧ K (i + 1) = 65)) (h2 : ¬ (K i = 1 ∧ K (i + 1) = 67)) : pR K f t i L = (pX K false f i (L ++ pma t)).bind (pan (76, i, 0)) := by
  rw [pR, if_neg h, if_neg h1, if_neg h2]
end PR
/-- what a right side tells: of a let (none), or of what is set (some) -/
def vRr (x : gd) (r : Int32) (tg : Option Nat) (M : gU) : Prop := (0 ≤ r.toInt ∧ r.toInt < (x.1 0 13).toInt) ∧ ∃ t, t = (x.1 19 r.toNatClampNeg).toNatClampNeg ∧
  ((x.1 15 r.toNatClampNeg = 10 ∧ (x.1 5 t = 1 ∧ x.1 5 (t + 1) = 67) ∧ M = [pal tg t] ∧ (∃ n M1, vV x false n (x.1 16 r.toNatClampNeg) M1) ∧ x.1 15 (x.1 16 r.toNatClampNeg).toNatClampNeg = 3 ∧ (x.1 19 (x.1 16 r.toNatClampNeg).toNatClampNeg).toNatClampNeg = t) ∨
   (x.1 15 r.toNatClampNeg = 10 ∧ ¬ (x.1 5 t = 1 ∧ x.1 5 (t + 1) = 67) ∧ ∃ n M1, vV x false n (x.1 16 r.toNatClampNeg) M1 ∧ M = pma tg ++ ((M1 ++ [(54, 0, 0)]) ++ [(76, t, 0)])) ∨
   (x.1 15 r.toNatClampNeg = 11 ∧ ∃ M1, vQ x (x.1 16 r.toNatClampNeg) M1 ∧ M = pme tg ++ (M1 ++ [(75, t, 0)])) ∨
   (((x.1 15 r.toNatClampNeg = 12 ∧ x.1 5 t = 35) ∨ (x.1 15 r.toNatClampNeg = 13 ∧ x.1 5 t = 10)) ∧ ∃ n M1 M2, vQ x (x.1 16 r.toNatClampNeg) M1 ∧ vV x false n (x.1 17 r.toNatClampNeg) M2 ∧ M = pme tg ++ (M1 ++ ((M2 ++ [(54, 0, 0)]) ++ [(74, t, 0)]))) ∨
   (x.1 15 r.toNatClampNeg = 14 ∧ x.1 5 t = 16 ∧ ∃ n m M1 M2 M3, vQ x (x.1 16 r.toNatClampNeg) M1 ∧ vV x false n (x.1 17 r.toNatClampNeg) M2 ∧ vV x false m (x.1 18 r.toNatClampNeg) M3 ∧ M = pme tg ++ (M1 ++ ((M2 ++ [(54, 0, 0)]) ++ ((M3 ++ [(54, 0, 0)]) ++ [(74, t, 0)])))))
/-- nodes that stay, kinds and values too -/
def NF (x x' : gd) : Prop := NK x x' ∧ x'.1 5 = x.1 5 ∧ x'.1 7 = x.1 7
theorem NF_RP {x x' : gd} (h : RP x x') : NF x x' := ⟨NK_RP h, h.1.2.1 5 (by decide) (by decide), h.1.2.1 7 (by decide) (by decide)⟩
theorem NF_tr {x y z : gd} (a : NF x y) (b : NF y z) : NF x z := by
  refine ⟨⟨Int.le_trans a.1.1 b.1.1, fun c h1 h2 j hj => ?_⟩, b.2.1.trans a.2.1, b.2.2.trans a.2.2⟩
  have := a.1.1
  rw [b.1.2 c h1 h2 j (by omega), a.1.2 c h1 h2 j hj]
theorem vV_NF {x x' : gd} {o : Bool} (h : NF x x') {n : Nat} {e : Int32} {M : gU} (q : vV x o n e M) : vV x' o n e M := vV_keep h.1.1 h.2.1 h.2.2 h.1.2 n e M q
theorem vQ_NF {x x' : gd} (h : NF x x') {p : Int32} {M : gU} (q : vQ x p M) : vQ x' p M := by
  obtain ⟨b, q⟩ := q
  obtain ⟨a1, a2, a3, a4, a5, a6⟩ := NK_at h.1 b
  refine ⟨a1, ?_⟩
  rw [a3, a6]
  rcases q with q | ⟨q, n, M1, v, e⟩
  · exact Or.inl q
  · exact Or.inr ⟨q, n, M1, vV_NF h v, e⟩
theorem vV_at {x : gd} {o : Bool} {n : Nat} {e : Int32} {M : gU} (q : vV x o n e M) : 0 ≤ e.toInt ∧ e.toInt < (x.1 0 13).toInt := by
  cases n with
  | zero => exact q.elim
  | succ n => exact q.1
theorem vRr_NF {x x' : gd} (h : NF x x') {r : Int32} {tg : Option Nat} {M : gU} (q : vRr x r tg M) : vRr x' r tg M := by
  obtain ⟨b, t, et, q⟩ := q
  obtain ⟨a1, a2, a3, a4, a5, a6⟩ := NK_at h.1 b
  refine ⟨a1, t, by rw [a6]; exact et, ?_⟩
  rw [a2, a3, a4, a5, h.2.1]
  rcases q with ⟨q1, q2, q3, ⟨n, M1, v⟩, q5, q6⟩ | ⟨q1, q2, n, M1, v, e⟩ | ⟨q1, M1, v, e⟩ | ⟨q1, n, M1, M2, v1, v2, e⟩ | ⟨q1, q2, n, m, M1, M2, M3, v1, v2, v3, e⟩
  · obtain ⟨c1, c2, c3, c4, c5, c6⟩ := NK_at h.1 (vV_at v)
    exact Or.inl ⟨q1, q2, q3, ⟨n, M1, vV_NF h v⟩, by rw [c2]; exact q5, by rw [c6]; exact q6⟩
  · exact Or.inr (Or.inl ⟨q1, q2, n, M1, vV_NF h v, e⟩)
  · exact Or.inr (Or.inr (Or.inl ⟨q1, M1, vQ_NF h v, e⟩))
  · exact Or.inr (Or.inr (Or.inr (Or.inl ⟨q1, n, M1, M2, vQ_NF h v1, vV_NF h v2, e⟩)))
  · exact Or.inr (Or.inr (Or.inr (Or.inr ⟨q1, q2, n, m, M1, M2, M3, vQ_NF h v1, vV_NF h v2, vV_NF h v3, e⟩)))
def FRr (k : Nat) (x : gd) (r : Int32) (x' : gd) : Prop := (∀ tg, ∃ M, FX x x' (pR (x.1 5) k tg) M ∧ ((x'.1 0 9).toInt = 0 → vRr x' r tg M)) ∧ ((x'.1 0 9).toInt = 0 → x'.1 15 r.toNatClampNeg = 10 → x'.1 15 (x'.1 16 r.toNatClampNeg).toNatClampNeg = 3 → x.1 5 (x.1 0 8).toNatClampNeg = 1 ∧ (x'.1 0 8).toNatClampNeg = (x.1 0 8).toNatClampNeg + 1 ∧ (x'.1 19 r.toNatClampNeg).toNatClampNeg = (x.1 0 8).toNatClampNeg)
