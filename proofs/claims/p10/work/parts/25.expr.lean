/-! trees of expressions: vE x n s h e: from the node e on, at most n deep, s nodes, h values on the pile -/
def vE (x : gd) : Nat → Nat → Nat → Int32 → Prop
  | 0, _, _, _ => False
  | n + 1, s, h, e => (0 ≤ e.toInt ∧ e.toInt < (x.1 0 13).toInt) ∧ 1 ≤ s ∧ 1 ≤ h ∧ vp_in (x.1 19 e.toNatClampNeg) 710 ∧
      ((x.1 15 e.toNatClampNeg = 1 ∨ x.1 15 e.toNatClampNeg = 2 ∨ x.1 15 e.toNatClampNeg = 3) ∨ (x.1 15 e.toNatClampNeg = 4 ∧ vp_in (x.1 16 e.toNatClampNeg) 710) ∨ (x.1 15 e.toNatClampNeg = 5 ∧ vE x n (s - 1) h (x.1 17 e.toNatClampNeg)) ∨
        (x.1 15 e.toNatClampNeg = 6 ∧ ∃ a b : Nat, a + b + 1 ≤ s ∧ 2 ≤ h ∧ vE x n a h (x.1 17 e.toNatClampNeg) ∧ vE x n b (h - 1) (x.1 18 e.toNatClampNeg)))
theorem vE_mono {x : gd} : ∀ (n n' s s' h h' : Nat) (e : Int32), n ≤ n' → s ≤ s' → h ≤ h' → vE x n s h e → vE x n' s' h' e := by
  intro n
  induction n with
  | zero => intro n' s s' h h' e _ _ _ q; exact q.elim
  | succ n ih =>
    intro n' s s' h h' e h1 h2 h3 q
    obtain ⟨n', rfl⟩ : ∃ m, n' = m + 1 := ⟨n' - 1, by omega⟩
    obtain ⟨q1, q2, q3, q4, q5⟩ := q
    refine ⟨q1, by omega, by omega, q4, ?_⟩
    rcases q5 with q | q | ⟨q, g⟩ | ⟨q, a, b, g1, g2, g3, g4⟩
    · exact Or.inl q
    · exact Or.inr (Or.inl q)
    · exact Or.inr (Or.inr (Or.inl ⟨q, ih _ _ _ _ _ _ (by omega) (by omega) h3 g⟩))
    · exact Or.inr (Or.inr (Or.inr ⟨q, a, b, by omega, by omega, ih _ _ _ _ _ _ (by omega) (Nat.le_refl _) h3 g3, ih _ _ _ _ _ _ (by omega) (Nat.le_refl _) (by omega) g4⟩))
theorem vE_keep {x x' : gd} (hn : (x.1 0 13).toInt ≤ (x'.1 0 13).toInt) (hk : ∀ c : Nat, 15 ≤ c → c ≤ 19 → ∀ j : Nat, (j : Int) < (x.1 0 13).toInt → x'.1 c j = x.1 c j) : ∀ (n s h : Nat) (e : Int32), vE x n s h e → vE x' n s h e := by
  intro n
  induction n with
  | zero => intro s h e q; exact q.elim
  | succ n ih =>
    intro s h e q
    obtain ⟨q1, q2, q3, q4, q5⟩ := q
    have hj : ((e.toNatClampNeg : Nat) : Int) < (x.1 0 13).toInt := by rw [t_cl]; omega
    have e15 := hk 15 (by decide) (by decide) _ hj
    have e16 := hk 16 (by decide) (by decide) _ hj
    have e17 := hk 17 (by decide) (by decide) _ hj
    have e18 := hk 18 (by decide) (by decide) _ hj
    have e19 := hk 19 (by decide) (by decide) _ hj
    refine ⟨⟨q1.1, by omega⟩, q2, q3, by rw [e19]; exact q4, ?_⟩
    rw [e15, e16, e17, e18]
    rcases q5 with q | q | ⟨q, g⟩ | ⟨q, a, b, g1, g2, g3, g4⟩
    · exact Or.inl q
    · exact Or.inr (Or.inl q)
    · exact Or.inr (Or.inr (Or.inl ⟨q, ih _ _ _ g⟩))
    · exact Or.inr (Or.inr (Or.inr ⟨q, a, b, g1, g2, ih _ _ _ g3, ih _ _ _ g4⟩))
theorem vE_RP {x x' : gd} (h : RP x x') {n s k : Nat} {e : Int32} (q : vE x n s k e) : vE x' n s k e :=
  vE_keep h.2.2.2.2.1 (fun c h1 h2 j hj => h.2.2.2.2.2 c h1 (by omega) j hj) n s k e q
theorem nE_at {x x' : gd} {w a b c t : Int32} (h : nE x x' w a b c t) : x'.1 15 (x.1 0 13).toNatClampNeg = w ∧ x'.1 16 (x.1 0 13).toNatClampNeg = a ∧ x'.1 17 (x.1 0 13).toNatClampNeg = b ∧ x'.1 18 (x.1 0 13).toNatClampNeg = c ∧ x'.1 19 (x.1 0 13).toNatClampNeg = t ∧ x'.1 20 (x.1 0 13).toNatClampNeg = -1 := by
  obtain ⟨m, e, h5, h6, h7, h8, h9, h10⟩ := h
  exact ⟨by rw [h5, if_pos rfl], by rw [h6, if_pos rfl], by rw [h7, if_pos rfl], by rw [h8, if_pos rfl], by rw [h9, if_pos rfl], by rw [h10, if_pos rfl]⟩
theorem vE_leaf {x x' : gd} {w a b c t : Int32} {n s k : Nat} (hp : PN x) (hn : vp_in (x.1 0 13) 3000) (h : nE x x' w a b c t) (ht : vp_in t 710) (hw : (w = 1 ∨ w = 2 ∨ w = 3) ∨ (w = 4 ∧ vp_in a 710)) (h1 : 1 ≤ n) (h2 : 1 ≤ s) (h3 : 1 ≤ k) : vE x' n s k (x.1 0 13) := by
  obtain ⟨n, rfl⟩ : ∃ m, n = m + 1 := ⟨n - 1, by omega⟩
  have hv := vp_in_iff.mp hn
  obtain ⟨-, q1⟩ := RP_nE hp hn h
  obtain ⟨g1, g2, g3, g4, g5, -⟩ := nE_at h
  refine ⟨⟨hv.1, by omega⟩, h2, h3, by rw [g5]; exact ht, ?_⟩
  rw [g1, g2]
  rcases hw with q | q
  · exact Or.inl q
  · exact Or.inr (Or.inl q)
theorem vE_one {x x' : gd} {a b c t : Int32} {n s k : Nat} (hp : PN x) (hn : vp_in (x.1 0 13) 3000) (h : nE x x' 5 a b c t) (ht : vp_in t 710) (hb : vE x n s k b) : vE x' (n + 1) (s + 1) k (x.1 0 13) := by
  have hv := vp_in_iff.mp hn
  obtain ⟨r1, q1⟩ := RP_nE hp hn h
  obtain ⟨g1, g2, g3, g4, g5, -⟩ := nE_at h
  have k1 : 1 ≤ k := by
    cases n with
    | zero => exact hb.elim
    | succ n => exact hb.2.2.1
  refine ⟨⟨hv.1, by omega⟩, by omega, k1, by rw [g5]; exact ht, Or.inr (Or.inr (Or.inl ⟨g1, ?_⟩))⟩
  rw [g3]
  exact vE_RP r1 hb
theorem vE_two {x x' : gd} {a b c t : Int32} {n s1 s2 k : Nat} (hp : PN x) (hn : vp_in (x.1 0 13) 3000) (h : nE x x' 6 a b c t) (ht : vp_in t 710) (hb : vE x n s1 (k + 1) b) (hc : vE x n s2 k c) : vE x' (n + 1) (s1 + s2 + 1) (k + 1) (x.1 0 13) := by
  have hv := vp_in_iff.mp hn
  obtain ⟨r1, q1⟩ := RP_nE hp hn h
  obtain ⟨g1, g2, g3, g4, g5, -⟩ := nE_at h
  have k1 : 1 ≤ k := by
    cases n with
    | zero => exact hc.elim
    | succ n => exact hc.2.2.1
  refine ⟨⟨hv.1, by omega⟩, by omega, by omega, by rw [g5]; exact ht, Or.inr (Or.inr (Or.inr ⟨g1, s1, s2, Nat.le_refl _, by omega, ?_, ?_⟩))⟩
  · rw [g3]; exact vE_RP r1 hb
  · rw [g4]; exact vE_RP r1 hc
section SPE
variable {G : mG} {d : Nat} {x : gd} {F : Int32 → gd → Prop} {Fv : gd → Prop}
theorem sp_deeper (hp : PN x) (hb : (x.1 0 9).toInt = 0) (hm0 : 0 ≤ (x.1 0 20).toInt) (hm : (x.1 0 20).toInt ≤ 16) (h0 : ∀ x', md [9, 10, 20] [] x x' → PN x' → 0 < (x'.1 0 9).toInt → F 0 x') (h1 : ∀ x', md [20] [] x x' → (x.1 0 20).toInt < 16 → (x'.1 0 20).toInt = (x.1 0 20).toInt + 1 → F 1 x') : MT G (d + 1) z_deeper 0 [(0, vr 0)] [] x (ri F) := by
  have k0 : (0 : Int32).toInt = 0 := rfl
  have k1 : (1 : Int32).toInt = 1 := rfl
  have k16 : (16 : Int32).toInt = 16 := rfl
  refine sg_deeper_0 ⟨fun c => ?_, fun _ => ⟨fun c => sg_deeper_25 (fun x1 e1 => ⟨fun c1 => ?_, fun c1 => ri_i ?_⟩), fun c => sp_fault _ _ (by decide) (PN_v hp) hp (fun x3 hs hb3 e8 m3 => sg_deeper_25 (fun x1 e1 => ⟨fun c1 => ri_i ?_, fun c1 => ?_⟩))⟩⟩
  · exfalso; rw [t_eq, k0] at c; exact c hb
  · exfalso
    rw [e1, si_get, if_neg (by decide), t_eq, k0] at c1
    exact c1 hb
  · have m1 := md_f x 20 (x.1 0 20 + 1)
    rw [← e1] at m1
    rw [t_eq, k16] at c
    exact h1 x1 m1 (by omega) (by rw [e1, si_get, if_pos ⟨rfl, rfl⟩, t_add (by omega) (by omega), k1])
  · have m1 := md_f x3 20 (x3.1 0 20 + 1)
    rw [← e1] at m1
    have g8 : x1.1 0 8 = x3.1 0 8 := m1.1 8 (by decide)
    have g9 : x1.1 0 9 = x3.1 0 9 := m1.1 9 (by decide)
    exact h0 x1 (md_tr m3 m1 rfl rfl) ⟨by rw [g8]; exact hs.2.1.1, by rw [g8]; exact hs.2.1.2.1, by rw [g9]; exact hs.2.1.2.2.1, TX_md m1 (by decide) (by decide) (by decide) (by decide) hs.2.1.2.2.2⟩ (by rw [g9]; exact hb3)
  · exfalso
    rw [e1, si_get, if_neg (by decide), t_eq, k0] at c1
    omega
theorem RP_9 {x x' : gd} (h : md [9, 10, 20] [] x x') (hp : PN x') (hb : (x'.1 0 9).toInt = 0 → (x.1 0 9).toInt = 0) : RP x x' := by
  have e8 : x'.1 0 8 = x.1 0 8 := h.1 8 (by decide)
  have e13 : x'.1 0 13 = x.1 0 13 := h.1 13 (by decide)
  refine ⟨md_w h (by decide) (by decide), hp, by rw [e8]; exact Int.le_refl _, hb, by rw [e13]; exact Int.le_refl _, fun c h1 h2 j hj => ?_⟩
  rw [h.2.1 c (by omega) (by intro q; cases q)]
def PreE (k : Nat) (s : Int) (x : gd) : Prop := PN x ∧ 0 ≤ (x.1 0 13).toInt ∧ (x.1 0 13).toInt ≤ 2 * (x.1 0 8).toInt + s ∧ s + 3 * (k + 1) ≤ 400 ∧ k ≤ 16 ∧ ((x.1 0 9).toInt = 0 → (x.1 0 20).toInt = 16 - k)
/-- what a read expression leaves: with no fault a tree as large as the tokens that were read -/
def PE (k : Nat) (s : Int) (x : gd) (r : Int32) (x' : gd) : Prop := RP x x' ∧ x'.1 0 21 = x.1 0 21 ∧ (x'.1 0 13).toInt ≤ 2 * (x'.1 0 8).toInt + s + 3 * (k + 1) ∧ 0 ≤ r.toInt ∧ ((x'.1 0 9).toInt = 0 → x'.1 0 20 = x.1 0 20 ∧ (x.1 0 8).toInt + 1 ≤ (x'.1 0 8).toInt ∧ (x'.1 0 13).toInt + 1 ≤ 2 * (x'.1 0 8).toInt + s ∧ vE x' ((x'.1 0 8).toInt - (x.1 0 8).toInt).toNat ((x'.1 0 8).toInt - (x.1 0 8).toInt).toNat (k + 1) r)
end SPE
