section
/-! laying expressions: whether something is found wrong -/
def LX (x y : gd) (X : Prop) : Prop := wr y ↔ wr x ∨ X
theorem LX_no {x : gd} {X : Prop} (h : ¬ X) : LX x x X := ⟨Or.inl, fun z => z.elim id (fun z => absurd z h)⟩
theorem LX_yes {x y : gd} {X : Prop} (h : X) (g : wr y) : LX x y X := ⟨fun _ => Or.inr h, fun _ => g⟩
theorem LX_tr {x y z : gd} {X Y : Prop} (a : LX x y X) (b : LX y z Y) : LX x z (X ∨ Y) := by
  unfold LX at a b ⊢
  rw [b, a, or_assoc]
theorem LX_eq {x y : gd} {X Y : Prop} (a : LX x y X) (h : X ↔ Y) : LX x y Y := by
  unfold LX at a ⊢
  rw [a, h]
theorem wr_e {x y : gd} (h : y.1 0 41 = x.1 0 41) : wr y ↔ wr x := by
  unfold wr
  rw [h]
theorem LX_to {x y z : gd} {X : Prop} (a : LX x y X) (h : z.1 0 41 = y.1 0 41) : LX x z X := by
  unfold LX at a ⊢
  rw [wr_e h]
  exact a
theorem LX_md {L A : List Nat} {x y z : gd} {X : Prop} (a : LX x y X) (h : md L A y z) (h41 : 41 ∉ L) : LX x z X := LX_to a (h.1 41 h41)
/-- the text's names, as they were read -/
def CT (sN : Nat → Nat → Bool) (T : gTd) (V K : Nat → Int32) (x : gd) : Prop := smB x = sN ∧ x.1 7 = V ∧ TRd x T ∧ x.1 5 = K
theorem CT_md {sN : Nat → Nat → Bool} {T : gTd} {V K : Nat → Int32} {L A : List Nat} {x y : gd} (h : md L A x y) (h28 : 28 ∉ L) (hA : [2, 5, 6, 7, 8, 30, 31, 32, 33, 34, 35].all (fun k => !A.elem k) = true) (q : CT sN T V K x) : CT sN T V K y := by
  have g := fun k (h0 : k ≠ 0) hk => h.2.1 k h0 (all_no' hA k hk)
  refine ⟨by rw [smB_e (g 2 (by decide) (by decide)) (g 6 (by decide) (by decide)) (g 8 (by decide) (by decide))]; exact q.1, by rw [g 7 (by decide) (by decide)]; exact q.2.1, ?_⟩
  refine ⟨TRd_md h h28 ?_ q.2.2.1, by rw [g 5 (by decide) (by decide)]; exact q.2.2.2⟩
  rw [List.all_eq_true]
  intro k hk
  have hk2 : k ∈ [2, 5, 6, 7, 8, 30, 31, 32, 33, 34, 35] := by
    simp only [List.mem_cons, List.not_mem_nil, or_false] at hk ⊢
    omega
  exact List.all_eq_true.mp hA k hk2
theorem flt_k {sN : Nat → Nat → Bool} {T : gTd} {V : Nat → Int32} {E : gV} {k a b : Nat} (h : [3, 6, 7, 12, 23, 24, 25, 26, 27, 65, 66, 67, 70].elem k = false) : ¬ flt sN T V [(k, a, b)] E := flt_no (fun u hu (e : k = u) => by
  rw [e, List.elem_iff.mpr hu] at h
  exact absurd h (by decide))
theorem vV_c {x : gd} {o : Bool} {n : Nat} {e : Int32} {M : gU} (h : vV x o n e M) :
    (x.1 15 e.toNatClampNeg = 1 → M = [(52, (x.1 19 e.toNatClampNeg).toNatClampNeg, 0)] ∧ x.1 16 e.toNatClampNeg = x.1 7 (x.1 19 e.toNatClampNeg).toNatClampNeg) ∧
    (x.1 15 e.toNatClampNeg = 2 → M = [(53, (x.1 19 e.toNatClampNeg).toNatClampNeg, 0)]) ∧
    (x.1 15 e.toNatClampNeg = 3 → M = [(if o = true then 6 else 3, (x.1 19 e.toNatClampNeg).toNatClampNeg, 0)]) ∧
    (x.1 15 e.toNatClampNeg = 4 → M = [(7, (x.1 19 e.toNatClampNeg).toNatClampNeg, 0), (12, (x.1 16 e.toNatClampNeg).toNatClampNeg, (x.1 19 e.toNatClampNeg).toNatClampNeg)]) ∧
    (x.1 15 e.toNatClampNeg = 5 → ∃ n1 M1 M2, vV x o n1 (x.1 17 e.toNatClampNeg) M1 ∧ M = M1 ++ M2 ∧ ((x.1 16 e.toNatClampNeg = 61 ∧ M2 = []) ∨ (¬ x.1 16 e.toNatClampNeg = 61 ∧ M2 = [(50, (x.1 19 e.toNatClampNeg).toNatClampNeg, 0)] ∧ x.1 16 e.toNatClampNeg = x.1 5 (x.1 19 e.toNatClampNeg).toNatClampNeg))) ∧
    ((∀ k ∈ [(1 : Int32), 2, 3, 4, 5], ¬ x.1 15 e.toNatClampNeg = k) → ∃ n1 M1 M2, vV x o n1 (x.1 17 e.toNatClampNeg) M1 ∧ vV x o n1 (x.1 18 e.toNatClampNeg) M2 ∧ M = M1 ++ (M2 ++ [(51, (x.1 19 e.toNatClampNeg).toNatClampNeg, 0)]) ∧ x.1 16 e.toNatClampNeg = x.1 5 (x.1 19 e.toNatClampNeg).toNatClampNeg) := by
  cases n with
  | zero => exact h.elim
  | succ n =>
    obtain ⟨-, h⟩ := h
    obtain ⟨a, ea⟩ : ∃ a, a = x.1 15 e.toNatClampNeg := ⟨_, rfl⟩
    rw [← ea] at h ⊢
    rcases h with ⟨q, r, r8⟩ | ⟨q, r⟩ | ⟨q, r⟩ | ⟨q, r, _⟩ | ⟨q, M1, g, r⟩ | ⟨q, M1, M2, g1, g2, r8, r⟩
    · subst q
      exact ⟨fun _ => ⟨r, r8⟩, fun c => absurd c (by decide), fun c => absurd c (by decide), fun c => absurd c (by decide), fun c => absurd c (by decide), fun c => absurd rfl (c 1 (by decide))⟩
    · subst q
      exact ⟨fun c => absurd c (by decide), fun _ => r, fun c => absurd c (by decide), fun c => absurd c (by decide), fun c => absurd c (by decide), fun c => absurd rfl (c 2 (by decide))⟩
    · subst q
      exact ⟨fun c => absurd c (by decide), fun c => absurd c (by decide), fun _ => r, fun c => absurd c (by decide), fun c => absurd c (by decide), fun c => absurd rfl (c 3 (by decide))⟩
    · subst q
      exact ⟨fun c => absurd c (by decide), fun c => absurd c (by decide), fun c => absurd c (by decide), fun _ => r, fun c => absurd c (by decide), fun c => absurd rfl (c 4 (by decide))⟩
    · subst q
      refine ⟨fun c => absurd c (by decide), fun c => absurd c (by decide), fun c => absurd c (by decide), fun c => absurd c (by decide), fun _ => ?_, fun c => absurd rfl (c 5 (by decide))⟩
      rcases r with ⟨r1, r2⟩ | ⟨r1, r2, r3⟩
      · exact ⟨n, M1, [], g, by rw [r2, List.append_nil], Or.inl ⟨r1, rfl⟩⟩
      · exact ⟨n, M1, _, g, r3, Or.inr ⟨r1, rfl, r2⟩⟩
    · subst q
      exact ⟨fun c => absurd c (by decide), fun c => absurd c (by decide), fun c => absurd c (by decide), fun c => absurd c (by decide), fun c => absurd c (by decide), fun _ => ⟨n, M1, M2, g1, g2, r, r8⟩⟩
/-- a sum changes nothing of what is known -/
theorem vV_st {x : gd} {o : Bool} : ∀ {n : Nat} {e : Int32} {M : gU}, vV x o n e M → still M := by
  intro n
  induction n with
  | zero => intro e M h; exact h.elim
  | succ n ih =>
    intro e M h
    obtain ⟨-, h⟩ := h
    rcases h with ⟨q, r, _⟩ | ⟨q, r⟩ | ⟨q, r⟩ | ⟨q, r, e⟩ | ⟨q, M1, g, r⟩ | ⟨q, M1, M2, g1, g2, _, r⟩
    · rw [r]; exact still_one ⟨by show ¬ 52 = 20; decide, by show ¬ 52 = 21; decide, by show ¬ 52 = 22; decide⟩
    · rw [r]; exact still_one ⟨by show ¬ 53 = 20; decide, by show ¬ 53 = 21; decide, by show ¬ 53 = 22; decide⟩
    · rw [r]
      cases o
      · exact still_one ⟨by show ¬ 3 = 20; decide, by show ¬ 3 = 21; decide, by show ¬ 3 = 22; decide⟩
      · exact still_one ⟨by show ¬ 6 = 20; decide, by show ¬ 6 = 21; decide, by show ¬ 6 = 22; decide⟩
    · rw [r]
      exact still_app (L := [_]) (M := [_]) (still_one ⟨by show ¬ 7 = 20; decide, by show ¬ 7 = 21; decide, by show ¬ 7 = 22; decide⟩) (still_one ⟨by show ¬ 12 = 20; decide, by show ¬ 12 = 21; decide, by show ¬ 12 = 22; decide⟩)
    · rcases r with ⟨_, r2⟩ | ⟨_, _, r3⟩
      · rw [r2]; exact ih g
      · rw [r3]; exact still_app (ih g) (still_one ⟨by show ¬ 50 = 20; decide, by show ¬ 50 = 21; decide, by show ¬ 50 = 22; decide⟩)
    · rw [r]
      exact still_app (ih g1) (still_app (ih g2) (still_one ⟨by show ¬ 51 = 20; decide, by show ¬ 51 = 21; decide, by show ¬ 51 = 22; decide⟩))
/-- a sum's events are a sum's -/
theorem vV_sE {x : gd} {o : Bool} : ∀ {n : Nat} {e : Int32} {M : gU}, vV x o n e M → sEv o M := by
  intro n
  induction n with
  | zero => intro e M h; exact h.elim
  | succ n ih =>
    intro e M h
    obtain ⟨-, h⟩ := h
    rcases h with ⟨q, r, _⟩ | ⟨q, r⟩ | ⟨q, r⟩ | ⟨q, r, e⟩ | ⟨q, M1, g, r⟩ | ⟨q, M1, M2, g1, g2, _, r⟩
    · rw [r]; exact sEv_one (Or.inr (Or.inr (Or.inl rfl)))
    · rw [r]; exact sEv_one (Or.inr (Or.inr (Or.inr (Or.inl rfl))))
    · rw [r]
      cases o
      · exact sEv_one (Or.inr (Or.inr (Or.inr (Or.inr (Or.inl ⟨rfl, rfl⟩)))))
      · exact sEv_one (Or.inr (Or.inr (Or.inr (Or.inr (Or.inr ⟨rfl, Or.inl rfl⟩)))))
    · rw [r]
      exact sEv_app (N := [_]) (M := [_]) (sEv_one (Or.inr (Or.inr (Or.inr (Or.inr (Or.inr ⟨e, Or.inr (Or.inl rfl)⟩)))))) (sEv_one (Or.inr (Or.inr (Or.inr (Or.inr (Or.inr ⟨e, Or.inr (Or.inr rfl)⟩))))))
    · rcases r with ⟨_, r2⟩ | ⟨_, _, r3⟩
      · rw [r2]; exact ih g
      · rw [r3]; exact sEv_app (ih g) (sEv_one (Or.inl rfl))
    · rw [r]
      exact sEv_app (ih g1) (sEv_app (ih g2) (sEv_one (Or.inr (Or.inl rfl))))
/-- the pieces of work of a sum -/
def nPt (sN : Nat → Nat → Bool) (T : gTd) (V K : Nat → Int32) (ks : gK) (v : Nat × Nat × Nat) : Option (Int32 × Int32) :=
  if v.1 = 52 then some (1, V v.2.1)
  else if v.1 = 53 then some (3, 0)
  else if v.1 = 3 then some (2, Int32.ofNat (slt ks ((kfi sN ks v.2.1).getD 0)))
  else if v.1 = 6 then some (4, Int32.ofNat (nmT sN 0 v.2.1 T))
  else if v.1 = 12 then some (4, Int32.ofNat (nmT sN 0 v.2.2 T) + V v.2.1)
  else if v.1 = 50 then some (5, K v.2.1)
  else if v.1 = 51 then some (6, K v.2.1)
  else none
def nPs (sN : Nat → Nat → Bool) (T : gTd) (V K : Nat → Int32) (ks : gK) (M : gU) : List (Int32 × Int32) := M.filterMap (nPt sN T V K ks)
theorem nPs_app {sN : Nat → Nat → Bool} {T : gTd} {V K : Nat → Int32} {ks : gK} {M N : gU} : nPs sN T V K ks (M ++ N) = nPs sN T V K ks M ++ nPs sN T V K ks N := List.filterMap_append
def WKS (x x' : gd) (P : List (Int32 × Int32)) : Prop := (x'.1 0 49).toInt = (x.1 0 49).toInt + P.length ∧ ∀ i q, P[i]? = some q → x'.1 51 ((x.1 0 49).toNatClampNeg + i) = q.1 ∧ x'.1 52 ((x.1 0 49).toNatClampNeg + i) = q.2
/-- from r on stand the pieces P, then DONE -/
def SUm (x : gd) (r : Int32) (P : List (Int32 × Int32)) : Prop := 0 ≤ r.toInt ∧ r.toInt + P.length < (x.1 0 49).toInt ∧ (∀ i q, P[i]? = some q → x.1 51 (r.toNatClampNeg + i) = q.1 ∧ x.1 52 (r.toNatClampNeg + i) = q.2) ∧ x.1 51 (r.toNatClampNeg + P.length) = 0
theorem SUm_keep {x y : gd} {r : Int32} {P : List (Int32 × Int32)} (h1 : (x.1 0 49).toInt ≤ (y.1 0 49).toInt) (h2 : ∀ j : Nat, (j : Int) < (x.1 0 49).toInt → y.1 51 j = x.1 51 j ∧ y.1 52 j = x.1 52 j) (q : SUm x r P) : SUm y r P := by
  obtain ⟨q1, q2, q3, q4⟩ := q
  have ur := t_cl r
  refine ⟨q1, by omega, fun i p hp => ?_, by rw [(h2 _ (by omega)).1]; exact q4⟩
  have hi := gt_lt hp
  have a := h2 (r.toNatClampNeg + i) (by omega)
  rw [a.1, a.2]
  exact q3 i p hp
theorem WKS_app {x y z : gd} {P Q : List (Int32 × Int32)} (h : WKS x y P) (g : WKS y z Q) (h0 : 0 ≤ (x.1 0 49).toInt) (l : ∀ j : Nat, (j : Int) < (y.1 0 49).toInt → z.1 51 j = y.1 51 j ∧ z.1 52 j = y.1 52 j) : WKS x z (P ++ Q) := by
  obtain ⟨h1, h2⟩ := h
  obtain ⟨g1, g2⟩ := g
  have ux := t_cl (x.1 0 49)
  have uy := t_cl (y.1 0 49)
  refine ⟨by rw [List.length_append]; omega, fun i q hq => ?_⟩
  by_cases c : i < P.length
  · rw [List.getElem?_append_left c] at hq
    have a := h2 i q hq
    have b := l ((x.1 0 49).toNatClampNeg + i) (by omega)
    exact ⟨b.1.trans a.1, b.2.trans a.2⟩
  · rw [List.getElem?_append_right (by omega)] at hq
    have a := g2 _ q hq
    rw [show (y.1 0 49).toNatClampNeg + (i - P.length) = (x.1 0 49).toNatClampNeg + i by omega] at a
    exact a
theorem WKS_one {x y z : gd} {w a : Int32} (e : y.1 0 49 = x.1 0 49) (l : lD y z w a) (h0 : 0 ≤ (x.1 0 49).toInt) (hw : (x.1 0 49).toInt ≤ 5999) : WKS x z [(w, a)] := by
  obtain ⟨l1, l2, l3, l4⟩ := l
  have k1 : (1 : Int32).toInt = 1 := rfl
  refine ⟨by rw [l2, e, t_add (by omega) (by omega), k1]; rfl, fun i q hq => ?_⟩
  have hi : i = 0 := by
    have := List.getElem?_eq_some_iff.mp hq
    obtain ⟨b, _⟩ := this
    have b : i < 1 := b
    omega
  subst hi
  have hq : (w, a) = q := Option.some.inj hq
  rw [l3, l4, e, Nat.add_zero, if_pos rfl, if_pos rfl, ← hq]
  exact ⟨rfl, rfl⟩
theorem sf_layE (o : Int32) (sN : Nat → Nat → Bool) (T : gTd) (V K : Nat → Int32) (E : gV) : ∀ (n s h : Nat) (G : mG) (D : Nat) (x : gd) (Fv : gd → Prop) (e : Int32) (n' : Nat) (M : gU), n + 1 ≤ D → vE x n s h e → vV x (decide (¬ o = 0)) n' e M → (x.1 0 13).toInt ≤ 3000 → LB x → WB x → (o = 0 → KEn x E) → CT sN T V K x → 0 ≤ (x.1 0 49).toInt → (x.1 0 49).toInt + s ≤ 5990 → (∀ x', LE o s h x x' → LX x x' (flt sN T V M E) → (¬ flt sN T V M E → WKS x x' (nPs sN T V K E.1 M)) → Fv x') → MT G D z_layE 0 [(0, vr 0), (1, vi e), (2, vi o)] [] x (rv Fv) := by
  intro n
  induction n with
  | zero => intro s h G D x Fv e n' M _ v; exact v.elim
  | succ n ih =>
    intro s h G D x Fv e n' M hD v vv hN lb wb ke ct w0 w1 hF
    obtain ⟨D, rfl⟩ : ∃ D', D = D' + 2 := ⟨D - 2, by omega⟩
    obtain ⟨v1, v2, v3, v4, v5⟩ := v
    obtain ⟨esm, e7, tr, e5⟩ := id ct
    obtain ⟨m1, m2, m3, m4, m5, m6⟩ := vV_c vv
    obtain ⟨X, eX⟩ : ∃ X : Prop, X = flt sN T V M E := ⟨_, rfl⟩
    obtain ⟨P, eP⟩ : ∃ P, P = nPs sN T V K E.1 M := ⟨_, rfl⟩
    rw [← eX, ← eP] at hF
    have ev : vp_in e 3000 := by rw [vp_in_iff]; omega
    have rf : md [41, 42] [] x x := md_w (md_rf x) (by decide) (by decide)
    have push : ∀ (y : gd) (w a : Int32), md [41, 42] [] x y → WB y → LX x y X → (w = 1 ∨ w = 3 ∨ (w = 2 ∧ o = 0 ∧ 0 ≤ a.toInt ∧ a.toInt < 8) ∨ (w = 4 ∧ 0 ≤ a.toInt ∧ a.toInt < 24)) → (¬ X → P = [(w, a)]) → MT G (D + 1) z_lay 0 [(0, vr 0), (1, vi w), (2, vi a)] [] y (rv (fun z => rv Fv none z)) := fun y w a m wy lx q hp => sp_lay w a (by rw [m.1 49 (by decide), vp_in_iff]; omega) (fun z l => rv_i (hF z (LE_push m wy l w0 (by omega) v2 v3 q) (LX_md lx l.1 (by decide)) (fun nx => by rw [hp nx]; exact WKS_one (m.1 49 (by decide)) l w0 (by omega))))
    have k0 : (0 : Int32).toInt = 0 := rfl
    have p146 : ∀ (y : gd) (a : Int32), md [41, 42] [] x y → WB y → LX x y X → 0 ≤ a.toInt → a.toInt < 24 → (¬ X → P = [(4, a)]) → MT G (D + 2) z_layE 146 [(0, vr 0)] [vi a, vi 4, vr 0] y (rv Fv) := fun y a m wy lx h1 h2 hp => sg_layE_146 _ _ (push y 4 a m wy lx (Or.inr (Or.inr (Or.inr ⟨rfl, h1, h2⟩))) hp)
    have p297 : ∀ (y : gd) (a : Int32), md [41, 42] [] x y → WB y → LX x y X → 0 ≤ a.toInt → a.toInt < 24 → (¬ X → P = [(4, a)]) → MT G (D + 2) z_layE 297 [(0, vr 0)] [vi a, vi 4, vr 0] y (rv Fv) := fun y a m wy lx h1 h2 hp => sg_layE_297 _ _ (push y 4 a m wy lx (Or.inr (Or.inr (Or.inr ⟨rfl, h1, h2⟩))) hp)
    have p178 : ∀ (y : gd) (a : Int32), md [41, 42] [] x y → WB y → LX x y X → o = 0 → 0 ≤ a.toInt → a.toInt < 8 → (¬ X → P = [(2, a)]) → MT G (D + 2) z_layE 178 [(0, vr 0)] [vi a, vi 2, vr 0] y (rv Fv) := fun y a m wy lx ho h1 h2 hp => sg_layE_178 _ _ (push y 2 a m wy lx (Or.inr (Or.inr (Or.inl ⟨rfl, ho, h1, h2⟩))) hp)
    have p164 : ∀ (y : gd) (a : Int32), md [41, 42] [] x y → WB y → LX x y X → o = 0 → (a = -1 ∨ (0 ≤ a.toInt ∧ a.toInt < 8)) → (a = -1 → X) → (¬ X → P = [(2, a)]) → MT G (D + 2) z_layE 164 [(0, vr 0), (5, vi a)] [] y (rv Fv) := fun y a m wy lx ho q hx hp => sg_layE_164 _ ⟨fun c => p178 y a m wy lx ho (q.resolve_left c).1 (q.resolve_left c).2 hp, fun c => p178 y 0 m wy lx ho (by decide) (by decide) (fun z => absurd (hx c) z)⟩
    have p128 : ∀ (y : gd) (r b : Int32), md [41, 42] [] x y → WB y → LX x y X → (¬ b = 0 → (0 ≤ r.toInt ∧ r.toInt < (x.1 0 28).toInt) ∧ x.1 31 r.toNatClampNeg = 0) → (b = 0 → X) → (¬ b = 0 → ¬ X → P = [(4, x.1 32 r.toNatClampNeg)]) → MT G (D + 2) z_layE 128 [(0, vr 0), (4, vi r), (6, vi b)] [] y (rv Fv) := fun y r b m wy lx q hx hp => sg_layE_128 _ _ ⟨fun c => p146 y 0 m wy lx (by decide) (by decide) (fun z => absurd (hx c) z), fun c => by
      have t := LB_num lb (q c).1 (q c).2
      rw [m.2.1 32 (by decide) (by decide)]
      exact ⟨LB_v lb (q c).1, p146 y _ m wy lx t.1 (by omega) (hp c)⟩⟩
    have p115 : ∀ (r b : Int32), (b = 0 → X) → (¬ b = 0 → ¬ X ∧ (0 ≤ r.toInt ∧ r.toInt < (x.1 0 28).toInt) ∧ x.1 31 r.toNatClampNeg = 0) → (¬ b = 0 → ¬ X → P = [(4, x.1 32 r.toNatClampNeg)]) → MT G (D + 2) z_layE 115 [(0, vr 0), (3, vi (x.1 19 e.toNatClampNeg)), (4, vi r)] [vi b] x (rv Fv) := fun r b q0 q hp => sg_layE_115 _ _ _ ⟨fun c => p128 x r b rf wb (LX_no (q c).1) (fun c => (q c).2) q0 hp, fun c => sf_wrongAt _ _ (by decide) v4 lb.1 wb (fun y m wy gy => p128 y r b m wy (LX_yes (q0 c) gy) (fun c => (q c).2) q0 hp)⟩
    have p264 : ∀ (y : gd) (r b w : Int32), md [41, 42] [] x y → WB y → LX x y X → 0 ≤ w.toInt → (¬ b = 0 → (0 ≤ r.toInt ∧ r.toInt < (x.1 0 28).toInt) ∧ x.1 31 r.toNatClampNeg = 0) → (b = 0 → X) → (¬ b = 0 → ¬ w < x.1 33 r.toNatClampNeg → X) → (¬ b = 0 → ¬ X → P = [(4, x.1 32 r.toNatClampNeg + w)]) → MT G (D + 2) z_layE 264 [(0, vr 0), (6, vi r), (7, vi b), (8, vi w)] [] y (rv Fv) := fun y r b w m wy lx hw q hx hx2 hp => sg_layE_264 _ _ _ ⟨fun c => p297 y 0 m wy lx (by decide) (by decide) (fun z => absurd (hx c) z), fun c => by
      have t := LB_num lb (q c).1 (q c).2
      rw [m.2.1 32 (by decide) (by decide), m.2.1 33 (by decide) (by decide)]
      refine ⟨LB_v lb (q c).1, fun c2 => p297 y 0 m wy lx (by decide) (by decide) (fun z => absurd (hx2 c (fun w2 => by rw [t_le] at c2; rw [t_lt] at w2; omega)) z), fun c2 => ⟨LB_v lb (q c).1, ?_⟩⟩
      rw [t_le] at c2
      have a1 := t_add (a := x.1 32 r.toNatClampNeg) (b := w) (by omega) (by omega)
      exact p297 y _ m wy lx (by omega) (by omega) (hp c)⟩
    have p211 : ∀ (r b : Int32), vp_in (x.1 16 e.toNatClampNeg) 710 → (b = 0 → X) → (¬ b = 0 → (0 ≤ r.toInt ∧ r.toInt < (x.1 0 28).toInt) ∧ x.1 31 r.toNatClampNeg = 0 ∧ (X ↔ ¬ x.1 7 (x.1 16 e.toNatClampNeg).toNatClampNeg < x.1 33 r.toNatClampNeg)) → (¬ b = 0 → ¬ X → P = [(4, x.1 32 r.toNatClampNeg + x.1 7 (x.1 16 e.toNatClampNeg).toNatClampNeg)]) → MT G (D + 2) z_layE 211 [(0, vr 0), (1, vi e), (3, vi (x.1 19 e.toNatClampNeg)), (6, vi r)] [vi b] x (rv Fv) := by
      intro r b hv q0 q hp
      have wn : 0 ≤ (x.1 7 (x.1 16 e.toNatClampNeg).toNatClampNeg).toInt := (lb.1 _ (vp_lt hv)).2.2.2
      have q' : ¬ b = 0 → (0 ≤ r.toInt ∧ r.toInt < (x.1 0 28).toInt) ∧ x.1 31 r.toNatClampNeg = 0 := fun c => ⟨(q c).1, (q c).2.1⟩
      exact sg_layE_211 _ _ _ _ ⟨ev, hv, fun c => ⟨LB_v lb (q c).1, fun c2 => p264 x r b _ rf wb (LX_no (fun z => (q c).2.2.mp z c2)) wn q' q0 (fun c => (q c).2.2.mpr) hp, fun c2 => ⟨ev, sf_wrongAt _ _ (by decide) hv lb.1 wb (fun y m wy gy => p264 y r b _ m wy (LX_yes ((q c).2.2.mpr c2) gy) wn q' q0 (fun c => (q c).2.2.mpr) hp)⟩⟩, fun c => sf_wrongAt _ _ (by decide) v4 lb.1 wb (fun y m wy gy => p264 y r b _ m wy (LX_yes (q0 c) gy) wn q' q0 (fun c => (q c).2.2.mpr) hp)⟩
    refine sg_layE_0 _ _ ⟨ev, ev, fun c => ⟨ev, push x 1 _ rf wb (LX_no ?_) (Or.inl rfl) (fun _ => ?_)⟩, fun c => push x 3 _ rf wb (LX_no ?_) (Or.inr (Or.inl rfl)) (fun _ => ?_), fun c3 => ?_, fun c4 => ?_, fun c5 => ⟨ev, ?_⟩, fun c6 => ⟨ev, ?_⟩⟩
    · rw [eX, (m1 c).1]; exact flt_k rfl
    · rw [eP, (m1 c).1, (m1 c).2, e7]; rfl
    · rw [eX, m2 c]; exact flt_k rfl
    · rw [eP, m2 c]; rfl
    · have mM := m3 c3
      refine sf_meant _ _ 0 rfl v4 lb tr (fun r hr0 hr hrn => ⟨fun ho => sf_slotOf _ v4 lb.1 (ke ho) (fun s0 hs => ?_), fun ho => ?_⟩)
      · have hX : X ↔ kfi sN E.1 (x.1 19 e.toNatClampNeg).toNatClampNeg = none := by
          have eo : decide (¬ o = 0) = false := by rw [ho]; rfl
          rw [eX, mM, eo, if_neg (by decide), flt_one, fv_3]
        rw [esm] at hs
        have hs2 : s0 = -1 ∨ (0 ≤ s0.toInt ∧ s0.toInt < 8) := hs.imp (fun z => z.1) (fun z => z.1)
        have hx3 : s0 = -1 → X := fun z => by
          rcases hs with ⟨_, a⟩ | ⟨a, _⟩
          · exact hX.mpr a
          · rw [z] at a; exact absurd a.1 (by decide)
        have hp3 : ¬ X → P = [(2, s0)] := fun z => by
          rcases hs with ⟨_, a⟩ | ⟨_, p, a, b⟩
          · exact absurd (hX.mpr a) z
          · have eo : decide (¬ o = 0) = false := by rw [ho]; rfl
            rw [eP, mM, eo, if_neg (by decide), b, i32_of (KL_slt (ke ho).2.2 (kfi_lt a))]
            show [(2, Int32.ofNat (slt E.1 ((kfi sN E.1 (x.1 19 e.toNatClampNeg).toNatClampNeg).getD 0)))] = _
            rw [a]
            rfl
        refine sg_layE_88 _ _ _ _ ⟨fun ho => ⟨fun c => p164 x s0 rf wb (LX_no (fun z => ?_)) ho hs2 hx3 hp3, fun c => sf_wrongAt _ _ (by decide) v4 lb.1 wb (fun y m wy gy => p164 y s0 m wy (LX_yes ?_ gy) ho hs2 hx3 hp3)⟩, fun q => absurd ho q⟩
        · rcases hs with ⟨a, _⟩ | ⟨_, p, a, _⟩
          · exact c a
          · rw [hX, a] at z; exact absurd z (by simp)
        · rcases hs with ⟨_, a⟩ | ⟨a, _⟩
          · exact hX.mpr a
          · rw [c] at a; exact absurd a.1 (by decide)
      · have hX : X ↔ ¬ plc sN T (x.1 19 e.toNatClampNeg).toNatClampNeg := by
          have eo : decide (¬ o = 0) = true := decide_eq_true ho
          rw [eX, mM, eo, if_pos rfl, flt_one, fv_6]
        rw [esm] at hr0 hr hrn
        have hp3 : ¬ r = -1 → P = [(4, x.1 32 r.toNatClampNeg)] := fun z => by
          have eo : decide (¬ o = 0) = true := decide_eq_true ho
          rw [eP, mM, eo, if_pos rfl, i32_of (hrn z)]
          rfl
        refine sg_layE_88 _ _ _ _ ⟨fun q => absurd q ho, fun _ => ⟨fun c => p115 r 0 (fun _ => hX.mpr (fun ⟨q, e', _⟩ => ?_)) (fun q => absurd rfl q) (fun q => absurd rfl q), fun c => ⟨LB_v lb (hr c).1, fun c2 => p115 r 0 (fun _ => hX.mpr (fun ⟨q, e', g⟩ => ?_)) (fun q => absurd rfl q) (fun q => absurd rfl q), fun c2 => p115 r 1 (fun q => absurd q (by decide)) (fun _ => ⟨fun z => hX.mp z ?_, (hr c).1, (hr c).2.1⟩) (fun _ _ => hp3 c)⟩⟩⟩
        · rw [hr0 c] at e'; exact absurd e' (by simp)
        · obtain ⟨_, _, q2, e2, hd⟩ := hr c
          rw [e2] at e'
          cases Option.some.inj e'
          rcases hd.2.2.2 with ⟨_, a⟩ | ⟨a, _⟩
          · exact c2 a
          · omega
        · obtain ⟨_, _, q2, e2, hd⟩ := hr c
          rcases hd.2.2.2 with ⟨a, _⟩ | ⟨_, a, _⟩
          · exact ⟨q2, e2, a⟩
          · rw [a] at c2; exact absurd c2 (by decide)
    · have mM := m4 c4
      have hX : X ↔ (¬ ∃ n, rwc sN T (x.1 19 e.toNatClampNeg).toNatClampNeg n) ∨ ∃ n, rwc sN T (x.1 19 e.toNatClampNeg).toNatClampNeg n ∧ (n : Int) ≤ (V (x.1 16 e.toNatClampNeg).toNatClampNeg).toInt := by
        rw [eX, mM]
        show fv sN T V E (7, (x.1 19 e.toNatClampNeg).toNatClampNeg, 0) ∨ flt sN T V [(12, (x.1 16 e.toNatClampNeg).toNatClampNeg, (x.1 19 e.toNatClampNeg).toNatClampNeg)] (exV E (7, (x.1 19 e.toNatClampNeg).toNatClampNeg, 0)) ↔ _
        rw [exV_still ⟨by show ¬ 7 = 20; decide, by show ¬ 7 = 21; decide, by show ¬ 7 = 22; decide⟩, flt_one, fv_7, fv_12]
      have hv : vp_in (x.1 16 e.toNatClampNeg) 710 := by
        rcases v5 with q | q | q | q
        · rcases q with q | q | q <;> (rw [c4] at q; exact absurd q (by decide))
        · exact q.2
        · rw [c4] at q; exact absurd q.1 (by decide)
        · rw [c4] at q; exact absurd q.1 (by decide)
      refine sf_meant _ _ 0 rfl v4 lb tr (fun r hr0 hr hrn => ?_)
      rw [esm] at hr0 hr hrn
      have hp3 : ¬ r = -1 → P = [(4, x.1 32 r.toNatClampNeg + x.1 7 (x.1 16 e.toNatClampNeg).toNatClampNeg)] := fun z => by
        rw [eP, mM, i32_of (hrn z), e7]
        rfl
      refine ⟨fun c => p211 r 0 hv (fun _ => hX.mpr (Or.inl (fun ⟨_, q, e', _⟩ => ?_))) (fun q => absurd rfl q) (fun q => absurd rfl q), fun c => ⟨LB_v lb (hr c).1, fun c2 => p211 r 0 hv (fun _ => hX.mpr (Or.inl (fun ⟨_, q, e', g, g2⟩ => ?_))) (fun q => absurd rfl q) (fun q => absurd rfl q), fun c2 => p211 r 1 hv (fun q => absurd q (by decide)) (fun _ => ⟨(hr c).1, (hr c).2.1, ?_⟩) (fun _ _ => hp3 c)⟩⟩
      · rw [hr0 c] at e'; exact absurd e' (by simp)
      · obtain ⟨_, _, q2, e2, hd⟩ := hr c
        rw [e2] at e'
        cases Option.some.inj e'
        rcases hd.2.2.2 with ⟨a, _⟩ | ⟨_, a, _⟩
        · omega
        · rw [a] at c2; exact absurd c2 (by decide)
      · obtain ⟨h1, h2, q2, e2, hd⟩ := hr c
        rcases hd.2.2.2 with ⟨_, a⟩ | ⟨a1, a2, a3, _⟩
        · exact absurd a c2
        · have u := t_cl (x.1 33 r.toNatClampNeg)
          have rw1 : rwc sN T (x.1 19 e.toNatClampNeg).toNatClampNeg q2.2.2.1 := ⟨q2, e2, rfl, a1⟩
          rw [hX, t_lt, e7]
          refine ⟨fun z => ?_, fun z => Or.inr ⟨_, rw1, by omega⟩⟩
          rcases z with z | ⟨n, ⟨q3, e3, g3, _⟩, z⟩
          · exact absurd ⟨_, rw1⟩ z
          · rw [e2] at e3
            cases Option.some.inj e3
            omega
    · obtain ⟨n1, M1, M2, vv1, eM, hM2⟩ := m5 c5
      have hv : vE x n (s - 1) h (x.1 17 e.toNatClampNeg) := by
        rcases v5 with q | q | q | q
        · rcases q with q | q | q <;> (rw [c5] at q; exact absurd q (by decide))
        · rw [c5] at q; exact absurd q.1 (by decide)
        · exact q.2
        · rw [c5] at q; exact absurd q.1 (by decide)
      have hX : X ↔ flt sN T V M1 E := by
        rw [eX, eM, flt_app]
        refine ⟨fun z => z.elim id (fun z => ?_), Or.inl⟩
        rcases hM2 with ⟨_, a⟩ | ⟨_, a, _⟩
        · rw [a] at z; exact z.elim
        · rw [a] at z; exact absurd z (flt_k rfl)
      refine ih (s - 1) h G (D + 1) x _ _ n1 M1 (by omega) hv vv1 hN lb wb ke ct w0 (by omega) (fun y q lx wks => ⟨ev, fun c9 => rv_i (hF y (LE_mono (by omega) q) (LX_eq lx hX.symm) (fun nx => ?_)), fun c9 => ⟨ev, ?_⟩⟩)
      · have a := hM2.resolve_right (fun z => z.1 (by rw [← q.1.2.1 16 (by decide) (by decide)]; exact c9))
        rw [eP, eM, a.2, List.append_nil]
        exact wks (fun z => nx (hX.mpr z))
      obtain ⟨k, q4, q5, _⟩ := q.2.2.2
      refine sp_lay _ _ (by rw [vp_in_iff]; omega) (fun z l => rv_i (hF z ?_ (LX_eq (LX_md lx l.1 (by decide)) hX.symm) (fun nx => ?_)))
      rotate_left
      · have a := hM2.resolve_left (fun z => c9 (by rw [q.1.2.1 16 (by decide) (by decide)]; exact z.1))
        rw [eP, eM, a.2.1, nPs_app]
        refine WKS_app (wks (fun z => nx (hX.mpr z))) (Q := [(5, K (x.1 19 e.toNatClampNeg).toNatClampNeg)]) ?_ w0 (fun j hj => lD_low l (by omega) j (by rw [t_cl] at *; omega))
        have a2 := a.2.2
        rw [e5, ← q.1.2.1 16 (by decide) (by decide)] at a2
        rw [← a2]
        exact WKS_one rfl l (by omega) (by omega)
      have := LE_one q l w0 (by omega)
      rw [show s - 1 + 1 = s by omega] at this
      exact this
    · obtain ⟨n1, M1, M2, vv1, vv2, eM, eK⟩ := m6 c6
      have hv : ∃ a b : Nat, a + b + 1 ≤ s ∧ 2 ≤ h ∧ vE x n a h (x.1 17 e.toNatClampNeg) ∧ vE x n b (h - 1) (x.1 18 e.toNatClampNeg) := by
        rcases v5 with q | q | q | q
        · rcases q with q | q | q <;> exact absurd q (c6 _ (by decide))
        · exact absurd q.1 (c6 _ (by decide))
        · exact absurd q.1 (c6 _ (by decide))
        · exact q.2
      have hX : flt sN T V M1 E ∨ flt sN T V M2 E ↔ X := by
        rw [eX, eM, flt_app, flt_app, exs_still (vV_st vv1), exs_still (vV_st vv2)]
        exact ⟨fun z => z.elim Or.inl (fun z => Or.inr (Or.inl z)), fun z => z.elim Or.inl (fun z => z.elim Or.inr (fun z => absurd z (flt_k rfl)))⟩
      obtain ⟨a, b, g1, g2, g3, g4⟩ := hv
      refine ih a h G (D + 1) x _ _ n1 M1 (by omega) g3 vv1 hN lb wb ke ct w0 (by omega) (fun y q lx wks1 => ⟨ev, ?_⟩)
      have ny := LE_NN q
      obtain ⟨k, q4, q5, _⟩ := q.2.2.2
      have e18 : y.1 18 e.toNatClampNeg = x.1 18 e.toNatClampNeg := by rw [q.1.2.1 18 (by decide) (by decide)]
      rw [e18]
      refine ih b (h - 1) G (D + 1) y _ _ n1 M2 (by omega) (vE_keep ny.1 (fun c h1 h2 j hj => ny.2 c h1 (by omega) j hj) _ _ _ _ g4) (vV_keep ny.1 (q.1.2.1 5 (by decide) (by decide)) (q.1.2.1 7 (by decide) (by decide)) (fun c h1 h2 j hj => ny.2 c h1 (by omega) j hj) _ _ _ vv2) (by rw [q.1.1 13 (by decide)]; exact hN) (LE_LB q lb) q.2.1 (fun ho => KEn_md q.1 (by decide) (by decide) (by decide) (ke ho)) (CT_md q.1 (by decide) rfl ct) (by omega) (by omega) (fun z r lx2 wks2 => ⟨ev, ?_⟩)
      obtain ⟨m, r4, r5, _⟩ := r.2.2.2
      refine sp_lay _ _ (by rw [vp_in_iff]; omega) (fun w l => rv_i (hF w (LE_mono g1 (LE_two q r l g2 w0 (by omega))) (LX_eq (LX_md (LX_tr lx lx2) l.1 (by decide)) hX) (fun nx => ?_)))
      rw [eP, eM, nPs_app, nPs_app]
      have hy0 : 0 ≤ (y.1 0 49).toInt := by omega
      refine WKS_app (wks1 (fun z => nx (hX.mp (Or.inl z)))) (WKS_app (wks2 (fun z => nx (hX.mp (Or.inr z)))) (Q := [(6, K (x.1 19 e.toNatClampNeg).toNatClampNeg)]) ?_ hy0 (fun j hj => lD_low l (by omega) j (by omega))) w0 (fun j hj => ?_)
      · have a2 := eK
        rw [e5, ← q.1.2.1 16 (by decide) (by decide), ← r.1.2.1 16 (by decide) (by decide)] at a2
        rw [← a2]
        exact WKS_one rfl l (by omega) (by omega)
      · have b1 := r.2.2.1 j hj
        have b2 := lD_low l (by omega) j (by omega)
        exact ⟨b2.1.trans b1.1, b2.2.trans b1.2⟩
theorem sf_workOf (o : Int32) {sN : Nat → Nat → Bool} {T : gTd} {V K : Nat → Int32} {E : gV} {n s : Nat} {G : mG} {D : Nat} {x : gd} {F : Int32 → gd → Prop} {e : Int32} {M : gU} (hD : n + 2 ≤ D) (v : (e = -1 ∧ M = []) ∨ (vE x n s 17 e ∧ ∃ n', vV x (decide (¬ o = 0)) n' e M)) (hN : (x.1 0 13).toInt ≤ 3000) (lb : LB x) (wb : WB x) (ke : o = 0 → KEn x E) (ct : CT sN T V K x) (w0 : 0 ≤ (x.1 0 49).toInt) (w1 : (x.1 0 49).toInt + s ≤ 5990) (hF : ∀ r x', LW o s x r x' → (¬ e = -1 → ¬ r = -1) → LX x x' (flt sN T V M E) → (¬ e = -1 → ¬ flt sN T V M E → SUm x' r (nPs sN T V K E.1 M)) → (e = -1 → r = -1) → F r x') : MT G D z_workOf 0 [(0, vr 0), (1, vi e), (2, vi o)] [] x (ri F) := by
  obtain ⟨D, rfl⟩ : ∃ D', D = D' + 1 := ⟨D - 1, by omega⟩
  refine sg_workOf_0 _ _ ⟨fun c => ?_, fun c => ri_i (hF _ _ ⟨md_w (md_rf x) (by decide) (by decide), wb, fun _ _ => ⟨rfl, rfl⟩, by omega, by omega, Or.inl rfl⟩ (fun q => absurd c q) ?_ (fun q => absurd c q) (fun _ => rfl))⟩
  · rcases v with ⟨q, _⟩ | ⟨ve, n', vv⟩
    · exact absurd q c
    refine sf_layE o sN T V K E n s 17 G D x _ _ n' M (by omega) ve vv hN lb wb ke ct w0 w1 (fun y q lx wks => ?_)
    obtain ⟨q1, q2, q3, k, q4, q5, q6⟩ := q
    refine sp_lay _ _ (by rw [vp_in_iff]; omega) (fun z l => ri_i (hF _ _ ?_ (fun _ q => ?_) (LX_md lx l.1 (by decide)) (fun _ nx => ?_) (fun q => absurd q c)))
    · have u := lD_up l (by omega) (by omega)
      have lo := lD_low l (by omega)
      have e2 : (y.1 0 49).toNatClampNeg = (x.1 0 49).toNatClampNeg + k := by rw [t_cl, t_cl]; omega
      refine ⟨md_tr q1 l.1 rfl rfl, WB_lD l q2, fun j hj => ?_, by omega, by omega, Or.inr ⟨w0, k, cS_keep k _ _ _ (fun j _ b => lo j (by rw [t_cl] at b; omega)) (q6 0 (by decide)), ?_, ?_⟩⟩
      · have a1 := lo j (by omega)
        have a2 := q3 j hj
        exact ⟨a1.1.trans a2.1, a1.2.trans a2.2⟩
      · rw [← e2, l.2.2.1, if_pos rfl]
      · rw [← e2, t_cl]; omega
    · rw [q] at w0
      exact absurd w0 (by decide)
    · obtain ⟨u1, u2⟩ := wks nx
      have u := lD_up l (by omega) (by omega)
      have ux := t_cl (x.1 0 49)
      have uy := t_cl (y.1 0 49)
      refine ⟨w0, by omega, fun i p hp => ?_, ?_⟩
      · have a := u2 i p hp
        have hi := gt_lt hp
        have b := lD_low l (by omega) ((x.1 0 49).toNatClampNeg + i) (by omega)
        exact ⟨b.1.trans a.1, b.2.trans a.2⟩
      · rw [show (x.1 0 49).toNatClampNeg + (nPs sN T V K E.1 M).length = (y.1 0 49).toNatClampNeg by omega, l.2.2.1, if_pos rfl]
  · refine LX_no ?_
    rcases v with ⟨_, q⟩ | ⟨ve, _⟩
    · rw [q]; exact fun z => z
    · rw [c] at ve
      cases n with
      | zero => exact ve.elim
      | succ n => exact absurd ve.1.1 (by decide)
end
section
/-! the steps laid: steps 52; 54 what, 55 sort, 56 of, 57 size, 58 at, 59 e, 60 f, 61 to -/
abbrev lL : List Nat := [41, 42, 43, 47, 48, 49, 52]
abbrev lA : List Nat := [45, 46, 47, 51, 52, 54, 55, 56, 57, 58, 59, 60, 61, 62, 63]
abbrev pL : List Nat := [41, 42, 49, 52]
abbrev pA : List Nat := [51, 52, 54, 55, 56, 57, 58, 59, 60, 61, 62, 63]
abbrev tA : List Nat := [54, 55, 56, 57, 58, 59, 60, 61, 62, 63]
/-- an act with these rows; t threads -/
def aV (t : Int) (sort of size at' to : Int32) : Prop := (to = -1 ∨ (0 ≤ to.toInt ∧ to.toInt < 8)) ∧ ((0 ≤ sort.toInt ∧ sort.toInt ≤ 4 ∧ 0 ≤ of.toInt ∧ of.toInt < 24 ∧ 0 ≤ size.toInt ∧ (at' = -1 ∨ of.toInt + size.toInt ≤ 24)) ∨ (5 ≤ sort.toInt ∧ sort.toInt ≤ 10 ∧ 0 ≤ of.toInt ∧ of.toInt < 6 ∧ (sort = 9 → of.toInt < t) ∧ at' = -1) ∨ (11 ≤ sort.toInt ∧ sort.toInt ≤ 14))
/-- a step with these rows; n steps -/
def sV (t n : Int) (what sort of size at' to : Int32) : Prop := (what = 0 ∧ 0 ≤ to.toInt ∧ to.toInt < 8) ∨ what = 1 ∨ ((what = 2 ∨ what = 3) ∧ 0 ≤ to.toInt ∧ to.toInt ≤ n) ∨ what = 4 ∨ what = 5 ∨ (what = 6 ∧ aV t sort of size at' to)
theorem sV_mono {t n n' : Int} {a b c d e f : Int32} (h : n ≤ n') (q : sV t n a b c d e f) : sV t n' a b c d e f := by
  rcases q with q | q | ⟨q1, q2, q3⟩ | q
  · exact Or.inl q
  · exact Or.inr (Or.inl q)
  · exact Or.inr (Or.inr (Or.inl ⟨q1, q2, by omega⟩))
  · exact Or.inr (Or.inr (Or.inr q))
/-- a step GO goes on, or back to a step TRUE_OR -/
def gO (x : gd) (j : Nat) : Prop := x.1 54 j = 3 → (j : Int) < (x.1 61 j).toInt ∨ (0 ≤ (x.1 61 j).toInt ∧ (x.1 61 j).toInt < (x.1 0 52).toInt ∧ x.1 54 (x.1 61 j).toNatClampNeg = 2)
def sO (x : gd) (j : Nat) : Prop := wo x 0 (x.1 58 j) ∧ wo x 0 (x.1 59 j) ∧ wo x 0 (x.1 60 j) ∧ sV (x.1 0 25).toInt (x.1 0 52).toInt (x.1 54 j) (x.1 55 j) (x.1 56 j) (x.1 57 j) (x.1 58 j) (x.1 61 j) ∧ gO x j
/-- laying goes on: at most n steps and w pieces of work more -/
def LF (x x' : gd) (n w : Nat) : Prop := md lL lA x x' ∧ WB x' ∧ (x.1 0 52).toInt ≤ (x'.1 0 52).toInt ∧ (x'.1 0 52).toInt ≤ (x.1 0 52).toInt + n ∧ (x.1 0 49).toInt ≤ (x'.1 0 49).toInt ∧ (x'.1 0 49).toInt ≤ (x.1 0 49).toInt + w ∧ (∀ j : Nat, (j : Int) < (x.1 0 49).toInt → x'.1 51 j = x.1 51 j ∧ x'.1 52 j = x.1 52 j) ∧ ∀ c : Nat, 54 ≤ c → c ≤ 63 → ∀ j : Nat, (j : Int) < (x.1 0 52).toInt → x'.1 c j = x.1 c j
def LQ (x x' : gd) (n w : Nat) : Prop := LF x x' n w ∧ ∀ j : Nat, (x.1 0 52).toInt ≤ (j : Int) → (j : Int) < (x'.1 0 52).toInt → sO x' j
theorem LF_tr {x y z : gd} {n n' w w' : Nat} (a : LF x y n w) (b : LF y z n' w') : LF x z (n + n') (w + w') := by
  obtain ⟨a1, a2, a3, a4, a5, a6, a7, a8⟩ := a
  obtain ⟨b1, b2, b3, b4, b5, b6, b7, b8⟩ := b
  refine ⟨md_tr a1 b1 rfl rfl, b2, by omega, by omega, by omega, by omega, fun j hj => ?_, fun c h1 h2 j hj => ?_⟩
  · have q1 := a7 j hj
    have q2 := b7 j (by omega)
    exact ⟨q2.1.trans q1.1, q2.2.trans q1.2⟩
  · rw [b8 c h1 h2 j (by omega), a8 c h1 h2 j hj]
theorem sO_keep {x y : gd} {n w j : Nat} (a : LF x y n w) (hj : (j : Int) < (x.1 0 52).toInt) (q : sO x j) : sO y j := by
  obtain ⟨a1, a2, a3, a4, a5, a6, a7, a8⟩ := a
  have e := fun c h1 h2 => a8 c h1 h2 j hj
  obtain ⟨q1, q2, q3, q4, q5⟩ := q
  unfold sO gO
  rw [e 54 (by decide) (by decide), e 55 (by decide) (by decide), e 56 (by decide) (by decide), e 57 (by decide) (by decide), e 58 (by decide) (by decide), e 59 (by decide) (by decide), e 60 (by decide) (by decide), e 61 (by decide) (by decide), a1.1 25 (by decide)]
  refine ⟨wo_keep a5 a7 q1, wo_keep a5 a7 q2, wo_keep a5 a7 q3, sV_mono a3 q4, fun z => (q5 z).imp id (fun w => ⟨w.1, by omega, ?_⟩)⟩
  rw [a8 54 (by decide) (by decide) _ (by rw [t_cl]; omega)]
  exact w.2.2
theorem LQ_tr {x y z : gd} {n n' w w' : Nat} (a : LQ x y n w) (b : LQ y z n' w') : LQ x z (n + n') (w + w') := by
  refine ⟨LF_tr a.1 b.1, fun j h1 h2 => ?_⟩
  by_cases h : (j : Int) < (y.1 0 52).toInt
  · exact sO_keep b.1 h (a.2 j h1 h)
  · exact b.2 j (by omega) h2
theorem LQ_mono {x y : gd} {n n' w w' : Nat} (h1 : n ≤ n') (h2 : w ≤ w') (q : LQ x y n w) : LQ x y n' w' := by
  obtain ⟨⟨a1, a2, a3, a4, a5, a6, a7, a8⟩, b⟩ := q
  exact ⟨⟨a1, a2, a3, by omega, a5, by omega, a7, a8⟩, b⟩
/-- no step yet -/
theorem LQ_0 {x y : gd} {w : Nat} (h : LF x y 0 w) : LQ x y 0 w := ⟨h, fun j h1 h2 => by have := h.2.2.2.1; omega⟩
theorem LF_wr {x y : gd} (m : md [41, 42] [] x y) (wb : WB y) : LF x y 0 0 := by
  have e49 := m.1 49 (by decide)
  have e52 := m.1 52 (by decide)
  refine ⟨md_w m (by decide) (by decide), wb, by rw [e52]; omega, by rw [e52]; omega, by rw [e49]; omega, by rw [e49]; omega, fun j _ => ?_, fun c h1 h2 j _ => ?_⟩
  · rw [m.2.1 51 (by decide) (by decide), m.2.1 52 (by decide) (by decide)]; exact ⟨rfl, rfl⟩
  · rw [m.2.1 c (by omega) (fun q => nomatch q)]
theorem LF_wk {o r : Int32} {s : Nat} {x y : gd} (q : LW o s x r y) : LF x y 0 (s + 1) := by
  obtain ⟨m, wb, k, l1, l2, _⟩ := q
  have e52 := m.1 52 (by decide)
  refine ⟨md_w m (by decide) (by decide), wb, by rw [e52]; omega, by rw [e52]; omega, l1, by omega, k, fun c h1 h2 j _ => ?_⟩
  rw [m.2.1 c (by omega) (fun q => by
    rcases List.mem_cons.mp q with q | q
    · omega
    · have := List.mem_singleton.mp q; omega)]
/-- one step with its rows -/
def stp (x z : gd) (what sort of size at' e f to : Int32) : Prop := md [52] tA x z ∧ z.1 0 52 = x.1 0 52 + 1 ∧ (∀ c : Nat, 54 ≤ c → ∀ j : Nat, ¬ j = (x.1 0 52).toNatClampNeg → z.1 c j = x.1 c j) ∧ z.1 54 (x.1 0 52).toNatClampNeg = what ∧ z.1 55 (x.1 0 52).toNatClampNeg = sort ∧ z.1 56 (x.1 0 52).toNatClampNeg = of ∧ z.1 57 (x.1 0 52).toNatClampNeg = size ∧ z.1 58 (x.1 0 52).toNatClampNeg = at' ∧ z.1 59 (x.1 0 52).toNatClampNeg = e ∧ z.1 60 (x.1 0 52).toNatClampNeg = f ∧ z.1 61 (x.1 0 52).toNatClampNeg = to
section STP
variable {x y z : gd} {w a b c d e f t v : Int32}
theorem stp_s (h : sD x y w) : stp x y w (-1) (-1) 0 (-1) (-1) (-1) (-1) := h
theorem stp_a (h : aD x y a b) : stp x y 6 a b 0 (-1) (-1) (-1) (-1) := h
theorem stp_md {k : Nat} (hk : k ∈ tA) (h0 : 54 ≤ k) (h : md [52] tA x y) (g : ∀ c : Nat, 54 ≤ c → ∀ j : Nat, ¬ j = (x.1 0 52).toNatClampNeg → y.1 c j = x.1 c j) (q : y.1 0 52 = x.1 0 52 + 1) (ez : z = si y k (x.1 0 52).toNatClampNeg v) : md [52] tA x z ∧ z.1 0 52 = x.1 0 52 + 1 ∧ (∀ c : Nat, 54 ≤ c → ∀ j : Nat, ¬ j = (x.1 0 52).toNatClampNeg → z.1 c j = x.1 c j) := by
  have m := md_a y k (x.1 0 52).toNatClampNeg v (by omega)
  rw [← ez] at m
  refine ⟨⟨fun i hi => ?_, fun i h1 h2 => ?_, m.2.2.trans h.2.2⟩, ?_, fun i h1 j hj => ?_⟩
  · rw [m.1 i (fun q => nomatch q), h.1 i hi]
  · rw [m.2.1 i h1 (fun q => h2 (by rw [List.mem_singleton.mp q]; exact hk)), h.2.1 i h1 h2]
  · rw [m.1 52 (fun q => nomatch q), q]
  · rw [ez, si_ne i j hj]; exact g i h1 j hj
theorem stp_57 (h : stp x y w a b c d e f t) (ez : z = si y 57 (x.1 0 52).toNatClampNeg v) : stp x z w a b v d e f t := by
  obtain ⟨h1, h2, h3, v54, v55, v56, v57, v58, v59, v60, v61⟩ := h
  obtain ⟨g1, g2, g3⟩ := stp_md (k := 57) (by decide) (by decide) h1 h3 h2 ez
  refine ⟨g1, g2, g3, ?_, ?_, ?_, ?_, ?_, ?_, ?_, ?_⟩ <;> rw [ez]
  all_goals first | (rw [si_cell (by decide)]; assumption) | rw [si_get, if_pos ⟨rfl, rfl⟩]
theorem stp_58 (h : stp x y w a b c d e f t) (ez : z = si y 58 (x.1 0 52).toNatClampNeg v) : stp x z w a b c v e f t := by
  obtain ⟨h1, h2, h3, v54, v55, v56, v57, v58, v59, v60, v61⟩ := h
  obtain ⟨g1, g2, g3⟩ := stp_md (k := 58) (by decide) (by decide) h1 h3 h2 ez
  refine ⟨g1, g2, g3, ?_, ?_, ?_, ?_, ?_, ?_, ?_, ?_⟩ <;> rw [ez]
  all_goals first | (rw [si_cell (by decide)]; assumption) | rw [si_get, if_pos ⟨rfl, rfl⟩]
theorem stp_59 (h : stp x y w a b c d e f t) (ez : z = si y 59 (x.1 0 52).toNatClampNeg v) : stp x z w a b c d v f t := by
  obtain ⟨h1, h2, h3, v54, v55, v56, v57, v58, v59, v60, v61⟩ := h
  obtain ⟨g1, g2, g3⟩ := stp_md (k := 59) (by decide) (by decide) h1 h3 h2 ez
  refine ⟨g1, g2, g3, ?_, ?_, ?_, ?_, ?_, ?_, ?_, ?_⟩ <;> rw [ez]
  all_goals first | (rw [si_cell (by decide)]; assumption) | rw [si_get, if_pos ⟨rfl, rfl⟩]
theorem stp_60 (h : stp x y w a b c d e f t) (ez : z = si y 60 (x.1 0 52).toNatClampNeg v) : stp x z w a b c d e v t := by
  obtain ⟨h1, h2, h3, v54, v55, v56, v57, v58, v59, v60, v61⟩ := h
  obtain ⟨g1, g2, g3⟩ := stp_md (k := 60) (by decide) (by decide) h1 h3 h2 ez
  refine ⟨g1, g2, g3, ?_, ?_, ?_, ?_, ?_, ?_, ?_, ?_⟩ <;> rw [ez]
  all_goals first | (rw [si_cell (by decide)]; assumption) | rw [si_get, if_pos ⟨rfl, rfl⟩]
theorem stp_61 (h : stp x y w a b c d e f t) (ez : z = si y 61 (x.1 0 52).toNatClampNeg v) : stp x z w a b c d e f v := by
  obtain ⟨h1, h2, h3, v54, v55, v56, v57, v58, v59, v60, v61⟩ := h
  obtain ⟨g1, g2, g3⟩ := stp_md (k := 61) (by decide) (by decide) h1 h3 h2 ez
  refine ⟨g1, g2, g3, ?_, ?_, ?_, ?_, ?_, ?_, ?_, ?_⟩ <;> rw [ez]
  all_goals first | (rw [si_cell (by decide)]; assumption) | rw [si_get, if_pos ⟨rfl, rfl⟩]
theorem stp_up (h : stp x z w a b c d e f t) (h0 : 0 ≤ (x.1 0 52).toInt) (hn : (x.1 0 52).toInt ≤ 1499) : (z.1 0 52).toInt = (x.1 0 52).toInt + 1 := by
  have k1 : (1 : Int32).toInt = 1 := rfl
  rw [h.2.1, t_add (by omega) (by omega), k1]
theorem LF_stp (h : stp x z w a b c d e f t) (wb : WB x) (h0 : 0 ≤ (x.1 0 52).toInt) (hn : (x.1 0 52).toInt ≤ 1499) : LF x z 1 0 := by
  have u := stp_up h h0 hn
  obtain ⟨h1, h2, h3, _⟩ := h
  have e49 : z.1 0 49 = x.1 0 49 := h1.1 49 (by decide)
  refine ⟨md_w h1 (by decide) (by decide), ?_, by omega, by omega, by rw [e49]; omega, by rw [e49]; omega, fun j _ => ?_, fun c g1 g2 j hj => h3 c g1 j (by rw [t_cl]; omega)⟩
  · unfold WB
    rw [h1.1 41 (by decide), h1.1 42 (by decide)]
    exact wb
  · rw [h1.2.1 51 (by decide) (by decide), h1.2.1 52 (by decide) (by decide)]
    exact ⟨rfl, rfl⟩
theorem LQ_stp (h : stp x z w a b c d e f t) (wb : WB x) (h0 : 0 ≤ (x.1 0 52).toInt) (hn : (x.1 0 52).toInt ≤ 1499) (q1 : wo x 0 d) (q2 : wo x 0 e) (q3 : wo x 0 f) (hw3 : ¬ w = 3) (q4 : sV (x.1 0 25).toInt ((x.1 0 52).toInt + 1) w a b c d t) : LQ x z 1 0 := by
  have lf := LF_stp h wb h0 hn
  refine ⟨lf, fun j j1 j2 => ?_⟩
  have u := stp_up h h0 hn
  have ej : j = (x.1 0 52).toNatClampNeg := by rw [t_cl]; omega
  obtain ⟨h1, h2, h3, v54, v55, v56, v57, v58, v59, v60, v61⟩ := h
  obtain ⟨a1, a2, a3, a4, a5, a6, a7, a8⟩ := lf
  rw [ej]
  unfold sO gO
  rw [v54, v55, v56, v57, v58, v59, v60, v61, u, h1.1 25 (by decide)]
  exact ⟨wo_keep a5 a7 q1, wo_keep a5 a7 q2, wo_keep a5 a7 q3, q4, fun z => absurd z hw3⟩
end STP
/-- what laying needs -/
def PL (x : gd) : Prop := LB x ∧ WB x ∧ KB x ∧ (x.1 0 13).toInt ≤ 3000 ∧ 0 ≤ (x.1 0 49).toInt ∧ 0 ≤ (x.1 0 52).toInt ∧ 1 ≤ (x.1 0 25).toInt
theorem PL_LF {x y : gd} {n w : Nat} (p : PL x) (f : LF x y n w) (kb : KB y) : PL y := by
  obtain ⟨p1, p2, p3, p4, p5, p6, p7⟩ := p
  obtain ⟨a1, a2, a3, a4, a5, a6, a7, a8⟩ := f
  exact ⟨LB_md a1 rfl rfl p1, a2, kb, by rw [a1.1 13 (by decide)]; exact p4, by omega, by omega, by rw [a1.1 25 (by decide)]; exact p7⟩
theorem PL_up {x y : gd} {n w : Nat} (p : PL x) (f : LF x y n w) (m : md pL pA x y) : PL y := PL_LF p f (KB_md m (by decide) (by decide) (by decide) p.2.2.1)
theorem NN_LF {x y : gd} {n w : Nat} (f : LF x y n w) : NN x y := ⟨by rw [f.1.1 13 (by decide)]; exact Int.le_refl _, fun c h1 h2 j _ => by rw [f.1.2.1 c (by omega) (fun q => by
  have : c ∈ [45, 46, 47, 51, 52, 54, 55, 56, 57, 58, 59, 60, 61, 62, 63] := q
  simp at this
  omega)]⟩
end
section
/-! the model's steps, as the row of events says them -/
section MSR
variable (sN : Nat → Nat → Bool) (T : gTd) (V K : Nat → Int32)
def mWh (op : Nat) : Int32 := if op < 16 then 6 else if op = 16 then 0 else if op = 17 then 2 else if op = 18 then 1 else if op = 19 then 4 else if op = 20 then 3 else 5
def mOf (st : gSt) : Int32 := match st.2.2.2.2.1 with
  | none => -1
  | some t => if st.1 ≤ 4 then Int32.ofNat (nmT sN 0 t T) else if st.1 ≤ 8 then Int32.ofNat (nmT sN 1 t T) else if st.1 ≤ 10 then Int32.ofNat (nmT sN 2 t T) else V t
def mSz (st : gSt) : Int32 := if st.2.2.2.2.2.1 = true then (if st.1 ≤ 4 then Int32.ofNat (rsT sN T (st.2.2.2.2.1.getD 0)) else 1) else 0
def mSu (x : gd) (ks : gK) (v : Int32) : Option gU → Prop
  | none => v = -1
  | some N => SUm x v (nPs sN T V K ks N)
/-- the slot of a local by its place: one of those known, or the next -/
def slP (kn : gK × Nat) (p : Nat) : Nat := if p = kn.1.length then kn.2 else slt kn.1 p
def mTo (st : gSt) : Int32 := match st.2.2.2.1 with
  | none => -1
  | some n => if st.1 = 17 ∨ st.1 = 20 then Int32.ofNat n else Int32.ofNat (slP st.2.2.1 n)
def mS (x : gd) (j : Nat) (st : gSt) : Prop := x.1 54 j = mWh st.1 ∧ (st.1 < 16 → x.1 55 j = Int32.ofNat st.1) ∧ x.1 56 j = mOf sN T V st ∧ x.1 57 j = mSz sN T st ∧ mSu sN T V K x st.2.2.1.1 (x.1 58 j) st.2.2.2.2.2.2.1 ∧ mSu sN T V K x st.2.2.1.1 (x.1 59 j) st.2.2.2.2.2.2.2.1 ∧ mSu sN T V K x st.2.2.1.1 (x.1 60 j) st.2.2.2.2.2.2.2.2 ∧ x.1 61 j = mTo st ∧ x.1 62 j = kms st.2.2.1.1
def SR (x : gd) (S : List gSt) : Prop := (x.1 0 52).toInt = S.length ∧ ∀ j st, S[j]? = some st → mS sN T V K x j st
end MSR
section MSL
variable {sN : Nat → Nat → Bool} {T : gTd} {V K : Nat → Int32} {x y z : gd} {S : List gSt} {j n w : Nat} {st : gSt} {E : gV} {M N : gU}
theorem mSu_keep {ks : gK} {v : Int32} {o : Option gU} (a : LF x y n w) (h : mSu sN T V K x ks v o) : mSu sN T V K y ks v o := by
  cases o with
  | none => exact h
  | some N => exact SUm_keep a.2.2.2.2.1 a.2.2.2.2.2.2.1 h
theorem mS_keep (a : LF x y n w) (hj : (j : Int) < (x.1 0 52).toInt) (h : mS sN T V K x j st) : mS sN T V K y j st := by
  have e := fun c h1 h2 => a.2.2.2.2.2.2.2 c h1 h2 j hj
  obtain ⟨h1, h2, h3, h4, h5, h6, h7, h8, h9⟩ := h
  unfold mS
  rw [e 54 (by decide) (by decide), e 55 (by decide) (by decide), e 56 (by decide) (by decide), e 57 (by decide) (by decide), e 58 (by decide) (by decide), e 59 (by decide) (by decide), e 60 (by decide) (by decide), e 61 (by decide) (by decide), e 62 (by decide) (by decide)]
  exact ⟨h1, h2, h3, h4, mSu_keep a h5, mSu_keep a h6, mSu_keep a h7, h8, h9⟩
theorem SR_keep (a : LF x y 0 w) (h : SR sN T V K x S) : SR sN T V K y S := by
  have a3 := a.2.2.1
  have a4 := a.2.2.2.1
  refine ⟨by have := h.1; omega, fun j st hj => mS_keep a ?_ (h.2 j st hj)⟩
  have := gt_lt hj
  have := h.1
  omega
theorem SR_snoc {wh so of sz at' e f to : Int32} (h : SR sN T V K x S) (a : LF x y 0 w) (hp : stp y z wh so of sz at' e f to) (hn : (x.1 0 52).toInt ≤ 1499) (hm : z.1 62 (y.1 0 52).toNatClampNeg = kms st.2.2.1.1) (h1 : wh = mWh st.1) (h2 : st.1 < 16 → so = Int32.ofNat st.1) (h3 : of = mOf sN T V st) (h4 : sz = mSz sN T st) (h5 : mSu sN T V K y st.2.2.1.1 at' st.2.2.2.2.2.2.1) (h6 : mSu sN T V K y st.2.2.1.1 e st.2.2.2.2.2.2.2.1) (h7 : mSu sN T V K y st.2.2.1.1 f st.2.2.2.2.2.2.2.2) (h8 : to = mTo st) : SR sN T V K z (S ++ [st]) := by
  have hy := SR_keep a h
  have ex : (y.1 0 52).toInt = (x.1 0 52).toInt := by rw [hy.1, h.1]
  have l0 := h.1
  have b := LF_stp hp a.2.1 (by omega) (by omega)
  have u := stp_up hp (by omega) (by omega)
  refine ⟨by rw [u, hy.1, List.length_append]; rfl, sn_get (fun j r hr => mS_keep b ?_ (hy.2 j r hr)) ?_⟩
  · have := gt_lt hr
    have := hy.1
    omega
  · have en : (y.1 0 52).toNatClampNeg = S.length := by rw [t_cl, hy.1]; omega
    obtain ⟨g1, g2, g3, v54, v55, v56, v57, v58, v59, v60, v61⟩ := hp
    rw [en] at v54 v55 v56 v57 v58 v59 v60 v61 hm
    unfold mS
    rw [v54, v55, v56, v57, v58, v59, v60, v61, hm]
    exact ⟨h1, h2, h3, h4, mSu_keep b h5, mSu_keep b h6, mSu_keep b h7, h8, rfl⟩
/-- a step's target is set -/
theorem SR_to {v : Int32} {i : Nat} (h : SR sN T V K y S) (hz : z = si y 61 i v) (hi : i < S.length) (hs : ∀ st, S[i]? = some st → st.1 = 17 ∨ st.1 = 20) (hv : v.toInt = n) : SR sN T V K z (cTo S i n) := by
  have m := md_a y 61 i v (by decide)
  rw [← hz] at m
  refine ⟨by rw [cTo_len, m.1 52 (by decide)]; exact h.1, fun j st hj => ?_⟩
  rw [cTo_at] at hj
  obtain ⟨s0, h0, e⟩ := Option.map_eq_some_iff.mp hj
  have g := h.2 j s0 h0
  have e51 : z.1 51 = y.1 51 := m.2.1 51 (by decide) (by decide)
  have e52 : z.1 52 = y.1 52 := m.2.1 52 (by decide) (by decide)
  have e49 : z.1 0 49 = y.1 0 49 := m.1 49 (by decide)
  have ku : ∀ {ks : gK} {v : Int32} {o : Option gU}, mSu sN T V K y ks v o → mSu sN T V K z ks v o := fun {ks v o} q => by
    cases o with
    | none => exact q
    | some N => exact SUm_keep (by rw [e49]; omega) (fun j _ => by rw [e51, e52]; exact ⟨rfl, rfl⟩) q
  have ec := fun (c : Nat) (hc : c ≠ 0) (h61 : c ∉ [61]) => congrFun (m.2.1 c hc h61) j
  obtain ⟨g1, g2, g3, g4, g5, g6, g7, g8, g9⟩ := g
  unfold mS
  rw [ec 54 (by decide) (by decide), ec 55 (by decide) (by decide), ec 56 (by decide) (by decide), ec 57 (by decide) (by decide), ec 58 (by decide) (by decide), ec 59 (by decide) (by decide), ec 60 (by decide) (by decide), ec 62 (by decide) (by decide)]
  by_cases c : j = i
  · rw [if_pos c] at e
    subst c
    rw [← e]
    refine ⟨g1, g2, g3, g4, ku g5, ku g6, ku g7, ?_, g9⟩
    rw [hz, si_get, if_pos ⟨rfl, rfl⟩]
    show v = if s0.1 = 17 ∨ s0.1 = 20 then Int32.ofNat n else _
    rw [if_pos (hs s0 h0)]
    exact i32_of hv
  · rw [if_neg c] at e
    subst e
    refine ⟨g1, g2, g3, g4, ku g5, ku g6, ku g7, ?_, g9⟩
    rw [hz, si_get, if_neg (fun q => c q.2)]
    exact g8
theorem SUm_md {L A : List Nat} {r : Int32} {P : List (Int32 × Int32)} (h : md L A y z) (h49 : 49 ∉ L) (h51 : 51 ∉ A) (h52 : 52 ∉ A) (q : SUm y r P) : SUm z r P := by
  unfold SUm
  rw [h.1 49 h49, h.2.1 51 (by decide) h51, h.2.1 52 (by decide) h52]
  exact q
theorem SR_md {L A : List Nat} (h : md L A y z) (hL : [49, 52].all (fun k => !L.elem k) = true) (hA : [51, 52, 54, 55, 56, 57, 58, 59, 60, 61, 62].all (fun k => !A.elem k) = true) (q : SR sN T V K y S) : SR sN T V K z S := by
  have f := fun k hk => h.1 k (all_no' hL k hk)
  have g := fun k (h0 : k ≠ 0) hk => h.2.1 k h0 (all_no' hA k hk)
  have ku : ∀ {ks : gK} {v : Int32} {o : Option gU}, mSu sN T V K y ks v o → mSu sN T V K z ks v o := fun {ks v o} q => by
    cases o with
    | none => exact q
    | some N => exact SUm_md h (all_no' hL 49 (by decide)) (all_no' hA 51 (by decide)) (all_no' hA 52 (by decide)) q
  refine ⟨by rw [f 52 (by decide)]; exact q.1, fun j st hj => ?_⟩
  obtain ⟨g1, g2, g3, g4, g5, g6, g7, g8, g9⟩ := q.2 j st hj
  unfold mS
  rw [g 54 (by decide) (by decide), g 55 (by decide) (by decide), g 56 (by decide) (by decide), g 57 (by decide) (by decide), g 58 (by decide) (by decide), g 59 (by decide) (by decide), g 60 (by decide) (by decide), g 61 (by decide) (by decide), g 62 (by decide) (by decide)]
  exact ⟨g1, g2, g3, g4, ku g5, ku g6, ku g7, g8, g9⟩
theorem nPs_54 {ks : gK} : nPs sN T V K ks (N ++ [(54, 0, 0)]) = nPs sN T V K ks N := by
  rw [nPs_app]
  exact List.append_nil _
/-- steps are added, those before stay -/
def xtS (S S' : List gSt) : Prop := S.length ≤ S'.length ∧ ∀ j, j < S.length → S'[j]? = S[j]?
theorem xtS_rf : xtS S S := ⟨Nat.le_refl _, fun _ _ => rfl⟩
theorem xtS_tr {S2 S3 : List gSt} (a : xtS S S2) (b : xtS S2 S3) : xtS S S3 := ⟨Nat.le_trans a.1 b.1, fun j hj => by rw [b.2 j (Nat.lt_of_lt_of_le hj a.1), a.2 j hj]⟩
theorem xtS_sn : xtS S (S ++ [st]) := ⟨by rw [List.length_append]; omega, fun j hj => List.getElem?_append_left hj⟩
theorem xtS_to {S2 : List gSt} {i : Nat} (a : xtS S S2) (h : S.length ≤ i) : xtS S (cTo S2 i n) := ⟨by rw [cTo_len]; exact a.1, fun j hj => by
  rw [cTo_at, a.2 j hj]
  have c : ¬ j = i := by omega
  simp only [if_neg c]
  exact Option.map_id'⟩
/-- laying statements: what becomes of the steps -/
def CQ (sN : Nat → Nat → Bool) (T : gTd) (V K : Nat → Int32) (x x' : gd) (E : gV) (M : gU) : Prop := ¬ flt sN T V M E → ¬ E.2.1 = [] → ∀ S k w, SR sN T V K x S → ∃ S', cds sN K M (E, S, k, rg0, w) = (exs M E, S', k, rg0, w) ∧ SR sN T V K x' S' ∧ xtS S S'
/-- a block, but for what its end adds -/
def CB (sN : Nat → Nat → Bool) (T : gTd) (V K : Nat → Int32) (x x' : gd) (E : gV) (z : Nat) (M : gU) : Prop := ¬ flt sN T V M E → ∀ S k w, SR sN T V K x S → ∃ S', cds sN K M (E, S, k, rg0, w) = cCl (exs M E, S', k, rg0, w) z ∧ SR sN T V K x' S' ∧ xtS S S'
/-- a right side; slot: where it goes -/
def RQ (sN : Nat → Nat → Bool) (T : gTd) (V K : Nat → Int32) (x x' : gd) (E : gV) (M : gU) (slot : Int32) : Prop := ¬ flt sN T V M E → ¬ E.2.1 = [] → ∀ S k w tg tk p, toL sN E.1 tg = some p → slot.toInt = slP (knw E) p → SR sN T V K x S → ∃ S', cds sN K M (E, S, k, ([], [], 0, false, tg, tk), w) = (E, S', k, rg0, w) ∧ SR sN T V K x' S' ∧ xtS S S'
theorem RQ_mk {wh so of sz at' e f slot : Int32} {op : Nat} {ob : Option Nat} {ro : Bool} {ix es fs : Option gU} (a : LF x y 0 w) (hp : stp y z wh so of sz at' e f slot) (hn : (x.1 0 52).toInt ≤ 1499) (hm : z.1 62 (y.1 0 52).toNatClampNeg = kms E.1) (h1 : wh = mWh op) (h2 : op < 16 → so = Int32.ofNat op) (h17 : ¬ (op = 17 ∨ op = 20)) (hc : ¬ flt sN T V M E → ¬ E.2.1 = [] → (∀ S k w tg tk p, toL sN E.1 tg = some p → cds sN K M (E, S, k, ([], [], 0, false, tg, tk), w) = (E, S ++ [(op, tk, knw E, some p, ob, ro, ix, es, fs)], k, rg0, w)) ∧ of = mOf sN T V (op, 0, knw E, none, ob, ro, ix, es, fs) ∧ sz = mSz sN T (op, 0, knw E, none, ob, ro, ix, es, fs) ∧ mSu sN T V K y E.1 at' ix ∧ mSu sN T V K y E.1 e es ∧ mSu sN T V K y E.1 f fs) : RQ sN T V K x z E M slot := by
  intro nf hE S k w' tg tk p hto hsl hS
  obtain ⟨c1, c2, c3, c4, c5, c6⟩ := hc nf hE
  refine ⟨_, c1 S k w' tg tk p hto, SR_snoc (st := (op, tk, knw E, some p, ob, ro, ix, es, fs)) hS a hp hn hm h1 h2 c2 c3 c4 c5 c6 ?_, xtS_sn⟩
  show slot = if op = 17 ∨ op = 20 then _ else Int32.ofNat (slP (knw E) p)
  rw [if_neg h17]
  exact i32_of hsl
theorem CQ_mk {wh so of sz at' e f to : Int32} (a : LF x y 0 w) (hp : stp y z wh so of sz at' e f to) (hn : (x.1 0 52).toInt ≤ 1499) (hm : z.1 62 (y.1 0 52).toNatClampNeg = kms st.2.2.1.1) (hM : exs M E = E) (hc : ¬ flt sN T V M E → ¬ E.2.1 = [] → (∀ S k w, cds sN K M (E, S, k, rg0, w) = (E, S ++ [st], k, rg0, w)) ∧ wh = mWh st.1 ∧ (st.1 < 16 → so = Int32.ofNat st.1) ∧ of = mOf sN T V st ∧ sz = mSz sN T st ∧ mSu sN T V K y st.2.2.1.1 at' st.2.2.2.2.2.2.1 ∧ mSu sN T V K y st.2.2.1.1 e st.2.2.2.2.2.2.2.1 ∧ mSu sN T V K y st.2.2.1.1 f st.2.2.2.2.2.2.2.2 ∧ to = mTo st) : CQ sN T V K x z E M := by
  intro nf hE S k w' hS
  obtain ⟨c1, c2, c3, c4, c5, c6, c7, c8, c9⟩ := hc nf hE
  exact ⟨_, by rw [c1, hM], SR_snoc hS a hp hn hm c2 c3 c4 c5 c6 c7 c8 c9, xtS_sn⟩
end MSL
end
section
theorem vE_LF {x y : gd} {n w : Nat} (f : LF x y n w) {i s h : Nat} {e : Int32} (q : vE x i s h e) : vE y i s h e :=
  vE_keep (NN_LF f).1 (fun c h1 h2 j hj => (NN_LF f).2 c h1 (by omega) j hj) _ _ _ _ q
theorem LW_md {o r : Int32} {s : Nat} {x y : gd} (q : LW o s x r y) : md pL pA x y := md_w q.1 (by decide) (by decide)
/-- a cell's number and size, as cellOf tells them -/
def cN (x : gd) (r : Int32) : Prop := r = -1 ∨ ((0 ≤ r.toInt ∧ r.toInt < (x.1 0 28).toInt) ∧ x.1 31 r.toNatClampNeg = 0)
theorem cN_v {x y : gd} {n w : Nat} (lb : LB x) (f : LF x y n w) {r : Int32} (q : cN x r) (h : ¬ r = -1) : vp_in r 40 ∧ 0 ≤ (y.1 32 r.toNatClampNeg).toInt ∧ 1 ≤ (y.1 33 r.toNatClampNeg).toInt ∧ (y.1 32 r.toNatClampNeg).toInt + (y.1 33 r.toNatClampNeg).toInt ≤ 24 := by
  obtain ⟨q1, q2⟩ := q.resolve_left h
  rw [f.1.2.1 32 (by decide) (by decide), f.1.2.1 33 (by decide) (by decide)]
  exact ⟨LB_v lb q1, LB_num lb q1 q2⟩
end
section
/-! laying right sides: what is found wrong -/
theorem vQ_st {x : gd} {p : Int32} {M : gU} (h : vQ x p M) : still M := by
  obtain ⟨-, ⟨_, h⟩ | ⟨_, n, M1, h1, h⟩⟩ := h
  · rw [h]; exact still_one ⟨by show ¬ 6 = 20; decide, by show ¬ 6 = 21; decide, by show ¬ 6 = 22; decide⟩
  · rw [h]; exact still_app (still_one ⟨by show ¬ 7 = 20; decide, by show ¬ 7 = 21; decide, by show ¬ 7 = 22; decide⟩) (still_app (vV_st h1) (still_one ⟨by show ¬ 54 = 20; decide, by show ¬ 54 = 21; decide, by show ¬ 54 = 22; decide⟩))
/-- a right side of a let, and the same behind a name that is set -/
theorem vRs_none {x : gd} {r : Int32} {t' : Nat} {M : gU} (h : vRs x r (some t') M) : ∃ M0, vRs x r none M0 ∧ ((x.1 15 r.toNatClampNeg = 10 ∧ x.1 15 (x.1 16 r.toNatClampNeg).toNatClampNeg = 3 ∧ ∃ t, (x.1 19 (x.1 16 r.toNatClampNeg).toNatClampNeg).toNatClampNeg = t ∧ M = [(27, t', t)] ∧ M0 = [(24, t, 0)]) ∨ (x.1 15 r.toNatClampNeg = 10 ∧ ¬ x.1 15 (x.1 16 r.toNatClampNeg).toNatClampNeg = 3 ∧ M = [(25, t', 0)] ++ M0) ∨ (¬ x.1 15 r.toNatClampNeg = 10 ∧ M = [(26, t', 0)] ++ M0)) := by
  obtain ⟨⟨b, t, et, h⟩, h2⟩ := h
  rcases h with ⟨q1, q2, q3, q4, q5, q6⟩ | ⟨q1, q2, n, M1, q3, q4⟩ | ⟨q1, M1, q2, q3⟩ | ⟨q1, n, M1, M2, q2, q3, q4⟩ | ⟨q1, q2, n, m, M1, M2, M3, q3, q4, q5, q6⟩
  · exact ⟨[pal none t], ⟨⟨b, t, et, Or.inl ⟨q1, q2, rfl, q4, q5, q6⟩⟩, h2⟩, Or.inl ⟨q1, q5, t, q6, q3, rfl⟩⟩
  · refine ⟨pma none ++ ((M1 ++ [(54, 0, 0)]) ++ [(76, t, 0)]), ⟨⟨b, t, et, Or.inr (Or.inl ⟨q1, q2, n, M1, q3, rfl⟩)⟩, h2⟩, Or.inr (Or.inl ⟨q1, fun z => q2 ?_, q4⟩)⟩
    rw [et]
    exact h2 q1 z
  · exact ⟨pme none ++ (M1 ++ [(75, t, 0)]), ⟨⟨b, t, et, Or.inr (Or.inr (Or.inl ⟨q1, M1, q2, rfl⟩))⟩, h2⟩, Or.inr (Or.inr ⟨by rw [q1]; decide, q3⟩)⟩
  · refine ⟨pme none ++ (M1 ++ ((M2 ++ [(54, 0, 0)]) ++ [(74, t, 0)])), ⟨⟨b, t, et, Or.inr (Or.inr (Or.inr (Or.inl ⟨q1, n, M1, M2, q2, q3, rfl⟩)))⟩, h2⟩, Or.inr (Or.inr ⟨?_, q4⟩)⟩
    rcases q1 with ⟨q1, _⟩ | ⟨q1, _⟩ <;> (rw [q1]; decide)
  · exact ⟨pme none ++ (M1 ++ ((M2 ++ [(54, 0, 0)]) ++ ((M3 ++ [(54, 0, 0)]) ++ [(74, t, 0)]))), ⟨⟨b, t, et, Or.inr (Or.inr (Or.inr (Or.inr ⟨q1, q2, n, m, M1, M2, M3, q3, q4, q5, rfl⟩)))⟩, h2⟩, Or.inr (Or.inr ⟨by rw [q1]; decide, q6⟩)⟩
section LRF
variable {sN : Nat → Nat → Bool} {T : gTd} {V K : Nat → Int32} {E : gV}
theorem flt_sum {M : gU} : flt sN T V (M ++ [(54, 0, 0)]) E ↔ flt sN T V M E := by
  rw [flt_app]
  exact ⟨fun z => z.elim id (fun z => absurd z (flt_k rfl)), Or.inl⟩
theorem flt_end {M : gU} {k a b : Nat} (h : [3, 6, 7, 12, 23, 24, 25, 26, 27, 65, 66, 67, 70].elem k = false) : flt sN T V (M ++ [(k, a, b)]) E ↔ flt sN T V M E := by
  rw [flt_app]
  exact ⟨fun z => z.elim id (fun z => absurd z (flt_k h)), Or.inl⟩
theorem still_54 {M : gU} (h : still M) : still (M ++ [(54, 0, 0)]) := still_app h (still_one ⟨by show ¬ 54 = 20; decide, by show ¬ 54 = 21; decide, by show ¬ 54 = 22; decide⟩)
theorem NF_LF {x y : gd} {n w : Nat} (f : LF x y n w) : NF x y := ⟨⟨(NN_LF f).1, fun c h1 h2 j hj => (NN_LF f).2 c h1 (by omega) j hj⟩, f.1.2.1 5 (by decide) (by decide), f.1.2.1 7 (by decide) (by decide)⟩
theorem sf_layR {G : mG} {D a : Nat} {x : gd} {Fv : gd → Prop} {M0 : gU} (r slot s : Int32) (hD : a + 4 ≤ D) (p : PL x) (v : vR x a r) (vs : vRs x r none M0) (ke : KEn x E) (ct : CT sN T V K x) (s0 : 0 ≤ slot.toInt) (s8 : slot.toInt < 8) (hs : vp_in s 3000) (hs2 : vp_in (x.1 19 s.toNatClampNeg) 710) (hw : (x.1 0 49).toInt + a ≤ 5980) (hn : (x.1 0 52).toInt ≤ 1499) (h : ∀ x', LQ x x' 1 (a + 3) → md pL pA x x' → LX x x' (flt sN T V M0 E) → RQ sN T V K x x' E M0 slot → Fv x') : MT G D z_layR 0 [(0, vr 0), (1, vi r), (2, vi slot), (3, vi s)] [] x (rv Fv) := by
  obtain ⟨D, rfl⟩ : ∃ D', D = D' + 3 := ⟨D - 3, by omega⟩
  obtain ⟨lb, wb, kb, hN, w0, n0, t1⟩ := id p
  obtain ⟨v1, v2, v3⟩ := v
  obtain ⟨esm, e7, tr, e5⟩ := id ct
  obtain ⟨X, eX⟩ : ∃ X : Prop, X = flt sN T V M0 E := ⟨_, rfl⟩
  rw [← eX] at h
  have k0 : (0 : Int32).toInt = 0 := rfl
  have rv' : vp_in r 3000 := by rw [vp_in_iff]; omega
  have sn : vp_in (x.1 0 52) 1500 := by rw [vp_in_iff]; omega
  -- the last: a step laid behind y
  have out : ∀ (y z : gd) (w1 a1 b1 c1 d1 e1 f1 : Int32) (k : Nat), RQ sN T V K x z E M0 slot → LF x y 0 k → md pL pA x y → LX x y X → k ≤ a + 3 → stp y z w1 a1 b1 c1 d1 e1 f1 slot → wo y 0 d1 → wo y 0 e1 → wo y 0 f1 → ¬ w1 = 3 → sV (x.1 0 25).toInt ((x.1 0 52).toInt + 1) w1 a1 b1 c1 d1 slot → rv Fv none z := by
    intro y z w1 a1 b1 c1 d1 e1 f1 k hrq lf m lx hk st q1 q2 q3 w3 q4
    have e52 : (y.1 0 52).toInt = (x.1 0 52).toInt := by have := lf.2.2.1; have := lf.2.2.2.1; omega
    refine rv_i (h z (LQ_mono (by omega) (by omega) (LQ_tr (LQ_0 lf) (LQ_stp st lf.2.1 (by omega) (by omega) q1 q2 q3 w3 (by rw [e52, lf.1.1 25 (by decide)]; exact q4)))) (md_tr m st.1 rfl rfl) (LX_md lx st.1 (by decide)) hrq)
  have lay : ∀ (y : gd) (k : Nat), LF x y 0 k → md pL pA x y → vp_in (y.1 0 52) 1500 ∧ KEn y E ∧ (s = -1 ∨ (vp_in s 3000 ∧ vp_in (y.1 19 s.toNatClampNeg) 710)) ∧ TK y := by
    intro y k lf m
    have e52 : (y.1 0 52).toInt = (x.1 0 52).toInt := by have := lf.2.2.1; have := lf.2.2.2.1; omega
    exact ⟨by rw [vp_in_iff]; omega, KEn_md m (by decide) (by decide) (by decide) ke, Or.inr ⟨hs, by rw [m.2.1 19 (by decide) (by decide)]; exact hs2⟩, (LB_md m rfl rfl lb).1⟩
  have nv : ∀ (y : gd) (k : Nat), LF x y 0 k → vp_in (y.1 0 52) 1500 := by
    intro y k lf
    have e52 : (y.1 0 52).toInt = (x.1 0 52).toInt := by have := lf.2.2.1; have := lf.2.2.2.1; omega
    rw [vp_in_iff]; omega
  have rf : LF x x 0 0 := LF_wr (md_w (md_rf x) (by decide) (by decide)) wb
  have rfm : md pL pA x x := md_w (md_rf x) (by decide) (by decide)
  -- a read of a cell alone
  have p106 : ∀ (y : gd) (n : Int32), LF x y 0 0 → md pL pA x y → LX x y X → 0 ≤ n.toInt → n.toInt < 24 → (¬ X → ¬ E.2.1 = [] → ∃ i, M0 = [(24, i, 0)] ∧ kfi sN E.1 i = none ∧ n.toInt = nmT sN 0 i T) → MT G (D + 3) z_layR 106 [(0, vr 0), (2, vi slot), (3, vi s)] [vi n, vi 0, vr 0] y (rv Fv) := by
    intro y n lf m lx h1 h2 hc
    obtain ⟨l1, l2, l3, l4⟩ := lay y 0 lf m
    refine sg_layR_106 _ _ _ _ (sf_layAct _ _ _ l1 l2 l3 l4 (fun z hz hzm => ⟨l1, fun z2 e2 => ?_⟩))
    refine out y z2 _ _ _ _ _ _ _ 0 ?_ lf m lx (by omega) (stp_61 (stp_a hz) e2) (Or.inl rfl) (Or.inl rfl) (Or.inl rfl) (by decide) (Or.inr (Or.inr (Or.inr (Or.inr (Or.inr ⟨rfl, Or.inr ⟨s0, s8⟩, Or.inl ⟨by decide, by decide, h1, h2, by decide, Or.inl rfl⟩⟩)))))
    have hst := stp_61 (stp_a hz) e2
    have c0 : X ∨ ¬ X := Classical.em X
    by_cases cE : E.2.1 = []
    · exact fun _ hE => absurd cE hE
    rcases c0 with c0 | c0
    · exact fun nf => absurd (by rw [← eX]; exact c0) nf
    obtain ⟨i, eM, ek, en⟩ := hc c0 cE
    refine RQ_mk (op := 0) (ob := some i) (ro := false) (ix := none) (es := none) (fs := none) lf hst hn (by rw [e2, si_cell (by decide)]; exact hzm) rfl (fun _ => rfl) (by decide) (fun _ _ => ⟨fun S k w tg tk p hto => ?_, i32_of en, rfl, rfl, rfl, rfl⟩)
    rw [eM, cds_one, cd_24]
    unfold cAl
    rw [ek]
    show cEm _ (0, tk, knw E, toL sN E.1 tg, some i, false, none, none, none) = _
    rw [hto]
    rfl
  -- an act
  obtain ⟨PA, hPA⟩ : ∃ PA : gd → Int32 → Int32 → Int32 → Int32 → Int32 → Int32 → Prop, ∀ y a1 b1 c1 d1 e1 f1, PA y a1 b1 c1 d1 e1 f1 ↔ (¬ X → ¬ E.2.1 = [] → ∃ (op : Nat) (ob : Option Nat) (ro : Bool) (ix es fs : Option gU), op < 16 ∧ a1 = Int32.ofNat op ∧ (∀ S k w tg tk p, toL sN E.1 tg = some p → cds sN K M0 (E, S, k, ([], [], 0, false, tg, tk), w) = (E, S ++ [(op, tk, knw E, some p, ob, ro, ix, es, fs)], k, rg0, w)) ∧ b1 = mOf sN T V (op, 0, knw E, none, ob, ro, ix, es, fs) ∧ c1 = mSz sN T (op, 0, knw E, none, ob, ro, ix, es, fs) ∧ mSu sN T V K y E.1 d1 ix ∧ mSu sN T V K y E.1 e1 es ∧ mSu sN T V K y E.1 f1 fs) := ⟨_, fun _ _ _ _ _ _ _ => Iff.rfl⟩
  have p330 : ∀ (y z : gd) (k : Nat) (a1 b1 c1 d1 e1 f1 : Int32), LF x y 0 k → md pL pA x y → LX x y X → k ≤ a + 3 → aD y z a1 b1 → wo y 0 d1 → wo y 0 e1 → wo y 0 f1 → 0 ≤ a1.toInt → a1.toInt ≤ 4 → 0 ≤ b1.toInt → b1.toInt < 24 → 0 ≤ c1.toInt → b1.toInt + c1.toInt ≤ 24 → z.1 62 (y.1 0 52).toNatClampNeg = kms E.1 → PA y a1 b1 c1 d1 e1 f1 → MT G (D + 3) z_layR 330 [(0, vr 0), (2, vi slot), (7, vi d1), (8, vi e1), (9, vi f1), (10, vi (y.1 0 52))] [vi c1, vi (y.1 0 52), vr 57] z (rv Fv) := by
    intro y z k a1 b1 c1 d1 e1 f1 lf m lx hk hz q1 q2 q3 g1 g2 g3 g4 g5 g6 hzm hpa
    have l1 := nv y k lf
    refine sg_layR_330 _ _ _ _ _ _ _ ⟨l1, fun z2 e2 => ⟨l1, fun z4 e4 => ⟨l1, fun z6 e6 => ⟨l1, fun z8 e8 => ⟨l1, fun z10 e10 => ?_⟩⟩⟩⟩⟩
    refine out y z10 _ _ _ _ _ _ _ k ?_ lf m lx hk (stp_61 (stp_60 (stp_59 (stp_58 (stp_57 (stp_a hz) e2) e4) e6) e8) e10) q1 q2 q3 (by decide) (Or.inr (Or.inr (Or.inr (Or.inr (Or.inr ⟨rfl, Or.inr ⟨s0, s8⟩, Or.inl ⟨g1, g2, g3, g4, g5, Or.inr g6⟩⟩)))))
    have hst := stp_61 (stp_60 (stp_59 (stp_58 (stp_57 (stp_a hz) e2) e4) e6) e8) e10
    by_cases cE : E.2.1 = []
    · exact fun _ hE => absurd cE hE
    rcases Classical.em X with c0 | c0
    · exact fun nf => absurd (by rw [← eX]; exact c0) nf
    obtain ⟨op, ob, ro, ix, es, fs, o1, o2, o3, o4, o5, o6, o7, o8⟩ := (hPA _ _ _ _ _ _ _).mp hpa c0 cE
    exact RQ_mk (op := op) (ob := ob) (ro := ro) (ix := ix) (es := es) (fs := fs) lf hst hn (by rw [e10, si_cell (by decide), e8, si_cell (by decide), e6, si_cell (by decide), e4, si_cell (by decide), e2, si_cell (by decide)]; exact hzm) (by unfold mWh; rw [if_pos (by omega)]) (fun _ => o2) (by omega) (fun _ _ => ⟨o3, o4, o5, o6, o7, o8⟩)
  have p296 : ∀ (y : gd) (k : Nat) (a1 b1 d1 e1 f1 l5 l6 : Int32), LF x y 0 k → md pL pA x y → LX x y X → k ≤ a + 3 → wo y 0 d1 → wo y 0 e1 → wo y 0 f1 → 0 ≤ a1.toInt → a1.toInt ≤ 4 → cN x l6 → (l6 = -1 → b1 = 0) → (¬ l6 = -1 → b1 = y.1 32 l6.toNatClampNeg) → (l6 = -1 → X) → (¬ l6 = -1 → PA y a1 b1 (if l5 = 0 then 0 else y.1 33 l6.toNatClampNeg) d1 e1 f1) → MT G (D + 3) z_layR 296 [(0, vr 0), (2, vi slot), (3, vi s), (5, vi l5), (6, vi l6), (7, vi d1), (8, vi e1), (9, vi f1)] [vi b1, vi a1, vr 0] y (rv Fv) := by
    intro y k a1 b1 d1 e1 f1 l5 l6 lf m lx hk q1 q2 q3 g1 g2 g3 g4 g5 hx6 hpa
    obtain ⟨l1, l2, l3, l4⟩ := lay y k lf m
    refine sg_layR_296 _ _ _ _ _ _ _ _ _ (sf_layAct _ _ _ l1 l2 l3 l4 (fun z hz hzm => ⟨fun c => ?_, fun c => ?_⟩))
    · have e : b1.toInt = 0 := by rw [g4 c, k0]
      exact p330 y z k _ _ _ _ _ _ lf m lx hk hz q1 q2 q3 g1 g2 (by omega) (by omega) (by decide) (by rw [k0]; omega) hzm ((hPA _ _ _ _ _ _ _).mpr (fun nx => absurd (hx6 c) nx))
    · obtain ⟨c1, c2, c3, c4⟩ := cN_v lb lf g3 c
      rw [← g5 c] at c2 c4
      have hpa2 := hpa c
      refine ⟨fun cl => ⟨c1, ?_⟩, fun cl => p330 y z k _ _ _ _ _ _ lf m lx hk hz q1 q2 q3 g1 g2 (by omega) (by omega) (by decide) (by rw [k0]; omega) hzm (by rw [if_pos cl] at hpa2; exact hpa2)⟩
      rw [if_neg cl] at hpa2
      rw [hz.1.2.1 33 (by decide) (by decide)]
      exact p330 y z k _ _ _ _ _ _ lf m lx hk hz q1 q2 q3 g1 g2 (by omega) (by omega) (by omega) (by omega) hzm hpa2
  have p279 : ∀ (y : gd) (k : Nat) (a1 d1 e1 f1 l5 l6 : Int32), LF x y 0 k → md pL pA x y → LX x y X → k ≤ a + 3 → wo y 0 d1 → wo y 0 e1 → wo y 0 f1 → 0 ≤ a1.toInt → a1.toInt ≤ 4 → cN x l6 → (l6 = -1 → X) → (¬ l6 = -1 → PA y a1 (y.1 32 l6.toNatClampNeg) (if l5 = 0 then 0 else y.1 33 l6.toNatClampNeg) d1 e1 f1) → MT G (D + 3) z_layR 279 [(0, vr 0), (2, vi slot), (3, vi s), (5, vi l5), (6, vi l6), (7, vi d1), (8, vi e1), (9, vi f1)] [vi a1, vr 0] y (rv Fv) := by
    intro y k a1 d1 e1 f1 l5 l6 lf m lx hk q1 q2 q3 g1 g2 g3 hx6 hpa
    refine sg_layR_279 _ _ _ _ _ _ _ _ ⟨fun c => ⟨(cN_v lb lf g3 c).1, p296 y k _ _ _ _ _ _ _ lf m lx hk q1 q2 q3 g1 g2 g3 (fun q => absurd q c) (fun _ => rfl) hx6 hpa⟩, fun c => p296 y k _ _ _ _ _ _ _ lf m lx hk q1 q2 q3 g1 g2 g3 (fun _ => rfl) (fun q => absurd c q) hx6 (fun q => absurd c q)⟩
  have p230 : ∀ (y : gd) (k : Nat) (d1 e1 f1 l5 l6 : Int32), LF x y 0 k → md pL pA x y → LX x y X → k ≤ a + 3 → wo y 0 d1 → wo y 0 e1 → wo y 0 f1 → cN x l6 → (l6 = -1 → X) → (¬ l6 = -1 → ∀ a1 : Int32, (y.1 15 r.toNatClampNeg = 11 → a1 = 0) → (y.1 15 r.toNatClampNeg = 12 → a1 = 2) → (y.1 15 r.toNatClampNeg = 13 → a1 = 3) → (¬ y.1 15 r.toNatClampNeg = 11 → ¬ y.1 15 r.toNatClampNeg = 12 → ¬ y.1 15 r.toNatClampNeg = 13 → a1 = 4) → PA y a1 (y.1 32 l6.toNatClampNeg) (if l5 = 0 then 0 else y.1 33 l6.toNatClampNeg) d1 e1 f1) → MT G (D + 3) z_layR 230 [(0, vr 0), (1, vi r), (2, vi slot), (3, vi s), (5, vi l5), (6, vi l6), (7, vi d1), (8, vi e1)] [vi f1] y (rv Fv) := by
    intro y k d1 e1 f1 l5 l6 lf m lx hk q1 q2 q3 g3 hx6 hpa
    have f := fun (a1 : Int32) g1 g2 h11 h12 h13 h14 => p279 y k a1 d1 e1 f1 l5 l6 lf m lx hk q1 q2 q3 g1 g2 g3 hx6 (fun c => hpa c a1 h11 h12 h13 h14)
    exact sg_layR_230 _ _ _ _ _ _ _ _ ⟨rv', fun n11 => ⟨rv', fun n12 => ⟨rv', fun n13 => f 4 (by decide) (by decide) (fun q => absurd q n11) (fun q => absurd q n12) (fun q => absurd q n13) (fun _ _ _ => rfl), fun y13 => f 3 (by decide) (by decide) (fun q => absurd q n11) (fun q => absurd q n12) (fun _ => rfl) (fun _ _ q => absurd y13 q)⟩, fun y12 => f 2 (by decide) (by decide) (fun q => absurd q n11) (fun _ => rfl) (fun q => by rw [y12] at q; exact absurd q (by decide)) (fun _ q => absurd y12 q)⟩, fun y11 => f 0 (by decide) (by decide) (fun _ => rfl) (fun q => by rw [y11] at q; exact absurd q (by decide)) (fun q => by rw [y11] at q; exact absurd q (by decide)) (fun q => absurd y11 q)⟩
  have wk : ∀ (y : gd) (k s1 : Nat) (e1 : Int32) (M : gU) (F : Int32 → gd → Prop), LF x y 0 k → md pL pA x y → (x.1 0 49).toInt + k + s1 ≤ 5990 → s1 ≤ a → ((e1 = -1 ∧ M = []) ∨ (vE x s1 s1 17 e1 ∧ ∃ n', vV x false n' e1 M)) → (∀ r2 z, LW 0 s1 y r2 z → LX y z (flt sN T V M E) → (¬ e1 = -1 → ¬ flt sN T V M E → SUm z r2 (nPs sN T V K E.1 M)) → (e1 = -1 → r2 = -1) → F r2 z) → MT G (D + 2) z_workOf 0 [(0, vr 0), (1, vi e1), (2, vi 0)] [] y (ri F) := by
    intro y k s1 e1 M F lf m hk hsa hv hF
    obtain ⟨y1, y2, y3, y4, y5, y6, y7⟩ := PL_up p lf m
    have b6 := lf.2.2.2.2.2.1
    exact sf_workOf 0 (n := s1) (s := s1) (M := M) (by omega) (hv.imp id (fun z => ⟨vE_LF lf z.1, z.2.elim (fun n' g => ⟨n', vV_NF (NF_LF lf) g⟩)⟩)) y4 y1 y2 (fun _ => KEn_md m (by decide) (by decide) (by decide) ke) (CT_md m (by decide) rfl ct) y5 (by omega) (fun r2 z q _ lx su hm1 => hF r2 z q lx su hm1)
  obtain ⟨⟨vb, t, et, vs⟩, vs2⟩ := vs
  refine sg_layR_0 _ _ _ ⟨rv', fun c => ?_, fun c => ?_⟩
  · -- not an E
    have vp : ∃ (i j q : Nat) (N1 N2 N3 : gU), i + j + q ≤ a ∧ vP x i (x.1 16 r.toNatClampNeg) ∧ ((x.1 15 r.toNatClampNeg = 11 ∧ N2 = []) ∨ (¬ x.1 15 r.toNatClampNeg = 11 ∧ vE x j j 17 (x.1 17 r.toNatClampNeg) ∧ ∃ n, vV x false n (x.1 17 r.toNatClampNeg) N2)) ∧ ((¬ x.1 15 r.toNatClampNeg = 14 ∧ N3 = []) ∨ (x.1 15 r.toNatClampNeg = 14 ∧ vE x q q 17 (x.1 18 r.toNatClampNeg) ∧ ∃ n, vV x false n (x.1 18 r.toNatClampNeg) N3)) ∧ vQ x (x.1 16 r.toNatClampNeg) N1 ∧ (X ↔ flt sN T V N1 E ∨ flt sN T V N2 E ∨ flt sN T V N3 E) ∧ ((x.1 15 r.toNatClampNeg = 11 ∧ M0 = N1 ++ [(75, t, 0)]) ∨ (((x.1 15 r.toNatClampNeg = 12 ∧ K t = 35) ∨ (x.1 15 r.toNatClampNeg = 13 ∧ K t = 10)) ∧ M0 = N1 ++ ((N2 ++ [(54, 0, 0)]) ++ [(74, t, 0)])) ∨ (x.1 15 r.toNatClampNeg = 14 ∧ K t = 16 ∧ M0 = N1 ++ ((N2 ++ [(54, 0, 0)]) ++ ((N3 ++ [(54, 0, 0)]) ++ [(74, t, 0)])))) := by
      rcases v3 with q | q | ⟨q, i, j, g1, g2, g3⟩ | ⟨q, i, j, l, g1, g2, g3, g4⟩
      · exact absurd q.1 c
      · rcases vs with ⟨q1, _⟩ | ⟨q1, _⟩ | ⟨q1, M1, q2, q3⟩ | ⟨q1, _⟩ | ⟨q1, _⟩
        · exact absurd q1 c
        · exact absurd q1 c
        · refine ⟨a, 0, 0, M1, [], [], by omega, q.2, Or.inl ⟨q.1, rfl⟩, Or.inl ⟨by rw [q.1]; decide, rfl⟩, q2, ?_, Or.inl ⟨q.1, q3⟩⟩
          rw [eX, q3]
          show flt sN T V (M1 ++ [(75, t, 0)]) E ↔ _
          rw [flt_end rfl, flt_nil, or_false, or_false]
        · rw [q.1] at q1; rcases q1 with ⟨q1, _⟩ | ⟨q1, _⟩ <;> exact absurd q1 (by decide)
        · rw [q.1] at q1; exact absurd q1 (by decide)
      · rcases vs with ⟨q1, _⟩ | ⟨q1, _⟩ | ⟨q1, _⟩ | ⟨q1, n, M1, M2, q2, q3, q4⟩ | ⟨q1, _⟩
        · exact absurd q1 c
        · exact absurd q1 c
        · rw [q1] at q; exact absurd q (by decide)
        · refine ⟨i, j, 0, M1, M2, [], by omega, g2, Or.inr ⟨?_, g3, n, q3⟩, Or.inl ⟨?_, rfl⟩, q2, ?_, Or.inr (Or.inl ⟨by rw [← e5]; exact q1, q4⟩)⟩
          · rcases q with q | q <;> (rw [q]; decide)
          · rcases q with q | q <;> (rw [q]; decide)
          · rw [eX, q4]
            show flt sN T V (M1 ++ ((M2 ++ [(54, 0, 0)]) ++ [(74, t, 0)])) E ↔ _
            rw [flt_app, exs_still (vQ_st q2), flt_end rfl, flt_sum, flt_nil, or_false]
        · rw [q1] at q; exact absurd q (by decide)
      · rcases vs with ⟨q1, _⟩ | ⟨q1, _⟩ | ⟨q1, _⟩ | ⟨q1, _⟩ | ⟨q1, q2, n, m, M1, M2, M3, q3, q4, q5, q6⟩
        · exact absurd q1 c
        · exact absurd q1 c
        · rw [q1] at q; exact absurd q (by decide)
        · rw [q] at q1; rcases q1 with ⟨q1, _⟩ | ⟨q1, _⟩ <;> exact absurd q1 (by decide)
        · refine ⟨i, j, l, M1, M2, M3, g1, g2, Or.inr ⟨by rw [q]; decide, g3, n, q4⟩, Or.inr ⟨q, g4, m, q5⟩, q3, ?_, Or.inr (Or.inr ⟨q, by rw [← e5]; exact q2, q6⟩)⟩
          rw [eX, q6]
          show flt sN T V (M1 ++ ((M2 ++ [(54, 0, 0)]) ++ ((M3 ++ [(54, 0, 0)]) ++ [(74, t, 0)]))) E ↔ _
          rw [flt_app, exs_still (vQ_st q3), flt_app, exs_still (still_54 (vV_st q4)), flt_sum, flt_end rfl, flt_sum]
    obtain ⟨i, j, q, N1, N2, N3, g1, ⟨g2, g3, g4⟩, g5, g6, vq, hX, hkind⟩ := vp
    have pv : vp_in (x.1 16 r.toNatClampNeg) 3000 := by rw [vp_in_iff]; omega
    obtain ⟨tp, etp⟩ : ∃ tp, tp = (x.1 19 (x.1 16 r.toNatClampNeg).toNatClampNeg).toNatClampNeg := ⟨_, rfl⟩
    have s2 : ¬ x.1 15 r.toNatClampNeg = 11 → sEv false N2 := fun z => by
      rcases g5 with ⟨w, _⟩ | ⟨_, _, n, w⟩
      · exact absurd w z
      · exact vV_sE w
    have s3 : x.1 15 r.toNatClampNeg = 14 → sEv false N3 := fun z => by
      rcases g6 with ⟨w, _⟩ | ⟨_, _, n, w⟩
      · exact absurd z w
      · exact vV_sE w
    have mk : ∀ (y : gd) (b l6 d1 e1 f1 : Int32) (N0 : gU) (ro : Bool) (ix : Option gU), pPl tp N0 ro ix N1 → ro = decide (¬ b = 0) → (y.1 32 l6.toNatClampNeg).toInt = nmT sN 0 tp T → (¬ b = 0 → (y.1 33 l6.toNatClampNeg).toInt = rsT sN T tp) → (¬ X → mSu sN T V K y E.1 d1 ix) → (x.1 15 r.toNatClampNeg = 11 → e1 = -1) → (¬ x.1 15 r.toNatClampNeg = 11 → ¬ X → SUm y e1 (nPs sN T V K E.1 N2)) → (¬ x.1 15 r.toNatClampNeg = 14 → f1 = -1) → (x.1 15 r.toNatClampNeg = 14 → ¬ X → SUm y f1 (nPs sN T V K E.1 N3)) → ∀ a1 : Int32, (x.1 15 r.toNatClampNeg = 11 → a1 = 0) → (x.1 15 r.toNatClampNeg = 12 → a1 = 2) → (x.1 15 r.toNatClampNeg = 13 → a1 = 3) → (x.1 15 r.toNatClampNeg = 14 → a1 = 4) → PA y a1 (y.1 32 l6.toNatClampNeg) (if b = 0 then 0 else y.1 33 l6.toNatClampNeg) d1 e1 f1 := by
      intro y b l6 d1 e1 f1 N0 ro ix hpl hro h32 h33 hd1 he0 he1 hf0 hf1 a1 a11 a12 a13 a14
      have hsz : ∀ (op : Nat) (es fs : Option gU), op ≤ 4 → (if b = 0 then 0 else y.1 33 l6.toNatClampNeg) = mSz sN T (op, 0, knw E, none, some tp, ro, ix, es, fs) := fun op es fs ho => by
        unfold mSz
        show _ = if ro = true then (if op ≤ 4 then Int32.ofNat (rsT sN T tp) else 1) else 0
        rw [if_pos ho, hro]
        by_cases cb : b = 0
        · rw [if_pos cb, if_neg (by rw [cb]; decide)]
        · rw [if_neg cb, if_pos (decide_eq_true cb)]; exact i32_of (h33 cb)
      have hof : ∀ (op : Nat) (es fs : Option gU), op ≤ 4 → y.1 32 l6.toNatClampNeg = mOf sN T V (op, 0, knw E, none, some tp, ro, ix, es, fs) := fun op es fs ho => by
        show _ = if op ≤ 4 then Int32.ofNat (nmT sN 0 tp T) else _
        rw [if_pos ho]; exact i32_of h32
      refine (hPA _ _ _ _ _ _ _).mpr (fun nx hE => ?_)
      rcases hkind with ⟨z1, z2⟩ | ⟨z1, z2⟩ | ⟨z1, z2, z3⟩
      · refine ⟨0, some tp, ro, ix, none, none, by decide, a11 z1, fun S k w tg tk p hto => ?_, hof 0 none none (by decide), hsz 0 none none (by decide), hd1 nx, he0 z1, hf0 (by rw [z1]; decide)⟩
        rw [z2, cds_r75 hpl hE, hto]
      · have n11 : ¬ x.1 15 r.toNatClampNeg = 11 := by rcases z1 with ⟨z1, _⟩ | ⟨z1, _⟩ <;> (rw [z1]; decide)
        have n14 : ¬ x.1 15 r.toNatClampNeg = 14 := by rcases z1 with ⟨z1, _⟩ | ⟨z1, _⟩ <;> (rw [z1]; decide)
        have n16 : ¬ K t = 16 := by rcases z1 with ⟨_, z1⟩ | ⟨_, z1⟩ <;> (rw [z1]; decide)
        have ho : opX (K t) ≤ 4 ∧ a1 = Int32.ofNat (opX (K t)) := by
          rcases z1 with ⟨z0, z1⟩ | ⟨z0, z1⟩
          · rw [z1, a12 z0]; exact ⟨by decide, rfl⟩
          · rw [z1, a13 z0]; exact ⟨by decide, rfl⟩
        refine ⟨opX (K t), some tp, ro, ix, some N2, none, by omega, ho.2, fun S k w tg tk p hto => ?_, hof _ _ _ ho.1, hsz _ _ _ ho.1, hd1 nx, he1 n11 nx, hf0 n14⟩
        rw [z2, cds_r74 hpl (s2 n11) hE n16, hto]
      · have n11 : ¬ x.1 15 r.toNatClampNeg = 11 := by rw [z1]; decide
        refine ⟨4, some tp, ro, ix, some N2, some N3, by decide, a14 z1, fun S k w tg tk p hto => ?_, hof 4 _ _ (by decide), hsz 4 _ _ (by decide), hd1 nx, he1 n11 nx, hf1 z1 nx⟩
        rw [z3, cds_r74c hpl (s2 n11) (s3 z1) hE z2, hto]
    obtain ⟨DX, hDX⟩ : ∃ DX : gd → Int32 → Int32 → Int32 → Prop, ∀ y b l6 d1, DX y b l6 d1 ↔ ∃ (N0 : gU) (ro : Bool) (ix : Option gU), pPl tp N0 ro ix N1 ∧ ro = decide (¬ b = 0) ∧ (l6 = -1 → X) ∧ (¬ l6 = -1 → (x.1 32 l6.toNatClampNeg).toInt = nmT sN 0 tp T) ∧ (¬ l6 = -1 → ¬ b = 0 → (x.1 33 l6.toNatClampNeg).toInt = rsT sN T tp) ∧ (¬ X → mSu sN T V K y E.1 d1 ix) := ⟨_, fun _ _ _ _ => Iff.rfl⟩
    have DX_up : ∀ (y z : gd) (b l6 d1 : Int32) (n w : Nat), LF y z n w → DX y b l6 d1 → DX z b l6 d1 := fun y z b l6 d1 n w lf q => by
      obtain ⟨N0, ro, ix, h1, h2, h3, h4, h5, h6⟩ := (hDX _ _ _ _).mp q
      exact (hDX _ _ _ _).mpr ⟨N0, ro, ix, h1, h2, h3, h4, h5, fun nx => mSu_keep lf (h6 nx)⟩
    have p202 : ∀ (y : gd) (d1 e1 l5 l6 : Int32), LF x y 0 (i + 1 + (j + 1)) → md pL pA x y → LX x y (flt sN T V N1 E ∨ flt sN T V N2 E) → wo y 0 d1 → wo y 0 e1 → cN x l6 → DX y l5 l6 d1 → (x.1 15 r.toNatClampNeg = 11 → e1 = -1) → (¬ x.1 15 r.toNatClampNeg = 11 → ¬ X → SUm y e1 (nPs sN T V K E.1 N2)) → MT G (D + 3) z_layR 202 [(0, vr 0), (1, vi r), (2, vi slot), (3, vi s), (5, vi l5), (6, vi l6), (7, vi d1)] [vi e1] y (rv Fv) := by
      intro y d1 e1 l5 l6 lf m lx q1 q2 q6 hdx he0 he1
      have fin2 : ∀ (z : gd) (f1 : Int32) (n w : Nat), LF y z n w → md pL pA x z → (¬ x.1 15 r.toNatClampNeg = 14 → f1 = -1) → (x.1 15 r.toNatClampNeg = 14 → ¬ X → SUm z f1 (nPs sN T V K E.1 N3)) → (l6 = -1 → X) ∧ (¬ l6 = -1 → ∀ a1 : Int32, (z.1 15 r.toNatClampNeg = 11 → a1 = 0) → (z.1 15 r.toNatClampNeg = 12 → a1 = 2) → (z.1 15 r.toNatClampNeg = 13 → a1 = 3) → (¬ z.1 15 r.toNatClampNeg = 11 → ¬ z.1 15 r.toNatClampNeg = 12 → ¬ z.1 15 r.toNatClampNeg = 13 → a1 = 4) → PA z a1 (z.1 32 l6.toNatClampNeg) (if l5 = 0 then 0 else z.1 33 l6.toNatClampNeg) d1 e1 f1) := by
        intro z f1 n w lfz mz hf0 hf1
        obtain ⟨N0, ro, ix, h1, h2, h3, h4, h5, h6⟩ := (hDX _ _ _ _).mp (DX_up y z l5 l6 d1 n w lfz hdx)
        refine ⟨h3, fun c6 a1 => ?_⟩
        rw [mz.2.1 15 (by decide) (by decide), mz.2.1 32 (by decide) (by decide), mz.2.1 33 (by decide) (by decide)]
        intro a11 a12 a13 a14
        have e32 : z.1 32 = x.1 32 := mz.2.1 32 (by decide) (by decide)
        have e33 : z.1 33 = x.1 33 := mz.2.1 33 (by decide) (by decide)
        have := mk z l5 l6 d1 e1 f1 N0 ro ix h1 h2 (by rw [e32]; exact h4 c6) (by rw [e33]; exact h5 c6) h6 he0 (fun q nx => SUm_keep lfz.2.2.2.2.1 lfz.2.2.2.2.2.2.1 (he1 q nx)) hf0 hf1 a1 a11 a12 a13 (fun q => a14 (by rw [q]; decide) (by rw [q]; decide) (by rw [q]; decide))
        rw [e32, e33] at this
        exact this
      have e15 : y.1 15 = x.1 15 := m.2.1 15 (by decide) (by decide)
      have e18 : y.1 18 = x.1 18 := m.2.1 18 (by decide) (by decide)
      have f0 := fun c2 : ¬ y.1 15 r.toNatClampNeg = 14 => fin2 y (-1) 0 0 (LF_wr (md_w (md_rf y) (by decide) (by decide)) lf.2.1) m (fun _ => rfl) (fun q => absurd (by rw [e15]; exact q) c2)
      refine sg_layR_202 _ _ _ _ _ _ _ ⟨rv', fun c2 => p230 y _ _ _ _ _ _ lf m (LX_eq lx ?_) (by omega) q1 q2 (Or.inl rfl) q6 (f0 c2).1 (f0 c2).2, fun c2 => ⟨rv', ?_⟩⟩
      · rw [e15] at c2
        rcases g6 with ⟨_, z⟩ | ⟨z, _⟩
        · rw [hX, z, flt_nil, or_false]
        · exact absurd z c2
      rw [e15] at c2
      rw [e18]
      refine wk y _ q _ N3 _ lf m (by omega) (by omega) (Or.inr ?_) (fun r2 z lw lx2 su2 _ => ?_)
      · rcases g6 with ⟨z, _⟩ | ⟨_, z⟩
        · exact absurd c2 z
        · exact z
      have lf2 := LF_wk lw
      have h1 := lf2.2.2.2.2.1
      have h2 := lw.2.2.1
      have f1 := fin2 z r2 _ _ lf2 (md_tr m (LW_md lw) rfl rfl) (fun q => absurd c2 q) (fun _ nx => su2 (fun q => by
        rcases g6 with ⟨z, _⟩ | ⟨_, z, _⟩
        · exact absurd c2 z
        · rw [q] at z; exact absurd (vE_pos z) (by decide)) (fun q => nx (hX.mpr (Or.inr (Or.inr q)))))
      exact p230 z _ _ _ _ _ _ (LF_tr lf lf2) (md_tr m (LW_md lw) rfl rfl) (LX_eq (LX_tr lx lx2) (by rw [hX, or_assoc])) (by omega) (wo_keep h1 h2 q1) (wo_keep h1 h2 q2) lw.2.2.2.2.2 q6 f1.1 f1.2
    have p145 : ∀ b : Int32, (x.1 16 (x.1 16 r.toNatClampNeg).toNatClampNeg = -1 → b = 0) → (¬ x.1 16 (x.1 16 r.toNatClampNeg).toNatClampNeg = -1 → b = 1) → MT G (D + 3) z_layR 145 [(0, vr 0), (1, vi r), (2, vi slot), (3, vi s), (4, vi (x.1 16 r.toNatClampNeg))] [vi b] x (rv Fv) := by
      intro b hb0 hb1
      -- the place: its name, its index
      have hq : ∃ (N0 : gU) (ro : Bool) (ix : Option gU), (pPl tp N0 ro ix N1 ∧ ro = decide (¬ b = 0) ∧ (b = 0 → ix = none) ∧ (¬ b = 0 → ix = some N0 ∧ ¬ x.1 16 (x.1 16 r.toNatClampNeg).toNatClampNeg = -1) ∧ (b = 0 → x.1 16 (x.1 16 r.toNatClampNeg).toNatClampNeg = -1)) ∧ ((x.1 16 (x.1 16 r.toNatClampNeg).toNatClampNeg = -1 ∧ N0 = []) ∨ (vE x i i 17 (x.1 16 (x.1 16 r.toNatClampNeg).toNatClampNeg) ∧ ∃ n, vV x false n (x.1 16 (x.1 16 r.toNatClampNeg).toNatClampNeg) N0)) ∧ (b = 0 ∨ b = 1) ∧ (flt sN T V N1 E ↔ (((b = 0 → ¬ plc sN T (x.1 19 (x.1 16 r.toNatClampNeg).toNatClampNeg).toNatClampNeg) ∧ (b = 1 → ¬ ∃ n, rwc sN T (x.1 19 (x.1 16 r.toNatClampNeg).toNatClampNeg).toNatClampNeg n)) ∨ flt sN T V N0 E)) := by
        obtain ⟨-, ⟨z1, z2⟩ | ⟨z1, n, M1, z2, z3⟩⟩ := id vq
        · refine ⟨[], false, none, ⟨Or.inl ⟨rfl, rfl, by rw [etp]; exact z2⟩, by rw [hb0 z1]; rfl, fun _ => rfl, fun q => absurd (hb0 z1) q, fun _ => z1⟩, Or.inl ⟨z1, rfl⟩, Or.inl (hb0 z1), ?_⟩
          rw [z2, flt_one, fv_6, flt_nil, or_false, hb0 z1]
          exact ⟨fun z => ⟨fun _ => z, fun q => absurd q (by decide)⟩, fun z => z.1 rfl⟩
        · refine ⟨M1, true, some M1, ⟨Or.inr ⟨rfl, rfl, vV_sE z2, by rw [etp]; exact z3⟩, by rw [hb1 z1]; rfl, fun q => by rw [hb1 z1] at q; exact absurd q (by decide), fun _ => ⟨rfl, z1⟩, fun q => by rw [hb1 z1] at q; exact absurd q (by decide)⟩, Or.inr ⟨g4.resolve_left z1, n, z2⟩, Or.inr (hb1 z1), ?_⟩
          rw [z3, flt_app, flt_one, fv_7, exs_one, exV_still ⟨by show ¬ 7 = 20; decide, by show ¬ 7 = 21; decide, by show ¬ 7 = 22; decide⟩, flt_sum, hb1 z1]
          exact ⟨fun z => z.imp (fun z => ⟨fun q => absurd q (by decide), fun _ => z⟩) id, fun z => z.imp (fun z => z.2 rfl) id⟩
      obtain ⟨N0, ro, ix, ⟨pl1, pl2, pl3, pl4, pl5⟩, hN0, hb2, hfl⟩ := hq
      refine sg_layR_145 _ _ _ _ _ ⟨pv, sf_cellOf _ _ hb2 g3 lb wb tr (fun c2 y m wy hc lx hc2 hcn => ⟨pv, ?_⟩)⟩
      rw [esm] at hc2 hcn
      rw [← etp] at hcn
      have lf := LF_wr m wy
      have mm : md pL pA x y := md_w m (by decide) (by decide)
      have cn : cN x c2 := hc.imp id (fun q => ⟨q.1, q.2.1⟩)
      rw [m.2.1 16 (by decide) (by decide)]
      refine wk y 0 i _ N0 _ lf mm (by omega) (by omega) hN0 (fun r2 z lw lx2 su2 hm2 => ?_)
      have lx3 : LX x z (flt sN T V N1 E) := LX_eq (LX_tr lx lx2) (by rw [hc2, hfl])
      have hdx : DX z b c2 r2 := by
        refine (hDX _ _ _ _).mpr ⟨N0, ro, ix, pl1, pl2, fun q => hX.mpr (Or.inl (hfl.mpr (Or.inl (hc2.mp q)))), fun q => (hcn q).1, fun q q2 => (hcn q).2 (hb2.resolve_left q2), fun nx => ?_⟩
        by_cases cb : b = 0
        · rw [pl3 cb]; exact hm2 (pl5 cb)
        · rw [(pl4 cb).1]; exact su2 (pl4 cb).2 (fun q => nx (hX.mpr (Or.inl (hfl.mpr (Or.inr q)))))
      refine ⟨rv', fun c3 => ⟨rv', ?_⟩, fun c3 => ?_⟩
      · have lf2 := LF_tr lf (LF_wk lw)
        have m2 : md pL pA x z := md_tr mm (LW_md lw) rfl rfl
        rw [m2.2.1 15 (by decide) (by decide)] at c3
        rw [m2.2.1 17 (by decide) (by decide)]
        refine wk z _ j _ N2 _ lf2 m2 (by omega) (by omega) (Or.inr ?_) (fun r3 z3 lw3 lx4 su3 _ => ?_)
        · rcases g5 with ⟨z, _⟩ | ⟨_, z⟩
          · exact absurd z c3
          · exact z
        have lf3 := LF_wk lw3
        have := LF_tr lf2 lf3
        exact p202 z3 _ _ _ _ (by rw [show i + 1 + (j + 1) = 0 + (i + 1) + (j + 1) by omega]; exact this) (md_tr m2 (LW_md lw3) rfl rfl) (LX_tr lx3 lx4) (wo_keep lf3.2.2.2.2.1 lw3.2.2.1 lw.2.2.2.2.2) lw3.2.2.2.2.2 cn (DX_up _ _ _ _ _ _ _ lf3 hdx) (fun q => absurd q c3) (fun _ nx => su3 (fun q => by
          rcases g5 with ⟨z, _⟩ | ⟨_, z, _⟩
          · exact absurd z c3
          · rw [q] at z; exact absurd (vE_pos z) (by decide)) (fun q => nx (hX.mpr (Or.inr (Or.inl q)))))
      · have lf2 := LF_tr lf (LF_wk lw)
        have m2 : md pL pA x z := md_tr mm (LW_md lw) rfl rfl
        rw [m2.2.1 15 (by decide) (by decide)] at c3
        obtain ⟨a1, a2, a3, a4, a5, a6, a7, a8⟩ := lf2
        refine p202 z _ _ _ _ ⟨a1, a2, a3, a4, a5, by omega, a7, a8⟩ m2 (LX_eq lx3 ?_) lw.2.2.2.2.2 (Or.inl rfl) cn hdx (fun _ => rfl) (fun q => absurd c3 q)
        rcases g5 with ⟨_, z⟩ | ⟨z, _⟩
        · rw [z, flt_nil, or_false]
        · exact absurd c3 z
    exact sg_layR_58 _ _ _ ⟨rv', fun _ => ⟨rv', pv, fun z => p145 0 (fun _ => rfl) (fun q => absurd z q), fun z => p145 1 (fun q => absurd q z) (fun _ => rfl)⟩, fun q => absurd q c⟩
  · have ve : vE x a a 17 (x.1 16 r.toNatClampNeg) := by
      rcases v3 with q | q | ⟨q, _⟩ | ⟨q, _⟩
      · exact q.2
      · rw [c] at q; exact absurd q.1 (by decide)
      · rw [c] at q; exact absurd q (by decide)
      · rw [c] at q; exact absurd q (by decide)
    have pv : vp_in (x.1 16 r.toNatClampNeg) 3000 ∧ vp_in (x.1 19 (x.1 16 r.toNatClampNeg).toNatClampNeg) 710 := by
      cases a with
      | zero => exact ve.elim
      | succ a => exact ⟨by rw [vp_in_iff]; have := ve.1; omega, ve.2.2.2.1⟩
    -- a name alone, or a sum
    have hM : ∃ (n : Nat) (M1 : gU), vV x false n (x.1 16 r.toNatClampNeg) M1 ∧ (¬ (x.1 15 (x.1 16 r.toNatClampNeg).toNatClampNeg = 3 ∧ kfi sN E.1 (x.1 19 (x.1 16 r.toNatClampNeg).toNatClampNeg).toNatClampNeg = none) → (X ↔ flt sN T V M1 E)) ∧ (x.1 15 (x.1 16 r.toNatClampNeg).toNatClampNeg = 3 → kfi sN E.1 (x.1 19 (x.1 16 r.toNatClampNeg).toNatClampNeg).toNatClampNeg = none → (X ↔ ¬ plc sN T (x.1 19 (x.1 16 r.toNatClampNeg).toNatClampNeg).toNatClampNeg)) ∧ ((M0 = [(24, (x.1 19 (x.1 16 r.toNatClampNeg).toNatClampNeg).toNatClampNeg, 0)] ∧ M1 = [(3, (x.1 19 (x.1 16 r.toNatClampNeg).toNatClampNeg).toNatClampNeg, 0)] ∧ x.1 15 (x.1 16 r.toNatClampNeg).toNatClampNeg = 3) ∨ (M0 = (M1 ++ [(54, 0, 0)]) ++ [(76, t, 0)] ∧ ¬ x.1 15 (x.1 16 r.toNatClampNeg).toNatClampNeg = 3)) := by
      rcases vs with ⟨q1, q2, q3, ⟨n, M1, q4⟩, q5, q6⟩ | ⟨q1, q2, n, M1, q3, q4⟩ | ⟨q1, _⟩ | ⟨q1, _⟩ | ⟨q1, _⟩
      · have hx : X ↔ kfi sN E.1 t = none ∧ ¬ plc sN T t := by
          rw [eX, q3]
          show flt sN T V [(24, t, 0)] E ↔ _
          rw [flt_one, fv_24]
        refine ⟨n, M1, q4, fun z => ?_, fun _ z => ?_, Or.inl ⟨by rw [q6]; exact q3, (vV_c q4).2.2.1 q5, q5⟩⟩
        · rw [q6] at z
          have z2 : ¬ kfi sN E.1 t = none := fun w => z ⟨q5, w⟩
          have eM := (vV_c q4).2.2.1 q5
          rw [hx, eM, if_neg (by decide), flt_one, fv_3, q6]
          exact ⟨fun w => absurd w.1 z2, fun w => absurd w z2⟩
        · rw [q6] at z ⊢
          rw [hx]
          exact ⟨fun w => w.2, fun w => ⟨z, w⟩⟩
      · have n3 : ¬ x.1 15 (x.1 16 r.toNatClampNeg).toNatClampNeg = 3 := fun z => q2 (by rw [et]; exact vs2 q1 z)
        refine ⟨n, M1, q3, fun _ => ?_, fun z => absurd z n3, Or.inr ⟨q4, n3⟩⟩
        rw [eX, q4]
        show flt sN T V ((M1 ++ [(54, 0, 0)]) ++ [(76, t, 0)]) E ↔ _
        rw [flt_end rfl, flt_sum]
      · rw [q1] at c; exact absurd c (by decide)
      · rcases q1 with ⟨q1, _⟩ | ⟨q1, _⟩ <;> (rw [q1] at c; exact absurd c (by decide))
      · rw [q1] at c; exact absurd c (by decide)
    obtain ⟨n, M1, vv, hX1, hX2, hM3⟩ := hM
    refine sf_isCellAlone _ rv' (fun _ => pv) lb.1 ke (fun q0 => ⟨fun q => absurd rfl q, fun _ => ⟨rv', ?_⟩⟩) (fun _ a3 a4 => ⟨fun _ => ?_, fun q => absurd q (by decide)⟩)
    · rw [esm] at q0
      refine wk x 0 a _ M1 _ rf rfm (by omega) (by omega) (Or.inr ⟨ve, n, vv⟩) (fun r2 z lw lx su2 _ => ?_)
      have lf2 := LF_wk lw
      have m2 := LW_md lw
      obtain ⟨l1, l2, l3, l4⟩ := lay z _ lf2 m2
      refine sf_layStep _ _ l1 l2 l3 l4 (fun w hw2 hwm => ⟨l1, fun w2 e2 => ⟨l1, fun w4 e4 => ?_⟩⟩)
      refine out z w4 _ _ _ _ _ _ _ _ ?_ lf2 m2 (LX_eq lx (hX1 (fun z => q0 ⟨c, z.1, z.2⟩)).symm) (by omega) (stp_61 (stp_59 (stp_s hw2) e2) e4) (Or.inl rfl) lw.2.2.2.2.2 (Or.inl rfl) (by decide) (Or.inl ⟨rfl, s0, s8⟩)
      have hnk : ¬ (x.1 15 (x.1 16 r.toNatClampNeg).toNatClampNeg = 3 ∧ kfi sN E.1 (x.1 19 (x.1 16 r.toNatClampNeg).toNatClampNeg).toNatClampNeg = none) := fun z => q0 ⟨c, z.1, z.2⟩
      have hst := stp_61 (stp_59 (stp_s hw2) e2) e4
      refine RQ_mk (op := 16) (ob := none) (ro := false) (ix := none) (es := some M1) (fs := none) lf2 hst hn (by rw [e4, si_cell (by decide), e2, si_cell (by decide)]; exact hwm) rfl (fun q => absurd q (by decide)) (by decide) (fun nf hE => ⟨fun S k w tg tk p hto => ?_, rfl, rfl, rfl, su2 (fun q => ?_) (fun q => nf ?_), rfl⟩)
      · rcases hM3 with ⟨z1, z2, z3⟩ | ⟨z1, z2⟩
        · rw [z1, z2, cds_one, cd_24]
          unfold cAl
          cases hk : kfi sN E.1 (x.1 19 (x.1 16 r.toNatClampNeg).toNatClampNeg).toNatClampNeg with
          | none => exact absurd ⟨z3, hk⟩ hnk
          | some p2 =>
            show cSe sN (E, S, k, ([], [], 0, false, tg, tk), w) tg tk _ = _
            unfold cSe
            rw [show toL sN (E, S, k, (([], [], 0, false, tg, tk) : gRg), w).1.1 tg = some p from hto]
            rfl
        · rw [z1, cds_app, cds_x (vV_sE vv) hE, cds_one, cd_76]
          unfold cSe
          rw [show toL sN (E, S, k, (([], [] ++ [M1], 0, false, tg, tk) : gRg), w).1.1 tg = some p from hto]
          rfl
      · rw [q] at ve; exact absurd (vE_pos ve) (by decide)
      · rw [← eX]; exact (hX1 hnk).mpr q
    · rw [esm] at a4
      have hX3 := hX2 a3 a4
      refine sg_layR_58 _ _ _ ⟨rv', fun q => absurd c q, fun _ => ⟨rv', pv.1, sf_cellOf _ _ (Or.inl rfl) pv.2 lb wb tr (fun c2 y m wy hc lx hc2 hcn => ?_)⟩⟩
      rw [esm] at hc2 hcn
      have hal := fun nx : ¬ X => hM3.resolve_right (fun z => z.2 a3)
      have lx2 : LX x y X := LX_eq lx (by rw [hc2, hX3]; exact ⟨fun z => z.1 rfl, fun z => ⟨fun _ => z, fun q => absurd q (by decide)⟩⟩)
      refine ⟨fun c3 => ?_, fun c3 => ?_⟩
      · have lf := LF_wr m wy
        have c39 := c3
        obtain ⟨c1, c2, c3, c4⟩ := cN_v lb lf (hc.imp id (fun q => ⟨q.1, q.2.1⟩)) c3
        exact ⟨c1, p106 y _ lf (md_w m (by decide) (by decide)) lx2 c2 (by omega) (fun nx _ => ⟨_, (hal nx).1, a4, by rw [m.2.1 32 (by decide) (by decide)]; exact (hcn c39).1⟩)⟩
      · exact p106 y _ (LF_wr m wy) (md_w m (by decide) (by decide)) lx2 (by decide) (by decide) (fun nx => absurd (hX3.mpr ((hc2.mp c3).1 rfl)) nx)
end LRF
end
section
/-! steps whose target is still open -/
def sP (x : gd) (j : Nat) : Prop := wo x 0 (x.1 58 j) ∧ wo x 0 (x.1 59 j) ∧ wo x 0 (x.1 60 j) ∧ (x.1 54 j = 2 ∨ x.1 54 j = 3)
theorem sP_keep {x y : gd} {n w j : Nat} (a : LF x y n w) (hj : (j : Int) < (x.1 0 52).toInt) (q : sP x j) : sP y j := by
  obtain ⟨a1, a2, a3, a4, a5, a6, a7, a8⟩ := a
  have e := fun c h1 h2 => a8 c h1 h2 j hj
  obtain ⟨q1, q2, q3, q4⟩ := q
  unfold sP
  rw [e 54 (by decide) (by decide), e 58 (by decide) (by decide), e 59 (by decide) (by decide), e 60 (by decide) (by decide)]
  exact ⟨wo_keep a5 a7 q1, wo_keep a5 a7 q2, wo_keep a5 a7 q3, q4⟩
def LO (x y : gd) (n w : Nat) (S : Nat → Prop) : Prop := LF x y n w ∧ ∀ j : Nat, (x.1 0 52).toInt ≤ (j : Int) → (j : Int) < (y.1 0 52).toInt → (¬ S j → sO y j) ∧ (S j → sP y j)
theorem LO_of {x y : gd} {n w : Nat} (q : LQ x y n w) : LO x y n w (fun _ => False) := ⟨q.1, fun j h1 h2 => ⟨fun _ => q.2 j h1 h2, fun q => q.elim⟩⟩
theorem LO_done {x y : gd} {n w : Nat} {S : Nat → Prop} (q : LO x y n w S) (h : ∀ j, ¬ S j) : LQ x y n w := ⟨q.1, fun j h1 h2 => (q.2 j h1 h2).1 (h j)⟩
theorem LO_LQ {x y z : gd} {n w n' w' : Nat} {S : Nat → Prop} (q : LO x y n w S) (r : LQ y z n' w') (h : ∀ j, S j → (j : Int) < (y.1 0 52).toInt) : LO x z (n + n') (w + w') S := by
  refine ⟨LF_tr q.1 r.1, fun j h1 h2 => ?_⟩
  by_cases c : (j : Int) < (y.1 0 52).toInt
  · have q2 := q.2 j h1 c
    exact ⟨fun s => sO_keep r.1 c (q2.1 s), fun s => sP_keep r.1 c (q2.2 s)⟩
  · exact ⟨fun _ => r.2 j (by omega) h2, fun s => absurd (h j s) c⟩
theorem LO_stp {x y z : gd} {n w : Nat} {S : Nat → Prop} {w1 a b c d e f t : Int32} (q : LO x y n w S) (h : stp y z w1 a b c d e f t) (h0 : 0 ≤ (y.1 0 52).toInt) (hn : (y.1 0 52).toInt ≤ 1499) (hw : w1 = 2 ∨ w1 = 3) (q1 : wo y 0 d) (q2 : wo y 0 e) (q3 : wo y 0 f) (hS : ∀ j, S j → (j : Int) < (y.1 0 52).toInt) : LO x z (n + 1) w (fun j => S j ∨ j = (y.1 0 52).toNatClampNeg) := by
  have lf := LF_stp h q.1.2.1 h0 hn
  have u := stp_up h h0 hn
  refine ⟨LF_tr q.1 lf, fun j h1 h2 => ?_⟩
  by_cases c0 : (j : Int) < (y.1 0 52).toInt
  · have q2 := q.2 j h1 c0
    refine ⟨fun s => sO_keep lf c0 (q2.1 (fun z => s (Or.inl z))), fun s => sP_keep lf c0 (q2.2 (s.resolve_right (fun z => ?_)))⟩
    rw [t_cl] at z; omega
  · have ej : j = (y.1 0 52).toNatClampNeg := by rw [t_cl]; omega
    refine ⟨fun s => absurd (Or.inr ej) s, fun _ => ?_⟩
    obtain ⟨g1, g2, g3, v54, v55, v56, v57, v58, v59, v60, v61⟩ := h
    obtain ⟨a1, a2, a3, a4, a5, a6, a7, a8⟩ := lf
    rw [ej]
    unfold sP
    rw [v54, v58, v59, v60]
    exact ⟨wo_keep a5 a7 q1, wo_keep a5 a7 q2, wo_keep a5 a7 q3, hw⟩
theorem LO_set {x y z : gd} {n w k : Nat} {S : Nat → Prop} {v : Int32} (q : LO x y n w S) (e : z = si y 61 k v) (h1 : (x.1 0 52).toInt ≤ (k : Int)) (h2 : (k : Int) < (y.1 0 52).toInt) (hk : S k) (v0 : 0 ≤ v.toInt) (v1 : v.toInt ≤ (y.1 0 52).toInt) (hg : (k : Int) < v.toInt ∨ (v.toInt < (y.1 0 52).toInt ∧ y.1 54 v.toNatClampNeg = 2)) : LO x z n w (fun j => S j ∧ ¬ j = k) ∧ md [] [61] y z := by
  have m := md_a y 61 k v (by decide)
  rw [← e] at m
  obtain ⟨⟨a1, a2, a3, a4, a5, a6, a7, a8⟩, b⟩ := q
  have e52 := m.1 52 (by decide)
  have e49 := m.1 49 (by decide)
  have o : ∀ c j : Nat, ¬ (c = 61 ∧ j = k) → z.1 c j = y.1 c j := fun c j h => by rw [e, si_get, if_neg h]
  have w51 : ∀ j : Nat, (j : Int) < (y.1 0 49).toInt → z.1 51 j = y.1 51 j ∧ z.1 52 j = y.1 52 j := fun j _ => ⟨o 51 j (by omega), o 52 j (by omega)⟩
  have wk : ∀ r, wo y 0 r → wo z 0 r := fun r q => wo_keep (by rw [e49]; omega) w51 q
  refine ⟨⟨⟨md_tr a1 m rfl rfl, ?_, by rw [e52]; exact a3, by rw [e52]; exact a4, by rw [e49]; exact a5, by rw [e49]; exact a6, fun j hj => ?_, fun c c1 c2 j hj => ?_⟩, fun j j1 j2 => ?_⟩, m⟩
  · unfold WB
    rw [m.1 41 (by decide), m.1 42 (by decide)]
    exact a2
  · rw [o 51 j (by omega), o 52 j (by omega)]; exact a7 j hj
  · rw [o c j (by omega)]; exact a8 c c1 c2 j hj
  · rw [e52] at j2
    obtain ⟨b1, b2⟩ := b j j1 j2
    by_cases c : j = k
    · refine ⟨fun _ => ?_, fun s => absurd c s.2⟩
      rw [c] at b2 ⊢
      obtain ⟨q1, q2, q3, q4⟩ := b2 hk
      have e61 : z.1 61 k = v := by rw [e, si_get, if_pos ⟨rfl, rfl⟩]
      unfold sO gO
      rw [e61, o 54 k (by omega), o 54 _ (by omega), o 55 k (by omega), o 56 k (by omega), o 57 k (by omega), o 58 k (by omega), o 59 k (by omega), o 60 k (by omega), e52]
      exact ⟨wk _ q1, wk _ q2, wk _ q3, Or.inr (Or.inr (Or.inl ⟨q4, v0, v1⟩)), fun _ => hg.imp id (fun w => ⟨v0, w⟩)⟩
    · refine ⟨fun s => ?_, fun s => ?_⟩
      · obtain ⟨q1, q2, q3, q4⟩ := b1 (fun z => s ⟨z, c⟩)
        unfold sO gO
        rw [o 61 j (by omega), o 54 j (by omega), o 54 (y.1 61 j).toNatClampNeg (by omega), o 55 j (by omega), o 56 j (by omega), o 57 j (by omega), o 58 j (by omega), o 59 j (by omega), o 60 j (by omega), e52, m.1 25 (by decide)]
        exact ⟨wk _ q1, wk _ q2, wk _ q3, q4⟩
      · obtain ⟨q1, q2, q3, q4⟩ := b2 s.1
        unfold sP
        rw [o 54 j (by omega), o 58 j (by omega), o 59 j (by omega), o 60 j (by omega)]
        exact ⟨wk _ q1, wk _ q2, wk _ q3, q4⟩
theorem LF_fr {x y : gd} (m : md [43, 47, 48] [45, 46, 47] x y) (wb : WB x) : LF x y 0 0 := by
  have e49 := m.1 49 (by decide)
  have e52 := m.1 52 (by decide)
  refine ⟨md_w m (by decide) (by decide), ?_, by rw [e52]; omega, by rw [e52]; omega, by rw [e49]; omega, by rw [e49]; omega, fun j _ => ?_, fun c h1 h2 j _ => ?_⟩
  · unfold WB
    rw [m.1 41 (by decide), m.1 42 (by decide)]
    exact wb
  · rw [m.2.1 51 (by decide) (by decide), m.2.1 52 (by decide) (by decide)]; exact ⟨rfl, rfl⟩
  · rw [m.2.1 c (by omega) (fun q => by simp at q; omega)]
/-- lets known: known 43 (45, 46), slots 48 -/
def KS (x : gd) : Prop := 0 ≤ (x.1 0 43).toInt ∧ (x.1 0 43).toInt ≤ (x.1 0 48).toInt ∧ (x.1 0 48).toInt ≤ 8 ∧ ∀ j : Nat, (j : Int) < (x.1 0 43).toInt → vp_in (x.1 45 j) 710 ∧ 0 ≤ (x.1 46 j).toInt ∧ (x.1 46 j).toInt < 8
theorem KS_KB {x : gd} (q : KS x) : KB x := ⟨q.1, by have := q.2.1; have := q.2.2.1; omega, q.2.2.2⟩
theorem KS_md {L A : List Nat} {x x' : gd} (h : md L A x x') (h43 : 43 ∉ L) (h48 : 48 ∉ L) (h45 : 45 ∉ A) (h46 : 46 ∉ A) (q : KS x) : KS x' := by
  unfold KS
  rw [h.1 43 h43, h.1 48 h48, h.2.1 45 (by decide) h45, h.2.1 46 (by decide) h46]
  exact q
section LWS
variable {G : mG} {D : Nat} {x : gd} {Fv : gd → Prop}
end LWS
end
