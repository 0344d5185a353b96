/-! laying expressions: whether something is found wrong -/
def LX (x y : gd) (X : Prop) : Prop := wr y ↔ wr x ∨ X
theorem LX_no {x : gd} {X : Prop} (h : ¬ X) : LX x x X := ⟨Or.inl, fun z => z.elim id (fun z => absurd z h)⟩
theorem LX_yes {x y : gd} {X : Prop} (h : X) (g : wr y) : LX x y X := ⟨fun _ => Or.inr h, fun _ => g⟩
theorem LX_tr {x y z : gd} {X Y : Prop} (a : LX x y X) (b : LX y z Y) : LX x z (X ∨ Y) := by
  unfold LX at a b ⊢
  rw [b, a, or_assoc]
theorem LX_eq {x y : gd} {X Y : Prop} (a : LX x y X) (h : X ↔ Y) : LX x y Y := by
  unfold LX at a ⊢
  rw [a, h]
theorem wr_e {x y : gd} (h : y.1 0 41 = x.1 0 41) : wr y ↔ wr x := by
  unfold wr
  rw [h]
theorem LX_to {x y z : gd} {X : Prop} (a : LX x y X) (h : z.1 0 41 = y.1 0 41) : LX x z X := by
  unfold LX at a ⊢
  rw [wr_e h]
  exact a
theorem LX_md {L A : List Nat} {x y z : gd} {X : Prop} (a : LX x y X) (h : md L A y z) (h41 : 41 ∉ L) : LX x z X := LX_to a (h.1 41 h41)
/-- the text's names, as they were read -/
def CT (sN : Nat → Nat → Bool) (T : gTd) (V K : Nat → Int32) (x : gd) : Prop := smB x = sN ∧ x.1 7 = V ∧ TRd x T ∧ x.1 5 = K
theorem CT_md {sN : Nat → Nat → Bool} {T : gTd} {V K : Nat → Int32} {L A : List Nat} {x y : gd} (h : md L A x y) (h28 : 28 ∉ L) (hA : [2, 5, 6, 7, 8, 30, 31, 32, 33, 34, 35].all (fun k => !A.elem k) = true) (q : CT sN T V K x) : CT sN T V K y := by
  have g := fun k (h0 : k ≠ 0) hk => h.2.1 k h0 (all_no' hA k hk)
  refine ⟨by rw [smB_e (g 2 (by decide) (by decide)) (g 6 (by decide) (by decide)) (g 8 (by decide) (by decide))]; exact q.1, by rw [g 7 (by decide) (by decide)]; exact q.2.1, ?_⟩
  refine ⟨TRd_md h h28 ?_ q.2.2.1, by rw [g 5 (by decide) (by decide)]; exact q.2.2.2⟩
  rw [List.all_eq_true]
  intro k hk
  have hk2 : k ∈ [2, 5, 6, 7, 8, 30, 31, 32, 33, 34, 35] := by
    simp only [List.mem_cons, List.not_mem_nil, or_false] at hk ⊢
    omega
  exact List.all_eq_true.mp hA k hk2
theorem flt_k {sN : Nat → Nat → Bool} {T : gTd} {V : Nat → Int32} {E : gV} {k a b : Nat} (h : [3, 6, 7, 12, 23, 24, 25, 26, 27, 65, 66, 67, 70].elem k = false) : ¬ flt sN T V [(k, a, b)] E := flt_no (fun u hu (e : k = u) => by
  rw [e, List.elem_iff.mpr hu] at h
  exact absurd h (by decide))
theorem vV_c {x : gd} {o : Bool} {n : Nat} {e : Int32} {M : gU} (h : vV x o n e M) :
    (x.1 15 e.toNatClampNeg = 1 → M = [(52, (x.1 19 e.toNatClampNeg).toNatClampNeg, 0)] ∧ x.1 16 e.toNatClampNeg = x.1 7 (x.1 19 e.toNatClampNeg).toNatClampNeg) ∧
    (x.1 15 e.toNatClampNeg = 2 → M = [(53, (x.1 19 e.toNatClampNeg).toNatClampNeg, 0)]) ∧
    (x.1 15 e.toNatClampNeg = 3 → M = [(if o = true then 6 else 3, (x.1 19 e.toNatClampNeg).toNatClampNeg, 0)]) ∧
    (x.1 15 e.toNatClampNeg = 4 → M = [(7, (x.1 19 e.toNatClampNeg).toNatClampNeg, 0), (12, (x.1 16 e.toNatClampNeg).toNatClampNeg, (x.1 19 e.toNatClampNeg).toNatClampNeg)]) ∧
    (x.1 15 e.toNatClampNeg = 5 → ∃ n1 M1 M2, vV x o n1 (x.1 17 e.toNatClampNeg) M1 ∧ M = M1 ++ M2 ∧ ((x.1 16 e.toNatClampNeg = 61 ∧ M2 = []) ∨ (¬ x.1 16 e.toNatClampNeg = 61 ∧ M2 = [(50, (x.1 19 e.toNatClampNeg).toNatClampNeg, 0)] ∧ x.1 16 e.toNatClampNeg = x.1 5 (x.1 19 e.toNatClampNeg).toNatClampNeg))) ∧
    ((∀ k ∈ [(1 : Int32), 2, 3, 4, 5], ¬ x.1 15 e.toNatClampNeg = k) → ∃ n1 M1 M2, vV x o n1 (x.1 17 e.toNatClampNeg) M1 ∧ vV x o n1 (x.1 18 e.toNatClampNeg) M2 ∧ M = M1 ++ (M2 ++ [(51, (x.1 19 e.toNatClampNeg).toNatClampNeg, 0)]) ∧ x.1 16 e.toNatClampNeg = x.1 5 (x.1 19 e.toNatClampNeg).toNatClampNeg) := by
  cases n with
  | zero => exact h.elim
  | succ n =>
    obtain ⟨-, h⟩ := h
    obtain ⟨a, ea⟩ : ∃ a, a = x.1 15 e.toNatClampNeg := ⟨_, rfl⟩
    rw [← ea] at h ⊢
    rcases h with ⟨q, r, r8⟩ | ⟨q, r⟩ | ⟨q, r⟩ | ⟨q, r, _⟩ | ⟨q, M1, g, r⟩ | ⟨q, M1, M2, g1, g2, r8, r⟩
    · subst q
      exact ⟨fun _ => ⟨r, r8⟩, fun c => absurd c (by decide), fun c => absurd c (by decide), fun c => absurd c (by decide), fun c => absurd c (by decide), fun c => absurd rfl (c 1 (by decide))⟩
    · subst q
      exact ⟨fun c => absurd c (by decide), fun _ => r, fun c => absurd c (by decide), fun c => absurd c (by decide), fun c => absurd c (by decide), fun c => absurd rfl (c 2 (by decide))⟩
    · subst q
      exact ⟨fun c => absurd c (by decide), fun c => absurd c (by decide), fun _ => r, fun c => absurd c (by decide), fun c => absurd c (by decide), fun c => absurd rfl (c 3 (by decide))⟩
    · subst q
      exact ⟨fun c => absurd c (by decide), fun c => absurd c (by decide), fun c => absurd c (by decide), fun _ => r, fun c => absurd c (by decide), fun c => absurd rfl (c 4 (by decide))⟩
    · subst q
      refine ⟨fun c => absurd c (by decide), fun c => absurd c (by decide), fun c => absurd c (by decide), fun c => absurd c (by decide), fun _ => ?_, fun c => absurd rfl (c 5 (by decide))⟩
      rcases r with ⟨r1, r2⟩ | ⟨r1, r2, r3⟩
      · exact ⟨n, M1, [], g, by rw [r2, List.append_nil], Or.inl ⟨r1, rfl⟩⟩
      · exact ⟨n, M1, _, g, r3, Or.inr ⟨r1, rfl, r2⟩⟩
    · subst q
      exact ⟨fun c => absurd c (by decide), fun c => absurd c (by decide), fun c => absurd c (by decide), fun c => absurd c (by decide), fun c => absurd c (by decide), fun _ => ⟨n, M1, M2, g1, g2, r, r8⟩⟩
/-- a sum changes nothing of what is known -/
theorem vV_st {x : gd} {o : Bool} : ∀ {n : Nat} {e : Int32} {M : gU}, vV x o n e M → still M := by
  intro n
  induction n with
  | zero => intro e M h; exact h.elim
  | succ n ih =>
    intro e M h
    obtain ⟨-, h⟩ := h
    rcases h with ⟨q, r, _⟩ | ⟨q, r⟩ | ⟨q, r⟩ | ⟨q, r, e⟩ | ⟨q, M1, g, r⟩ | ⟨q, M1, M2, g1, g2, _, r⟩
    · rw [r]; exact still_one ⟨by show ¬ 52 = 20; decide, by show ¬ 52 = 21; decide, by show ¬ 52 = 22; decide⟩
    · rw [r]; exact still_one ⟨by show ¬ 53 = 20; decide, by show ¬ 53 = 21; decide, by show ¬ 53 = 22; decide⟩
    · rw [r]
      cases o
      · exact still_one ⟨by show ¬ 3 = 20; decide, by show ¬ 3 = 21; decide, by show ¬ 3 = 22; decide⟩
      · exact still_one ⟨by show ¬ 6 = 20; decide, by show ¬ 6 = 21; decide, by show ¬ 6 = 22; decide⟩
    · rw [r]
      exact still_app (L := [_]) (M := [_]) (still_one ⟨by show ¬ 7 = 20; decide, by show ¬ 7 = 21; decide, by show ¬ 7 = 22; decide⟩) (still_one ⟨by show ¬ 12 = 20; decide, by show ¬ 12 = 21; decide, by show ¬ 12 = 22; decide⟩)
    · rcases r with ⟨_, r2⟩ | ⟨_, _, r3⟩
      · rw [r2]; exact ih g
      · rw [r3]; exact still_app (ih g) (still_one ⟨by show ¬ 50 = 20; decide, by show ¬ 50 = 21; decide, by show ¬ 50 = 22; decide⟩)
    · rw [r]
      exact still_app (ih g1) (still_app (ih g2) (still_one ⟨by show ¬ 51 = 20; decide, by show ¬ 51 = 21; decide, by show ¬ 51 = 22; decide⟩))
/-- a sum's events are a sum's -/
theorem vV_sE {x : gd} {o : Bool} : ∀ {n : Nat} {e : Int32} {M : gU}, vV x o n e M → sEv o M := by
  intro n
  induction n with
  | zero => intro e M h; exact h.elim
  | succ n ih =>
    intro e M h
    obtain ⟨-, h⟩ := h
    rcases h with ⟨q, r, _⟩ | ⟨q, r⟩ | ⟨q, r⟩ | ⟨q, r, e⟩ | ⟨q, M1, g, r⟩ | ⟨q, M1, M2, g1, g2, _, r⟩
    · rw [r]; exact sEv_one (Or.inr (Or.inr (Or.inl rfl)))
    · rw [r]; exact sEv_one (Or.inr (Or.inr (Or.inr (Or.inl rfl))))
    · rw [r]
      cases o
      · exact sEv_one (Or.inr (Or.inr (Or.inr (Or.inr (Or.inl ⟨rfl, rfl⟩)))))
      · exact sEv_one (Or.inr (Or.inr (Or.inr (Or.inr (Or.inr ⟨rfl, Or.inl rfl⟩)))))
    · rw [r]
      exact sEv_app (N := [_]) (M := [_]) (sEv_one (Or.inr (Or.inr (Or.inr (Or.inr (Or.inr ⟨e, Or.inr (Or.inl rfl)⟩)))))) (sEv_one (Or.inr (Or.inr (Or.inr (Or.inr (Or.inr ⟨e, Or.inr (Or.inr rfl)⟩))))))
    · rcases r with ⟨_, r2⟩ | ⟨_, _, r3⟩
      · rw [r2]; exact ih g
      · rw [r3]; exact sEv_app (ih g) (sEv_one (Or.inl rfl))
    · rw [r]
      exact sEv_app (ih g1) (sEv_app (ih g2) (sEv_one (Or.inr (Or.inl rfl))))
/-- the pieces of work of a sum -/
def nPt (sN : Nat → Nat → Bool) (T : gTd) (V K : Nat → Int32) (ks : gK) (v : Nat × Nat × Nat) : Option (Int32 × Int32) :=
  if v.1 = 52 then some (1, V v.2.1)
  else if v.1 = 53 then some (3, 0)
  else if v.1 = 3 then some (2, Int32.ofNat (slt ks ((kfi sN ks v.2.1).getD 0)))
  else if v.1 = 6 then some (4, Int32.ofNat (nmT sN 0 v.2.1 T))
  else if v.1 = 12 then some (4, Int32.ofNat (nmT sN 0 v.2.2 T) + V v.2.1)
  else if v.1 = 50 then some (5, K v.2.1)
  else if v.1 = 51 then some (6, K v.2.1)
  else none
def nPs (sN : Nat → Nat → Bool) (T : gTd) (V K : Nat → Int32) (ks : gK) (M : gU) : List (Int32 × Int32) := M.filterMap (nPt sN T V K ks)
theorem nPs_app {sN : Nat → Nat → Bool} {T : gTd} {V K : Nat → Int32} {ks : gK} {M N : gU} : nPs sN T V K ks (M ++ N) = nPs sN T V K ks M ++ nPs sN T V K ks N := List.filterMap_append
def WKS (x x' : gd) (P : List (Int32 × Int32)) : Prop := (x'.1 0 49).toInt = (x.1 0 49).toInt + P.length ∧ ∀ i q, P[i]? = some q → x'.1 51 ((x.1 0 49).toNatClampNeg + i) = q.1 ∧ x'.1 52 ((x.1 0 49).toNatClampNeg + i) = q.2
/-- from r on stand the pieces P, then DONE -/
def SUm (x : gd) (r : Int32) (P : List (Int32 × Int32)) : Prop := 0 ≤ r.toInt ∧ r.toInt + P.length < (x.1 0 49).toInt ∧ (∀ i q, P[i]? = some q → x.1 51 (r.toNatClampNeg + i) = q.1 ∧ x.1 52 (r.toNatClampNeg + i) = q.2) ∧ x.1 51 (r.toNatClampNeg + P.length) = 0
theorem SUm_keep {x y : gd} {r : Int32} {P : List (Int32 × Int32)} (h1 : (x.1 0 49).toInt ≤ (y.1 0 49).toInt) (h2 : ∀ j : Nat, (j : Int) < (x.1 0 49).toInt → y.1 51 j = x.1 51 j ∧ y.1 52 j = x.1 52 j) (q : SUm x r P) : SUm y r P := by
  obtain ⟨q1, q2, q3, q4⟩ := q
  have ur := t_cl r
  refine ⟨q1, by omega, fun i p hp => ?_, by rw [(h2 _ (by omega)).1]; exact q4⟩
  have hi := gt_lt hp
  have a := h2 (r.toNatClampNeg + i) (by omega)
  rw [a.1, a.2]
  exact q3 i p hp
theorem WKS_app {x y z : gd} {P Q : List (Int32 × Int32)} (h : WKS x y P) (g : WKS y z Q) (h0 : 0 ≤ (x.1 0 49).toInt) (l : ∀ j : Nat, (j : Int) < (y.1 0 49).toInt → z.1 51 j = y.1 51 j ∧ z.1 52 j = y.1 52 j) : WKS x z (P ++ Q) := by
  obtain ⟨h1, h2⟩ := h
  obtain ⟨g1, g2⟩ := g
  have ux := t_cl (x.1 0 49)
  have uy := t_cl (y.1 0 49)
  refine ⟨by rw [List.length_append]; omega, fun i q hq => ?_⟩
  by_cases c : i < P.length
  · rw [List.getElem?_append_left c] at hq
    have a := h2 i q hq
    have b := l ((x.1 0 49).toNatClampNeg + i) (by omega)
    exact ⟨b.1.trans a.1, b.2.trans a.2⟩
  · rw [List.getElem?_append_right (by omega)] at hq
    have a := g2 _ q hq
    rw [show (y.1 0 49).toNatClampNeg + (i - P.length) = (x.1 0 49).toNatClampNeg + i by omega] at a
    exact a
theorem WKS_one {x y z : gd} {w a : Int32} (e : y.1 0 49 = x.1 0 49) (l : lD y z w a) (h0 : 0 ≤ (x.1 0 49).toInt) (hw : (x.1 0 49).toInt ≤ 5999) : WKS x z [(w, a)] := by
  obtain ⟨l1, l2, l3, l4⟩ := l
  have k1 : (1 : Int32).toInt = 1 := rfl
  refine ⟨by rw [l2, e, t_add (by omega) (by omega), k1]; rfl, fun i q hq => ?_⟩
  have hi : i = 0 := by
    have := List.getElem?_eq_some_iff.mp hq
    obtain ⟨b, _⟩ := this
    have b : i < 1 := b
    omega
  subst hi
  have hq : (w, a) = q := Option.some.inj hq
  rw [l3, l4, e, Nat.add_zero, if_pos rfl, if_pos rfl, ← hq]
  exact ⟨rfl, rfl⟩
theorem sf_layE (o : Int32) (sN : Nat → Nat → Bool) (T : gTd) (V K : Nat → Int32) (E : gV) : ∀ (n s h : Nat) (G : mG) (D : Nat) (x : gd) (Fv : gd → Prop) (e : Int32) (n' : Nat) (M : gU), n + 1 ≤ D → vE x n s h e → vV x (decide (¬ o = 0)) n' e M → (x.1 0 13).toInt ≤ 3000 → LB x → WB x → (o = 0 → KEn x E) → CT sN T V K x → 0 ≤ (x.1 0 49).toInt → (x.1 0 49).toInt + s ≤ 5990 → (∀ x', LE o s h x x' → LX x x' (flt sN T V M E) → (¬ flt sN T V M E → WKS x x' (nPs sN T V K E.1 M)) → Fv x') → MT G D z_layE 0 [(0, vr 0), (1, vi e), (2, vi o)] [] x (rv Fv) := by
  intro n
  induction n with
  | zero => intro s h G D x Fv e n' M _ v; exact v.elim
  | succ n ih =>
    intro s h G D x Fv e n' M hD v vv hN lb wb ke ct w0 w1 hF
    obtain ⟨D, rfl⟩ : ∃ D', D = D' + 2 := ⟨D - 2, by omega⟩
    obtain ⟨v1, v2, v3, v4, v5⟩ := v
    obtain ⟨esm, e7, tr, e5⟩ := id ct
    obtain ⟨m1, m2, m3, m4, m5, m6⟩ := vV_c vv
    obtain ⟨X, eX⟩ : ∃ X : Prop, X = flt sN T V M E := ⟨_, rfl⟩
    obtain ⟨P, eP⟩ : ∃ P, P = nPs sN T V K E.1 M := ⟨_, rfl⟩
    rw [← eX, ← eP] at hF
    have ev : vp_in e 3000 := by rw [vp_in_iff]; omega
    have rf : md [41, 42] [] x x := md_w (md_rf x) (by decide) (by decide)
    have push : ∀ (y : gd) (w a : Int32), md [41, 42] [] x y → WB y → LX x y X → (w = 1 ∨ w = 3 ∨ (w = 2 ∧ o = 0 ∧ 0 ≤ a.toInt ∧ a.toInt < 8) ∨ (w = 4 ∧ 0 ≤ a.toInt ∧ a.toInt < 24)) → (¬ X → P = [(w, a)]) → MT G (D + 1) z_lay 0 [(0, vr 0), (1, vi w), (2, vi a)] [] y (rv (fun z => rv Fv none z)) := fun y w a m wy lx q hp => sp_lay w a (by rw [m.1 49 (by decide), vp_in_iff]; omega) (fun z l => rv_i (hF z (LE_push m wy l w0 (by omega) v2 v3 q) (LX_md lx l.1 (by decide)) (fun nx => by rw [hp nx]; exact WKS_one (m.1 49 (by decide)) l w0 (by omega))))
    have k0 : (0 : Int32).toInt = 0 := rfl
    have p146 : ∀ (y : gd) (a : Int32), md [41, 42] [] x y → WB y → LX x y X → 0 ≤ a.toInt → a.toInt < 24 → (¬ X → P = [(4, a)]) → MT G (D + 2) z_layE 146 [(0, vr 0)] [vi a, vi 4, vr 0] y (rv Fv) := fun y a m wy lx h1 h2 hp => sg_layE_146 _ _ (push y 4 a m wy lx (Or.inr (Or.inr (Or.inr ⟨rfl, h1, h2⟩))) hp)
    have p297 : ∀ (y : gd) (a : Int32), md [41, 42] [] x y → WB y → LX x y X → 0 ≤ a.toInt → a.toInt < 24 → (¬ X → P = [(4, a)]) → MT G (D + 2) z_layE 297 [(0, vr 0)] [vi a, vi 4, vr 0] y (rv Fv) := fun y a m wy lx h1 h2 hp => sg_layE_297 _ _ (push y 4 a m wy lx (Or.inr (Or.inr (Or.inr ⟨rfl, h1, h2⟩))) hp)
    have p178 : ∀ (y : gd) (a : Int32), md [41, 42] [] x y → WB y → LX x y X → o = 0 → 0 ≤ a.toInt → a.toInt < 8 → (¬ X → P = [(2, a)]) → MT G (D + 2) z_layE 178 [(0, vr 0)] [vi a, vi 2, vr 0] y (rv Fv) := fun y a m wy lx ho h1 h2 hp => sg_layE_178 _ _ (push y 2 a m wy lx (Or.inr (Or.inr (Or.inl ⟨rfl, ho, h1, h2⟩))) hp)
    have p164 : ∀ (y : gd) (a : Int32), md [41, 42] [] x y → WB y → LX x y X → o = 0 → (a = -1 ∨ (0 ≤ a.toInt ∧ a.toInt < 8)) → (a = -1 → X) → (¬ X → P = [(2, a)]) → MT G (D + 2) z_layE 164 [(0, vr 0), (5, vi a)] [] y (rv Fv) := fun y a m wy lx ho q hx hp => sg_layE_164 _ ⟨fun c => p178 y a m wy lx ho (q.resolve_left c).1 (q.resolve_left c).2 hp, fun c => p178 y 0 m wy lx ho (by decide) (by decide) (fun z => absurd (hx c) z)⟩
    have p128 : ∀ (y : gd) (r b : Int32), md [41, 42] [] x y → WB y → LX x y X → (¬ b = 0 → (0 ≤ r.toInt ∧ r.toInt < (x.1 0 28).toInt) ∧ x.1 31 r.toNatClampNeg = 0) → (b = 0 → X) → (¬ b = 0 → ¬ X → P = [(4, x.1 32 r.toNatClampNeg)]) → MT G (D + 2) z_layE 128 [(0, vr 0), (4, vi r), (6, vi b)] [] y (rv Fv) := fun y r b m wy lx q hx hp => sg_layE_128 _ _ ⟨fun c => p146 y 0 m wy lx (by decide) (by decide) (fun z => absurd (hx c) z), fun c => by
      have t := LB_num lb (q c).1 (q c).2
      rw [m.2.1 32 (by decide) (by decide)]
      exact ⟨LB_v lb (q c).1, p146 y _ m wy lx t.1 (by omega) (hp c)⟩⟩
    have p115 : ∀ (r b : Int32), (b = 0 → X) → (¬ b = 0 → ¬ X ∧ (0 ≤ r.toInt ∧ r.toInt < (x.1 0 28).toInt) ∧ x.1 31 r.toNatClampNeg = 0) → (¬ b = 0 → ¬ X → P = [(4, x.1 32 r.toNatClampNeg)]) → MT G (D + 2) z_layE 115 [(0, vr 0), (3, vi (x.1 19 e.toNatClampNeg)), (4, vi r)] [vi b] x (rv Fv) := fun r b q0 q hp => sg_layE_115 _ _ _ ⟨fun c => p128 x r b rf wb (LX_no (q c).1) (fun c => (q c).2) q0 hp, fun c => sf_wrongAt _ _ (by decide) v4 lb.1 wb (fun y m wy gy => p128 y r b m wy (LX_yes (q0 c) gy) (fun c => (q c).2) q0 hp)⟩
    have p264 : ∀ (y : gd) (r b w : Int32), md [41, 42] [] x y → WB y → LX x y X → 0 ≤ w.toInt → (¬ b = 0 → (0 ≤ r.toInt ∧ r.toInt < (x.1 0 28).toInt) ∧ x.1 31 r.toNatClampNeg = 0) → (b = 0 → X) → (¬ b = 0 → ¬ w < x.1 33 r.toNatClampNeg → X) → (¬ b = 0 → ¬ X → P = [(4, x.1 32 r.toNatClampNeg + w)]) → MT G (D + 2) z_layE 264 [(0, vr 0), (6, vi r), (7, vi b), (8, vi w)] [] y (rv Fv) := fun y r b w m wy lx hw q hx hx2 hp => sg_layE_264 _ _ _ ⟨fun c => p297 y 0 m wy lx (by decide) (by decide) (fun z => absurd (hx c) z), fun c => by
      have t := LB_num lb (q c).1 (q c).2
      rw [m.2.1 32 (by decide) (by decide), m.2.1 33 (by decide) (by decide)]
      refine ⟨LB_v lb (q c).1, fun c2 => p297 y 0 m wy lx (by decide) (by decide) (fun z => absurd (hx2 c (fun w2 => by rw [t_le] at c2; rw [t_lt] at w2; omega)) z), fun c2 => ⟨LB_v lb (q c).1, ?_⟩⟩
      rw [t_le] at c2
      have a1 := t_add (a := x.1 32 r.toNatClampNeg) (b := w) (by omega) (by omega)
      exact p297 y _ m wy lx (by omega) (by omega) (hp c)⟩
    have p211 : ∀ (r b : Int32), vp_in (x.1 16 e.toNatClampNeg) 710 → (b = 0 → X) → (¬ b = 0 → (0 ≤ r.toInt ∧ r.toInt < (x.1 0 28).toInt) ∧ x.1 31 r.toNatClampNeg = 0 ∧ (X ↔ ¬ x.1 7 (x.1 16 e.toNatClampNeg).toNatClampNeg < x.1 33 r.toNatClampNeg)) → (¬ b = 0 → ¬ X → P = [(4, x.1 32 r.toNatClampNeg + x.1 7 (x.1 16 e.toNatClampNeg).toNatClampNeg)]) → MT G (D + 2) z_layE 211 [(0, vr 0), (1, vi e), (3, vi (x.1 19 e.toNatClampNeg)), (6, vi r)] [vi b] x (rv Fv) := by
      intro r b hv q0 q hp
      have wn : 0 ≤ (x.1 7 (x.1 16 e.toNatClampNeg).toNatClampNeg).toInt := (lb.1 _ (vp_lt hv)).2.2.2
      have q' : ¬ b = 0 → (0 ≤ r.toInt ∧ r.toInt < (x.1 0 28).toInt) ∧ x.1 31 r.toNatClampNeg = 0 := fun c => ⟨(q c).1, (q c).2.1⟩
      exact sg_layE_211 _ _ _ _ ⟨ev, hv, fun c => ⟨LB_v lb (q c).1, fun c2 => p264 x r b _ rf wb (LX_no (fun z => (q c).2.2.mp z c2)) wn q' q0 (fun c => (q c).2.2.mpr) hp, fun c2 => ⟨ev, sf_wrongAt _ _ (by decide) hv lb.1 wb (fun y m wy gy => p264 y r b _ m wy (LX_yes ((q c).2.2.mpr c2) gy) wn q' q0 (fun c => (q c).2.2.mpr) hp)⟩⟩, fun c => sf_wrongAt _ _ (by decide) v4 lb.1 wb (fun y m wy gy => p264 y r b _ m wy (LX_yes (q0 c) gy) wn q' q0 (fun c => (q c).2.2.mpr) hp)⟩
    refine sg_layE_0 _ _ ⟨ev, ev, fun c => ⟨ev, push x 1 _ rf wb (LX_no ?_) (Or.inl rfl) (fun _ => ?_)⟩, fun c => push x 3 _ rf wb (LX_no ?_) (Or.inr (Or.inl rfl)) (fun _ => ?_), fun c3 => ?_, fun c4 => ?_, fun c5 => ⟨ev, ?_⟩, fun c6 => ⟨ev, ?_⟩⟩
    · rw [eX, (m1 c).1]; exact flt_k rfl
    · rw [eP, (m1 c).1, (m1 c).2, e7]; rfl
    · rw [eX, m2 c]; exact flt_k rfl
    · rw [eP, m2 c]; rfl
    · have mM := m3 c3
      refine sf_meant _ _ 0 rfl v4 lb tr (fun r hr0 hr hrn => ⟨fun ho => sf_slotOf _ v4 lb.1 (ke ho) (fun s0 hs => ?_), fun ho => ?_⟩)
      · have hX : X ↔ kfi sN E.1 (x.1 19 e.toNatClampNeg).toNatClampNeg = none := by
          have eo : decide (¬ o = 0) = false := by rw [ho]; rfl
          rw [eX, mM, eo, if_neg (by decide), flt_one, fv_3]
        rw [esm] at hs
        have hs2 : s0 = -1 ∨ (0 ≤ s0.toInt ∧ s0.toInt < 8) := hs.imp (fun z => z.1) (fun z => z.1)
        have hx3 : s0 = -1 → X := fun z => by
          rcases hs with ⟨_, a⟩ | ⟨a, _⟩
          · exact hX.mpr a
          · rw [z] at a; exact absurd a.1 (by decide)
        have hp3 : ¬ X → P = [(2, s0)] := fun z => by
          rcases hs with ⟨_, a⟩ | ⟨_, p, a, b⟩
          · exact absurd (hX.mpr a) z
          · have eo : decide (¬ o = 0) = false := by rw [ho]; rfl
            rw [eP, mM, eo, if_neg (by decide), b, i32_of (KL_slt (ke ho).2.2 (kfi_lt a))]
            show [(2, Int32.ofNat (slt E.1 ((kfi sN E.1 (x.1 19 e.toNatClampNeg).toNatClampNeg).getD 0)))] = _
            rw [a]
            rfl
        refine sg_layE_88 _ _ _ _ ⟨fun ho => ⟨fun c => p164 x s0 rf wb (LX_no (fun z => ?_)) ho hs2 hx3 hp3, fun c => sf_wrongAt _ _ (by decide) v4 lb.1 wb (fun y m wy gy => p164 y s0 m wy (LX_yes ?_ gy) ho hs2 hx3 hp3)⟩, fun q => absurd ho q⟩
        · rcases hs with ⟨a, _⟩ | ⟨_, p, a, _⟩
          · exact c a
          · rw [hX, a] at z; exact absurd z (by simp)
        · rcases hs with ⟨_, a⟩ | ⟨a, _⟩
          · exact hX.mpr a
          · rw [c] at a; exact absurd a.1 (by decide)
      · have hX : X ↔ ¬ plc sN T (x.1 19 e.toNatClampNeg).toNatClampNeg := by
          have eo : decide (¬ o = 0) = true := decide_eq_true ho
          rw [eX, mM, eo, if_pos rfl, flt_one, fv_6]
        rw [esm] at hr0 hr hrn
        have hp3 : ¬ r = -1 → P = [(4, x.1 32 r.toNatClampNeg)] := fun z => by
          have eo : decide (¬ o = 0) = true := decide_eq_true ho
          rw [eP, mM, eo, if_pos rfl, i32_of (hrn z)]
          rfl
        refine sg_layE_88 _ _ _ _ ⟨fun q => absurd q ho, fun _ => ⟨fun c => p115 r 0 (fun _ => hX.mpr (fun ⟨q, e', _⟩ => ?_)) (fun q => absurd rfl q) (fun q => absurd rfl q), fun c => ⟨LB_v lb (hr c).1, fun c2 => p115 r 0 (fun _ => hX.mpr (fun ⟨q, e', g⟩ => ?_)) (fun q => absurd rfl q) (fun q => absurd rfl q), fun c2 => p115 r 1 (fun q => absurd q (by decide)) (fun _ => ⟨fun z => hX.mp z ?_, (hr c).1, (hr c).2.1⟩) (fun _ _ => hp3 c)⟩⟩⟩
        · rw [hr0 c] at e'; exact absurd e' (by simp)
        · obtain ⟨_, _, q2, e2, hd⟩ := hr c
          rw [e2] at e'
          cases Option.some.inj e'
          rcases hd.2.2.2 with ⟨_, a⟩ | ⟨a, _⟩
          · exact c2 a
          · omega
        · obtain ⟨_, _, q2, e2, hd⟩ := hr c
          rcases hd.2.2.2 with ⟨a, _⟩ | ⟨_, a, _⟩
          · exact ⟨q2, e2, a⟩
          · rw [a] at c2; exact absurd c2 (by decide)
    · have mM := m4 c4
      have hX : X ↔ (¬ ∃ n, rwc sN T (x.1 19 e.toNatClampNeg).toNatClampNeg n) ∨ ∃ n, rwc sN T (x.1 19 e.toNatClampNeg).toNatClampNeg n ∧ (n : Int) ≤ (V (x.1 16 e.toNatClampNeg).toNatClampNeg).toInt := by
        rw [eX, mM]
        show fv sN T V E (7, (x.1 19 e.toNatClampNeg).toNatClampNeg, 0) ∨ flt sN T V [(12, (x.1 16 e.toNatClampNeg).toNatClampNeg, (x.1 19 e.toNatClampNeg).toNatClampNeg)] (exV E (7, (x.1 19 e.toNatClampNeg).toNatClampNeg, 0)) ↔ _
        rw [exV_still ⟨by show ¬ 7 = 20; decide, by show ¬ 7 = 21; decide, by show ¬ 7 = 22; decide⟩, flt_one, fv_7, fv_12]
      have hv : vp_in (x.1 16 e.toNatClampNeg) 710 := by
        rcases v5 with q | q | q | q
        · rcases q with q | q | q <;> (rw [c4] at q; exact absurd q (by decide))
        · exact q.2
        · rw [c4] at q; exact absurd q.1 (by decide)
        · rw [c4] at q; exact absurd q.1 (by decide)
      refine sf_meant _ _ 0 rfl v4 lb tr (fun r hr0 hr hrn => ?_)
      rw [esm] at hr0 hr hrn
      have hp3 : ¬ r = -1 → P = [(4, x.1 32 r.toNatClampNeg + x.1 7 (x.1 16 e.toNatClampNeg).toNatClampNeg)] := fun z => by
        rw [eP, mM, i32_of (hrn z), e7]
        rfl
      refine ⟨fun c => p211 r 0 hv (fun _ => hX.mpr (Or.inl (fun ⟨_, q, e', _⟩ => ?_))) (fun q => absurd rfl q) (fun q => absurd rfl q), fun c => ⟨LB_v lb (hr c).1, fun c2 => p211 r 0 hv (fun _ => hX.mpr (Or.inl (fun ⟨_, q, e', g, g2⟩ => ?_))) (fun q => absurd rfl q) (fun q => absurd rfl q), fun c2 => p211 r 1 hv (fun q => absurd q (by decide)) (fun _ => ⟨(hr c).1, (hr c).2.1, ?_⟩) (fun _ _ => hp3 c)⟩⟩
      · rw [hr0 c] at e'; exact absurd e' (by simp)
      · obtain ⟨_, _, q2, e2, hd⟩ := hr c
        rw [e2] at e'
        cases Option.some.inj e'
        rcases hd.2.2.2 with ⟨a, _⟩ | ⟨_, a, _⟩
        · omega
        · rw [a] at c2; exact absurd c2 (by decide)
      · obtain ⟨h1, h2, q2, e2, hd⟩ := hr c
        rcases hd.2.2.2 with ⟨_, a⟩ | ⟨a1, a2, a3, _⟩
        · exact absurd a c2
        · have u := t_cl (x.1 33 r.toNatClampNeg)
          have rw1 : rwc sN T (x.1 19 e.toNatClampNeg).toNatClampNeg q2.2.2.1 := ⟨q2, e2, rfl, a1⟩
          rw [hX, t_lt, e7]
          refine ⟨fun z => ?_, fun z => Or.inr ⟨_, rw1, by omega⟩⟩
          rcases z with z | ⟨n, ⟨q3, e3, g3, _⟩, z⟩
          · exact absurd ⟨_, rw1⟩ z
          · rw [e2] at e3
            cases Option.some.inj e3
            omega
    · obtain ⟨n1, M1, M2, vv1, eM, hM2⟩ := m5 c5
      have hv : vE x n (s - 1) h (x.1 17 e.toNatClampNeg) := by
        rcases v5 with q | q | q | q
        · rcases q with q | q | q <;> (rw [c5] at q; exact absurd q (by decide))
        · rw [c5] at q; exact absurd q.1 (by decide)
        · exact q.2
        · rw [c5] at q; exact absurd q.1 (by decide)
      have hX : X ↔ flt sN T V M1 E := by
        rw [eX, eM, flt_app]
        refine ⟨fun z => z.elim id (fun z => ?_), Or.inl⟩
        rcases hM2 with ⟨_, a⟩ | ⟨_, a, _⟩
        · rw [a] at z; exact z.elim
        · rw [a] at z; exact absurd z (flt_k rfl)
      refine ih (s - 1) h G (D + 1) x _ _ n1 M1 (by omega) hv vv1 hN lb wb ke ct w0 (by omega) (fun y q lx wks => ⟨ev, fun c9 => rv_i (hF y (LE_mono (by omega) q) (LX_eq lx hX.symm) (fun nx => ?_)), fun c9 => ⟨ev, ?_⟩⟩)
      · have a := hM2.resolve_right (fun z => z.1 (by rw [← q.1.2.1 16 (by decide) (by decide)]; exact c9))
        rw [eP, eM, a.2, List.append_nil]
        exact wks (fun z => nx (hX.mpr z))
      obtain ⟨k, q4, q5, _⟩ := q.2.2.2
      refine sp_lay _ _ (by rw [vp_in_iff]; omega) (fun z l => rv_i (hF z ?_ (LX_eq (LX_md lx l.1 (by decide)) hX.symm) (fun nx => ?_)))
      rotate_left
      · have a := hM2.resolve_left (fun z => c9 (by rw [q.1.2.1 16 (by decide) (by decide)]; exact z.1))
        rw [eP, eM, a.2.1, nPs_app]
        refine WKS_app (wks (fun z => nx (hX.mpr z))) (Q := [(5, K (x.1 19 e.toNatClampNeg).toNatClampNeg)]) ?_ w0 (fun j hj => lD_low l (by omega) j (by rw [t_cl] at *; omega))
        have a2 := a.2.2
        rw [e5, ← q.1.2.1 16 (by decide) (by decide)] at a2
        rw [← a2]
        exact WKS_one rfl l (by omega) (by omega)
      have := LE_one q l w0 (by omega)
      rw [show s - 1 + 1 = s by omega] at this
      exact this
    · obtain ⟨n1, M1, M2, vv1, vv2, eM, eK⟩ := m6 c6
      have hv : ∃ a b : Nat, a + b + 1 ≤ s ∧ 2 ≤ h ∧ vE x n a h (x.1 17 e.toNatClampNeg) ∧ vE x n b (h - 1) (x.1 18 e.toNatClampNeg) := by
        rcases v5 with q | q | q | q
        · rcases q with q | q | q <;> exact absurd q (c6 _ (by decide))
        · exact absurd q.1 (c6 _ (by decide))
        · exact absurd q.1 (c6 _ (by decide))
        · exact q.2
      have hX : flt sN T V M1 E ∨ flt sN T V M2 E ↔ X := by
        rw [eX, eM, flt_app, flt_app, exs_still (vV_st vv1), exs_still (vV_st vv2)]
        exact ⟨fun z => z.elim Or.inl (fun z => Or.inr (Or.inl z)), fun z => z.elim Or.inl (fun z => z.elim Or.inr (fun z => absurd z (flt_k rfl)))⟩
      obtain ⟨a, b, g1, g2, g3, g4⟩ := hv
      refine ih a h G (D + 1) x _ _ n1 M1 (by omega) g3 vv1 hN lb wb ke ct w0 (by omega) (fun y q lx wks1 => ⟨ev, ?_⟩)
      have ny := LE_NN q
      obtain ⟨k, q4, q5, _⟩ := q.2.2.2
      have e18 : y.1 18 e.toNatClampNeg = x.1 18 e.toNatClampNeg := by rw [q.1.2.1 18 (by decide) (by decide)]
      rw [e18]
      refine ih b (h - 1) G (D + 1) y _ _ n1 M2 (by omega) (vE_keep ny.1 (fun c h1 h2 j hj => ny.2 c h1 (by omega) j hj) _ _ _ _ g4) (vV_keep ny.1 (q.1.2.1 5 (by decide) (by decide)) (q.1.2.1 7 (by decide) (by decide)) (fun c h1 h2 j hj => ny.2 c h1 (by omega) j hj) _ _ _ vv2) (by rw [q.1.1 13 (by decide)]; exact hN) (LE_LB q lb) q.2.1 (fun ho => KEn_md q.1 (by decide) (by decide) (by decide) (ke ho)) (CT_md q.1 (by decide) rfl ct) (by omega) (by omega) (fun z r lx2 wks2 => ⟨ev, ?_⟩)
      obtain ⟨m, r4, r5, _⟩ := r.2.2.2
      refine sp_lay _ _ (by rw [vp_in_iff]; omega) (fun w l => rv_i (hF w (LE_mono g1 (LE_two q r l g2 w0 (by omega))) (LX_eq (LX_md (LX_tr lx lx2) l.1 (by decide)) hX) (fun nx => ?_)))
      rw [eP, eM, nPs_app, nPs_app]
      have hy0 : 0 ≤ (y.1 0 49).toInt := by omega
      refine WKS_app (wks1 (fun z => nx (hX.mp (Or.inl z)))) (WKS_app (wks2 (fun z => nx (hX.mp (Or.inr z)))) (Q := [(6, K (x.1 19 e.toNatClampNeg).toNatClampNeg)]) ?_ hy0 (fun j hj => lD_low l (by omega) j (by omega))) w0 (fun j hj => ?_)
      · have a2 := eK
        rw [e5, ← q.1.2.1 16 (by decide) (by decide), ← r.1.2.1 16 (by decide) (by decide)] at a2
        rw [← a2]
        exact WKS_one rfl l (by omega) (by omega)
      · have b1 := r.2.2.1 j hj
        have b2 := lD_low l (by omega) j (by omega)
        exact ⟨b2.1.trans b1.1, b2.2.trans b1.2⟩
theorem sf_workOf (o : Int32) {sN : Nat → Nat → Bool} {T : gTd} {V K : Nat → Int32} {E : gV} {n s : Nat} {G : mG} {D : Nat} {x : gd} {F : Int32 → gd → Prop} {e : Int32} {M : gU} (hD : n + 2 ≤ D) (v : (e = -1 ∧ M = []) ∨ (vE x n s 17 e ∧ ∃ n', vV x (decide (¬ o = 0)) n' e M)) (hN : (x.1 0 13).toInt ≤ 3000) (lb : LB x) (wb : WB x) (ke : o = 0 → KEn x E) (ct : CT sN T V K x) (w0 : 0 ≤ (x.1 0 49).toInt) (w1 : (x.1 0 49).toInt + s ≤ 5990) (hF : ∀ r x', LW o s x r x' → (¬ e = -1 → ¬ r = -1) → LX x x' (flt sN T V M E) → (¬ e = -1 → ¬ flt sN T V M E → SUm x' r (nPs sN T V K E.1 M)) → (e = -1 → r = -1) → F r x') : MT G D z_workOf 0 [(0, vr 0), (1, vi e), (2, vi o)] [] x (ri F) := by
  obtain ⟨D, rfl⟩ : ∃ D', D = D' + 1 := ⟨D - 1, by omega⟩
  refine sg_workOf_0 _ _ ⟨fun c => ?_, fun c => ri_i (hF _ _ ⟨md_w (md_rf x) (by decide) (by decide), wb, fun _ _ => ⟨rfl, rfl⟩, by omega, by omega, Or.inl rfl⟩ (fun q => absurd c q) ?_ (fun q => absurd c q) (fun _ => rfl))⟩
  · rcases v with ⟨q, _⟩ | ⟨ve, n', vv⟩
    · exact absurd q c
    refine sf_layE o sN T V K E n s 17 G D x _ _ n' M (by omega) ve vv hN lb wb ke ct w0 w1 (fun y q lx wks => ?_)
    obtain ⟨q1, q2, q3, k, q4, q5, q6⟩ := q
    refine sp_lay _ _ (by rw [vp_in_iff]; omega) (fun z l => ri_i (hF _ _ ?_ (fun _ q => ?_) (LX_md lx l.1 (by decide)) (fun _ nx => ?_) (fun q => absurd q c)))
    · have u := lD_up l (by omega) (by omega)
      have lo := lD_low l (by omega)
      have e2 : (y.1 0 49).toNatClampNeg = (x.1 0 49).toNatClampNeg + k := by rw [t_cl, t_cl]; omega
      refine ⟨md_tr q1 l.1 rfl rfl, WB_lD l q2, fun j hj => ?_, by omega, by omega, Or.inr ⟨w0, k, cS_keep k _ _ _ (fun j _ b => lo j (by rw [t_cl] at b; omega)) (q6 0 (by decide)), ?_, ?_⟩⟩
      · have a1 := lo j (by omega)
        have a2 := q3 j hj
        exact ⟨a1.1.trans a2.1, a1.2.trans a2.2⟩
      · rw [← e2, l.2.2.1, if_pos rfl]
      · rw [← e2, t_cl]; omega
    · rw [q] at w0
      exact absurd w0 (by decide)
    · obtain ⟨u1, u2⟩ := wks nx
      have u := lD_up l (by omega) (by omega)
      have ux := t_cl (x.1 0 49)
      have uy := t_cl (y.1 0 49)
      refine ⟨w0, by omega, fun i p hp => ?_, ?_⟩
      · have a := u2 i p hp
        have hi := gt_lt hp
        have b := lD_low l (by omega) ((x.1 0 49).toNatClampNeg + i) (by omega)
        exact ⟨b.1.trans a.1, b.2.trans a.2⟩
      · rw [show (x.1 0 49).toNatClampNeg + (nPs sN T V K E.1 M).length = (y.1 0 49).toNatClampNeg by omega, l.2.2.1, if_pos rfl]
  · refine LX_no ?_
    rcases v with ⟨_, q⟩ | ⟨ve, _⟩
    · rw [q]; exact fun z => z
    · rw [c] at ve
      cases n with
      | zero => exact ve.elim
      | succ n => exact absurd ve.1.1 (by decide)
