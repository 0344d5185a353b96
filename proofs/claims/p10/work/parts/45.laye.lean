theorem LE_mono {o : Int32} {s s' h : Nat} {x y : gd} (hs : s ≤ s') (q : LE o s h x y) : LE o s' h x y := by
  obtain ⟨q1, q2, q3, k, q4, q5, q6⟩ := q
  exact ⟨q1, q2, q3, k, by omega, q5, q6⟩
theorem WB_lD {x z : gd} {w a : Int32} (l : lD x z w a) (wb : WB x) : WB z := by
  unfold WB
  rw [l.1.1 41 (by decide), l.1.1 42 (by decide)]
  exact wb
theorem lD_low {x z : gd} {w a : Int32} (l : lD x z w a) (h0 : 0 ≤ (x.1 0 49).toInt) : ∀ j : Nat, (j : Int) < (x.1 0 49).toInt → z.1 51 j = x.1 51 j ∧ z.1 52 j = x.1 52 j := by
  intro j hj
  have ne : ¬ j = (x.1 0 49).toNatClampNeg := by rw [t_cl]; omega
  rw [l.2.2.1, l.2.2.2, if_neg ne, if_neg ne]
  exact ⟨rfl, rfl⟩
theorem lD_up {x z : gd} {w a : Int32} (l : lD x z w a) (h0 : 0 ≤ (x.1 0 49).toInt) (hw : (x.1 0 49).toInt ≤ 5999) : (z.1 0 49).toInt = (x.1 0 49).toInt + 1 := by
  have k1 : (1 : Int32).toInt = 1 := rfl
  rw [l.2.1, t_add (by omega) (by omega), k1]
theorem LE_one {o a : Int32} {s h : Nat} {x y z : gd} (q : LE o s h x y) (l : lD y z 5 a) (h0 : 0 ≤ (x.1 0 49).toInt) (hw : (x.1 0 49).toInt + s ≤ 5990) : LE o (s + 1) h x z := by
  obtain ⟨q1, q2, q3, k, q4, q5, q6⟩ := q
  have u := lD_up l (by omega) (by omega)
  have lo := lD_low l (by omega)
  have e : (y.1 0 49).toNatClampNeg = (x.1 0 49).toNatClampNeg + k := by rw [t_cl, t_cl]; omega
  refine ⟨md_tr q1 l.1 rfl rfl, WB_lD l q2, fun j hj => ?_, k + 1, by omega, by omega, fun p hp => ?_⟩
  · have a1 := lo j (by omega)
    have a2 := q3 j hj
    exact ⟨a1.1.trans a2.1, a1.2.trans a2.2⟩
  · refine cS_app k 1 _ _ (p + 1) _ (cS_keep k _ _ _ (fun j _ b => lo j (by rw [t_cl] at b; omega)) (q6 p hp)) ⟨p + 1, Or.inr (Or.inl ⟨?_, by omega, rfl⟩), rfl⟩
    rw [← e, l.2.2.1, if_pos rfl]
theorem LE_two {o a : Int32} {s1 s2 h : Nat} {x y z w : gd} (q : LE o s1 h x y) (r : LE o s2 (h - 1) y z) (l : lD z w 6 a) (h2 : 2 ≤ h) (h0 : 0 ≤ (x.1 0 49).toInt) (hw : (x.1 0 49).toInt + s1 + s2 ≤ 5990) : LE o (s1 + s2 + 1) h x w := by
  obtain ⟨q1, q2, q3, k, q4, q5, q6⟩ := q
  obtain ⟨r1, r2, r3, m, r4, r5, r6⟩ := r
  have u := lD_up l (by omega) (by omega)
  have lo := lD_low l (by omega)
  have e : (y.1 0 49).toNatClampNeg = (x.1 0 49).toNatClampNeg + k := by rw [t_cl, t_cl]; omega
  have e2 : (z.1 0 49).toNatClampNeg = (x.1 0 49).toNatClampNeg + (k + m) := by rw [t_cl, t_cl]; omega
  refine ⟨md_tr (md_tr (L3 := [41, 42, 49]) (A3 := [51, 52]) q1 r1 rfl rfl) l.1 rfl rfl, WB_lD l r2, fun j hj => ?_, k + m + 1, by omega, by omega, fun p hp => ?_⟩
  · have a0 := lo j (by omega)
    have a1 := r3 j (by omega)
    have a2 := q3 j hj
    exact ⟨(a0.1.trans a1.1).trans a2.1, (a0.2.trans a1.2).trans a2.2⟩
  · have c1' := cS_keep (x' := w) k _ _ _ (fun j _ b => by
      rw [t_cl] at b
      have a0 := lo j (by omega)
      have a1 := r3 j (by omega)
      exact ⟨a0.1.trans a1.1, a0.2.trans a1.2⟩) (q6 p hp)
    have c2' := cS_keep (x' := w) m _ _ _ (fun j _ b => lo j (by rw [t_cl] at b; omega)) (r6 (p + 1) (by omega))
    rw [e] at c2'
    refine cS_app (k + m) 1 _ _ (p + 2) _ (cS_app k m _ _ (p + 1) _ c1' c2') ⟨p + 1, Or.inr (Or.inr ⟨?_, by omega, rfl⟩), rfl⟩
    rw [← e2, l.2.2.1, if_pos rfl]
theorem LB_num {x : gd} (lb : LB x) {r : Int32} (h : 0 ≤ r.toInt ∧ r.toInt < (x.1 0 28).toInt) (h0 : x.1 31 r.toNatClampNeg = 0) : 0 ≤ (x.1 32 r.toNatClampNeg).toInt ∧ 1 ≤ (x.1 33 r.toNatClampNeg).toInt ∧ (x.1 32 r.toNatClampNeg).toInt + (x.1 33 r.toNatClampNeg).toInt ≤ 24 := by
  have t := LB_t lb h
  have g := lb.2.1
  rcases t.2.1 with ⟨_, a, b, c⟩ | ⟨e, _⟩ | ⟨e, _⟩
  · have := g.2.1
    exact ⟨a, b, by omega⟩
  · rw [h0] at e; exact absurd e (by decide)
  · rw [h0] at e; exact absurd e (by decide)
theorem sp_layE (o : Int32) : ∀ (n s h : Nat) (G : mG) (D : Nat) (x : gd) (Fv : gd → Prop) (e : Int32), n + 1 ≤ D → vE x n s h e → (x.1 0 13).toInt ≤ 3000 → LB x → WB x → (o = 0 → KB x) → 0 ≤ (x.1 0 49).toInt → (x.1 0 49).toInt + s ≤ 5990 → (∀ x', LE o s h x x' → Fv x') → MT G D z_layE 0 [(0, vr 0), (1, vi e), (2, vi o)] [] x (rv Fv) := by
  intro n
  induction n with
  | zero => intro s h G D x Fv e _ v; exact v.elim
  | succ n ih =>
    intro s h G D x Fv e hD v hN lb wb kb w0 w1 hF
    obtain ⟨D, rfl⟩ : ∃ D', D = D' + 2 := ⟨D - 2, by omega⟩
    obtain ⟨v1, v2, v3, v4, v5⟩ := v
    have ev : vp_in e 3000 := by rw [vp_in_iff]; omega
    have rf : md [41, 42] [] x x := md_w (md_rf x) (by decide) (by decide)
    have push : ∀ (y : gd) (w a : Int32), md [41, 42] [] x y → WB y → (w = 1 ∨ w = 3 ∨ (w = 2 ∧ o = 0 ∧ 0 ≤ a.toInt ∧ a.toInt < 8) ∨ (w = 4 ∧ 0 ≤ a.toInt ∧ a.toInt < 24)) → MT G (D + 1) z_lay 0 [(0, vr 0), (1, vi w), (2, vi a)] [] y (rv (fun z => rv Fv none z)) := fun y w a m wy q => sp_lay w a (by rw [m.1 49 (by decide), vp_in_iff]; omega) (fun z l => rv_i (hF z (LE_push m wy l w0 (by omega) v2 v3 q)))
    have k0 : (0 : Int32).toInt = 0 := rfl
    have p146 : ∀ (y : gd) (a : Int32), md [41, 42] [] x y → WB y → 0 ≤ a.toInt → a.toInt < 24 → MT G (D + 2) z_layE 146 [(0, vr 0)] [vi a, vi 4, vr 0] y (rv Fv) := fun y a m wy h1 h2 => sg_layE_146 _ _ (push y 4 a m wy (Or.inr (Or.inr (Or.inr ⟨rfl, h1, h2⟩))))
    have p297 : ∀ (y : gd) (a : Int32), md [41, 42] [] x y → WB y → 0 ≤ a.toInt → a.toInt < 24 → MT G (D + 2) z_layE 297 [(0, vr 0)] [vi a, vi 4, vr 0] y (rv Fv) := fun y a m wy h1 h2 => sg_layE_297 _ _ (push y 4 a m wy (Or.inr (Or.inr (Or.inr ⟨rfl, h1, h2⟩))))
    have p178 : ∀ (y : gd) (a : Int32), md [41, 42] [] x y → WB y → o = 0 → 0 ≤ a.toInt → a.toInt < 8 → MT G (D + 2) z_layE 178 [(0, vr 0)] [vi a, vi 2, vr 0] y (rv Fv) := fun y a m wy ho h1 h2 => sg_layE_178 _ _ (push y 2 a m wy (Or.inr (Or.inr (Or.inl ⟨rfl, ho, h1, h2⟩))))
    have p164 : ∀ (y : gd) (a : Int32), md [41, 42] [] x y → WB y → o = 0 → (a = -1 ∨ (0 ≤ a.toInt ∧ a.toInt < 8)) → MT G (D + 2) z_layE 164 [(0, vr 0), (5, vi a)] [] y (rv Fv) := fun y a m wy ho q => sg_layE_164 _ ⟨fun c => p178 y a m wy ho (q.resolve_left c).1 (q.resolve_left c).2, fun _ => p178 y 0 m wy ho (by decide) (by decide)⟩
    have p128 : ∀ (y : gd) (r b : Int32), md [41, 42] [] x y → WB y → (¬ b = 0 → (0 ≤ r.toInt ∧ r.toInt < (x.1 0 28).toInt) ∧ x.1 31 r.toNatClampNeg = 0) → MT G (D + 2) z_layE 128 [(0, vr 0), (4, vi r), (6, vi b)] [] y (rv Fv) := fun y r b m wy q => sg_layE_128 _ _ ⟨fun _ => p146 y 0 m wy (by decide) (by decide), fun c => by
      have t := LB_num lb (q c).1 (q c).2
      rw [m.2.1 32 (by decide) (by decide)]
      exact ⟨LB_v lb (q c).1, p146 y _ m wy t.1 (by omega)⟩⟩
    have p115 : ∀ (r b : Int32), (¬ b = 0 → (0 ≤ r.toInt ∧ r.toInt < (x.1 0 28).toInt) ∧ x.1 31 r.toNatClampNeg = 0) → MT G (D + 2) z_layE 115 [(0, vr 0), (3, vi (x.1 19 e.toNatClampNeg)), (4, vi r)] [vi b] x (rv Fv) := fun r b q => sg_layE_115 _ _ _ ⟨fun _ => p128 x r b rf wb q, fun _ => sp_wrongAt _ _ (by decide) v4 lb.1 wb (fun y m wy => p128 y r b m wy q)⟩
    have p88 : ∀ (r s0 : Int32), (r = -1 ∨ ((0 ≤ r.toInt ∧ r.toInt < (x.1 0 28).toInt) ∧ x.1 31 r.toNatClampNeg = 0)) → (o = 0 → s0 = -1 ∨ (0 ≤ s0.toInt ∧ s0.toInt < 8)) → MT G (D + 2) z_layE 88 [(0, vr 0), (2, vi o), (3, vi (x.1 19 e.toNatClampNeg)), (4, vi r)] [vi s0] x (rv Fv) := fun r s0 hr hs => sg_layE_88 _ _ _ _ ⟨fun ho => ⟨fun _ => p164 x s0 rf wb ho (hs ho), fun _ => sp_wrongAt _ _ (by decide) v4 lb.1 wb (fun y m wy => p164 y s0 m wy ho (hs ho))⟩, fun _ => ⟨fun _ => p115 r 0 (fun q => absurd rfl q), fun c => ⟨LB_v lb (hr.resolve_left c).1, fun _ => p115 r 0 (fun q => absurd rfl q), fun _ => p115 r 1 (fun _ => hr.resolve_left c)⟩⟩⟩
    have p264 : ∀ (y : gd) (r b w : Int32), md [41, 42] [] x y → WB y → 0 ≤ w.toInt → (¬ b = 0 → (0 ≤ r.toInt ∧ r.toInt < (x.1 0 28).toInt) ∧ x.1 31 r.toNatClampNeg = 0) → MT G (D + 2) z_layE 264 [(0, vr 0), (6, vi r), (7, vi b), (8, vi w)] [] y (rv Fv) := fun y r b w m wy hw q => sg_layE_264 _ _ _ ⟨fun _ => p297 y 0 m wy (by decide) (by decide), fun c => by
      have t := LB_num lb (q c).1 (q c).2
      rw [m.2.1 32 (by decide) (by decide), m.2.1 33 (by decide) (by decide)]
      refine ⟨LB_v lb (q c).1, fun _ => p297 y 0 m wy (by decide) (by decide), fun c2 => ⟨LB_v lb (q c).1, ?_⟩⟩
      rw [t_le] at c2
      have a1 := t_add (a := x.1 32 r.toNatClampNeg) (b := w) (by omega) (by omega)
      exact p297 y _ m wy (by omega) (by omega)⟩
    have p211 : ∀ (r b : Int32), vp_in (x.1 16 e.toNatClampNeg) 710 → (¬ b = 0 → (0 ≤ r.toInt ∧ r.toInt < (x.1 0 28).toInt) ∧ x.1 31 r.toNatClampNeg = 0) → MT G (D + 2) z_layE 211 [(0, vr 0), (1, vi e), (3, vi (x.1 19 e.toNatClampNeg)), (6, vi r)] [vi b] x (rv Fv) := by
      intro r b hv q
      have wn : 0 ≤ (x.1 7 (x.1 16 e.toNatClampNeg).toNatClampNeg).toInt := (lb.1 _ (vp_lt hv)).2.2.2
      exact sg_layE_211 _ _ _ _ ⟨ev, hv, fun c => ⟨LB_v lb (q c).1, fun _ => p264 x r b _ rf wb wn q, fun _ => ⟨ev, sp_wrongAt _ _ (by decide) hv lb.1 wb (fun y m wy => p264 y r b _ m wy wn q)⟩⟩, fun _ => sp_wrongAt _ _ (by decide) v4 lb.1 wb (fun y m wy => p264 y r b _ m wy wn q)⟩
    refine sg_layE_0 _ _ ⟨ev, ev, fun _ => ⟨ev, push x 1 _ rf wb (Or.inl rfl)⟩, fun _ => push x 3 _ rf wb (Or.inr (Or.inl rfl)), fun _ => ?_, fun c4 => ?_, fun c5 => ⟨ev, ?_⟩, fun c6 => ⟨ev, ?_⟩⟩
    · refine sp_meant _ _ v4 lb (fun r hr => ⟨fun ho => sp_slotOf _ v4 lb.1 (kb ho) (fun s0 hs => p88 r s0 hr (fun _ => hs)), fun ho => p88 r (-1) hr (fun q => absurd q ho)⟩)
    · have hv : vp_in (x.1 16 e.toNatClampNeg) 710 := by
        rcases v5 with q | q | q | q
        · rcases q with q | q | q <;> (rw [c4] at q; exact absurd q (by decide))
        · exact q.2
        · rw [c4] at q; exact absurd q.1 (by decide)
        · rw [c4] at q; exact absurd q.1 (by decide)
      refine sp_meant _ _ v4 lb (fun r hr => ⟨fun _ => p211 r 0 hv (fun q => absurd rfl q), fun c => ⟨LB_v lb (hr.resolve_left c).1, fun _ => p211 r 0 hv (fun q => absurd rfl q), fun _ => p211 r 1 hv (fun _ => hr.resolve_left c)⟩⟩)
    · have hv : vE x n (s - 1) h (x.1 17 e.toNatClampNeg) := by
        rcases v5 with q | q | q | q
        · rcases q with q | q | q <;> (rw [c5] at q; exact absurd q (by decide))
        · rw [c5] at q; exact absurd q.1 (by decide)
        · exact q.2
        · rw [c5] at q; exact absurd q.1 (by decide)
      refine ih (s - 1) h G (D + 1) x _ _ (by omega) hv hN lb wb kb w0 (by omega) (fun y q => ⟨ev, fun _ => rv_i (hF y (LE_mono (by omega) q)), fun _ => ⟨ev, ?_⟩⟩)
      obtain ⟨k, q4, q5, _⟩ := q.2.2.2
      refine sp_lay _ _ (by rw [vp_in_iff]; omega) (fun z l => rv_i (hF z ?_))
      have := LE_one q l w0 (by omega)
      rwa [show s - 1 + 1 = s by omega] at this
    · have hv : ∃ a b : Nat, a + b + 1 ≤ s ∧ 2 ≤ h ∧ vE x n a h (x.1 17 e.toNatClampNeg) ∧ vE x n b (h - 1) (x.1 18 e.toNatClampNeg) := by
        rcases v5 with q | q | q | q
        · rcases q with q | q | q <;> exact absurd q (c6 _ (by decide))
        · exact absurd q.1 (c6 _ (by decide))
        · exact absurd q.1 (c6 _ (by decide))
        · exact q.2
      obtain ⟨a, b, g1, g2, g3, g4⟩ := hv
      refine ih a h G (D + 1) x _ _ (by omega) g3 hN lb wb kb w0 (by omega) (fun y q => ⟨ev, ?_⟩)
      have ny := LE_NN q
      obtain ⟨k, q4, q5, _⟩ := q.2.2.2
      have e18 : y.1 18 e.toNatClampNeg = x.1 18 e.toNatClampNeg := by rw [q.1.2.1 18 (by decide) (by decide)]
      rw [e18]
      refine ih b (h - 1) G (D + 1) y _ _ (by omega) (vE_keep ny.1 (fun c h1 h2 j hj => ny.2 c h1 (by omega) j hj) _ _ _ _ g4) (by rw [q.1.1 13 (by decide)]; exact hN) (LE_LB q lb) q.2.1 (fun ho => KB_md q.1 (by decide) (by decide) (by decide) (kb ho)) (by omega) (by omega) (fun z r => ⟨ev, ?_⟩)
      obtain ⟨m, r4, r5, _⟩ := r.2.2.2
      refine sp_lay _ _ (by rw [vp_in_iff]; omega) (fun w l => rv_i (hF w (LE_mono g1 (LE_two q r l g2 w0 (by omega)))))
/-- the work of an expression stands at w, below l -/
def cW (x : gd) (o : Int32) (w : Nat) (l : Int) : Prop := ∃ k : Nat, cS x o k w 0 1 ∧ x.1 51 (w + k) = 0 ∧ ((w + k : Nat) : Int) < l
def wo (x : gd) (o r : Int32) : Prop := r = -1 ∨ (0 ≤ r.toInt ∧ cW x o r.toNatClampNeg (x.1 0 49).toInt)
theorem cW_keep {x x' : gd} {o : Int32} {w : Nat} {l l' : Int} (hl : l ≤ l') (h : ∀ j : Nat, (j : Int) < l → x'.1 51 j = x.1 51 j ∧ x'.1 52 j = x.1 52 j) (q : cW x o w l) : cW x' o w l' := by
  obtain ⟨k, q1, q2, q3⟩ := q
  exact ⟨k, cS_keep k _ _ _ (fun j _ b => h j (by omega)) q1, by rw [(h _ q3).1]; exact q2, by omega⟩
theorem wo_keep {x x' : gd} {o r : Int32} (hl : (x.1 0 49).toInt ≤ (x'.1 0 49).toInt) (h : ∀ j : Nat, (j : Int) < (x.1 0 49).toInt → x'.1 51 j = x.1 51 j ∧ x'.1 52 j = x.1 52 j) (q : wo x o r) : wo x' o r := q.imp id (fun q => ⟨q.1, cW_keep hl h q.2⟩)
/-- what workOf leaves: r stands for the work of the expression -/
def LW (o : Int32) (s : Nat) (x : gd) (r : Int32) (x' : gd) : Prop := md [41, 42, 49] [51, 52] x x' ∧ WB x' ∧ (∀ j : Nat, (j : Int) < (x.1 0 49).toInt → x'.1 51 j = x.1 51 j ∧ x'.1 52 j = x.1 52 j) ∧ (x.1 0 49).toInt ≤ (x'.1 0 49).toInt ∧ (x'.1 0 49).toInt ≤ (x.1 0 49).toInt + s + 1 ∧ wo x' o r
theorem sp_workOf (o : Int32) {n s : Nat} {G : mG} {D : Nat} {x : gd} {F : Int32 → gd → Prop} {e : Int32} (hD : n + 2 ≤ D) (v : e = -1 ∨ vE x n s 17 e) (hN : (x.1 0 13).toInt ≤ 3000) (lb : LB x) (wb : WB x) (kb : o = 0 → KB x) (w0 : 0 ≤ (x.1 0 49).toInt) (w1 : (x.1 0 49).toInt + s ≤ 5990) (hF : ∀ r x', LW o s x r x' → (¬ e = -1 → ¬ r = -1) → F r x') : MT G D z_workOf 0 [(0, vr 0), (1, vi e), (2, vi o)] [] x (ri F) := by
  obtain ⟨D, rfl⟩ : ∃ D', D = D' + 1 := ⟨D - 1, by omega⟩
  refine sg_workOf_0 _ _ ⟨fun c => ?_, fun c => ri_i (hF _ _ ⟨md_w (md_rf x) (by decide) (by decide), wb, fun _ _ => ⟨rfl, rfl⟩, by omega, by omega, Or.inl rfl⟩ (fun q => absurd c q))⟩
  refine sp_layE o n s 17 G D x _ _ (by omega) (v.resolve_left c) hN lb wb kb w0 w1 (fun y q => ?_)
  obtain ⟨q1, q2, q3, k, q4, q5, q6⟩ := q
  refine sp_lay _ _ (by rw [vp_in_iff]; omega) (fun z l => ri_i (hF _ _ ?_ (fun _ q => ?_)))
  · have u := lD_up l (by omega) (by omega)
    have lo := lD_low l (by omega)
    have e2 : (y.1 0 49).toNatClampNeg = (x.1 0 49).toNatClampNeg + k := by rw [t_cl, t_cl]; omega
    refine ⟨md_tr q1 l.1 rfl rfl, WB_lD l q2, fun j hj => ?_, by omega, by omega, Or.inr ⟨w0, k, cS_keep k _ _ _ (fun j _ b => lo j (by rw [t_cl] at b; omega)) (q6 0 (by decide)), ?_, ?_⟩⟩
    · have a1 := lo j (by omega)
      have a2 := q3 j hj
      exact ⟨a1.1.trans a2.1, a1.2.trans a2.2⟩
    · rw [← e2, l.2.2.1, if_pos rfl]
    · rw [← e2, t_cl]; omega
  · rw [q] at w0
    exact absurd w0 (by decide)
