/-! depth; the order of acts: acts 96, 98 thread, 99 sort, 100 of, 103 failed; startedBy 106, wokenBy 107; sooner: longs 105 -/
theorem MT_up {G : mG} {d d' : Nat} {y : gy} {pc : Nat} {lv : List (Nat × gv)} {st : List gv} {x : gd} {P : Option gv → gd → Prop} (hd : d ≤ d') (h : MT G d y pc lv st x P) : MT G d' y pc lv st x P := by
  obtain ⟨o, x', f', h1, h2, h3⟩ := h
  refine ⟨o, x', f', h1, h2, fun p e R s m args below meth c A H locs cells slots ls ad C => h3 p e R s m args below meth c A H locs cells slots ls ad ?_⟩
  obtain ⟨a, b, ⟨c1, c2⟩, q⟩ := C
  exact ⟨a, b, ⟨by omega, by omega⟩, q⟩
/-- an end from memories that are alike, seen from x itself -/
theorem MD_top {G : mG} {d d' : Nat} {y : gy} {pc : Nat} {lv : List (Nat × gv)} {st : List gv} {S : gS} {x z : gd} {P : Option gv → gd → gS → Prop} (h : MD d y pc lv st S x P) (e : eqS S x z) (hd : d ≤ d') {Q : Option gv → gd → Prop} (hq : ∀ o x' S' z', P o x' S' → eqS S' x' z' → md rL rA z z' → Q o z') : MT G d' y pc lv st z Q := by
  obtain ⟨o, x', S', h1, h2, h3⟩ := h
  exact MT_up hd (MT_mono (h3 G z e) (fun o2 z' q => by rw [q.1]; exact hq o x' S' z' h1 q.2.1 q.2.2))
/-- the acts of a run -/
def aA (x : gd) (j : Nat) : Prop := 0 ≤ (x.1 98 j).toInt ∧ (x.1 98 j).toInt < 6 ∧ (x.1 103 j = 0 → (0 ≤ (x.1 99 j).toInt ∧ (x.1 99 j).toInt ≤ 4) → 0 ≤ (x.1 100 j).toInt ∧ (x.1 100 j).toInt < 24)
def aB (x : gd) (n : Int) : Prop := ∀ t : Nat, t < 6 → (x.1 106 t = -1 ∨ (0 ≤ (x.1 106 t).toInt ∧ (x.1 106 t).toInt < n)) ∧ (x.1 107 t = -1 ∨ (0 ≤ (x.1 107 t).toInt ∧ (x.1 107 t).toInt < n))
section DSQ
variable {G : mG} {d : Nat} {x : gd} {F : Int32 → gd → Prop} {Fv : gd → Prop}
theorem t7 {b i : Int32} (hb : vp_in b 400) (h0 : 0 ≤ i.toInt) (h1 : i.toInt < 7) : vp_in (7 * b + i) 2800 := by
  have k7 : (7 : Int32).toInt = 7 := rfl
  have tv := vp_in_iff.mp hb
  have m : (7 * b).toInt = 7 * b.toInt := by rw [t_mul (by rw [k7]; omega) (by rw [k7]; omega), k7]
  rw [vp_in_iff, t_add (by omega) (by omega), m]; omega
theorem t64 {a : Int32} (ha : vp_in a 400) : 0 ≤ (a / 64).toInt ∧ (a / 64).toInt < 7 := by
  have tv := vp_in_iff.mp ha
  have k : (64 : Int32).toInt = 64 := rfl
  have e : (a / 64).toInt = a.toInt / 64 := by
    rw [Int32.toInt_div, k, Int.tdiv_eq_ediv_of_nonneg tv.1]
    exact Int.bmod_eq_of_le (by omega) (by omega)
  rw [e]
  omega
theorem sp_after (b a : Int32) (hb : vp_in b 400) (ha : a = -1 ∨ vp_in a 400) (h : ∀ x' : gd, x'.1 = x.1 → Fv x') : MT G d z_after 0 [(0, vr 0), (1, vi b), (2, vi a)] [] x (rv Fv) := by
  have k1 : (1 : Int32).toInt = 1 := rfl
  have k7 : (7 : Int32).toInt = 7 := rfl
  refine sg_after_0 _ _ ⟨fun c => ?_, fun _ => rv_i (h x rfl)⟩
  have av := ha.resolve_left c
  obtain ⟨q0, q1⟩ := t64 av
  have loop : ∀ (n : Nat) (y : gd) (i : Int32), y.1 = x.1 → 0 ≤ i.toInt → 7 - i.toInt ≤ n → MT G d z_after 8 [(0, vr 0), (1, vi b), (2, vi a), (3, vi i)] [] y (rv Fv) := by
    have last : ∀ y : gd, y.1 = x.1 → ¬ (64 : Int32) = 0 ∧ ¬ (64 : Int32) = 0 ∧ vp_in ((7 * b) + (a / 64)) 2800 ∧ ¬ (64 : Int32) = 0 ∧ vp_in ((7 * b) + (a / 64)) 2800 ∧ (∀ x7 : gd, x7 = sL y 105 ((7 * b) + (a / 64) : Int32).toNatClampNeg ((y.2 105 ((7 * b) + (a / 64) : Int32).toNatClampNeg) ||| (1 <<< ((a - a / 64 * 64 : Int32).toInt64 &&& 63 : Int64))) → rv Fv none x7) := fun y ey => ⟨by decide, by decide, t7 hb q0 q1, by decide, t7 hb q0 q1, fun z ez => rv_i (h z (by rw [ez]; exact ey))⟩
    intro n
    induction n with
    | zero =>
      intro y i ey i0 hi
      exact sg_after_8 _ _ _ ⟨fun _ => last y ey, fun c => absurd (t_le.mpr (by rw [k7]; omega)) c⟩
    | succ n ih =>
      intro y i ey i0 hi
      refine sg_after_8 _ _ _ ⟨fun _ => last y ey, fun c => ?_⟩
      rw [t_le, k7] at c
      have i1 : (i + 1).toInt = i.toInt + 1 := by rw [t_add (by omega) (by omega), k1]
      exact ⟨t7 hb i0 (by omega), t7 av i0 (by omega), t7 hb i0 (by omega), fun z ez => ih z (i + 1) (by rw [ez]; exact ey) (by omega) (by omega)⟩
  exact loop 7 x 0 rfl (by decide) (by decide)
theorem sp_isAccess (s : Int32) (h0 : ¬ (0 ≤ s.toInt ∧ s.toInt ≤ 4) → F 0 x) (h1 : 0 ≤ s.toInt ∧ s.toInt ≤ 4 → F 1 x) : MT G d z_isAccess 0 [(0, vr 0), (1, vi s)] [] x (ri F) := by
  have y : ∀ k : Int32, s = k → 0 ≤ k.toInt → k.toInt ≤ 4 → ri F (some (vi 1)) x := fun k e a b => ri_i (h1 (by rw [e]; exact ⟨a, b⟩))
  refine sg_isAccess_0 _ ⟨fun e => y _ e (by decide) (by decide), fun n0 => ⟨fun e => y _ e (by decide) (by decide), fun n1 => ⟨fun e => y _ e (by decide) (by decide), fun n2 => ⟨fun e => y _ e (by decide) (by decide), fun n3 => ⟨fun n4 => ri_i (h0 (fun q => ?_)), fun e => y _ e (by decide) (by decide)⟩⟩⟩⟩⟩
  rw [t_eq] at n0 n1 n2 n3 n4
  have a0 : (0 : Int32).toInt = 0 := rfl
  have a1 : (1 : Int32).toInt = 1 := rfl
  have a2 : (2 : Int32).toInt = 2 := rfl
  have a3 : (3 : Int32).toInt = 3 := rfl
  have a4 : (4 : Int32).toInt = 4 := rfl
  omega
theorem sp_isAtomic (s : Int32) (h : ∀ r, F r x) : MT G d z_isAtomic 0 [(0, vr 0), (1, vi s)] [] x (ri F) := by
  refine sg_isAtomic_0 _ ?_
  (repeat' (first | apply And.intro | with_reducible intro _))
  all_goals exact ri_i (h _)
theorem sp_order (b : Int32) (hb : vp_in b 400) (hA : ∀ j : Nat, (j : Int) ≤ b.toInt → aA x j) (hB : aB x (b.toInt + 1)) (h : ∀ x' : gd, x'.1 = x.1 → Fv x') : MT G (d + 1) z_order 0 [(0, vr 0), (1, vi b)] [] x (rv Fv) := by
  have k1 : (1 : Int32).toInt = 1 := rfl
  have k7 : (7 : Int32).toInt = 7 := rfl
  have bv := vp_in_iff.mp hb
  have cb := cl_i bv.1
  have ab := hA b.toNatClampNeg (by omega)
  obtain ⟨t, et⟩ : ∃ t, t = x.1 98 b.toNatClampNeg := ⟨_, rfl⟩
  obtain ⟨s, es⟩ : ∃ s, s = x.1 99 b.toNatClampNeg := ⟨_, rfl⟩
  have tv : vp_in t 6 := by rw [et, vp_in_iff]; exact ⟨ab.1, ab.2.1⟩
  have bt := hB t.toNatClampNeg (vt tv)
  have ok : ∀ v : Int32, (v = -1 ∨ (0 ≤ v.toInt ∧ v.toInt < b.toInt + 1)) → v = -1 ∨ vp_in v 400 := fun v q => q.imp id (fun q => by rw [vp_in_iff]; omega)
  have p109 : ¬ ¬ x.1 103 b.toNatClampNeg = 0 → ∀ (n : Nat) (y : gd) (i : Int32), y.1 = x.1 → 0 ≤ i.toInt → b.toInt - i.toInt ≤ n → MT G (d + 1) z_order 109 [(0, vr 0), (1, vi b), (2, vi t), (3, vi s), (5, vi i)] [] y (rv Fv) := by
    intro nf
    have nf : x.1 103 b.toNatClampNeg = 0 := Classical.byContradiction nf
    have last : ∀ y : gd, y.1 = x.1 → ((¬ (s = (15 : Int32)) → rv Fv none y) ∧ (s = (15 : Int32) → vp_in t 6 ∧ MT G d z_after 0 [(0, vr 0), (1, vi b), (2, vi (y.1 107 t.toNatClampNeg))] [] y (rv (fun x4 => rv Fv none x4)))) := by
      intro y ey
      refine ⟨fun _ => rv_i (h y ey), fun _ => ⟨tv, ?_⟩⟩
      rw [ey]
      exact sp_after _ _ hb (ok _ bt.2) (fun z ez => rv_i (h z (by rw [ez]; exact ey)))
    intro n
    induction n with
    | zero =>
      intro y i ey i0 hi
      exact sg_order_109 _ _ _ _ ⟨fun _ => last y ey, fun c => absurd (t_le.mpr (by omega)) c⟩
    | succ n ih =>
      intro y i ey i0 hi
      refine sg_order_109 _ _ _ _ ⟨fun _ => last y ey, fun c => ?_⟩
      rw [t_le] at c
      have iv : vp_in i 400 := by rw [vp_in_iff]; omega
      have i1 : (i + 1).toInt = i.toInt + 1 := by rw [t_add (by omega) (by omega), k1]
      have p285 : ∀ v : Int32, MT G (d + 1) z_order 285 [(0, vr 0), (1, vi b), (2, vi t), (3, vi s), (5, vi i), (7, vi v)] [] y (rv Fv) := fun v => sg_order_285 _ _ _ _ _ ⟨fun _ => ih y (i + 1) ey (by omega) (by omega), fun _ => sp_after _ _ hb (Or.inr iv) (fun z ez => ih z (i + 1) (by rw [ez]; exact ey) (by omega) (by omega))⟩
      have p214 : ∀ (o v : Int32), MT G (d + 1) z_order 214 [(0, vr 0), (1, vi b), (2, vi t), (3, vi s), (5, vi i), (6, vi o)] [vi v] y (rv Fv) := by
        intro o v
        refine sg_order_214 _ _ _ _ _ _ ⟨fun _ => p285 _, fun _ => sp_isAccess _ (fun _ => ⟨fun _ => p285 _, fun q => absurd rfl q⟩) (fun sa => ⟨fun _ => p285 _, fun _ => ⟨fun _ => p285 _, fun _ => sp_isAccess _ (fun _ => ⟨fun _ => p285 _, fun q => absurd rfl q⟩) (fun _ => ⟨fun _ => p285 _, fun _ => ⟨fun _ => p285 _, fun _ => ⟨iv, hb, fun _ => p285 _, fun _ => ⟨hb, ?_, fun _ => p285 _, fun _ => p285 _⟩⟩⟩⟩)⟩⟩)⟩
        rw [ey]
        rw [es] at sa
        rw [vp_in_iff]
        exact ab.2.2 nf sa
      have p193 : ∀ o : Int32, MT G (d + 1) z_order 193 [(0, vr 0), (1, vi b), (2, vi t), (3, vi s), (5, vi i), (6, vi o)] [] y (rv Fv) := fun o => sg_order_193 _ _ _ _ _ ⟨iv, hb, fun _ => p214 _ _, fun _ => p214 _ _⟩
      have p179 : ∀ o : Int32, MT G (d + 1) z_order 179 [(0, vr 0), (1, vi b), (2, vi t), (3, vi s), (5, vi i), (6, vi o)] [] y (rv Fv) := fun o => sg_order_179 _ _ _ _ _ ⟨fun _ => p193 o, fun _ => ⟨fun _ => p214 _ _, fun _ => p193 o⟩⟩
      have p151 : ∀ (o v : Int32), MT G (d + 1) z_order 151 [(0, vr 0), (1, vi b), (2, vi t), (3, vi s), (5, vi i), (6, vi o)] [vi v] y (rv Fv) := fun o v => sg_order_151 _ _ _ _ _ _ ⟨iv, fun _ => p285 _, fun _ => ⟨fun _ => p214 _ _, fun _ => ⟨fun _ => p179 o, fun _ => ⟨fun _ => p214 _ _, fun _ => p179 o⟩⟩⟩⟩
      exact ⟨iv, fun _ => p151 _ _, fun _ => ⟨iv, hb, fun _ => p151 _ _, fun _ => p151 _ _⟩⟩
  have p46 : ∀ (n : Nat) (y : gd) (l i : Int32), y.1 = x.1 → 0 ≤ i.toInt → (l = -1 ∨ (0 ≤ l.toInt ∧ l.toInt < b.toInt)) → b.toInt - i.toInt ≤ n → MT G (d + 1) z_order 46 [(0, vr 0), (1, vi b), (2, vi t), (3, vi s), (4, vi l), (5, vi i)] [] y (rv Fv) := by
    have last : ∀ (y : gd) (l : Int32), y.1 = x.1 → (l = -1 ∨ (0 ≤ l.toInt ∧ l.toInt < b.toInt)) → MT G d z_after 0 [(0, vr 0), (1, vi b), (2, vi l)] [] y (rv (fun x2 => vp_in t 6 ∧ MT G d z_after 0 [(0, vr 0), (1, vi b), (2, vi (x2.1 106 t.toNatClampNeg))] [] x2 (rv (fun x4 => vp_in b 400 ∧ (((x4.1 103 b.toNatClampNeg) = (0 : Int32) → MT G (d + 1) z_order 109 [(0, vr 0), (1, vi b), (2, vi t), (3, vi s), (5, vi 0)] [] x4 (rv Fv)) ∧ (¬ ((x4.1 103 b.toNatClampNeg) = (0 : Int32)) → rv Fv none x4)))))) := by
      intro y l ey hl
      refine sp_after _ _ hb (ok _ (hl.imp id (fun q => by omega))) (fun z ez => ⟨tv, ?_⟩)
      rw [ez, ey]
      refine sp_after _ _ hb (ok _ bt.1) (fun u eu => ⟨hb, ?_⟩)
      have e : u.1 = x.1 := by rw [eu, ez, ey]
      rw [e]
      exact ⟨fun c => p109 (fun q => q c) b.toInt.toNat u 0 e (by decide) (by show b.toInt - 0 ≤ _; omega), fun _ => rv_i (h u e)⟩
    intro n
    induction n with
    | zero =>
      intro y l i ey i0 hl hi
      exact sg_order_46 _ _ _ _ _ ⟨fun _ => last y l ey hl, fun c => absurd (t_le.mpr (by omega)) c⟩
    | succ n ih =>
      intro y l i ey i0 hl hi
      refine sg_order_46 _ _ _ _ _ ⟨fun _ => last y l ey hl, fun c => ?_⟩
      rw [t_le] at c
      have iv : vp_in i 400 := by rw [vp_in_iff]; omega
      have i1 : (i + 1).toInt = i.toInt + 1 := by rw [t_add (by omega) (by omega), k1]
      exact ⟨iv, fun _ => ih y l (i + 1) ey (by omega) hl (by omega), fun _ => ih y i (i + 1) ey (by omega) (Or.inr ⟨i0, by omega⟩) (by omega)⟩
  have loop : ∀ (n : Nat) (y : gd) (i : Int32), y.1 = x.1 → 0 ≤ i.toInt → 7 - i.toInt ≤ n → MT G (d + 1) z_order 2 [(0, vr 0), (1, vi b), (2, vi i)] [] y (rv Fv) := by
    have last : ∀ y : gd, y.1 = x.1 → vp_in b 400 ∧ vp_in b 400 ∧ MT G (d + 1) z_order 46 [(0, vr 0), (1, vi b), (2, vi (y.1 98 b.toNatClampNeg)), (3, vi (y.1 99 b.toNatClampNeg)), (4, vi (-1)), (5, vi 0)] [] y (rv Fv) := by
      intro y ey
      refine ⟨hb, hb, ?_⟩
      rw [ey, ← et, ← es]
      exact p46 b.toInt.toNat y (-1) 0 ey (by decide) (Or.inl rfl) (by show b.toInt - 0 ≤ _; omega)
    intro n
    induction n with
    | zero =>
      intro y i ey i0 hi
      exact sg_order_2 _ _ ⟨fun _ => last y ey, fun c => absurd (t_le.mpr (by rw [k7]; omega)) c⟩
    | succ n ih =>
      intro y i ey i0 hi
      refine sg_order_2 _ _ ⟨fun _ => last y ey, fun c => ?_⟩
      rw [t_le, k7] at c
      have i1 : (i + 1).toInt = i.toInt + 1 := by rw [t_add (by omega) (by omega), k1]
      exact ⟨t7 hb i0 (by omega), fun z ez => ih z (i + 1) (by rw [ez]; exact ey) (by omega) (by omega)⟩
  exact sg_order_0 _ (loop 7 x 0 rfl (by decide) (by decide))
end DSQ
