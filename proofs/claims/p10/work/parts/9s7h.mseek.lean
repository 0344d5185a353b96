/-! the model: a state is sought among those kept -/
def rwZ (z : gd) (s : Nat) : Nat → Int32 := fun i => z.1 133 (240 * s + i)
def hsF (S : Int32 → Int32 → Int32) (r : Nat → Int32) : Nat → Int32
  | 0 => 0
  | k + 1 => S (hsF S r k) (r k)
def hs31 (a b : Int32) : Int32 := (a * 31) + b
def hsE (v : Int32) : Int32 := ((v ^^^ (((v : Int32).toUInt32 >>> ((12 : Int32).toUInt32 &&& Int32.toUInt32 31)).toInt32)) ^^^ (((v : Int32).toUInt32 >>> ((22 : Int32).toUInt32 &&& Int32.toUInt32 31)).toInt32)) &&& 4095
def hsO (r : Nat → Int32) : Nat := (hsE (hsF hs31 r 222)).toNatClampNeg
/-- s stands on the chain from v on -/
def pCf (nx : Nat → Int32) : Nat → Int32 → Nat → Prop
  | 0, _, _ => False
  | f + 1, v, s => ¬ v = -1 ∧ (v.toInt = (s : Nat) ∨ pCf nx f (nx v.toNatClampNeg) s)
/-- each of the first n stands on its chain -/
def chC (z : gd) (n : Nat) : Prop := ∀ s, s < n → ∃ f, pCf (z.1 134) f (z.1 135 (hsO (rwZ z s))) s
section SK3
variable {G : mG} {d D : Nat} {x z a : gd} {F : Int32 → gd → Prop} {Fv : gd → Prop}
theorem hsF_cg {S : Int32 → Int32 → Int32} {r r' : Nat → Int32} : ∀ {n : Nat}, (∀ i, i < n → r i = r' i) → hsF S r n = hsF S r' n := by
  intro n
  induction n with
  | zero => intro _; rfl
  | succ n ih =>
    intro h
    rw [hsF, hsF, ih (fun i hi => h i (by omega)), h n (by omega)]
theorem hsO_cg {r r' : Nat → Int32} (h : ∀ i, i < 222 → r i = r' i) : hsO r = hsO r' := by
  unfold hsO; rw [hsF_cg h]
theorem pCf_up {nx nx' : Nat → Int32} {m s : Nat} (e : ∀ j, j < m → nx' j = nx j) (hs : ∀ j, j < m → nx j = -1 ∨ (0 ≤ (nx j).toInt ∧ (nx j).toInt < j)) : ∀ (f : Nat) (v : Int32), (v = -1 ∨ (0 ≤ v.toInt ∧ v.toInt < m)) → pCf nx f v s → pCf nx' f v s := by
  intro f
  induction f with
  | zero => intro v _ h; exact h
  | succ f ih =>
    intro v hv h
    obtain ⟨h1, h2⟩ := h
    obtain ⟨v0, v1⟩ := hv.resolve_left h1
    have cv := cl_i v0
    refine ⟨h1, h2.imp id (fun h3 => ?_)⟩
    rw [e _ (by omega)]
    refine ih _ ?_ h3
    exact (hs _ (by omega)).imp id (fun w => by omega)
theorem sp_seek3 (w : Int32) (wv : vp_in w 2) {m : Nat} (em : (z.1 120 w.toNatClampNeg).toInt = (m : Nat)) (m1 : m ≤ 3000) (hs : hsR z (m : Nat)) (hc : chC z m) (h80 : ∀ t : Nat, t < 6 → (z.1 80 t).toInt ≤ 8) (h : ∀ r z', md [136] [133, 134, 135] z z' → (∀ j : Nat, j < 240 * m → z'.1 133 j = z.1 133 j) → ((r = z.1 120 w.toNatClampNeg ∧ (∀ i : Nat, i < 222 → z'.1 133 (240 * m + i) = pv z i) ∧ hsR z' ((m : Int) + 1) ∧ chC z' (m + 1) ∧ ∀ s, s < m → ¬ ∀ i, i < 222 → z.1 133 (240 * s + i) = pv z i) ∨ (∃ s : Nat, s < m ∧ r.toInt = (s : Nat) ∧ hsR z' (m : Nat) ∧ chC z' m ∧ ∀ i, i < 222 → z.1 133 (240 * s + i) = pv z i)) → F r z') : MT G (D + 1) z_seek 0 [(0, vr 0), (1, vi w)] [] z (ri F) := by
  have k0 : (0 : Int32).toInt = 0 := rfl
  have k1 : (1 : Int32).toInt = 1 := rfl
  have k24 : (240 : Int32).toInt = 240 := rfl
  obtain ⟨M, eM⟩ : ∃ M, M = z.1 120 w.toNatClampNeg := ⟨_, rfl⟩
  rw [← eM] at em h
  have b1 : (240 * M).toInt = 240 * M.toInt := by rw [t_mul (by rw [k24]; omega) (by rw [k24]; omega), k24]
  have cM : M.toNatClampNeg = m := by rw [t_cl, em]; rfl
  have cb : (240 * M).toNatClampNeg = 240 * m := by have := cl_i (a := 240 * M) (by omega); omega
  refine sg_seek_0 _ ⟨wv, ?_⟩
  rw [← eM]
  refine sp_pack (Or.inl rfl) mk_133 ml_133 (240 * M) (by omega) (by omega) (by omega) h80 (fun y my y136 yr yo => ?_)
  rw [cb] at yr yo
  have y120 : y.1 120 w.toNatClampNeg = M := by rw [my.2.1 120 (by decide) (by decide), eM]
  have y134 : y.1 134 = z.1 134 := my.2.1 134 (by decide) (by decide)
  have y135 : y.1 135 = z.1 135 := my.2.1 135 (by decide) (by decide)
  have ylo : ∀ s i, s < m → i < 222 → y.1 133 (240 * s + i) = z.1 133 (240 * s + i) := fun s i hs hi => yo _ (Or.inl (by omega))
  obtain ⟨HV, eHV⟩ : ∃ HV, HV = hsE (hsF hs31 (fun i => pv z i) 222) := ⟨_, rfl⟩
  have hHV : vp_in HV 4096 := by rw [eHV]; exact t_and4 _
  have HVb := vp_lt hHV
  have hsame : ∀ s, s < m → (∀ i, i < 222 → z.1 133 (240 * s + i) = pv z i) → hsO (rwZ z s) = HV.toNatClampNeg := fun s hs9 he => by
    rw [eHV]
    exact hsO_cg (fun i hi => he i hi)
  have hs2 : ∀ j, j < m → z.1 134 j = -1 ∨ (0 ≤ (z.1 134 j).toInt ∧ (z.1 134 j).toInt < j) := fun j hj => hs.2 j (by omega)
  have new : (∀ s, s < m → ¬ ∀ i, i < 222 → z.1 133 (240 * s + i) = pv z i) → vp_in w 2 ∧ vp_in HV 4096 ∧ vp_in (y.1 120 w.toNatClampNeg) 3001 ∧ (∀ x5 : gd, x5 = si y 134 (y.1 120 w.toNatClampNeg : Int32).toNatClampNeg (y.1 135 HV.toNatClampNeg) → vp_in w 2 ∧ vp_in HV 4096 ∧ (∀ x8 : gd, x8 = si x5 135 HV.toNatClampNeg (x5.1 120 w.toNatClampNeg) → vp_in w 2 ∧ ri F (some (vi (x8.1 120 w.toNatClampNeg))) x8)) := by
    intro hnone
    rw [y120, cM]
    refine ⟨wv, hHV, by rw [vp_in_iff]; omega, fun y5 e5 => ⟨wv, hHV, fun y8 e8 => ⟨wv, ?_⟩⟩⟩
    have m5 := md_a y 134 m (y.1 135 HV.toNatClampNeg) (by decide)
    rw [← e5] at m5
    have f5 : y5.1 120 w.toNatClampNeg = M := by rw [m5.2.1 120 (by decide) (by decide), y120]
    rw [f5] at e8
    have m8 := md_a y5 135 HV.toNatClampNeg M (by decide)
    rw [← e8] at m8
    have mm : md [136] [133, 134, 135] z y8 := md_tr (md_tr (L3 := [136]) (A3 := [133, 134]) my m5 rfl rfl) m8 rfl rfl
    have f8 : y8.1 120 w.toNatClampNeg = M := by rw [m8.2.1 120 (by decide) (by decide), f5]
    have f133 : y8.1 133 = y.1 133 := by rw [m8.2.1 133 (by decide) (by decide), m5.2.1 133 (by decide) (by decide)]
    have n134 : ∀ j, y8.1 134 j = if j = m then z.1 135 HV.toNatClampNeg else z.1 134 j := fun j => by
      rw [m8.2.1 134 (by decide) (by decide), e5, si_get]
      by_cases q : j = m
      · rw [if_pos ⟨rfl, q⟩, if_pos q, y135]
      · rw [if_neg (fun w => q w.2), if_neg q, y134]
    have n135 : ∀ j, y8.1 135 j = if j = HV.toNatClampNeg then M else z.1 135 j := fun j => by
      rw [e8, si_get]
      by_cases q : j = HV.toNatClampNeg
      · rw [if_pos ⟨rfl, q⟩, if_pos q]
      · rw [if_neg (fun w => q w.2), if_neg q, m5.2.1 135 (by decide) (by decide), y135]
    have nM : ¬ M = -1 := fun e => by rw [e, tm1] at em; omega
    rw [f8]
    refine ri_i (h M y8 mm (fun j hj => by rw [f133]; exact yo j (Or.inl hj)) (Or.inl ⟨rfl, by rw [f133]; exact yr, ⟨fun k hk => ?_, fun s hs9 => ?_⟩, fun s hs9 => ?_, hnone⟩))
    · rw [n135]
      by_cases q : k = HV.toNatClampNeg
      · rw [if_pos q]; exact Or.inr (by omega)
      · rw [if_neg q]; exact (hs.1 k hk).imp id (fun w => by omega)
    · rw [n134]
      by_cases q : s = m
      · rw [if_pos q]
        exact (hs.1 _ HVb).imp id (fun w => by omega)
      · rw [if_neg q]; exact hs.2 s (by omega)
    · by_cases q : s = m
      · refine ⟨1, ?_⟩
        have eO : hsO (rwZ y8 s) = HV.toNatClampNeg := by
          rw [eHV]
          exact hsO_cg (fun i hi => by show y8.1 133 (240 * s + i) = _; rw [f133, q]; exact yr i hi)
        rw [eO, n135, if_pos rfl]
        exact ⟨nM, Or.inl (by rw [q]; exact em)⟩
      · have sm : s < m := by omega
        obtain ⟨f, hf⟩ := hc s sm
        have eO : hsO (rwZ y8 s) = hsO (rwZ z s) := hsO_cg (fun i hi => by show y8.1 133 (240 * s + i) = _; rw [f133]; exact ylo s i sm hi)
        have hb : hsO (rwZ z s) < 4096 := vp_lt (t_and4 _)
        have hd := hs.1 _ hb
        have up := pCf_up (nx := z.1 134) (nx' := y8.1 134) (m := m) (s := s) (fun j hj => by rw [n134, if_neg (by omega)]) hs2 f _ hd hf
        rw [eO, n135]
        by_cases q2 : hsO (rwZ z s) = HV.toNatClampNeg
        · rw [if_pos q2]
          refine ⟨f + 1, nM, Or.inr ?_⟩
          rw [cM, n134, if_pos rfl, ← q2]; exact up
        · rw [if_neg q2]; exact ⟨f, up⟩
  have old : ∀ s9 : Nat, s9 < m → ∀ s : Int32, s.toInt = (s9 : Nat) → (∀ i, i < 222 → y.1 133 (240 * s9 + i) = pv z i) → ri F (some (vi s)) y := fun s9 h9 s es he => ri_i (h s y (md_w my (by decide) (by decide)) (fun j hj => yo j (Or.inl hj)) (Or.inr ⟨s9, h9, es, ⟨fun k hk => by rw [y135]; exact hs.1 k hk, fun k hk => by rw [y134]; exact hs.2 k hk⟩, fun s hs9 => by
    rw [y134, y135, show hsO (rwZ y s) = hsO (rwZ z s) from hsO_cg (fun i hi => ylo s i hs9 hi)]
    exact hc s hs9, fun i hi => by rw [← ylo s9 i h9 hi]; exact he i hi⟩))
  -- the chain
  have p79 : ∀ (n : Nat) (s : Int32), (s = -1 ∨ (0 ≤ s.toInt ∧ s.toInt < m)) → s.toInt + 1 ≤ n → (∀ s9, s9 < m → (∀ i, i < 222 → z.1 133 (240 * s9 + i) = pv z i) → ∃ f, pCf (z.1 134) f s s9) → MT G (D + 1) z_seek 79 [(0, vr 0), (1, vi w), (2, vi (240 * M)), (3, vi HV), (4, vi s)] [] y (ri F) := by
    intro n
    have fin : ∀ s : Int32, (∀ s9, s9 < m → (∀ i, i < 222 → z.1 133 (240 * s9 + i) = pv z i) → ∃ f, pCf (z.1 134) f s s9) → s = -1 → ∀ s9, s9 < m → ¬ ∀ i, i < 222 → z.1 133 (240 * s9 + i) = pv z i := by
      intro s hm e s9 h9 he
      obtain ⟨f, hf⟩ := hm s9 h9 he
      cases f with
      | zero => exact hf
      | succ f => exact hf.1 e
    induction n with
    | zero =>
      intro s h1 hn hm
      have s1 : s = -1 := h1.resolve_right (fun q => by omega)
      exact sg_seek_79 _ _ _ _ ⟨fun _ => new (fin s hm s1), fun c => absurd s1 c⟩
    | succ n ih =>
      intro s h1 hn hm
      refine sg_seek_79 _ _ _ _ ⟨fun c => new (fin s hm c), fun c => ?_⟩
      obtain ⟨s0, sM⟩ := h1.resolve_left c
      have cs := cl_i s0
      obtain ⟨S, eS⟩ : ∃ S, S = s.toNatClampNeg := ⟨_, rfl⟩
      rw [← eS] at cs
      have sb : (240 * s).toInt = 240 * s.toInt := by rw [t_mul (by rw [k24]; omega) (by rw [k24]; omega), k24]
      have Sm : S < m := by omega
      have p144 : ∀ v : Int32, ((v = 1 ∧ ∀ i, i < 222 → y.1 133 (240 * S + i) = pv z i) ∨ (v = 0 ∧ ¬ ∀ i, i < 222 → y.1 133 (240 * S + i) = pv z i)) → MT G (D + 1) z_seek 144 [(0, vr 0), (1, vi w), (2, vi (240 * M)), (3, vi HV), (4, vi s), (5, vi v)] [] y (ri F) := by
        intro v hv
        refine sg_seek_144 _ _ _ _ _ ⟨fun cv => ⟨by rw [vp_in_iff]; omega, ?_⟩, fun cv => ?_⟩
        · have ne : ¬ ∀ i, i < 222 → y.1 133 (240 * S + i) = pv z i := by
            rcases hv with ⟨e, -⟩ | ⟨-, e⟩
            · rw [e] at cv; exact absurd cv (by decide)
            · exact e
          rw [y134, ← eS]
          have nh : ∀ s9, s9 < m → (∀ i, i < 222 → z.1 133 (240 * s9 + i) = pv z i) → ∃ f, pCf (z.1 134) f (z.1 134 S) s9 := by
            intro s9 h9 he
            obtain ⟨f, hf⟩ := hm s9 h9 he
            cases f with
            | zero => exact absurd hf (fun z => z)
            | succ f =>
              rcases hf.2 with e | e
              · exfalso
                have : s9 = S := by omega
                rw [this] at he
                exact ne (fun i hi => by rw [ylo S i Sm hi]; exact he i hi)
              · rw [← eS] at e; exact ⟨f, e⟩
          rcases hs.2 S (by omega) with q | q
          · rw [q] at nh ⊢; exact ih (-1) (Or.inl rfl) (by show (-1 : Int) + 1 ≤ _; omega) nh
          · exact ih _ (Or.inr ⟨q.1, by omega⟩) (by omega) nh
        · rcases hv with ⟨-, e⟩ | ⟨e, -⟩
          · exact old S Sm s (by omega) e
          · exact absurd e cv
      have p91 : ∀ (m9 k : Nat) (v i : Int32), i.toInt = (k : Nat) → 222 - k ≤ m9 → k ≤ 222 → ((v = 1 ∧ ∀ i, i < k → y.1 133 (240 * S + i) = pv z i) ∨ (v = 0 ∧ ¬ ∀ i, i < 222 → y.1 133 (240 * S + i) = pv z i)) → MT G (D + 1) z_seek 91 [(0, vr 0), (1, vi w), (2, vi (240 * M)), (3, vi HV), (4, vi s), (5, vi v), (6, vi i)] [] y (ri F) := by
        intro m9
        have go : ∀ (k : Nat) (v : Int32), k = 222 → ((v = 1 ∧ ∀ i, i < k → y.1 133 (240 * S + i) = pv z i) ∨ (v = 0 ∧ ¬ ∀ i, i < 222 → y.1 133 (240 * S + i) = pv z i)) → MT G (D + 1) z_seek 144 [(0, vr 0), (1, vi w), (2, vi (240 * M)), (3, vi HV), (4, vi s), (5, vi v)] [] y (ri F) := fun k v ek hv => p144 v (by rw [ek] at hv; exact hv)
        induction m9 with
        | zero =>
          intro k v i ei hn hk hv
          exact sg_seek_91 _ _ _ _ _ _ ⟨fun _ => go k v (by omega) hv, fun c => absurd (t_le.mpr (by rw [y136]; omega)) c⟩
        | succ m9 ihm =>
          intro k v i ei hn hk hv
          refine sg_seek_91 _ _ _ _ _ _ ⟨fun c2 => go k v (by rw [t_le, y136] at c2; omega) hv, fun c2 => ⟨fun v0 => p144 v (Or.inr ⟨v0, ?_⟩), fun vn => ?_⟩⟩
          · rcases hv with ⟨e, -⟩ | ⟨-, e⟩
            · rw [e] at v0; exact absurd v0 (by decide)
            · exact e
          rw [t_le, y136] at c2
          have hv1 : ∀ i, i < k → y.1 133 (240 * S + i) = pv z i := by
            rcases hv with ⟨-, e⟩ | ⟨e, -⟩
            · exact e
            · exact absurd e vn
          have ii : (i + 1).toInt = ((k + 1 : Nat) : Int) := by rw [t_add (by omega) (by omega), k1, ei]; rfl
          have x1 : (240 * s + i).toInt = 240 * s.toInt + i.toInt := by rw [t_add (by omega) (by omega), sb]
          have x2 : (240 * M + i).toInt = 240 * M.toInt + i.toInt := by rw [t_add (by omega) (by omega), b1]
          have c1 : (240 * s + i).toNatClampNeg = 240 * S + k := by rw [t_cl, x1]; omega
          have c3 : (240 * M + i).toNatClampNeg = 240 * m + k := by rw [t_cl, x2]; omega
          rw [c1, c3, yr k (by omega)]
          refine ⟨by rw [vp_in_iff]; omega, by rw [vp_in_iff]; omega, fun ne => ihm (k + 1) _ _ ii (by omega) (by omega) (Or.inr ⟨rfl, fun z9 => ne (z9 k (by omega))⟩), fun e => ihm (k + 1) _ _ ii (by omega) (by omega) (Or.inl ⟨rfl, fun i9 h9 => ?_⟩)⟩
          by_cases q : i9 = k
          · rw [q]; exact e
          · exact hv1 i9 (by omega)
      exact p91 222 0 1 0 rfl (by omega) (by omega) (Or.inl ⟨rfl, fun i hi => absurd hi (Nat.not_lt_zero _)⟩)
  have p25 : ∀ (n k : Nat) (hh i : Int32), i.toInt = (k : Nat) → 222 - k ≤ n → k ≤ 222 → hh = hsF hs31 (fun i => pv z i) k → MT G (D + 1) z_seek 25 [(0, vr 0), (1, vi w), (2, vi (240 * M)), (3, vi hh), (4, vi i)] [] y (ri F) := by
    have last : ∀ (k : Nat) (hh : Int32), k = 222 → hh = hsF hs31 (fun i => pv z i) k → vp_in (hsE hh) 4096 ∧ MT G (D + 1) z_seek 79 [(0, vr 0), (1, vi w), (2, vi (240 * M)), (3, vi (hsE hh)), (4, vi (y.1 135 (hsE hh).toNatClampNeg))] [] y (ri F) := by
      intro k hh ek eh
      rw [ek] at eh
      rw [eh, ← eHV, y135]
      have hd := hs.1 _ HVb
      refine ⟨hHV, p79 3001 _ (hd.imp id (fun q => by omega)) ?_ (fun s9 h9 he => ?_)⟩
      · rcases hd with q | q
        · rw [q]; decide
        · omega
      · rw [← hsame s9 h9 he]; exact hc s9 h9
    intro n
    induction n with
    | zero =>
      intro k hh i ei hn hk eh
      exact sg_seek_25 _ _ _ _ ⟨fun _ => last k hh (by omega) eh, fun c => absurd (t_le.mpr (by rw [y136]; omega)) c⟩
    | succ n ih =>
      intro k hh i ei hn hk eh
      refine sg_seek_25 _ _ _ _ ⟨fun c => last k hh (by rw [t_le, y136] at c; omega) eh, fun c => ?_⟩
      rw [t_le, y136] at c
      have ii : (i + 1).toInt = ((k + 1 : Nat) : Int) := by rw [t_add (by omega) (by omega), k1, ei]; rfl
      have x2 : (240 * M + i).toInt = 240 * M.toInt + i.toInt := by rw [t_add (by omega) (by omega), b1]
      have c3 : (240 * M + i).toNatClampNeg = 240 * m + k := by rw [t_cl, x2]; omega
      rw [c3, yr k (by omega)]
      refine ⟨by rw [vp_in_iff]; omega, ih (k + 1) _ _ ii (by omega) (by omega) ?_⟩
      rw [hsF, ← eh]
      rfl
  exact p25 222 0 0 0 rfl (by omega) (by omega) rfl
end SK3
