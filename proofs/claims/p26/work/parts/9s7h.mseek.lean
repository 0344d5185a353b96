section
/-! the model: a state is sought among those kept -/
def rwZ (z : gd) (s : Nat) : Nat → Int32 := fun i => z.1 133 (240 * s + i)
def hsF (S : Int32 → Int32 → Int32) (r : Nat → Int32) : Nat → Int32
  | 0 => 0
  | k + 1 => S (hsF S r k) (r k)
def hs31 (a b : Int32) : Int32 := (a * 31) + b
def hsE (v : Int32) : Int32 := ((v ^^^ (((v : Int32).toUInt32 >>> ((12 : Int32).toUInt32 &&& Int32.toUInt32 31)).toInt32)) ^^^ (((v : Int32).toUInt32 >>> ((22 : Int32).toUInt32 &&& Int32.toUInt32 31)).toInt32)) &&& 4095
def hsO (r : Nat → Int32) : Nat := (hsE (hsF hs31 r 222)).toNatClampNeg
/-- s stands on the chain from v on -/
def pCf (nx : Nat → Int32) : Nat → Int32 → Nat → Prop
  | 0, _, _ => False
  | f + 1, v, s => ¬ v = -1 ∧ (v.toInt = (s : Nat) ∨ pCf nx f (nx v.toNatClampNeg) s)
/-- each of the first n stands on its chain -/
def chC (z : gd) (n : Nat) : Prop := ∀ s, s < n → ∃ f, pCf (z.1 134) f (z.1 135 (hsO (rwZ z s))) s
section SK3
variable {G : mG} {d D : Nat} {x z a : gd} {F : Int32 → gd → Prop} {Fv : gd → Prop}
theorem hsF_cg {S : Int32 → Int32 → Int32} {r r' : Nat → Int32} : ∀ {n : Nat}, (∀ i, i < n → r i = r' i) → hsF S r n = hsF S r' n := by
  intro n
  induction n with
  | zero => intro _; rfl
  | succ n ih =>
    intro h
    rw [hsF, hsF, ih (fun i hi => h i (by omega)), h n (by omega)]
theorem hsO_cg {r r' : Nat → Int32} (h : ∀ i, i < 222 → r i = r' i) : hsO r = hsO r' := by
  unfold hsO; rw [hsF_cg h]
theorem pCf_up {nx nx' : Nat → Int32} {m s : Nat} (e : ∀ j, j < m → nx' j = nx j) (hs : ∀ j, j < m → nx j = -1 ∨ (0 ≤ (nx j).toInt ∧ (nx j).toInt < j)) : ∀ (f : Nat) (v : Int32), (v = -1 ∨ (0 ≤ v.toInt ∧ v.toInt < m)) → pCf nx f v s → pCf nx' f v s := by
  intro f
  induction f with
  | zero => intro v _ h; exact h
  | succ f ih =>
    intro v hv h
    obtain ⟨h1, h2⟩ := h
    obtain ⟨v0, v1⟩ := hv.resolve_left h1
    have cv := cl_i v0
    refine ⟨h1, h2.imp id (fun h3 => ?_)⟩
    rw [e _ (by omega)]
    refine ih _ ?_ h3
    exact (hs _ (by omega)).imp id (fun w => by omega)
theorem sp_seek3 (w : Int32) (wv : vp_in w 2) {m : Nat} (em : (z.1 120 w.toNatClampNeg).toInt = (m : Nat)) (m1 : m ≤ 3000) (hs : hsR z (m : Nat)) (hc : chC z m) (h80 : ∀ t : Nat, t < 6 → (z.1 80 t).toInt ≤ 8) (h : ∀ r z', md [136] [133, 134, 135] z z' → (∀ j : Nat, j < 240 * m → z'.1 133 j = z.1 133 j) → ((r = z.1 120 w.toNatClampNeg ∧ (∀ i : Nat, i < 222 → z'.1 133 (240 * m + i) = pv z i) ∧ hsR z' ((m : Int) + 1) ∧ chC z' (m + 1) ∧ ∀ s, s < m → ¬ ∀ i, i < 222 → z.1 133 (240 * s + i) = pv z i) ∨ (∃ s : Nat, s < m ∧ r.toInt = (s : Nat) ∧ hsR z' (m : Nat) ∧ chC z' m ∧ ∀ i, i < 222 → z.1 133 (240 * s + i) = pv z i)) → F r z') : MT G (D + 1) z_seek 0 [(0, vr 0), (1, vi w)] [] z (ri F) := by
  have k0 : (0 : Int32).toInt = 0 := rfl
  have k1 : (1 : Int32).toInt = 1 := rfl
  have k24 : (240 : Int32).toInt = 240 := rfl
  obtain ⟨M, eM⟩ : ∃ M, M = z.1 120 w.toNatClampNeg := ⟨_, rfl⟩
  rw [← eM] at em h
  have b1 : (240 * M).toInt = 240 * M.toInt := by rw [t_mul (by rw [k24]; omega) (by rw [k24]; omega), k24]
  have cM : M.toNatClampNeg = m := by rw [t_cl, em]; rfl
  have cb : (240 * M).toNatClampNeg = 240 * m := by have := cl_i (a := 240 * M) (by omega); omega
  refine sg_seek_0 _ ⟨wv, ?_⟩
  rw [← eM]
  refine sp_pack (Or.inl rfl) mk_133 ml_133 (240 * M) (by omega) (by omega) (by omega) h80 (fun y my y136 yr yo => ?_)
  rw [cb] at yr yo
  have y120 : y.1 120 w.toNatClampNeg = M := by rw [my.2.1 120 (by decide) (by decide), eM]
  have y134 : y.1 134 = z.1 134 := my.2.1 134 (by decide) (by decide)
  have y135 : y.1 135 = z.1 135 := my.2.1 135 (by decide) (by decide)
  have ylo : ∀ s i, s < m → i < 222 → y.1 133 (240 * s + i) = z.1 133 (240 * s + i) := fun s i hs hi => yo _ (Or.inl (by omega))
  obtain ⟨HV, eHV⟩ : ∃ HV, HV = hsE (hsF hs31 (fun i => pv z i) 222) := ⟨_, rfl⟩
  have hHV : vp_in HV 4096 := by rw [eHV]; exact t_and4 _
  have HVb := vp_lt hHV
  have hsame : ∀ s, s < m → (∀ i, i < 222 → z.1 133 (240 * s + i) = pv z i) → hsO (rwZ z s) = HV.toNatClampNeg := fun s hs9 he => by
    rw [eHV]
    exact hsO_cg (fun i hi => he i hi)
  have hs2 : ∀ j, j < m → z.1 134 j = -1 ∨ (0 ≤ (z.1 134 j).toInt ∧ (z.1 134 j).toInt < j) := fun j hj => hs.2 j (by omega)
  have new : (∀ s, s < m → ¬ ∀ i, i < 222 → z.1 133 (240 * s + i) = pv z i) → vp_in w 2 ∧ vp_in HV 4096 ∧ vp_in (y.1 120 w.toNatClampNeg) 3001 ∧ (∀ x5 : gd, x5 = si y 134 (y.1 120 w.toNatClampNeg : Int32).toNatClampNeg (y.1 135 HV.toNatClampNeg) → vp_in w 2 ∧ vp_in HV 4096 ∧ (∀ x8 : gd, x8 = si x5 135 HV.toNatClampNeg (x5.1 120 w.toNatClampNeg) → vp_in w 2 ∧ ri F (some (vi (x8.1 120 w.toNatClampNeg))) x8)) := by
    intro hnone
    rw [y120, cM]
    refine ⟨wv, hHV, by rw [vp_in_iff]; omega, fun y5 e5 => ⟨wv, hHV, fun y8 e8 => ⟨wv, ?_⟩⟩⟩
    have m5 := md_a y 134 m (y.1 135 HV.toNatClampNeg) (by decide)
    rw [← e5] at m5
    have f5 : y5.1 120 w.toNatClampNeg = M := by rw [m5.2.1 120 (by decide) (by decide), y120]
    rw [f5] at e8
    have m8 := md_a y5 135 HV.toNatClampNeg M (by decide)
    rw [← e8] at m8
    have mm : md [136] [133, 134, 135] z y8 := md_tr (md_tr (L3 := [136]) (A3 := [133, 134]) my m5 rfl rfl) m8 rfl rfl
    have f8 : y8.1 120 w.toNatClampNeg = M := by rw [m8.2.1 120 (by decide) (by decide), f5]
    have f133 : y8.1 133 = y.1 133 := by rw [m8.2.1 133 (by decide) (by decide), m5.2.1 133 (by decide) (by decide)]
    have n134 : ∀ j, y8.1 134 j = if j = m then z.1 135 HV.toNatClampNeg else z.1 134 j := fun j => by
      rw [m8.2.1 134 (by decide) (by decide), e5, si_get]
      by_cases q : j = m
      · rw [if_pos ⟨rfl, q⟩, if_pos q, y135]
      · rw [if_neg (fun w => q w.2), if_neg q, y134]
    have n135 : ∀ j, y8.1 135 j = if j = HV.toNatClampNeg then M else z.1 135 j := fun j => by
      rw [e8, si_get]
      by_cases q : j = HV.toNatClampNeg
      · rw [if_pos ⟨rfl, q⟩, if_pos q]
      · rw [if_neg (fun w => q w.2), if_neg q, m5.2.1 135 (by decide) (by decide), y135]
    have nM : ¬ M = -1 := fun e => by rw [e, tm1] at em; omega
    rw [f8]
    refine ri_i (h M y8 mm (fun j hj => by rw [f133]; exact yo j (Or.inl hj)) (Or.inl ⟨rfl, by rw [f133]; exact yr, ⟨fun k hk => ?_, fun s hs9 => ?_⟩, fun s hs9 => ?_, hnone⟩))
    · rw [n135]
      by_cases q : k = HV.toNatClampNeg
      · rw [if_pos q]; exact Or.inr (by omega)
      · rw [if_neg q]; exact (hs.1 k hk).imp id (fun w => by omega)
    · rw [n134]
      by_cases q : s = m
      · rw [if_pos q]
        exact (hs.1 _ HVb).imp id (fun w => by omega)
      · rw [if_neg q]; exact hs.2 s (by omega)
    · by_cases q : s = m
      · refine ⟨1, ?_⟩
        have eO : hsO (rwZ y8 s) = HV.toNatClampNeg := by
          rw [eHV]
          exact hsO_cg (fun i hi => by show y8.1 133 (240 * s + i) = _; rw [f133, q]; exact yr i hi)
        rw [eO, n135, if_pos rfl]
        exact ⟨nM, Or.inl (by rw [q]; exact em)⟩
      · have sm : s < m := by omega
        obtain ⟨f, hf⟩ := hc s sm
        have eO : hsO (rwZ y8 s) = hsO (rwZ z s) := hsO_cg (fun i hi => by show y8.1 133 (240 * s + i) = _; rw [f133]; exact ylo s i sm hi)
        have hb : hsO (rwZ z s) < 4096 := vp_lt (t_and4 _)
        have hd := hs.1 _ hb
        have up := pCf_up (nx := z.1 134) (nx' := y8.1 134) (m := m) (s := s) (fun j hj => by rw [n134, if_neg (by omega)]) hs2 f _ hd hf
        rw [eO, n135]
        by_cases q2 : hsO (rwZ z s) = HV.toNatClampNeg
        · rw [if_pos q2]
          refine ⟨f + 1, nM, Or.inr ?_⟩
          rw [cM, n134, if_pos rfl, ← q2]; exact up
        · rw [if_neg q2]; exact ⟨f, up⟩
  have old : ∀ s9 : Nat, s9 < m → ∀ s : Int32, s.toInt = (s9 : Nat) → (∀ i, i < 222 → y.1 133 (240 * s9 + i) = pv z i) → ri F (some (vi s)) y := fun s9 h9 s es he => ri_i (h s y (md_w my (by decide) (by decide)) (fun j hj => yo j (Or.inl hj)) (Or.inr ⟨s9, h9, es, ⟨fun k hk => by rw [y135]; exact hs.1 k hk, fun k hk => by rw [y134]; exact hs.2 k hk⟩, fun s hs9 => by
    rw [y134, y135, show hsO (rwZ y s) = hsO (rwZ z s) from hsO_cg (fun i hi => ylo s i hs9 hi)]
    exact hc s hs9, fun i hi => by rw [← ylo s9 i h9 hi]; exact he i hi⟩))
  -- the chain
  have p79 : ∀ (n : Nat) (s : Int32), (s = -1 ∨ (0 ≤ s.toInt ∧ s.toInt < m)) → s.toInt + 1 ≤ n → (∀ s9, s9 < m → (∀ i, i < 222 → z.1 133 (240 * s9 + i) = pv z i) → ∃ f, pCf (z.1 134) f s s9) → MT G (D + 1) z_seek 79 [(0, vr 0), (1, vi w), (2, vi (240 * M)), (3, vi HV), (4, vi s)] [] y (ri F) := by
    intro n
    have fin : ∀ s : Int32, (∀ s9, s9 < m → (∀ i, i < 222 → z.1 133 (240 * s9 + i) = pv z i) → ∃ f, pCf (z.1 134) f s s9) → s = -1 → ∀ s9, s9 < m → ¬ ∀ i, i < 222 → z.1 133 (240 * s9 + i) = pv z i := by
      intro s hm e s9 h9 he
      obtain ⟨f, hf⟩ := hm s9 h9 he
      cases f with
      | zero => exact hf
      | succ f => exact hf.1 e
    induction n with
    | zero =>
      intro s h1 hn hm
      have s1 : s = -1 := h1.resolve_right (fun q => by omega)
      exact sg_seek_79 _ _ _ _ ⟨fun _ => new (fin s hm s1), fun c => absurd s1 c⟩
    | succ n ih =>
      intro s h1 hn hm
      refine sg_seek_79 _ _ _ _ ⟨fun c => new (fin s hm c), fun c => ?_⟩
      obtain ⟨s0, sM⟩ := h1.resolve_left c
      have cs := cl_i s0
      obtain ⟨S, eS⟩ : ∃ S, S = s.toNatClampNeg := ⟨_, rfl⟩
      rw [← eS] at cs
      have sb : (240 * s).toInt = 240 * s.toInt := by rw [t_mul (by rw [k24]; omega) (by rw [k24]; omega), k24]
      have Sm : S < m := by omega
      have p144 : ∀ v : Int32, ((v = 1 ∧ ∀ i, i < 222 → y.1 133 (240 * S + i) = pv z i) ∨ (v = 0 ∧ ¬ ∀ i, i < 222 → y.1 133 (240 * S + i) = pv z i)) → MT G (D + 1) z_seek 144 [(0, vr 0), (1, vi w), (2, vi (240 * M)), (3, vi HV), (4, vi s), (5, vi v)] [] y (ri F) := by
        intro v hv
        refine sg_seek_144 _ _ _ _ _ ⟨fun cv => ⟨by rw [vp_in_iff]; omega, ?_⟩, fun cv => ?_⟩
        · have ne : ¬ ∀ i, i < 222 → y.1 133 (240 * S + i) = pv z i := by
            rcases hv with ⟨e, -⟩ | ⟨-, e⟩
            · rw [e] at cv; exact absurd cv (by decide)
            · exact e
          rw [y134, ← eS]
          have nh : ∀ s9, s9 < m → (∀ i, i < 222 → z.1 133 (240 * s9 + i) = pv z i) → ∃ f, pCf (z.1 134) f (z.1 134 S) s9 := by
            intro s9 h9 he
            obtain ⟨f, hf⟩ := hm s9 h9 he
            cases f with
            | zero => exact absurd hf (fun z => z)
            | succ f =>
              rcases hf.2 with e | e
              · exfalso
                have : s9 = S := by omega
                rw [this] at he
                exact ne (fun i hi => by rw [ylo S i Sm hi]; exact he i hi)
              · rw [← eS] at e; exact ⟨f, e⟩
          rcases hs.2 S (by omega) with q | q
          · rw [q] at nh ⊢; exact ih (-1) (Or.inl rfl) (by show (-1 : Int) + 1 ≤ _; omega) nh
          · exact ih _ (Or.inr ⟨q.1, by omega⟩) (by omega) nh
        · rcases hv with ⟨-, e⟩ | ⟨e, -⟩
          · exact old S Sm s (by omega) e
          · exact absurd e cv
      have p91 : ∀ (m9 k : Nat) (v i : Int32), i.toInt = (k : Nat) → 222 - k ≤ m9 → k ≤ 222 → ((v = 1 ∧ ∀ i, i < k → y.1 133 (240 * S + i) = pv z i) ∨ (v = 0 ∧ ¬ ∀ i, i < 222 → y.1 133 (240 * S + i) = pv z i)) → MT G (D + 1) z_seek 91 [(0, vr 0), (1, vi w), (2, vi (240 * M)), (3, vi HV), (4, vi s), (5, vi v), (6, vi i)] [] y (ri F) := by
        intro m9
        have go : ∀ (k : Nat) (v : Int32), k = 222 → ((v = 1 ∧ ∀ i, i < k → y.1 133 (240 * S + i) = pv z i) ∨ (v = 0 ∧ ¬ ∀ i, i < 222 → y.1 133 (240 * S + i) = pv z i)) → MT G (D + 1) z_seek 144 [(0, vr 0), (1, vi w), (2, vi (240 * M)), (3, vi HV), (4, vi s), (5, vi v)] [] y (ri F) := fun k v ek hv => p144 v (by rw [ek] at hv; exact hv)
        induction m9 with
        | zero =>
          intro k v i ei hn hk hv
          exact sg_seek_91 _ _ _ _ _ _ ⟨fun _ => go k v (by omega) hv, fun c => absurd (t_le.mpr (by rw [y136]; omega)) c⟩
        | succ m9 ihm =>
          intro k v i ei hn hk hv
          refine sg_seek_91 _ _ _ _ _ _ ⟨fun c2 => go k v (by rw [t_le, y136] at c2; omega) hv, fun c2 => ⟨fun v0 => p144 v (Or.inr ⟨v0, ?_⟩), fun vn => ?_⟩⟩
          · rcases hv with ⟨e, -⟩ | ⟨-, e⟩
            · rw [e] at v0; exact absurd v0 (by decide)
            · exact e
          rw [t_le, y136] at c2
          have hv1 : ∀ i, i < k → y.1 133 (240 * S + i) = pv z i := by
            rcases hv with ⟨-, e⟩ | ⟨e, -⟩
            · exact e
            · exact absurd e vn
          have ii : (i + 1).toInt = ((k + 1 : Nat) : Int) := by rw [t_add (by omega) (by omega), k1, ei]; rfl
          have x1 : (240 * s + i).toInt = 240 * s.toInt + i.toInt := by rw [t_add (by omega) (by omega), sb]
          have x2 : (240 * M + i).toInt = 240 * M.toInt + i.toInt := by rw [t_add (by omega) (by omega), b1]
          have c1 : (240 * s + i).toNatClampNeg = 240 * S + k := by rw [t_cl, x1]; omega
          have c3 : (240 * M + i).toNatClampNeg = 240 * m + k := by rw [t_cl, x2]; omega
          rw [c1, c3, yr k (by omega)]
          refine ⟨by rw [vp_in_iff]; omega, by rw [vp_in_iff]; omega, fun ne => ihm (k + 1) _ _ ii (by omega) (by omega) (Or.inr ⟨rfl, fun z9 => ne (z9 k (by omega))⟩), fun e => ihm (k + 1) _ _ ii (by omega) (by omega) (Or.inl ⟨rfl, fun i9 h9 => ?_⟩)⟩
          by_cases q : i9 = k
          · rw [q]; exact e
          · exact hv1 i9 (by omega)
      exact p91 222 0 1 0 rfl (by omega) (by omega) (Or.inl ⟨rfl, fun i hi => absurd hi (Nat.not_lt_zero _)⟩)
  have p25 : ∀ (n k : Nat) (hh i : Int32), i.toInt = (k : Nat) → 222 - k ≤ n → k ≤ 222 → hh = hsF hs31 (fun i => pv z i) k → MT G (D + 1) z_seek 25 [(0, vr 0), (1, vi w), (2, vi (240 * M)), (3, vi hh), (4, vi i)] [] y (ri F) := by
    have last : ∀ (k : Nat) (hh : Int32), k = 222 → hh = hsF hs31 (fun i => pv z i) k → vp_in (hsE hh) 4096 ∧ MT G (D + 1) z_seek 79 [(0, vr 0), (1, vi w), (2, vi (240 * M)), (3, vi (hsE hh)), (4, vi (y.1 135 (hsE hh).toNatClampNeg))] [] y (ri F) := by
      intro k hh ek eh
      rw [ek] at eh
      rw [eh, ← eHV, y135]
      have hd := hs.1 _ HVb
      refine ⟨hHV, p79 3001 _ (hd.imp id (fun q => by omega)) ?_ (fun s9 h9 he => ?_)⟩
      · rcases hd with q | q
        · rw [q]; decide
        · omega
      · rw [← hsame s9 h9 he]; exact hc s9 h9
    intro n
    induction n with
    | zero =>
      intro k hh i ei hn hk eh
      exact sg_seek_25 _ _ _ _ ⟨fun _ => last k hh (by omega) eh, fun c => absurd (t_le.mpr (by rw [y136]; omega)) c⟩
    | succ n ih =>
      intro k hh i ei hn hk eh
      refine sg_seek_25 _ _ _ _ ⟨fun c => last k hh (by rw [t_le, y136] at c; omega) eh, fun c => ?_⟩
      rw [t_le, y136] at c
      have ii : (i + 1).toInt = ((k + 1 : Nat) : Int) := by rw [t_add (by omega) (by omega), k1, ei]; rfl
      have x2 : (240 * M + i).toInt = 240 * M.toInt + i.toInt := by rw [t_add (by omega) (by omega), b1]
      have c3 : (240 * M + i).toNatClampNeg = 240 * m + k := by rw [t_cl, x2]; omega
      rw [c3, yr k (by omega)]
      refine ⟨by rw [vp_in_iff]; omega, ih (k + 1) _ _ ii (by omega) (by omega) ?_⟩
      rw [hsF, ← eh]
      rfl
  exact p25 222 0 0 0 rfl (by omega) (by omega) rfl
end SK3
end
section
/-! the model: what looking at a state asks -/
section MLH
variable {G : mG} {d D : Nat} {x z a y : gd} {F : Int32 → gd → Prop} {Fv : gd → Prop} {C : gCo} {M : gMa} {w : Nat}
theorem evQ_me {lv : Nat → Int32} {cv : Int32 → Int32} {m m' : Int32} : ∀ {Q : List gQ}, (∀ p ∈ Q, ¬ p.1 = 3) → ∀ s, evQ lv cv m Q s = evQ lv cv m' Q s := by
  intro Q
  induction Q with
  | nil => intro _ s; rfl
  | cons q Q ih =>
    intro h s
    have ih := ih (fun p hp => h p (List.mem_cons_of_mem _ hp))
    have h3 := h q (List.mem_cons_self ..)
    rw [evQ, evQ]
    by_cases c1 : q.1 = 1
    · rw [if_pos c1, if_pos c1, ih]
    · rw [if_neg c1, if_neg c1]
      by_cases c2 : q.1 = 2
      · rw [if_pos c2, if_pos c2, ih]
      · rw [if_neg c2, if_neg c2, if_neg h3, if_neg h3]
        by_cases c4 : q.1 = 4
        · rw [if_pos c4, if_pos c4, ih]
        · rw [if_neg c4, if_neg c4]
          by_cases c5 : q.1 = 5
          · rw [if_pos c5, if_pos c5, ih]
          · rw [if_neg c5, if_neg c5]
            cases biQ q.2.2 (s.tail.headD 0) (s.headD 0) with
            | none => rfl
            | some r => exact ih _
theorem sp_hasAct3 (hN : NC C) (hX : NXc C) (w01 : w = 0 ∨ w = 1) (am : AM C w M a) (e : eqS (Sm a) a y) (t : Int32) (tv : vp_in t 6) (hD : 2 ≤ D) (h0 : ¬ canM C w M t.toNatClampNeg → ∀ y', md rL rA y y' → eqS (Sm a) a y' → F 0 y') (h1 : a.1 73 t.toNatClampNeg = 1 → ¬ a.1 77 t.toNatClampNeg = 1 → canM C w M t.toNatClampNeg → ∀ y', md rL rA y y' → eqS (Sm a) a y' → F 1 y') : MT G D z_hasAct 0 [(0, vr 0), (1, vi t)] [] y (ri F) := by
  obtain ⟨av, hK, hM, hI, wy, -⟩ := am
  refine MD_top (ds_hasAct3 (d := 1) (S := Sm a) (x := a) (C := C) (M := M) (F := fun r y S1 => y = a ∧ S1 = Sm a ∧ ((r = 0 ∧ ¬ canM C w M t.toNatClampNeg) ∨ (r = 1 ∧ a.1 73 t.toNatClampNeg = 1 ∧ ¬ a.1 77 t.toNatClampNeg = 1 ∧ canM C w M t.toNatClampNeg))) t tv (RI_sub (Sl_Sm a) av.1) hK hN hX hM wy w01 (fun w0 t' ht' => (hI.1 t' ht').2.2.2 w0) (fun c => ⟨rfl, rfl, Or.inl ⟨rfl, c⟩⟩) (fun c1 c2 c3 => ⟨rfl, rfl, Or.inr ⟨rfl, c1, c2, c3⟩⟩)) e (by omega) (fun o x' S' y' q eq m => ?_)
  obtain ⟨r, eo, ex, eS, hr⟩ := q
  rw [ex, eS] at eq
  rw [eo]
  rcases hr with ⟨hr, c⟩ | ⟨hr, c1, c2, c3⟩
  · rw [hr]; exact ri_i (h0 c y' m eq)
  · rw [hr]; exact ri_i (h1 c1 c2 c3 y' m eq)
theorem sp_lookAt3 (hN : NC C) (hX : NXc C) (w01 : w = 0 ∨ w = 1) (am : AM C w M a) (e : eqS (Sm a) a z) (t : Int32) (tv : vp_in t 6) (h1 : a.1 73 t.toNatClampNeg = 1) (h2 : ¬ a.1 77 t.toNatClampNeg = 1) (hD : 3 ≤ D) (h : ∀ z' x', eqS (Sm a) a z' → md rL rA z z' → lkP a x' t.toNatClampNeg → z'.1 0 88 = x'.1 0 88 → z'.1 0 89 = x'.1 0 89 → z'.1 0 89 = Int32.ofNat (lkM C w M t.toNatClampNeg).1 → z'.1 0 88 = (lkM C w M t.toNatClampNeg).2.1 → Fv z') : MT G D z_lookAt 0 [(0, vr 0), (1, vi t)] [] z (rv Fv) := by
  obtain ⟨av, hK, hM, hI, wy, -⟩ := am
  refine MD_top (ds_look3 (d := 0) (S := Sm a) (C := C) (M := M) (w := w) (Fv := fun y S1 => md [82, 88, 89, 90, 91] [84] a y ∧ ssub (Sm a) S1 ∧ lkS S1 ∧ lkP a y t.toNatClampNeg ∧ lkQ y (lkM C w M t.toNatClampNeg)) t tv (RI_sub (Sl_Sm a) av.1) h1 h2 hK hN hX hM wy w01 (fun y S1 q1 q2 q3 q4 q5 => ⟨q1, q2, q3, q4, q5⟩)) e (by omega) (fun o x' S' z' q eq mz => ?_)
  obtain ⟨eo, mx, ss, ls, lp, lq⟩ := q
  rw [eo]
  have e88 := eq 0 88 (Or.inr ls.1)
  have e89 := eq 0 89 (Or.inr ls.2.1)
  refine rv_i (h z' x' (fun c j hc => ?_) mz lp e88 e89 (by rw [e89]; exact lq.1) (by rw [e88]; exact lq.2.1))
  have hx : eqS (Sm a) a x' := eqS_mi (eqS_rf _ _) (mi_of mx) rfl rfl (ssub_rf _)
  rw [eq c j (hc.imp id (ss c j)), hx c j hc]
/-- a claim's sum -/
theorem sp_claim (hN : NC C) (hq2 : NCq C) (l24 : C.2.2.1.length ≤ 24) (am : AM C w M a) (e : eqS (Sm a) a y) (r : Int32) {Q : List gQ} (hQ : Q ∈ C.2.2.2.1 ∨ Q ∈ C.2.2.2.2) (hS : SUm a r (Q.map (mQp []))) (hD : 2 ≤ D) (h : ∀ v y', md rL rA y y' → eqS (Sm a) a y' → ((v = 0 ∨ ¬ y'.1 0 82 = 0) ↔ badC M Q) → (y'.1 0 82 = 0 ∨ y'.1 0 82 = 1) → F v y') : MT G D z_worked 0 [(0, vr 0), (1, vi r), (2, vi (-1))] [] y (ri F) := by
  obtain ⟨av, hK, hM, hI, wy, -⟩ := am
  have w6 : (a.1 0 49).toInt ≤ 6000 := by have := av.1.1.2.1.2.2.2.1; omega
  obtain ⟨n1, n2⟩ := hN.2.2 Q hQ
  have k1 : ¬ (1 : Int32) = 0 := by decide
  refine MD_top (ds_workedf (d := 0) (S := Sm a) (x := a) (t := -1) (sl := []) (lv := fun _ => 0) (cv := fun c => M.1 c.toNatClampNeg) (F := fun v y S1 => md [82] [84] a y ∧ ssub (Sm a) S1 ∧ S1 0 82 ∧ wkM y (wkQ (fun _ => 0) (fun c => M.1 c.toNatClampNeg) (-1) Q) v) hS w6 n1 (fun p hp => ⟨(n2 p hp).1, fun c => absurd c (n2 p hp).2, fun c => ?_⟩) (fun v y S1 h1 h2 h3 h4 => ⟨h1, h2, h3, h4⟩)) e (by omega) (fun o x' S' y' q eq m => ?_)
  · obtain ⟨c0, c1⟩ := (hq2 Q hQ p hp).2 c
    exact ⟨by rw [vp_in_iff]; omega, hM.1 _ (by rw [t_cl]; omega)⟩
  · obtain ⟨v, eo, mx, ss, s82, wk⟩ := q
    rw [eo]
    have e82 := eq 0 82 (Or.inr s82)
    have ev : wkQ (fun _ => 0) (fun c => M.1 c.toNatClampNeg) (-1) Q = evC M Q := by
      unfold evC wkQ
      rw [evQ_me (m' := 0) (fun p hp => (hq2 Q hQ p hp).1)]
    rw [ev] at wk
    refine ri_i (h v y' m (fun c j hc => ?_) ?_ ?_)
    · have hx : eqS (Sm a) a x' := eqS_mi (eqS_rf _ _) (mi_of mx) rfl rfl (ssub_rf _)
      rw [eq c j (hc.imp id (ss c j)), hx c j hc]
    · rw [e82]
      rcases wk with ⟨u, hu, er, y5⟩ | ⟨hu, y5⟩
      · rw [er, y5]
        constructor
        · rintro (z | z)
          · exact Or.inr (by rw [hu, z])
          · exact absurd rfl z
        · rintro (z | z)
          · rw [hu] at z; cases z
          · rw [hu] at z; exact Or.inl (Option.some.inj z)
      · rw [y5]
        exact ⟨fun _ => Or.inl hu, fun _ => Or.inr k1⟩
    · rw [e82]
      rcases wk with ⟨u, hu, er, y5⟩ | ⟨hu, y5⟩
      · exact Or.inl y5
      · exact Or.inr y5
end MLH
end
section
/-! the model: sorts, races, findings noted -/
def FAm (z y : gd) (W : Nat) (s : Int32) (D : Nat → Prop) : Prop := ∀ f, f < 11 → (D f ∧ z.1 126 (11 * W + f) = -1 ∧ y.1 126 (11 * W + f) = s) ∨ (¬ (D f ∧ z.1 126 (11 * W + f) = -1) ∧ y.1 126 (11 * W + f) = z.1 126 (11 * W + f))
section MRC
variable {G : mG} {d D : Nat} {x z a y y' : gd} {F : Int32 → gd → Prop} {Fv : gd → Prop} {C : gCo} {M : gMa} {w W n m : Nat} {s : Int32} {E E' : Nat → Prop}
theorem FAm_f (e : y'.1 126 = y.1 126) (h : FAm z y W s E) : FAm z y' W s E := fun f hf => by rw [e]; exact h f hf
theorem FAm_c (e : ∀ f, f < 11 → (E f ↔ E' f)) (h : FAm z y W s E) : FAm z y W s E' := fun f hf => by rw [← e f hf]; exact h f hf
theorem FAm_more (hm : n ≤ m) (hn : ∀ f, n ≤ f → f < m → ¬ fnM C w M f) (h : FAm z y W s (fD C w M n)) : FAm z y W s (fD C w M m) := FAm_c (fun f _ => ⟨fun z => ⟨by have := z.1; omega, z.2⟩, fun z => ⟨by
  apply Classical.byContradiction
  intro c
  exact hn f (by omega) z.1 z.2, z.2⟩⟩) h
/-- a finding is noted, whether it was before or not -/
theorem FAm_find (hs : 0 ≤ s.toInt) (hn : n < 11) (e : ∀ k, ¬ k = 11 * W + n → y'.1 126 k = y.1 126 k) (e1 : y.1 126 (11 * W + n) = -1 → y'.1 126 (11 * W + n) = s) (e2 : ¬ y.1 126 (11 * W + n) = -1 → y'.1 126 (11 * W + n) = y.1 126 (11 * W + n)) (h : FAm z y W s E) : FAm z y' W s (fun f => E f ∨ f = n) := by
  intro f hf9
  by_cases c : f = n
  · rw [c]
    rcases h n hn with ⟨a1, a2, a3⟩ | ⟨a1, a2⟩
    · refine Or.inl ⟨Or.inr rfl, a2, ?_⟩
      rw [e2 (fun q => by rw [a3] at q; rw [q, tm1] at hs; omega)]; exact a3
    · by_cases c9 : z.1 126 (11 * W + n) = -1
      · exact Or.inl ⟨Or.inr rfl, c9, e1 (by rw [a2]; exact c9)⟩
      · exact Or.inr ⟨fun q => c9 q.2, by rw [e2 (by rw [a2]; exact c9)]; exact a2⟩
  · rw [e _ (by omega)]
    have hD : (fun f => E f ∨ f = n) f ↔ E f := ⟨fun q => q.resolve_right c, Or.inl⟩
    rw [hD]; exact h f hf9
theorem fD_up (hf : fnM C w M n) (f : Nat) : (fD C w M n f ∨ f = n) ↔ fD C w M (n + 1) f := by
  constructor
  · rintro (q | q)
    · exact ⟨by have := q.1; omega, q.2⟩
    · exact ⟨by omega, by rw [q]; exact hf⟩
  · intro q
    by_cases c : f = n
    · exact Or.inr c
    · exact Or.inl ⟨by have := q.1; omega, q.2⟩
theorem sp_find3 (w f s : Int32) (wv : vp_in w 2) {f9 : Nat} (ef : f.toInt = (f9 : Nat)) (f1 : f9 < 11) {M : Int} (s0 : 0 ≤ s.toInt) (s1 : s.toInt < M) (hf : fnd z w.toNatClampNeg M) (h : ∀ z', md [] [126] z z' → ow w.toNatClampNeg z z' → fnd z' w.toNatClampNeg M → (∀ k, ¬ k = 11 * w.toNatClampNeg + f9 → z'.1 126 k = z.1 126 k) → (z.1 126 (11 * w.toNatClampNeg + f9) = -1 → z'.1 126 (11 * w.toNatClampNeg + f9) = s) → (¬ z.1 126 (11 * w.toNatClampNeg + f9) = -1 → z'.1 126 (11 * w.toNatClampNeg + f9) = z.1 126 (11 * w.toNatClampNeg + f9)) → Fv z') : MT G d z_find 0 [(0, vr 0), (1, vi w), (2, vi f), (3, vi s)] [] z (rv Fv) := by
  obtain ⟨v, e⟩ := t11 wv (f := f) (by omega) (by omega)
  have cf : f.toNatClampNeg = f9 := by rw [t_cl, ef]; rfl
  rw [cf] at e
  refine sg_find_0 _ _ _ ⟨v, fun c => rv_i (h z (md_w (md_rf z) (by decide) (by decide)) (ow_mi (L := []) (A := []) ⟨fun _ _ => rfl, fun _ _ _ => rfl⟩ rfl) hf (fun _ _ => rfl) (fun c2 => absurd (by rw [e]; exact c2) c) (fun _ => rfl)), fun c => ⟨v, fun y ey => ?_⟩⟩
  rw [e] at ey c
  have m := md_a z 126 (11 * w.toNatClampNeg + f9) s (by decide)
  rw [← ey] at m
  refine rv_i (h y m ?_ (fun g hg => ?_) (fun k hk => by rw [ey, si_get, if_neg (fun q => hk q.2)]) (fun _ => by rw [ey, si_get, if_pos ⟨rfl, rfl⟩]) (fun c2 => absurd c c2))
  · rw [ey]
    exact ow_si (vp_lt wv) (Or.inr (Or.inl ⟨rfl, _, f1, rfl⟩))
  · rw [ey, si_get]
    by_cases q : (126 : Nat) = 126 ∧ 11 * w.toNatClampNeg + g = 11 * w.toNatClampNeg + f9
    · rw [if_pos q]; exact Or.inr ⟨s0, s1⟩
    · rw [if_neg q]; exact hf g hg
theorem sp_isAtomic3 {k : Nat} (hk : k < 22) (h : ∀ r : Int32, (¬ r = 0 ↔ 2 ≤ k ∧ k ≤ 4) → F r x) : MT G d z_isAtomic 0 [(0, vr 0), (1, vi (Int32.ofNat k))] [] x (ri F) := by
  have k1 : ¬ (1 : Int32) = 0 := by decide
  have e : ∀ n, n < 22 → ((Int32.ofNat n = 2 ↔ n = 2) ∧ (Int32.ofNat n = 3 ↔ n = 3) ∧ (Int32.ofNat n = 4 ↔ n = 4)) := by decide +kernel
  obtain ⟨e2, e3, e4⟩ := e k hk
  refine sg_isAtomic_0 _ ⟨fun c => ri_i (h _ ⟨fun _ => by have := e2.mp c; omega, fun _ => k1⟩), fun c2 => ⟨fun c => ri_i (h _ ⟨fun _ => by have := e3.mp c; omega, fun _ => k1⟩), fun c3 => ⟨fun c4 => ri_i (h _ ⟨fun q => absurd rfl q, fun q => ?_⟩), fun c => ri_i (h _ ⟨fun _ => by have := e4.mp c; omega, fun _ => k1⟩)⟩⟩⟩
  exfalso
  rw [e2] at c2
  rw [e3] at c3
  rw [e4] at c4
  omega
theorem sp_mayRace3 {k l : Nat} (hk : k < 22) (hl : l < 22) (h : ∀ r : Int32, (¬ r = 0 ↔ k ≤ 4 ∧ l ≤ 4 ∧ srM k l) → F r x) : MT G (d + 1) z_mayRace 0 [(0, vr 0), (1, vi (Int32.ofNat k)), (2, vi (Int32.ofNat l))] [] x (ri F) := by
  have k1 : ¬ (1 : Int32) = 0 := by decide
  have ek : (Int32.ofNat k).toInt = (k : Nat) := Int32.toInt_ofNat_of_lt (by omega)
  have el : (Int32.ofNat l).toInt = (l : Nat) := Int32.toInt_ofNat_of_lt (by omega)
  have z0 : ∀ n, n < 22 → (Int32.ofNat n = 0 ↔ n = 0) := by decide +kernel
  have p24 : k ≤ 4 → l ≤ 4 → ¬ (k = 0 ∧ l = 0) → MT G (d + 1) z_mayRace 24 [(0, vr 0), (1, vi (Int32.ofNat k)), (2, vi (Int32.ofNat l))] [] x (ri F) := fun a1 a2 a3 => sg_mayRace_24 _ _ (sp_isAtomic3 hk (fun r hr => ⟨fun r0 => ri_i (h _ ⟨fun _ => ⟨a1, a2, a3, fun q => hr.mpr ⟨q.1, a1⟩ r0⟩, fun _ => k1⟩), fun rn => sp_isAtomic3 hl (fun r2 hr2 => ⟨fun n2 => ri_i (h _ ⟨fun q => absurd rfl q, fun q => absurd ⟨(hr.mp rn).1, (hr2.mp n2).1⟩ q.2.2.2⟩), fun e2 => ri_i (h _ ⟨fun _ => ⟨a1, a2, a3, fun q => hr2.mpr ⟨q.2, a2⟩ e2⟩, fun _ => k1⟩)⟩)⟩))
  refine sg_mayRace_0 _ _ (sp_isAccess _ (fun c => ⟨fun _ => ri_i (h _ ⟨fun q => absurd rfl q, fun q => absurd q.1 (fun q2 => c (by omega))⟩), fun q => absurd rfl q⟩) (fun c1 => ⟨fun q => absurd q (by decide), fun _ => sp_isAccess _ (fun c => ⟨fun _ => ri_i (h _ ⟨fun q => absurd rfl q, fun q => absurd q.2.1 (fun q2 => c (by omega))⟩), fun q => absurd rfl q⟩) (fun c2 => ⟨fun q => absurd q (by decide), fun _ => ⟨fun n0 => p24 (by omega) (by omega) (fun q => n0 ((z0 k hk).mpr q.1)), fun e0 => ⟨fun e3 => ri_i (h _ ⟨fun q => absurd rfl q, fun q => absurd ⟨(z0 k hk).mp e0, (z0 l hl).mp e3⟩ q.2.2.1⟩), fun n3 => p24 (by omega) (by omega) (fun q => n3 ((z0 l hl).mpr q.2))⟩⟩⟩)⟩))
theorem srt_so {t : Nat} (hN : NC C) (am : AM C w M a) (ht : t < 6) (h1 : a.1 73 t = 1) (h2 : ¬ a.1 77 t = 1) : srt a t = Int32.ofNat (soM C (M.2.2 t)) ∧ soM C (M.2.2 t) < 22 := by
  obtain ⟨av, hK, hM, hI, wy, -⟩ := am
  obtain ⟨kv, kn, so, -⟩ := RI_step av.1 ht h1
  obtain ⟨m73, l73, m75, m74, m77, l77, -⟩ := hM.2.2 t ht
  have kK : (a.1 74 t).toNatClampNeg = (M.2.2 t).2.2.1 := by rw [t_cl, m74]; rfl
  have l52 : (a.1 0 52).toInt = C.1.length := hK.1.1
  obtain ⟨st, hst⟩ : ∃ st, C.1[(M.2.2 t).2.2.1]? = some st := ⟨_, List.getElem?_eq_getElem (by omega)⟩
  have esN := stN_is hst
  obtain ⟨k54, k55, -⟩ := hK.1.2 _ st hst
  have ns := hN.1 _ st hst
  have o16 : st.1 < 16 := by
    have b := ((av.1.2 t ht).1.2.2 h1).2
    rw [kK, k54] at b
    exact (mWh_i st.1 ns.1.1).1.mp b
  obtain ⟨w2, w1', w0'⟩ := wai_2 _ (show (M.2.2 t).2.2.2.1 < 3 by omega)
  rw [← m77] at w2 w1' w0'
  unfold srt soM
  rw [esN]
  by_cases c9 : a.1 77 t = 2
  · rw [if_pos c9, if_neg (by have := w2.mp c9; omega)]
    exact ⟨rfl, by decide⟩
  · have z0 : (M.2.2 t).2.2.2.1 = 0 := by
      have a1 : ¬ (M.2.2 t).2.2.2.1 = 2 := fun z => c9 (w2.mpr z)
      have a2 : ¬ (M.2.2 t).2.2.2.1 = 1 := fun z => h2 (w1'.mpr z)
      omega
    rw [if_neg c9, if_pos z0, kK]
    exact ⟨k55 o16, by omega⟩
end MRC
end
