section
/-! the model: histories, with what they answer -/
/-- content 116, contents 0/116: what stands -/
def MSt (z : gd) (s : Nat) (st : gHt) : Prop := (s = 0 → (z.1 0 116 = 0 → st.1 = 0) ∧ (¬ z.1 0 116 = 0 → z.1 116 0 = st.1)) ∧ (s = 1 ∨ s = 2 → (z.1 0 116).toInt = (st.2.1.1 : Nat) ∧ ∀ i, i < st.2.1.1 → z.1 116 i = st.2.1.2 i) ∧ (s = 3 → (z.1 0 116).toInt = (st.2.2.1 : Nat) ∧ hsT z 116 0 st.2.2)
def kd4 (k : Int32) : Prop := k = 0 ∨ k = 1 ∨ k = 2 ∨ k = 3
section MAN
variable {G : mG} {d D : Nat} {x y z : gd} {F : Int32 → gd → Prop} {st : gHt} {s : Nat}
theorem sp_oneL (v : Int32) (h : F (if v = 0 then 0 else 1) x) : MT G d z_one 0 [(0, vi v)] [] x (ri F) := sg_one_0 _ ⟨fun c => ri_i (by first | (rw [if_pos c] at h; exact h) | (rw [if_neg c] at h; exact h)), fun c => ri_i (by first | (rw [if_pos c] at h; exact h) | (rw [if_neg c] at h; exact h))⟩
theorem kd_x {k a b : Int32} {p : Prop} (e : k = a) (n : ¬ a = b) : k = b → p := fun z => absurd (e.symm.trans z) n
/-- a cell -/
theorem sa_cell (o v : Int32) (ho : kd4 o) (hs : MSt z 0 st) (h : ∀ z', md [116] [116] z z' → MSt z' 0 (svH 0 st o v).2 → F (svH 0 st o v).1 z') : MT G (d + 1) z_answer 0 [(0, vr 0), (1, vi 0), (2, vi o), (3, vi v)] [] z (ri F) := by
  have v0 : vp_in 0 14 := by rw [vp_in_iff]; decide
  obtain ⟨h1, h2⟩ := hs.1 rfl
  have e1 : (svH 0 st o v).1 = if o = 0 then 0 else st.1 := by unfold svH; rw [if_pos rfl]
  have e2 : (svH 0 st o v).2.1 = if o = 1 then st.1 else if o = 2 then st.1 + v else v := by unfold svH; rw [if_pos rfl]
  rw [e1] at h
  have p55 : ∀ w : Int32, w = (if o = 1 then st.1 else if o = 2 then st.1 + v else v) → MT G (d + 1) z_answer 55 [(0, vr 0), (2, vi o), (4, vi st.1)] [vi w, vi 0, vr 116] z (ri F) := by
    intro w ew
    refine sg_answer_55 _ _ _ _ ⟨v0, fun y2 e2' y3 e3 => ?_⟩
    have m2 := md_a z 116 (0 : Int32).toNatClampNeg w (by decide)
    rw [← e2'] at m2
    have m3 := md_f y2 116 1
    rw [← e3] at m3
    have c3 : y3.1 0 116 = 1 := by rw [e3, si_get, if_pos ⟨rfl, rfl⟩]
    have w3 : y3.1 116 0 = w := by rw [e3, si_cell (by decide), e2', si_get, if_pos ⟨rfl, rfl⟩]
    have hz := h y3 (md_tr m2 m3 rfl rfl) ⟨fun _ => ⟨fun z9 => by rw [c3] at z9; exact absurd z9 (by decide), fun _ => by rw [w3, e2]; exact ew⟩, fun q => by omega, fun q => by omega⟩
    refine ⟨fun n0 => ri_i ?_, fun c0 => ri_i ?_⟩
    · rw [if_neg n0] at hz; exact hz
    · rw [if_pos c0] at hz; exact hz
  have p21 : MT G (d + 1) z_answer 21 [(0, vr 0), (2, vi o), (3, vi v)] [vi st.1] z (ri F) := by
    refine sg_answer_21 _ _ _ ⟨fun c0 => p55 _ ?_, fun n0 => ⟨fun n3 => ⟨fun n2 => p55 _ ?_, fun c2 => p55 _ ?_⟩, fun c3 => p55 _ ?_⟩⟩
    · rw [if_neg (kd_x c0 (by decide)), if_neg (kd_x c0 (by decide))]
    · have c1 : o = 1 := by
        rcases ho with z9 | z9 | z9 | z9
        · exact absurd z9 n0
        · exact z9
        · exact absurd z9 n2
        · exact absurd z9 n3
      rw [if_pos c1]
    · rw [if_neg (kd_x c2 (by decide)), if_pos c2]
    · rw [if_neg (kd_x c3 (by decide)), if_neg (kd_x c3 (by decide))]
  refine sg_answer_0 _ _ _ ⟨fun n => absurd rfl n, fun _ => ⟨fun nz => ⟨v0, ?_⟩, fun z0 => ?_⟩⟩
  · rw [tn0, h2 nz]; exact p21
  · have e := h1 z0
    rw [e] at p21; exact p21
/-- a row -/
theorem sa_row (k o v : Int32) (ek : k = Int32.ofNat s) (s12 : s = 1 ∨ s = 2) (ho : kd4 o) (hs : MSt z s st) (hb : st.2.1.1 ≤ 12) (h : ∀ z', md [116] [116] z z' → MSt z' s (svH s st o v).2 → F (svH s st o v).1 z') : MT G (d + 1) z_answer 0 [(0, vr 0), (1, vi k), (2, vi o), (3, vi v)] [] z (ri F) := by
  have k0 : (0 : Int32).toInt = 0 := rfl
  have k1 : (1 : Int32).toInt = 1 := rfl
  have v0 : vp_in 0 14 := by rw [vp_in_iff]; decide
  obtain ⟨hl, hr⟩ := hs.2.1 s12
  have sk : ¬ k = 0 ∧ ¬ k = 3 ∧ (k = 1 ↔ s = 1) ∧ (k = 2 ↔ s = 2) := by
    rw [ek]
    rcases s12 with e | e <;> rw [e] <;> decide
  have mk : ∀ (y : gd) (n : Nat) (f : Nat → Int32) (st' : gHt), st'.2.1 = (n, f) → (y.1 0 116).toInt = (n : Nat) → (∀ i, i < n → y.1 116 i = f i) → MSt y s st' := fun y n f st' e h1 h2 => ⟨fun z => by omega, fun _ => by rw [e]; exact ⟨h1, h2⟩, fun z => by omega⟩
  have sv : svH s st o v = (if o = 0 then (0, (st.1, (st.2.1.1 + 1, upf st.2.1.2 st.2.1.1 v), st.2.2))
    else if o = 1 then (if st.2.1.1 = 0 then (-1, st) else if s = 1 then (st.2.1.2 (st.2.1.1 - 1), (st.1, (st.2.1.1 - 1, st.2.1.2), st.2.2)) else (st.2.1.2 0, (st.1, (st.2.1.1 - 1, fun i => st.2.1.2 (i + 1)), st.2.2)))
    else if o = 2 then (Int32.ofNat st.2.1.1, st)
    else (Int32.ofNat st.2.1.1, (st.1, (0, st.2.1.2), st.2.2))) := by unfold svH; rw [if_neg (by omega), if_neg (by omega)]
  have x0 : z.1 0 116 = Int32.ofNat st.2.1.1 := i32_of hl
  have cL : (z.1 0 116).toNatClampNeg = st.2.1.1 := by rw [t_cl, hl]; rfl
  -- one is taken out
  have dec : ∀ (y x2 : gd) (b : Int32) (f : Nat → Int32), md [] [116] z y → 0 < st.2.1.1 → x2 = si y 0 116 ((y.1 0 116) - 1) → svH s st o v = (b, (st.1, (st.2.1.1 - 1, f), st.2.2)) → (∀ i, i < st.2.1.1 - 1 → y.1 116 i = f i) → ri F (some (vi b)) x2 := by
    intro y x2 b f my l0 e2 esv hf
    have m2 := md_f y 116 (y.1 0 116 - 1)
    rw [← e2] at m2
    have c2 : (x2.1 0 116).toInt = ((st.2.1.1 - 1 : Nat) : Int) := by rw [e2, si_get, if_pos ⟨rfl, rfl⟩, my.1 116 (by decide), t_sub (by rw [k1]; omega) (by rw [k1]; omega), k1, hl]; omega
    have hz := h x2 (md_tr my m2 rfl rfl) (by rw [esv]; exact mk x2 _ f _ rfl c2 (fun i hi => by rw [e2, si_cell (by decide)]; exact hf i hi))
    rw [esv] at hz
    exact ri_i hz
  refine sg_answer_0 _ _ _ ⟨fun _ => ⟨fun _ => ⟨fun n0 => ⟨fun n1 => ⟨fun n3 y6 e6 => ri_i ?_, fun c3 y7 e7 => ri_i ?_⟩, fun c1 => ⟨fun nz => ?_, fun z0 => ri_i ?_⟩⟩, fun c0 => ⟨by rw [vp_in_iff]; omega, fun y13 e13 y14 e14 => ri_i ?_⟩⟩, fun c3 => absurd c3 sk.2.1⟩, fun c0 => absurd c0 sk.1⟩
  · have c2 : o = 2 := by
      rcases ho with z9 | z9 | z9 | z9
      · exact absurd z9 n0
      · exact absurd z9 n1
      · exact z9
      · exact absurd z9 n3
    have es : svH s st o v = (Int32.ofNat st.2.1.1, st) := by rw [sv, if_neg n0, if_neg n1, if_pos c2]
    have m6 := md_f z 116 (z.1 0 116)
    rw [← e6] at m6
    have hz := h y6 (md_w m6 (by decide) (by decide)) (by rw [es]; exact mk y6 _ _ _ rfl (by rw [e6, si_get, if_pos ⟨rfl, rfl⟩]; exact hl) (fun i hi => by rw [e6, si_cell (by decide)]; exact hr i hi))
    rw [es] at hz
    rw [x0]; exact hz
  · have es : svH s st o v = (Int32.ofNat st.2.1.1, (st.1, (0, st.2.1.2), st.2.2)) := by rw [sv, if_neg n0, if_neg n1, if_neg (kd_x c3 (by decide))]
    have m7 := md_f z 116 0
    rw [← e7] at m7
    have hz := h y7 (md_w m7 (by decide) (by decide)) (by rw [es]; exact mk y7 _ _ _ rfl (by rw [e7, si_get, if_pos ⟨rfl, rfl⟩]; rfl) (fun i hi => absurd hi (Nat.not_lt_zero _)))
    rw [es] at hz
    rw [x0]; exact hz
  · rw [t_eq, k0, hl] at nz
    have l0 : 0 < st.2.1.1 := by omega
    have es1 : s = 1 → svH s st o v = (st.2.1.2 (st.2.1.1 - 1), (st.1, (st.2.1.1 - 1, st.2.1.2), st.2.2)) := fun c => by rw [sv, if_neg n0, if_pos c1, if_neg (by omega), if_pos c]
    have es2 : ¬ s = 1 → svH s st o v = (st.2.1.2 0, (st.1, (st.2.1.1 - 1, fun i => st.2.1.2 (i + 1)), st.2.2)) := fun c => by rw [sv, if_neg n0, if_pos c1, if_neg (by omega), if_neg c]
    have zz : md [] [116] z z := md_w (md_rf z) (by decide) (by decide)
    refine ⟨fun n1 => ⟨v0, ?_⟩, fun e1 => ⟨?_, ?_⟩⟩
    · have s1 : ¬ s = 1 := fun c => n1 (sk.2.2.1.mpr c)
      have p308 : ∀ (m i0 : Nat) (y : gd) (i : Int32), i.toInt = (i0 : Nat) → md [] [116] z y → i0 < st.2.1.1 → (∀ j, j < st.2.1.1 → y.1 116 j = if j < i0 then st.2.1.2 (j + 1) else st.2.1.2 j) → st.2.1.1 - i0 ≤ m + 1 → MT G (d + 1) z_answer 308 [(0, vr 0), (1, vi k), (4, vi (z.1 0 116)), (5, vi (st.2.1.2 0)), (6, vi i)] [] y (ri F) := by
        intro m
        have fin : ∀ (i0 : Nat) (y x2 : gd), md [] [116] z y → st.2.1.1 ≤ i0 + 1 → (∀ j, j < st.2.1.1 → y.1 116 j = if j < i0 then st.2.1.2 (j + 1) else st.2.1.2 j) → x2 = si y 0 116 ((y.1 0 116) - 1) → ri F (some (vi (st.2.1.2 0))) x2 := fun i0 y x2 my hi hy e2 => dec y x2 _ _ my l0 e2 (es2 s1) (fun j hj => by rw [hy j (by omega), if_pos (by omega)])
        induction m with
        | zero =>
          intro i0 y i ei my il hy hm
          have ii : (i + 1).toInt = ((i0 + 1 : Nat) : Int) := by rw [t_add (by rw [k1]; omega) (by rw [k1]; omega), k1, ei]; rfl
          exact sg_answer_308 _ _ _ _ ⟨fun _ x2 e2 => fin i0 y x2 my (by omega) hy e2, fun q => absurd (t_le.mpr (by rw [hl, ii]; omega)) q⟩
        | succ m ih =>
          intro i0 y i ei my il hy hm
          have ii : (i + 1).toInt = ((i0 + 1 : Nat) : Int) := by rw [t_add (by rw [k1]; omega) (by rw [k1]; omega), k1, ei]; rfl
          have ci : i.toNatClampNeg = i0 := by rw [t_cl, ei]; rfl
          have ci1 : (i + 1).toNatClampNeg = i0 + 1 := by rw [t_cl, ii]; rfl
          refine sg_answer_308 _ _ _ _ ⟨fun q x2 e2 => fin i0 y x2 my (by rw [t_le, hl, ii] at q; omega) hy e2, fun q => ⟨fun n2 => absurd (sk.2.2.2.mpr (by omega)) n2, fun _ => ?_⟩⟩
          rw [t_le, hl, ii] at q
          rw [ci, ci1]
          refine ⟨by rw [vp_in_iff]; omega, by rw [vp_in_iff]; omega, fun y7 e7 => ?_⟩
          have m7 := md_a y 116 i0 (y.1 116 (i0 + 1)) (by decide)
          rw [← e7] at m7
          refine ih (i0 + 1) y7 (i + 1) ii (md_tr my m7 rfl rfl) (by omega) (fun j hj => ?_) (by omega)
          rw [e7, si_get]
          by_cases cj : j = i0
          · rw [if_pos ⟨rfl, cj⟩, hy (i0 + 1) (by omega), if_neg (by omega), if_pos (by omega), cj]
          · rw [if_neg (fun q => cj q.2), hy j hj]
            by_cases c9 : j < i0
            · rw [if_pos c9, if_pos (by omega)]
            · rw [if_neg c9, if_neg (by omega)]
      rw [tn0, hr 0 l0]
      exact p308 st.2.1.1 0 z 0 rfl zz l0 (fun j hj => by rw [if_neg (Nat.not_lt_zero _)]; exact hr j hj) (by omega)
    · rw [vp_in_iff, t_sub (by rw [k1]; omega) (by rw [k1]; omega), k1]; omega
    · have s1 : s = 1 := sk.2.2.1.mp e1
      have c1' : (z.1 0 116 - 1).toNatClampNeg = st.2.1.1 - 1 := by rw [t_cl, t_sub (by rw [k1]; omega) (by rw [k1]; omega), k1, hl]; omega
      rw [c1', hr _ (by omega)]
      exact sg_answer_308 _ _ _ _ ⟨fun _ x2 e2 => dec z x2 _ _ zz l0 e2 (es1 s1) (fun i hi => hr i (by omega)), fun _ => ⟨fun _ x2 e2 => dec z x2 _ _ zz l0 e2 (es1 s1) (fun i hi => hr i (by omega)), fun c2 => absurd (sk.2.2.2.mp c2) (by omega)⟩⟩
  · rw [t_eq, k0, hl] at z0
    have es : svH s st o v = (-1, st) := by rw [sv, if_neg n0, if_pos c1, if_pos (by omega)]
    have hz := h z (md_w (md_rf z) (by decide) (by decide)) (by rw [es]; exact hs)
    rw [es] at hz
    exact hz
  · have es : svH s st o v = (0, (st.1, (st.2.1.1 + 1, upf st.2.1.2 st.2.1.1 v), st.2.2)) := by rw [sv, if_pos c0]
    rw [cL] at e13
    have m13 := md_a z 116 st.2.1.1 v (by decide)
    rw [← e13] at m13
    have m14 := md_f y13 116 (y13.1 0 116 + 1)
    rw [← e14] at m14
    have c14 : (y14.1 0 116).toInt = ((st.2.1.1 + 1 : Nat) : Int) := by rw [e14, si_get, if_pos ⟨rfl, rfl⟩, m13.1 116 (by decide), t_add (by rw [k1]; omega) (by rw [k1]; omega), k1, hl]; rfl
    have hz := h y14 (md_tr m13 m14 rfl rfl) (by
      rw [es]
      refine mk y14 _ _ _ rfl c14 (fun i hi => ?_)
      rw [e14, si_cell (by decide), e13, si_get]
      by_cases e : i = st.2.1.1
      · rw [if_pos ⟨rfl, e⟩, e, upf_eq]
      · rw [if_neg (fun q => e q.2), upf_ne e]; exact hr i (by omega))
    rw [es] at hz
    exact hz
/-- a set -/
theorem sa_set (o v : Int32) (ho : kd4 o) (hs : MSt z 3 st) (hb : st.2.2.1 ≤ 12) (h : ∀ z', md [116] [116] z z' → MSt z' 3 (svH 3 st o v).2 → F (svH 3 st o v).1 z') : MT G (d + 1) z_answer 0 [(0, vr 0), (1, vi 3), (2, vi o), (3, vi v)] [] z (ri F) := by
  have k0 : (0 : Int32).toInt = 0 := rfl
  have k1 : (1 : Int32).toInt = 1 := rfl
  obtain ⟨hl, hS⟩ := hs.2.2 rfl
  obtain ⟨L, eL⟩ : ∃ L, L = st.2.2.1 := ⟨_, rfl⟩
  have hS' : hsT z 116 0 (L, st.2.2.2) := by rw [eL]; exact hS
  have S1 : ∀ v, st.2.2.2 v = true ↔ ∃ i, i < L ∧ z.1 116 i = v := fun v => hS'.1 v
  rw [← eL] at hl hb
  have mk : ∀ (y : gd) (S : Nat × (Int32 → Bool)) (st' : gHt), st'.2.2 = S → (y.1 0 116).toInt = (S.1 : Nat) → hsT y 116 0 S → MSt y 3 st' := fun y S st' e h1 h2 => ⟨fun z => by omega, fun z => by omega, fun _ => by rw [e]; exact ⟨h1, h2⟩⟩
  have sv : svH 3 st o v = (if o = 0 then (if st.2.2.2 v = true then (0, st) else (1, (st.1, st.2.1, (L + 1, fun w => if w = v then true else st.2.2.2 w))))
    else if o = 1 then (if st.2.2.2 v = true then (1, (st.1, st.2.1, (L - 1, fun w => if w = v then false else st.2.2.2 w))) else (0, st))
    else if o = 2 then (if st.2.2.2 v = true then 1 else 0, st)
    else (Int32.ofNat L, st)) := by rw [eL]; unfold svH; rw [if_neg (by omega), if_pos rfl]
  have x0 : z.1 0 116 = Int32.ofNat L := i32_of hl
  have cL : (z.1 0 116).toNatClampNeg = L := by rw [t_cl, hl]; rfl
  have zz : md [116] [116] z z := md_w (md_rf z) (by decide) (by decide)
  -- the answer, by what was found
  have p188 : ∀ (b : Int32) (y : gd) (p : Int32 × gHt), svH 3 st o v = p → ((o = 0 → p.1 = if b = -1 then 1 else 0) ∧ (o = 3 → p.1 = y.1 0 116) ∧ (¬ o = 0 → ¬ o = 3 → p.1 = if b = -1 then 0 else 1)) → md [116] [116] z y → MSt y 3 p.2 → MT G (d + 1) z_answer 188 [(0, vr 0), (2, vi o), (4, vi b)] [] y (ri F) := by
    intro b y p ep hp my hy
    have hz := h y my (by rw [ep]; exact hy)
    rw [ep] at hz
    refine sg_answer_188 _ _ ⟨fun n0 => ⟨fun n3 => ⟨fun eb => sg_answer_232 _ (sp_oneL _ (ri_i ?_)), fun nb => sg_answer_232 _ (sp_oneL _ (ri_i ?_))⟩, fun c3 => ri_i ?_⟩, fun c0 => ⟨fun nb => sg_answer_203 _ (sp_oneL _ (ri_i ?_)), fun eb => sg_answer_203 _ (sp_oneL _ (ri_i ?_))⟩⟩
    · rw [hp.2.2 n0 n3, if_pos eb] at hz; rw [if_pos rfl]; exact hz
    · rw [hp.2.2 n0 n3, if_neg nb] at hz; rw [if_neg (by decide)]; exact hz
    · rw [hp.2.1 c3] at hz; exact hz
    · rw [hp.1 c0, if_neg nb] at hz; rw [if_pos rfl]; exact hz
    · rw [hp.1 c0, if_pos eb] at hz; rw [if_neg (by decide)]; exact hz
  -- what was found
  have fo : ∀ b : Int32, ((b = -1 ∧ ∀ i, i < L → ¬ z.1 116 i = v) ∨ ∃ i, i < L ∧ b.toInt = (i : Nat) ∧ z.1 116 i = v) → ((b = -1 ↔ ¬ st.2.2.2 v = true)) := fun b hb9 => by
    rcases hb9 with ⟨e, n⟩ | ⟨i, i1, i2, i3⟩
    · exact ⟨fun _ m => by obtain ⟨i, i1, i2⟩ := (S1 v).mp m; exact n i i1 i2, fun _ => e⟩
    · refine ⟨fun e => ?_, fun n => absurd ((S1 v).mpr ⟨i, i1, i3⟩) n⟩
      rw [e, tm1] at i2; omega
  have p151 : ∀ b : Int32, ¬ (o = 0 ∧ b = -1) → ((b = -1 ∧ ∀ i, i < L → ¬ z.1 116 i = v) ∨ ∃ i, i < L ∧ b.toInt = (i : Nat) ∧ z.1 116 i = v) → MT G (d + 1) z_answer 151 [(0, vr 0), (2, vi o), (4, vi b)] [] z (ri F) := by
    intro b nob hb9
    have fb := fo b hb9
    refine sg_answer_151 _ _ ⟨fun n1 => p188 b z _ rfl ⟨fun c0 => ?_, fun c3 => ?_, fun n0 n3 => ?_⟩ zz ?_, fun c1 => ⟨fun eb => p188 b z _ rfl ⟨fun c0 => absurd (c1.symm.trans c0) (by decide), fun c3 => absurd (c1.symm.trans c3) (by decide), fun _ _ => ?_⟩ zz ?_, fun nb y3 e3 => ?_⟩⟩
    · have m : st.2.2.2 v = true := Classical.byContradiction (fun z9 => nob ⟨c0, fb.mpr z9⟩)
      rw [sv, if_pos c0, if_pos m, if_neg (fun z9 => fb.mp z9 m)]
    · rw [sv, if_neg (kd_x c3 (by decide)), if_neg n1, if_neg (kd_x c3 (by decide))]; exact x0.symm
    · have c2 : o = 2 := by
        rcases ho with z9 | z9 | z9 | z9
        · exact absurd z9 n0
        · exact absurd z9 n1
        · exact z9
        · exact absurd z9 n3
      rw [sv, if_neg n0, if_neg n1, if_pos c2]
      by_cases m : st.2.2.2 v = true
      · rw [if_pos m, if_neg (fun z9 => fb.mp z9 m)]
      · rw [if_neg m, if_pos (fb.mpr m)]
    · rw [sv]
      by_cases c0 : o = 0
      · have m : st.2.2.2 v = true := Classical.byContradiction (fun z9 => nob ⟨c0, fb.mpr z9⟩)
        rw [if_pos c0, if_pos m]; exact hs
      · rw [if_neg c0, if_neg n1]
        by_cases c2 : o = 2
        · rw [if_pos c2]; exact hs
        · rw [if_neg c2]; exact hs
    · rw [sv, if_neg (kd_x c1 (by decide)), if_pos c1, if_neg (fb.mp eb), if_pos eb]
    · rw [sv, if_neg (kd_x c1 (by decide)), if_pos c1, if_neg (fb.mp eb)]; exact hs
    · obtain ⟨P, p1, p2, p3⟩ : ∃ i, i < L ∧ b.toInt = (i : Nat) ∧ z.1 116 i = v := by
        rcases hb9 with ⟨z9, -⟩ | z9
        · exact absurd z9 nb
        · exact z9
      have m : st.2.2.2 v = true := (S1 v).mpr ⟨P, p1, p3⟩
      have cb : b.toNatClampNeg = P := by rw [t_cl, p2]; rfl
      have m3 := md_f z 116 (z.1 0 116 - 1)
      rw [← e3] at m3
      have c3 : (y3.1 0 116).toInt = ((L - 1 : Nat) : Int) := by rw [e3, si_get, if_pos ⟨rfl, rfl⟩, t_sub (by rw [k1]; omega) (by rw [k1]; omega), k1, hl]; omega
      have cl3 : (y3.1 0 116).toNatClampNeg = L - 1 := by rw [t_cl, c3]; rfl
      rw [cl3, cb]
      refine ⟨by rw [vp_in_iff]; omega, by rw [vp_in_iff]; omega, fun y6 e6 => ?_⟩
      have m6 := md_a y3 116 P (y3.1 116 (L - 1)) (by decide)
      rw [← e6] at m6
      have es : svH 3 st o v = (1, (st.1, st.2.1, (L - 1, fun w => if w = v then false else st.2.2.2 w))) := by rw [sv, if_neg (kd_x c1 (by decide)), if_pos c1, if_pos m]
      refine p188 b y6 _ es ⟨fun c0 => absurd (c1.symm.trans c0) (by decide), fun c3 => absurd (c1.symm.trans c3) (by decide), fun _ _ => by rw [if_neg nb]⟩ (md_tr m3 m6 rfl rfl) (mk y6 _ _ rfl (by rw [m6.1 116 (by decide)]; exact c3) ?_)
      refine hsT_del hS' p1 p3 (fun i => if i = P then L - 1 else i) (fun i hi => ?_) (fun j hj nj => ?_) (fun i j hi hj e => ?_)
      · show (if i = P then L - 1 else i) < L ∧ ¬ (if i = P then L - 1 else i) = P ∧ y6.1 116 i = z.1 116 (if i = P then L - 1 else i)
        rw [e6, si_get, e3, si_cell (by decide)]
        by_cases c9 : i = P
        · rw [if_pos c9, if_pos (show 116 = 116 ∧ i = P from ⟨rfl, c9⟩)]; exact ⟨by omega, by omega, rfl⟩
        · rw [if_neg c9, if_neg (show ¬ (116 = 116 ∧ i = P) from fun q => c9 q.2)]; exact ⟨by omega, c9, rfl⟩
      · by_cases c9 : j = L - 1
        · exact ⟨P, by omega, by show (if P = P then L - 1 else P) = j; rw [if_pos rfl]; exact c9.symm⟩
        · exact ⟨j, by omega, by show (if j = P then L - 1 else j) = j; rw [if_neg nj]⟩
      · have e : (if i = P then L - 1 else i) = (if j = P then L - 1 else j) := e
        by_cases c9 : i = P
        · by_cases c8 : j = P
          · omega
          · rw [if_pos c9, if_neg c8] at e; omega
        · by_cases c8 : j = P
          · rw [if_neg c9, if_pos c8] at e; omega
          · rw [if_neg c9, if_neg c8] at e; exact e
  have p83 : ∀ (m i0 : Nat) (b i : Int32), i.toInt = (i0 : Nat) → i0 ≤ L → ((b = -1 ∧ ∀ j, j < i0 → ¬ z.1 116 j = v) ∨ ∃ j, j < i0 ∧ b.toInt = (j : Nat) ∧ z.1 116 j = v) → L - i0 ≤ m → MT G (d + 1) z_answer 83 [(0, vr 0), (2, vi o), (3, vi v), (4, vi b), (5, vi i)] [] z (ri F) := by
    have last : ∀ (i0 : Nat) (b : Int32), L ≤ i0 → i0 ≤ L → ((b = -1 ∧ ∀ j, j < i0 → ¬ z.1 116 j = v) ∨ ∃ j, j < i0 ∧ b.toInt = (j : Nat) ∧ z.1 116 j = v) → ((¬ (o = (0 : Int32)) → MT G (d + 1) z_answer 151 [(0, vr 0), (2, vi o), (4, vi b)] [] z (ri F)) ∧ (o = (0 : Int32) → ((¬ (b = (-1 : Int32)) → MT G (d + 1) z_answer 151 [(0, vr 0), (2, vi o), (4, vi b)] [] z (ri F)) ∧ (b = (-1 : Int32) → vp_in (z.1 0 116) 14 ∧ (∀ x5 : gd, x5 = si z 116 (z.1 0 116 : Int32).toNatClampNeg v → (∀ x6 : gd, x6 = si x5 0 116 ((x5.1 0 116) + 1) → MT G (d + 1) z_answer 188 [(0, vr 0), (2, vi o), (4, vi b)] [] x6 (ri F))))))) := by
      intro i0 b h1 h2 hb9
      rw [show i0 = L by omega] at hb9
      refine ⟨fun n0 => p151 b (fun z9 => n0 z9.1) hb9, fun c0 => ⟨fun nb => p151 b (fun z9 => nb z9.2) hb9, fun eb => ⟨by rw [vp_in_iff]; omega, fun y5 e5 y6 e6 => ?_⟩⟩⟩
      have nm := (fo b hb9).mp eb
      have es : svH 3 st o v = (1, (st.1, st.2.1, (L + 1, fun w => if w = v then true else st.2.2.2 w))) := by rw [sv, if_pos c0, if_neg nm]
      rw [cL] at e5
      have m5 := md_a z 116 L v (by decide)
      rw [← e5] at m5
      have m6 := md_f y5 116 (y5.1 0 116 + 1)
      rw [← e6] at m6
      have c6 : (y6.1 0 116).toInt = ((L + 1 : Nat) : Int) := by rw [e6, si_get, if_pos ⟨rfl, rfl⟩, m5.1 116 (by decide), t_add (by rw [k1]; omega) (by rw [k1]; omega), k1, hl]; rfl
      refine p188 b y6 _ es ⟨fun _ => by rw [if_pos eb], fun c3 => absurd (c0.symm.trans c3) (by decide), fun n0 => absurd c0 n0⟩ (md_tr m5 m6 rfl rfl) (mk y6 _ _ rfl c6 (hsT_add hS' nm ?_ (fun i hi => ?_)))
      · show y6.1 116 L = v
        rw [e6, si_cell (by decide), e5, si_get, if_pos ⟨rfl, rfl⟩]
      · show y6.1 116 i = z.1 116 i
        rw [e6, si_cell (by decide), e5, si_get, if_neg (by omega)]
    intro m
    induction m with
    | zero =>
      intro i0 b i ei hi hb9 hm
      exact sg_answer_83 _ _ _ _ ⟨fun _ => last i0 b (by omega) hi hb9, fun q => absurd (t_le.mpr (by omega)) q⟩
    | succ m ih =>
      intro i0 b i ei hi hb9 hm
      refine sg_answer_83 _ _ _ _ ⟨fun q => last i0 b (by rw [t_le] at q; omega) hi hb9, fun q => ?_⟩
      rw [t_le] at q
      have ii : (i + 1).toInt = ((i0 + 1 : Nat) : Int) := by rw [t_add (by rw [k1]; omega) (by rw [k1]; omega), k1, ei]; rfl
      have ci : i.toNatClampNeg = i0 := by rw [t_cl, ei]; rfl
      rw [ci]
      refine ⟨by rw [vp_in_iff]; omega, fun ne => ih (i0 + 1) b (i + 1) ii (by omega) ?_ (by omega), fun e => ih (i0 + 1) i (i + 1) ii (by omega) (Or.inr ⟨i0, by omega, ei, e⟩) (by omega)⟩
      rcases hb9 with ⟨z1, z2⟩ | ⟨j, z1, z2, z3⟩
      · refine Or.inl ⟨z1, fun j hj => ?_⟩
        by_cases cj : j = i0
        · rw [cj]; exact ne
        · exact z2 j (by omega)
      · exact Or.inr ⟨j, by omega, z2, z3⟩
  refine sg_answer_0 _ _ _ ⟨fun _ => ⟨fun n => absurd rfl n, fun _ => p83 L 0 (-1) 0 rfl (Nat.zero_le _) (Or.inl ⟨rfl, fun j hj => absurd hj (Nat.not_lt_zero _)⟩) (by omega)⟩, fun c => absurd c (by decide)⟩
theorem sa_answer (k o v : Int32) (s4 : s < 4) (ek : k = Int32.ofNat s) (ho : kd4 o) (hs : MSt z s st) (hb : HBd s st 12) (h : ∀ z', md [116] [116] z z' → MSt z' s (svH s st o v).2 → F (svH s st o v).1 z') : MT G (d + 1) z_answer 0 [(0, vr 0), (1, vi k), (2, vi o), (3, vi v)] [] z (ri F) := by
  rcases (show s = 0 ∨ (s = 1 ∨ s = 2) ∨ s = 3 by omega) with e | e | e
  · subst e
    rw [ek]
    exact sa_cell o v ho hs h
  · exact sa_row k o v ek e ho hs (hb.1 e) h
  · subst e
    rw [ek]
    exact sa_set o v ho hs (hb.2 rfl) h
end MAN
end
section
/-! the model: the search for an order -/
/-- a row of calls: what stands behind it, whether it fits, which it holds -/
def roH (s : Nat) (H : gHi) (T : Nat → Nat) : Nat → gHt
  | 0 => hs0
  | d + 1 => (svH s (roH s H T d) (H.2.2.1 (T d)).1 (H.2.2.1 (T d)).2.1).2
def fiH (s : Nat) (H : gHi) (n : Nat) (T : Nat → Nat) (j : Nat) : Prop := ovB H n (T j) = true → (svH s (roH s H T j) (H.2.2.1 (T j)).1 (H.2.2.1 (T j)).2.1).1 = anS H (T j)
def uP (T : Nat → Nat) : Nat → (Nat → Bool)
  | 0 => fun _ => false
  | d + 1 => upf (uP T d) (T d) true
def cnB (P : Nat → Bool) : Nat → Nat
  | 0 => 0
  | n + 1 => cnB P n + if P n = true then 1 else 0
section PRO
variable {s n N d e c : Nat} {H : gHi} {T T' : Nat → Nat} {P : Nat → Bool}
theorem ro_cg : ∀ {d : Nat}, (∀ j, j < d → T' j = T j) → roH s H T' d = roH s H T d := by
  intro d
  induction d with
  | zero => intro _; rfl
  | succ d ih =>
    intro h
    show (svH s (roH s H T' d) (H.2.2.1 (T' d)).1 (H.2.2.1 (T' d)).2.1).2 = (svH s (roH s H T d) (H.2.2.1 (T d)).1 (H.2.2.1 (T d)).2.1).2
    rw [ih (fun j hj => h j (by omega)), h d (by omega)]
theorem uP_cg : ∀ {d : Nat}, (∀ j, j < d → T' j = T j) → uP T' d = uP T d := by
  intro d
  induction d with
  | zero => intro _; rfl
  | succ d ih =>
    intro h
    show upf (uP T' d) (T' d) true = upf (uP T d) (T d) true
    rw [ih (fun j hj => h j (by omega)), h d (by omega)]
theorem ro_bd : ∀ {d : Nat}, HBd s (roH s H T d) d := by
  intro d
  induction d with
  | zero => exact HBd_0
  | succ d ih => exact sv_le ih
theorem cn_le : ∀ n, cnB P n ≤ n := by
  intro n
  induction n with
  | zero => exact Nat.le_refl _
  | succ n ih =>
    show cnB P n + (if P n = true then 1 else 0) ≤ n + 1
    by_cases h : P n = true
    · rw [if_pos h]; omega
    · rw [if_neg h]; omega
theorem cn_0 : ∀ n, cnB (fun _ => false) n = 0 := by
  intro n
  induction n with
  | zero => rfl
  | succ n ih => show cnB (fun _ => false) n + (if false = true then 1 else 0) = 0; rw [ih]; rfl
theorem cn_set (h : P c = false) : ∀ n, cnB (upf P c true) n = cnB P n + if c < n then 1 else 0 := by
  intro n
  induction n with
  | zero => rfl
  | succ n ih =>
    show cnB (upf P c true) n + (if upf P c true n = true then 1 else 0) = cnB P n + (if P n = true then 1 else 0) + (if c < n + 1 then 1 else 0)
    rw [ih]
    by_cases e : n = c
    · rw [e, upf_eq, h, if_pos rfl, if_neg (by omega), if_neg (by decide), if_pos (by omega)]
    · rw [upf_ne e]
      by_cases l : c < n
      · rw [if_pos l, if_pos (show c < n + 1 by omega)]; omega
      · rw [if_neg l, if_neg (show ¬ c < n + 1 by omega)]; omega
theorem cn_all : ∀ n, cnB P n = n → ∀ i, i < n → P i = true := by
  intro n
  induction n with
  | zero => intro _ i hi; exact absurd hi (Nat.not_lt_zero _)
  | succ n ih =>
    intro h i hi
    have h : cnB P n + (if P n = true then 1 else 0) = n + 1 := h
    have l := cn_le (P := P) n
    by_cases c : P n = true
    · rw [if_pos c] at h
      by_cases e : i = n
      · rw [e]; exact c
      · exact ih (by omega) i (by omega)
    · rw [if_neg c] at h; omega
end PRO
theorem mb_off {u i : Int32} {P : Nat → Bool} {c : Nat} (h : mb u (upf P c true)) (ei : i.toInt = (c : Nat)) (hc : c < 12) (hp : P c = false) : mb (u &&& ((1 <<< (i &&& 31 : Int32)) ^^^ (-1))) P := fun j hj => by
  have cc : i.toNatClampNeg = c := by rw [t_cl, ei]; rfl
  have q := bt_bc (c := i) (by omega) (by omega) hj
  unfold bc at q
  rw [bt_and, bt_not hj, q, cc, h j hj]
  by_cases e : j = c
  · rw [e, hp, decide_eq_true rfl, Bool.and_false, Bool.not_true, Bool.and_false]
  · rw [upf_ne e, decide_eq_false e, Bool.not_false, Bool.and_true]
theorem mb_all {u a : Int32} {P A : Nat → Bool} (h : mb u P) (g : mb a A) : (u &&& a) = a ↔ ∀ i, i < 12 → A i = true → P i = true := by
  constructor
  · intro z i hi ha
    have e : bt (u &&& a) i = bt a i := by rw [z]
    rw [bt_and, h i (by omega), g i (by omega), decide_eq_true hi, ha, Bool.true_and, Bool.true_and, Bool.and_true] at e
    exact e
  · intro z
    apply Int32.toBitVec_inj.mp
    apply BitVec.eq_of_getLsbD_eq
    intro i hi
    have e : bt (u &&& a) i = bt a i := by
      rw [bt_and, h i hi, g i hi]
      by_cases c : i < 12
      · rw [decide_eq_true c, Bool.true_and, Bool.true_and]
        cases ha : A i with
        | false => rw [Bool.and_false]
        | true => rw [z i c ha]; rfl
      · rw [decide_eq_false c, Bool.false_and, Bool.false_and]; rfl
    exact e
theorem mb_sh {u i : Int32} {P : Nat → Bool} {c : Nat} (h : mb u P) (ei : i.toInt = (c : Nat)) (hc : c < 12) : ((u >>> (i &&& 31 : Int32)) &&& 1) = (0 : Int32) ↔ P c = false := by
  have cc : i.toNatClampNeg = c := by rw [t_cl, ei]; rfl
  have b := h c (by omega)
  rw [decide_eq_true hc, Bool.true_and] at b
  constructor
  · intro z
    have := bt_sh (by omega) (by omega) z
    rw [cc, b] at this
    exact this
  · intro z
    rw [z] at b
    rw [bt_eq0]
    intro j hj
    have q := sh_all ⟨c, by omega⟩
    have ic : i = Int32.ofNat c := i32_of ei
    have o1 : ∀ j : Fin 32, (1 : Int32).toBitVec.getLsbD j.val = decide (j.val = 0) := by decide +kernel
    unfold bt at b ⊢
    rw [Int32.toBitVec_and, BitVec.getLsbD_and, o1 ⟨j, hj⟩]
    show (_ && decide (j = 0)) = false
    by_cases cj : j = 0
    · have h4 : (u >>> (i &&& 31 : Int32)).toBitVec = u.toBitVec.sshiftRight ((i &&& 31 : Int32).toBitVec.smod 32).toNat := rfl
      rw [cj, h4, ic, q, BitVec.getLsbD_sshiftRight, if_pos (show c + 0 < 32 by omega)]
      rw [show c + 0 = c from rfl, b]
      rfl
    · rw [decide_eq_false cj, Bool.and_false]
/-- the calls of n events as the model holds them -/
def MHc (z : gd) (H : gHi) (n c : Nat) : Prop := z.1 109 c = (H.2.2.1 c).1 ∧ z.1 110 c = (H.2.2.1 c).2.1 ∧ (z.1 112 c).toInt = ((H.2.2.1 c).2.2.1 : Nat) ∧ (∀ p, (H.2.2.1 c).2.2.2 = some p → p.1 < n → (z.1 113 c).toInt = (p.1 : Nat) ∧ z.1 111 c = p.2) ∧ (ovB H n c = false → z.1 113 c = -1)
def MHn (z : gd) (H : gHi) (n N : Nat) : Prop := (z.1 0 107).toInt = (N : Nat) ∧ N ≤ H.1 ∧ (∀ c, c < H.1 → ((H.2.2.1 c).2.2.1 < n ↔ c < N)) ∧ ∀ c, c < N → MHc z H n c
section MLI
variable {G : mG} {d D : Nat} {x y z : gd} {F : Int32 → gd → Prop} {s n N c : Nat} {H : gHi}
theorem MHn_md {L A : List Nat} (m : md L A x y) (hL : [107].all (fun k => !L.elem k) = true) (hA : [109, 110, 111, 112, 113].all (fun k => !A.elem k) = true) (h : MHn x H n N) : MHn y H n N := by
  obtain ⟨h1, h2, h3, h4⟩ := h
  have g := fun k (h0 : k ≠ 0) hk => m.2.1 k h0 (all_no hA k hk)
  refine ⟨by rw [m.1 107 (all_no hL 107 (by decide))]; exact h1, h2, h3, fun c hc => ?_⟩
  unfold MHc
  rw [g 109 (by decide) (by decide), g 110 (by decide) (by decide), g 111 (by decide) (by decide), g 112 (by decide) (by decide), g 113 (by decide) (by decide)]
  exact h4 c hc
theorem ov_m1 (h : MHc z H n c) : (z.1 113 c = -1 ↔ ovB H n c = false) := by
  obtain ⟨-, -, -, h4, h5⟩ := h
  refine ⟨fun e => ?_, h5⟩
  unfold ovB
  cases hp : (H.2.2.1 c).2.2.2 with
  | none => rfl
  | some p =>
    refine decide_eq_false (fun l => ?_)
    have := (h4 p hp l).1
    rw [e, tm1] at this
    omega
theorem ov_an (h : MHc z H n c) (o : ovB H n c = true) : z.1 111 c = anS H c := by
  obtain ⟨-, -, -, h4, -⟩ := h
  unfold ovB at o
  unfold anS
  cases hp : (H.2.2.1 c).2.2.2 with
  | none => rw [hp] at o; exact nomatch o
  | some p =>
    rw [hp] at o
    exact (h4 p hp (of_decide_eq_true o)).2
theorem sa_fits (k nd : Int32) {dn : Nat} {T : Nat → Nat} (s4 : s < 4) (ek : k = Int32.ofNat s) (en : nd.toInt = (dn : Nat)) (n1 : dn ≤ 12) (N12 : H.1 ≤ 12) (hz : MHn z H n N) (kd : ∀ c, c < H.1 → kd4 (H.2.2.1 c).1) (hT : ∀ j, j < dn → T j < N ∧ z.1 114 j = Int32.ofNat (T j)) (hD : 1 ≤ D) (h : ∀ r z', md [116] [116] z z' → (¬ r = 0 ↔ ∀ j, j < dn → fiH s H n T j) → F r z') : MT G (D + 1) z_fits 0 [(0, vr 0), (1, vi k), (2, vi nd)] [] z (ri F) := by
  obtain ⟨D, rfl⟩ : ∃ D', D = D' + 1 := ⟨D - 1, by omega⟩
  have k0 : (0 : Int32).toInt = 0 := rfl
  have k1 : (1 : Int32).toInt = 1 := rfl
  have n01 : ¬ (1 : Int32) = 0 := by decide
  have N1 := hz.2.1
  have loop : ∀ (m i0 : Nat) (u : gd) (b i : Int32), i.toInt = (i0 : Nat) → i0 ≤ dn → md [116] [116] z u → (b = 0 ∨ b = 1) → (¬ b = 0 ↔ ∀ j, j < i0 → fiH s H n T j) → MSt u s (roH s H T i0) → dn - i0 ≤ m → MT G (D + 2) z_fits 10 [(0, vr 0), (1, vi k), (2, vi nd), (3, vi b), (4, vi i)] [] u (ri F) := by
    intro m
    have fin : ∀ (i0 : Nat) (u : gd) (b : Int32), dn ≤ i0 → i0 ≤ dn → md [116] [116] z u → (b = 0 ∨ b = 1) → (¬ b = 0 ↔ ∀ j, j < i0 → fiH s H n T j) → gbool b ∧ ri F (some (vi b)) u := fun i0 u b h1 h2 mu hb hf => ⟨gbool_of hb, ri_i (h b u mu (by rw [show dn = i0 by omega]; exact hf))⟩
    induction m with
    | zero =>
      intro i0 u b i ei hi mu hb hf hs hm
      exact sg_fits_10 _ _ _ _ ⟨fun _ => fin i0 u b (by omega) hi mu hb hf, fun q => absurd (t_le.mpr (by omega)) q⟩
    | succ m ih =>
      intro i0 u b i ei hi mu hb hf hs hm
      refine sg_fits_10 _ _ _ _ ⟨fun q => fin i0 u b (by rw [t_le] at q; omega) hi mu hb hf, fun q => ?_⟩
      rw [t_le] at q
      have il : i0 < dn := by omega
      have ii : (i + 1).toInt = ((i0 + 1 : Nat) : Int) := by rw [t_add (by rw [k1]; omega) (by rw [k1]; omega), k1, ei]; rfl
      have ci : i.toNatClampNeg = i0 := by rw [t_cl, ei]; rfl
      obtain ⟨t1, t2⟩ := hT i0 il
      have u4 : u.1 114 i0 = Int32.ofNat (T i0) := by rw [mu.2.1 114 (by decide) (by decide)]; exact t2
      have tI : (Int32.ofNat (T i0)).toInt = (T i0 : Nat) := Int32.toInt_ofNat_of_lt (by omega)
      have cT : (Int32.ofNat (T i0)).toNatClampNeg = T i0 := by rw [t_cl, tI]; rfl
      have ov : vp_in (Int32.ofNat (T i0)) 14 := by rw [vp_in_iff]; omega
      have hu : MHn u H n N := MHn_md mu rfl rfl hz
      have hc := hu.2.2.2 (T i0) t1
      rw [ci, u4, cT, hc.1, hc.2.1]
      refine ⟨by rw [vp_in_iff]; omega, ov, ov, sa_answer k _ _ s4 ek (kd (T i0) (by omega)) hs (HBd_up ro_bd (by omega)) (fun v mv hv => ?_)⟩
      have mzv : md [116] [116] z v := md_tr mu mv rfl rfl
      have hv2 : MHc v H n (T i0) := (MHn_md mzv rfl rfl hz).2.2.2 (T i0) t1
      have go : ∀ b' : Int32, (b' = 0 ∨ b' = 1) → (¬ b' = 0 ↔ ∀ j, j < i0 + 1 → fiH s H n T j) → MT G (D + 2) z_fits 10 [(0, vr 0), (1, vi k), (2, vi nd), (3, vi b'), (4, vi (i + 1))] [] v (ri F) := fun b' hb' hf' => ih (i0 + 1) v b' (i + 1) ii il mzv hb' hf' hv (by omega)
      have up : fiH s H n T i0 → ¬ b = 0 → (¬ (1 : Int32) = 0 ↔ ∀ j, j < i0 + 1 → fiH s H n T j) := fun f nb => ⟨fun _ j hj => by
        by_cases cj : j = i0
        · rw [cj]; exact f
        · exact hf.mp nb j (by omega), fun _ => n01⟩
      refine ⟨fun b0 => go 0 (Or.inl rfl) ⟨fun z9 => absurd rfl z9, fun a => absurd (fun j hj => a j (by omega)) (fun z9 => hf.mpr z9 b0)⟩, fun nb => ⟨ov, fun e1 => go 1 (Or.inr rfl) (up (fun o => ?_) nb), fun ne1 => ⟨ov, fun nr => go 0 (Or.inl rfl) ⟨fun z9 => absurd rfl z9, fun a => ?_⟩, fun er => go 1 (Or.inr rfl) (up (fun o => ?_) nb)⟩⟩⟩
      · rw [(ov_m1 hv2).mp e1] at o; exact nomatch o
      · have o : ovB H n (T i0) = true := by
          cases h9 : ovB H n (T i0) with
          | true => rfl
          | false => exact absurd ((ov_m1 hv2).mpr h9) ne1
        exact absurd ((ov_an hv2 o).trans (a i0 (Nat.lt_succ_self _) o).symm) nr
      · rw [← ov_an hv2 o]; exact er.symm
  refine sg_fits_0 _ _ (fun u e => ?_)
  have m := md_f z 116 0
  rw [← e] at m
  have e0 : u.1 0 116 = 0 := by rw [e, si_get, if_pos ⟨rfl, rfl⟩]
  refine loop dn 0 u 1 0 rfl (Nat.zero_le _) (md_w m (by decide) (by decide)) (Or.inr rfl) ⟨fun _ j hj => absurd hj (Nat.not_lt_zero _), fun _ => n01⟩ ⟨fun _ => ⟨fun _ => rfl, fun z9 => absurd e0 z9⟩, fun _ => ⟨by rw [e0]; rfl, fun i hi => absurd hi (Nat.not_lt_zero _)⟩, fun _ => ⟨by rw [e0]; rfl, fun v => ⟨fun z9 => absurd (show false = true from z9) (by decide), fun ⟨i, i1, _⟩ => absurd i1 (Nat.not_lt_zero _)⟩, fun i j hi => absurd hi (Nat.not_lt_zero _)⟩⟩ (by omega)
theorem sa_mayCome (c u : Int32) {C : Nat} {P : Nat → Bool} (ec : c.toInt = (C : Nat)) (hC : C < N) (N12 : H.1 ≤ 12) (hw : hiW H) (hz : MHn z H n N) (hu : mb u P) (h : ∀ r, (¬ r = 0 ↔ P C = false ∧ ∀ o, o < H.1 → erB H C o = true → P o = true) → F r z) : MT G d z_mayCome 0 [(0, vr 0), (1, vi c), (2, vi u)] [] z (ri F) := by
  have k1 : (1 : Int32).toInt = 1 := rfl
  have n01 : ¬ (1 : Int32) = 0 := by decide
  have N1 := hz.2.1
  have cv : vp_in c 14 := by rw [vp_in_iff]; omega
  have cC : c.toNatClampNeg = C := by rw [t_cl, ec]; rfl
  have fC : (H.2.2.1 C).2.2.1 < n := (hz.2.2.1 C (by omega)).mpr hC
  -- one that was over before is there
  have erN : ∀ o, o < H.1 → erB H C o = true → o < N := fun o ho he => by
    unfold erB at he
    cases hp : (H.2.2.1 o).2.2.2 with
    | none => rw [hp] at he; exact nomatch he
    | some p =>
      rw [hp] at he
      have he : decide (p.1 < (H.2.2.1 C).2.2.1) = true := he
      have l := of_decide_eq_true he
      have := ((hw.2.1 o ho).2 p hp).1
      exact (hz.2.2.1 o ho).mp (by omega)
  have last : (∀ o, o < N → erB H C o = true → P o = true) → ((¬ (((u >>> (c &&& 31 : Int32)) &&& 1) = (0 : Int32)) → ri F (some (vi 0)) z) ∧ (((u >>> (c &&& 31 : Int32)) &&& 1) = (0 : Int32) → ri F (some (vi 1)) z)) := fun hi => ⟨fun ne => ri_i (h 0 ⟨fun z9 => absurd rfl z9, fun a => absurd ((mb_sh hu ec (by omega)).mpr a.1) ne⟩), fun e => ri_i (h 1 ⟨fun _ => ⟨(mb_sh hu ec (by omega)).mp e, fun o ho he => hi o (erN o ho he) he⟩, fun _ => n01⟩)⟩
  have loop : ∀ (m i0 : Nat) (i : Int32), i.toInt = (i0 : Nat) → i0 ≤ N → (∀ o, o < i0 → erB H C o = true → P o = true) → N - i0 ≤ m → MT G d z_mayCome 2 [(0, vr 0), (1, vi c), (2, vi u), (3, vi i)] [] z (ri F) := by
    intro m
    have n7 := hz.1
    induction m with
    | zero =>
      intro i0 i ei hi ho hm
      exact sg_mayCome_2 _ _ _ ⟨fun _ => last (fun o h1 h2 => ho o (by omega) h2), fun q => absurd (t_le.mpr (by omega)) q⟩
    | succ m ih =>
      intro i0 i ei hi ho hm
      refine sg_mayCome_2 _ _ _ ⟨fun q => last (fun o h1 h2 => ho o (by rw [t_le] at q; omega) h2), fun q => ?_⟩
      rw [t_le] at q
      have il : i0 < N := by omega
      have iv : vp_in i 14 := by rw [vp_in_iff]; omega
      have ii : (i + 1).toInt = ((i0 + 1 : Nat) : Int) := by rw [t_add (by rw [k1]; omega) (by rw [k1]; omega), k1, ei]; rfl
      have ci : i.toNatClampNeg = i0 := by rw [t_cl, ei]; rfl
      have nx : (erB H C i0 = true → P i0 = true) → MT G d z_mayCome 2 [(0, vr 0), (1, vi c), (2, vi u), (3, vi (i + 1))] [] z (ri F) := fun hx => ih (i0 + 1) (i + 1) ii il (fun o h1 h2 => by
        by_cases co : o = i0
        · rw [co] at h2 ⊢; exact hx h2
        · exact ho o (by omega) h2) (by omega)
      have hc := hz.2.2.2 i0 il
      have hcC := hz.2.2.2 C hC
      rw [ci, cC]
      have bs := mb_sh hu ei (show i0 < 12 by omega)
      refine ⟨fun ne => nx (fun _ => ?_), fun e0 => ⟨iv, fun em => nx (fun he => ?_), fun nm => ⟨iv, cv, fun le => nx (fun he => ?_), fun nle => ri_i (h 0 ⟨fun z9 => absurd rfl z9, fun a => ?_⟩)⟩⟩⟩
      · cases h9 : P i0 with
        | true => rfl
        | false => exact absurd (bs.mpr h9) ne
      · have o := (ov_m1 hc).mp em
        unfold erB at he
        unfold ovB at o
        cases hp : (H.2.2.1 i0).2.2.2 with
        | none => rw [hp] at he; exact nomatch he
        | some p =>
          rw [hp] at he o
          have l := of_decide_eq_true (show decide (p.1 < (H.2.2.1 C).2.2.1) = true from he)
          have := of_decide_eq_false (show decide (p.1 < n) = false from o)
          omega
      · unfold erB at he
        cases hp : (H.2.2.1 i0).2.2.2 with
        | none => rw [hp] at he; exact nomatch he
        | some p =>
          rw [hp] at he
          have l := of_decide_eq_true (show decide (p.1 < (H.2.2.1 C).2.2.1) = true from he)
          rw [t_le, hcC.2.2.1, (hc.2.2.2.1 p hp (by omega)).1] at le
          omega
      · have o : ovB H n i0 = true := by
          cases h9 : ovB H n i0 with
          | true => rfl
          | false => exact absurd ((ov_m1 hc).mpr h9) nm
        have er : erB H C i0 = true := by
          unfold ovB at o
          unfold erB
          cases hp : (H.2.2.1 i0).2.2.2 with
          | none => rw [hp] at o; exact nomatch o
          | some p =>
            rw [hp] at o
            have l := of_decide_eq_true (show decide (p.1 < n) = true from o)
            rw [t_le, hcC.2.2.1, (hc.2.2.2.1 p hp l).1] at nle
            exact decide_eq_true (show p.1 < (H.2.2.1 C).2.2.1 by omega)
        have := a.2 i0 (by omega) er
        rw [bs.mp e0] at this
        exact nomatch this
  exact sg_mayCome_0 _ _ (loop N 0 0 rfl (Nat.zero_le _) (fun o ho => absurd ho (Nat.not_lt_zero _)) (by omega))
/-- the search: the calls T are taken -/
def LRn (y : gd) (T : Nat → Nat) (d : Nat) (u : gd) : Prop := md [116] [114, 115, 116] y u ∧ (∀ k : Nat, k < d → u.1 115 k = Int32.ofNat (T k)) ∧ ∀ k : Nat, k < d → u.1 114 k = Int32.ofNat (T k)
/-- what is left to be tried at a depth -/
def lvH (s : Nat) (H : gHi) (n : Nat) : Nat → (Nat → Bool) → gHt → Nat → Prop
  | 0, P, _, _ => alH H n P
  | k + 1, P, st, c0 => alH H n P ∨ rsH s H n k P st c0
theorem lv_go {k : Nat} {P : Nat → Bool} {st : gHt} : goH s H n k P st ↔ lvH s H n k P st 0 := by
  cases k with
  | zero => exact Iff.rfl
  | succ k => exact rs_0
theorem sa_isLinear (k : Int32) (s4 : s < 4) (ek : k = Int32.ofNat s) (N12 : H.1 ≤ 12) (hw : hiW H) (hz : MHn y H n N) (kd : ∀ c, c < H.1 → kd4 (H.2.2.1 c).1) (hD : 3 ≤ D) (h : ∀ r z', md [116] [114, 115, 116] y z' → (¬ r = 0 ↔ liH s H n) → F r z') : MT G D z_isLinear 0 [(0, vr 0), (1, vi k)] [] y (ri F) := by
  obtain ⟨D, rfl⟩ : ∃ D', D = D' + 3 := ⟨D - 3, by omega⟩
  have k0 : (0 : Int32).toInt = 0 := rfl
  have k1 : (1 : Int32).toInt = 1 := rfl
  have km1 : (-1 : Int32).toInt = -1 := rfl
  have n01 : ¬ (1 : Int32) = 0 := by decide
  have N1 := hz.2.1
  have n7 := hz.1
  have f107 : ∀ {u : gd}, md [116] [114, 115, 116] y u → (u.1 0 107).toInt = (N : Nat) := fun m => by rw [m.1 107 (by decide)]; exact n7
  -- a call that is over is one of the first N
  have ovN : ∀ c, c < H.1 → ovB H n c = true → c < N := fun c hc ho => by
    unfold ovB at ho
    cases hp : (H.2.2.1 c).2.2.2 with
    | none => rw [hp] at ho; exact nomatch ho
    | some p =>
      rw [hp] at ho
      have l := of_decide_eq_true (show decide (p.1 < n) = true from ho)
      have := ((hw.2.1 c hc).2 p hp).1
      exact (hz.2.2.1 c hc).mp (by omega)
  have key : ∀ (al : Int32), mb al (fun c => decide (c < N) && ovB H n c) → ∀ (fu e : Nat) (l : Int32) (T : Nat → Nat) (R : Prop), l.toInt = (e : Nat) → e + fu = 12 → cnB (uP T e) N = e → (∀ j, j < e → T j < N) → (∀ j, j < e → fiH s H n T j) → (∀ (v : gd) (c u3 : Int32), LRn y T e v → mb u3 (uP T e) → (liH s H n ↔ R) → MT G (D + 3) z_isLinear 140 [(0, vr 0), (1, vi k), (2, vi al), (3, vi u3), (4, vi l), (5, vi c), (6, vi 0)] [] v (ri F)) → ∀ (r c0 : Nat) (u : gd) (u3 : Int32), LRn y T e u → mb u3 (uP T e) → (u.1 115 e).toInt + 1 = (c0 : Nat) → c0 ≤ N → N - c0 ≤ r → (liH s H n ↔ lvH s H n fu (uP T e) (roH s H T e) c0 ∨ R) → MT G (D + 3) z_isLinear 50 [(0, vr 0), (1, vi k), (2, vi al), (3, vi u3), (4, vi l)] [] u (ri F) := by
    intro al hal fu
    have alq : ∀ (u3 : Int32) (P : Nat → Bool), mb u3 P → ((u3 &&& al) = al ↔ alH H n P) := fun u3 P hp => by
      rw [mb_all hp hal]
      constructor
      · intro z9 c hc ho
        exact z9 c (by omega) (by rw [decide_eq_true (ovN c hc ho), ho]; rfl)
      · intro z9 c hc ha
        rw [Bool.and_eq_true, decide_eq_true_iff] at ha
        exact z9 c (by omega) ha.2
    induction fu with
    | zero =>
      intro e l T R le ef ce tN tf cont r c0 u u3 lr hu hc0 c0N hr hg
      have eN : e = 12 := by omega
      have c12 := cn_le (P := uP T e) N
      have all : alH H n (uP T e) := fun c hc ho => cn_all N (by omega) c (ovN c hc ho)
      refine sg_isLinear_50 _ _ _ _ ⟨fun q => by rw [t_lt, k0] at q; omega, fun _ => ⟨fun nq => absurd ((alq u3 _ hu).mpr all) nq, fun _ => ri_i (h _ u lr.1 ⟨fun _ => hg.mpr (Or.inl all), fun _ => n01⟩)⟩⟩
    | succ fu ih =>
      intro e l T R le ef ce tN tf cont r
      have cle : l.toNatClampNeg = e := by rw [t_cl, le]; rfl
      have e12 : e < 12 := by omega
      have lv : vp_in l 14 := by rw [vp_in_iff]; omega
      have ll : (l + 1).toInt = ((e + 1 : Nat) : Int) := by rw [t_add (by rw [k1]; omega) (by rw [k1]; omega), k1, le]; rfl
      obtain ⟨P, eP⟩ : ∃ P, P = uP T e := ⟨_, rfl⟩
      obtain ⟨st, est⟩ : ∃ st, st = roH s H T e := ⟨_, rfl⟩
      rw [← eP] at ce cont ⊢
      rw [← est]
      -- no call from N on
      have rsN : ∀ c, N ≤ c → ¬ rsH s H n fu P st c := fun c hc ⟨c', a1, a2, a3, _⟩ => by
        have := (hz.2.2.1 c' a2).mp a3.1
        omega
      have main : ∀ (r c0 : Nat) (u : gd) (u3 : Int32), LRn y T e u → mb u3 P → (u.1 115 e).toInt + 1 = (c0 : Nat) → c0 ≤ N → N - c0 ≤ r → (liH s H n ↔ (alH H n P ∨ rsH s H n fu P st c0) ∨ R) → MT G (D + 3) z_isLinear 50 [(0, vr 0), (1, vi k), (2, vi al), (3, vi u3), (4, vi l)] [] u (ri F) := by
        intro r
        induction r with
        | zero =>
          intro c0 u u3 lr hu hc0 c0N hr hg
          refine sg_isLinear_50 _ _ _ _ ⟨fun q => by rw [t_lt, k0] at q; omega, fun _ => ⟨fun nq => ⟨lv, ?_⟩, fun ya => ri_i (h _ u lr.1 ⟨fun _ => hg.mpr (Or.inl (Or.inl ((alq u3 _ hu).mp ya))), fun _ => n01⟩)⟩⟩
          have na : ¬ alH H n P := fun a => nq ((alq u3 _ hu).mpr a)
          have hR : liH s H n ↔ R := hg.trans ⟨fun o => o.resolve_left (fun o2 => o2.elim na (rsN c0 (by omega))), Or.inr⟩
          rw [cle]
          have cc : (u.1 115 e + 1).toInt = (c0 : Nat) := by
            have := t_rg (u.1 115 e)
            rw [t_add (by rw [k1]; omega) (by rw [k1]; omega), k1]; exact hc0
          exact sg_isLinear_78 _ _ _ _ _ _ ⟨fun _ => cont u _ u3 lr hu hR, fun q => absurd (t_le.mpr (by rw [f107 lr.1, cc]; omega)) q⟩
        | succ r ihr =>
          intro c0 u u3 lr hu hc0 c0N hr hg
          refine sg_isLinear_50 _ _ _ _ ⟨fun q => by rw [t_lt, k0] at q; omega, fun _ => ⟨fun nq => ⟨lv, ?_⟩, fun ya => ri_i (h _ u lr.1 ⟨fun _ => hg.mpr (Or.inl (Or.inl ((alq u3 _ hu).mp ya))), fun _ => n01⟩)⟩⟩
          have na : ¬ alH H n P := fun a => nq ((alq u3 _ hu).mpr a)
          have hR0 : liH s H n ↔ rsH s H n fu P st c0 ∨ R := hg.trans ⟨fun o => o.elim (fun o2 => Or.inl (o2.resolve_left na)) Or.inr, fun o => o.elim (fun o2 => Or.inl (Or.inr o2)) Or.inr⟩
          rw [cle]
          have cc : (u.1 115 e + 1).toInt = (c0 : Nat) := by
            have := t_rg (u.1 115 e)
            rw [t_add (by rw [k1]; omega) (by rw [k1]; omega), k1]; exact hc0
          have p78 : ∀ (m : Nat) (C : Nat) (v : gd) (c : Int32), LRn y T e v → c.toInt = (C : Nat) → c0 ≤ C → C ≤ N → N - C ≤ m → (liH s H n ↔ rsH s H n fu P st C ∨ R) → MT G (D + 3) z_isLinear 78 [(0, vr 0), (1, vi k), (2, vi al), (3, vi u3), (4, vi l), (5, vi c), (6, vi 0)] [] v (ri F) := by
            intro m
            have fin : ∀ (C : Nat) (v : gd) (c : Int32), LRn y T e v → N ≤ C → (liH s H n ↔ rsH s H n fu P st C ∨ R) → MT G (D + 3) z_isLinear 140 [(0, vr 0), (1, vi k), (2, vi al), (3, vi u3), (4, vi l), (5, vi c), (6, vi 0)] [] v (ri F) := fun C v c lr hC hR => cont v c u3 lr hu (hR.trans ⟨fun o => o.resolve_left (rsN C hC), Or.inr⟩)
            induction m with
            | zero =>
              intro C v c lr ec cC CN hm hR
              exact sg_isLinear_78 _ _ _ _ _ _ ⟨fun _ => fin C v c lr (by omega) hR, fun q => absurd (t_le.mpr (by rw [f107 lr.1]; omega)) q⟩
            | succ m ihm =>
              intro C v c lr ec cC CN hm hR
              refine sg_isLinear_78 _ _ _ _ _ _ ⟨fun q => fin C v c lr (by rw [t_le, f107 lr.1] at q; omega) hR, fun q => ⟨fun q => absurd rfl q, fun _ => ?_⟩⟩
              rw [t_le, f107 lr.1] at q
              have CN' : C < N := by omega
              have cc1 : (c + 1).toInt = ((C + 1 : Nat) : Int) := by rw [t_add (by rw [k1]; omega) (by rw [k1]; omega), k1, ec]; rfl
              have cI : c = Int32.ofNat C := i32_of ec
              have hv : MHn v H n N := MHn_md lr.1 rfl rfl hz
              have fC : (H.2.2.1 C).2.2.1 < n := (hz.2.2.1 C (by omega)).mpr CN'
              have skip : ∀ w : gd, LRn y T e w → ¬ cnH s H n P st C → MT G (D + 3) z_isLinear 122 [(0, vr 0), (1, vi k), (2, vi al), (3, vi u3), (4, vi l), (5, vi c), (6, vi 0)] [] w (ri F) := fun w lw nc => sg_isLinear_122 _ _ _ _ _ _ ⟨fun _ => ihm (C + 1) w (c + 1) lw cc1 (by omega) (by omega) (by omega) (hR.trans ⟨fun o => o.elim (fun o2 => Or.inl ((rs_no nc).mp o2)) Or.inr, fun o => o.elim (fun o2 => Or.inl ((rs_no nc).mpr o2)) Or.inr⟩), fun q => absurd rfl q⟩
              refine sa_mayCome c u3 ec CN' N12 hw hv hu (fun r9 hr9 => ⟨fun r0 => skip v lr (fun cn => hr9.mpr ⟨cn.2.1, cn.2.2.1⟩ r0), fun nr => ⟨lv, fun u7 e7 => ?_⟩⟩)
              obtain ⟨pC, erC⟩ := hr9.mp nr
              rw [cle] at e7
              have m7 := md_a v 114 e c (by decide)
              rw [← e7] at m7
              obtain ⟨T2, eT⟩ : ∃ T2 : Nat → Nat, T2 = upf T e C := ⟨_, rfl⟩
              have T2e : T2 e = C := by rw [eT]; exact upf_eq
              have T2n : ∀ j, ¬ j = e → T2 j = T j := fun j hj => by rw [eT]; exact upf_ne hj
              have r2 : roH s H T2 e = st := by rw [est]; exact ro_cg (fun j hj => T2n j (by omega))
              have p2 : uP T2 e = P := by rw [eP]; exact uP_cg (fun j hj => T2n j (by omega))
              have lr7 : LRn y T e u7 := ⟨md_tr lr.1 m7 rfl rfl, fun j hj => by rw [m7.2.1 115 (by decide) (by decide)]; exact lr.2.1 j hj, fun j hj => by rw [e7, si_ne 114 j (by omega)]; exact lr.2.2 j hj⟩
              have t7 : ∀ j, j < e + 1 → T2 j < N ∧ u7.1 114 j = Int32.ofNat (T2 j) := fun j hj => by
                by_cases w : j = e
                · rw [w, T2e]; exact ⟨CN', by rw [e7, si_get, if_pos ⟨rfl, rfl⟩]; exact cI⟩
                · rw [T2n j w]; exact ⟨tN j (by omega), lr7.2.2 j (by omega)⟩
              refine sa_fits k (l + 1) (T := T2) s4 ek ll (by omega) N12 (MHn_md lr7.1 rfl rfl hz) kd t7 (by omega) (fun r8 u8 m8 hr8 => ?_)
              have lr8 : LRn y T e u8 := ⟨md_tr lr7.1 m8 rfl rfl, fun j hj => by rw [m8.2.1 115 (by decide) (by decide)]; exact lr7.2.1 j hj, fun j hj => by rw [m8.2.1 114 (by decide) (by decide)]; exact lr7.2.2 j hj⟩
              have t8 : ∀ j, j < e + 1 → u8.1 114 j = Int32.ofNat (T2 j) := fun j hj => by rw [m8.2.1 114 (by decide) (by decide)]; exact (t7 j hj).2
              have fi2 : ∀ j, j < e → (fiH s H n T2 j ↔ fiH s H n T j) := fun j hj => by
                unfold fiH
                rw [T2n j (by omega), ro_cg (T' := T2) (T := T) (fun i hi => T2n i (by omega))]
              have fie : fiH s H n T2 e ↔ (ovB H n C = true → (svH s st (H.2.2.1 C).1 (H.2.2.1 C).2.1).1 = anS H C) := by
                unfold fiH
                rw [T2e, r2]
              by_cases r80 : r8 = 0
              · rw [r80]
                exact skip u8 lr8 (fun cn => (hr8.mpr (fun j hj => by
                  by_cases w : j = e
                  · rw [w]; exact fie.mpr cn.2.2.2
                  · exact (fi2 j (by omega)).mpr (tf j (by omega)))) r80)
              · have f8 := hr8.mp r80
                have cn : cnH s H n P st C := ⟨fC, pC, erC, fie.mp (f8 e (Nat.lt_succ_self _))⟩
                have uP2 : uP T2 (e + 1) = upf P C true := by
                  show upf (uP T2 e) (T2 e) true = _
                  rw [p2, T2e]
                have ro2 : roH s H T2 (e + 1) = (svH s st (H.2.2.1 C).1 (H.2.2.1 C).2.1).2 := by
                  show (svH s (roH s H T2 e) (H.2.2.1 (T2 e)).1 (H.2.2.1 (T2 e)).2.1).2 = _
                  rw [r2, T2e]
                have p140 : MT G (D + 3) z_isLinear 140 [(0, vr 0), (1, vi k), (2, vi al), (3, vi u3), (4, vi l), (5, vi c), (6, vi r8)] [] u8 (ri F) := by
                  refine sg_isLinear_140 _ _ _ _ _ _ ⟨fun q => absurd q r80, fun _ => ⟨lv, fun u5 e5 => ⟨by rw [vp_in_iff]; omega, fun u9 e9 => ?_⟩⟩⟩
                  have cl1 : (l + 1).toNatClampNeg = e + 1 := by rw [t_cl, ll]; rfl
                  rw [cl1] at e9
                  rw [cle] at e5
                  have m5 := md_a u8 115 e c (by decide)
                  rw [← e5] at m5
                  have m9 := md_a u5 115 (e + 1) (-1) (by decide)
                  rw [← e9] at m9
                  have lr9 : LRn y T2 (e + 1) u9 := by
                    refine ⟨md_tr (md_tr (L3 := [116]) (A3 := [114, 115, 116]) lr8.1 m5 rfl rfl) m9 rfl rfl, fun j hj => ?_, fun j hj => ?_⟩
                    · rw [e9, si_ne 115 j (by omega), e5]
                      by_cases w : j = e
                      · rw [si_get, if_pos ⟨rfl, w⟩, w, T2e]; exact cI
                      · rw [si_ne 115 j w, T2n j w]; exact lr8.2.1 j (by omega)
                    · rw [m9.2.1 114 (by decide) (by decide), m5.2.1 114 (by decide) (by decide)]; exact t8 j hj
                  have t9 : u9.1 115 (e + 1) = -1 := by rw [e9, si_get, if_pos ⟨rfl, rfl⟩]
                  have hu9 : mb (u3 ||| (1 <<< (c &&& 31 : Int32))) (uP T2 (e + 1)) := by rw [uP2]; exact mb_or hu ec (by omega)
                  have ry := rs_yes (s := s) (n := n) (k := fu) (st := st) (show C < H.1 by omega) cn
                  refine ih (e + 1) (l + 1) T2 (rsH s H n fu P st (C + 1) ∨ R) ll (by omega) (by rw [uP2, cn_set pC, ce, if_pos CN']) (fun j hj => (t7 j hj).1) f8 (fun v2 c2 u32 lrv hu2 hR2 => ?_) N 0 u9 _ lr9 hu9 (by rw [t9, km1]; rfl) (Nat.zero_le _) (by omega) ?_
                  · obtain ⟨l', el'⟩ : ∃ l', l' = l + 1 + (-1) := ⟨_, rfl⟩
                    have ell : l' = l := t_eq.mpr (by rw [el', t_add (by rw [km1]; omega) (by rw [km1]; omega), km1]; omega)
                    refine sg_isLinear_140 _ _ _ _ _ _ ⟨fun _ => ?_, fun q => absurd rfl q⟩
                    rw [← el', ell, cle]
                    have ve : v2.1 115 e = c := by rw [lrv.2.1 e (by omega), T2e]; exact cI.symm
                    rw [ve]
                    refine ⟨fun q => by rw [t_lt, k0] at q; omega, fun _ => ⟨lv, ?_⟩⟩
                    rw [uP2] at hu2
                    exact ihr (C + 1) v2 _ ⟨lrv.1, fun j hj => by rw [lrv.2.1 j (by omega), T2n j (by omega)], fun j hj => by rw [lrv.2.2 j (by omega), T2n j (by omega)]⟩ (mb_off hu2 ec (by omega) pC) (by rw [ve, ec]; rfl) (by omega) (by omega) (hR2.trans ⟨fun o => o.elim (fun o2 => Or.inl (Or.inr o2)) Or.inr, fun o => o.elim (fun o2 => Or.inl (o2.resolve_left na)) Or.inr⟩)
                  · rw [uP2, ro2, ← lv_go]
                    refine hR.trans ⟨fun o => ?_, fun o => ?_⟩
                    · rcases o with o | o
                      · rcases ry.mp o with o2 | o2
                        · exact Or.inl o2
                        · exact Or.inr (Or.inl o2)
                      · exact Or.inr (Or.inr o)
                    · rcases o with o | o | o
                      · exact Or.inl (ry.mpr (Or.inl o))
                      · exact Or.inl (ry.mpr (Or.inr o))
                      · exact Or.inr o
                refine sg_isLinear_122 _ _ _ _ _ _ ⟨fun q => absurd q r80, fun _ => ?_⟩
                rw [Int32.add_zero]
                exact sg_isLinear_78 _ _ _ _ _ _ ⟨fun _ => p140, fun _ => ⟨fun _ => p140, fun q => absurd q r80⟩⟩
          exact p78 N c0 u _ lr cc (Nat.le_refl _) c0N (by omega) hR0
      exact main r
  have p4 : ∀ (m i0 : Nat) (al i : Int32), i.toInt = (i0 : Nat) → i0 ≤ N → mb al (fun c => decide (c < i0) && ovB H n c) → N - i0 ≤ m → MT G (D + 3) z_isLinear 4 [(0, vr 0), (1, vi k), (2, vi al), (3, vi i)] [] y (ri F) := by
    have last : ∀ (i0 : Nat) (al : Int32), N ≤ i0 → i0 ≤ N → mb al (fun c => decide (c < i0) && ovB H n c) → vp_in 0 14 ∧ (∀ x3 : gd, x3 = si y 115 (0 : Int32).toNatClampNeg (-1) → MT G (D + 3) z_isLinear 50 [(0, vr 0), (1, vi k), (2, vi al), (3, vi 0), (4, vi 0)] [] x3 (ri F)) := by
      intro i0 al h1 h2 hal
      rw [show i0 = N by omega] at hal
      refine ⟨by rw [vp_in_iff]; decide, fun u eu => ?_⟩
      have m := md_a y 115 (0 : Int32).toNatClampNeg (-1) (by decide)
      rw [← eu] at m
      have t9 : u.1 115 0 = -1 := by rw [eu, si_get, if_pos ⟨rfl, rfl⟩]
      refine key al hal 12 0 0 (fun _ => 0) False rfl (by omega) (cn_0 N) (fun j hj => absurd hj (Nat.not_lt_zero _)) (fun j hj => absurd hj (Nat.not_lt_zero _)) (fun v c u3 lrv hu3 hR => ?_) N 0 u 0 ⟨md_w m (by decide) (by decide), fun j hj => absurd hj (Nat.not_lt_zero _), fun j hj => absurd hj (Nat.not_lt_zero _)⟩ mb_0 (by rw [t9, km1]; rfl) (Nat.zero_le _) (by omega) ⟨fun o => Or.inl (lv_go.mp o), fun o => o.elim (fun o2 => lv_go.mpr o2) (fun f => f.elim)⟩
      have neg : (0 : Int32) + (-1) < 0 := by decide
      exact sg_isLinear_140 _ _ _ _ _ _ ⟨fun _ => ⟨fun _ => sg_isLinear_50 _ _ _ _ ⟨fun _ => ri_i (h _ v lrv.1 ⟨fun z9 => absurd rfl z9, fun z9 => (hR.mp z9).elim⟩), fun q => absurd neg q⟩, fun q => absurd neg q⟩, fun q => absurd rfl q⟩
    intro m
    induction m with
    | zero =>
      intro i0 al i ei hi hal hm
      exact sg_isLinear_4 _ _ _ ⟨fun _ => last i0 al (by omega) hi hal, fun q => absurd (t_le.mpr (by omega)) q⟩
    | succ m ih =>
      intro i0 al i ei hi hal hm
      refine sg_isLinear_4 _ _ _ ⟨fun q => last i0 al (by rw [t_le] at q; omega) hi hal, fun q => ?_⟩
      rw [t_le] at q
      have il : i0 < N := by omega
      have ii : (i + 1).toInt = ((i0 + 1 : Nat) : Int) := by rw [t_add (by rw [k1]; omega) (by rw [k1]; omega), k1, ei]; rfl
      have ci : i.toNatClampNeg = i0 := by rw [t_cl, ei]; rfl
      have om := ov_m1 (hz.2.2.2 i0 il)
      rw [ci]
      refine ⟨by rw [vp_in_iff]; omega, fun e1 => ih (i0 + 1) _ (i + 1) ii il (mb_cg hal (fun o _ => ?_)) (by omega), fun ne => ih (i0 + 1) _ (i + 1) ii il (mb_cg (mb_or hal ei (by omega)) (fun o _ => ?_)) (by omega)⟩
      · by_cases co : o = i0
        · rw [co, om.mp e1, Bool.and_false, Bool.and_false]
        · rw [show decide (o < i0) = decide (o < i0 + 1) from decide_eq_decide.mpr (by omega)]
      · by_cases co : o = i0
        · have ov : ovB H n i0 = true := by
            cases h9 : ovB H n i0 with
            | true => rfl
            | false => exact absurd (om.mpr h9) ne
          rw [co, upf_eq, ov, decide_eq_true (Nat.lt_succ_self _)]; rfl
        · rw [upf_ne co, show decide (o < i0) = decide (o < i0 + 1) from decide_eq_decide.mpr (by omega)]
  exact sg_isLinear_0 _ (p4 N 0 0 0 rfl (Nat.zero_le _) (mb_cg mb_0 (fun o _ => by rw [decide_eq_false (Nat.not_lt_zero _), Bool.false_and])) (by omega))
end MLI
end
