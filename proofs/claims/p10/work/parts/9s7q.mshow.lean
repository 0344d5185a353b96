/-! the model: what stays of a trying; show() -/
def TYc (C : gCo) (wn : Nat) (z : gd) (T : gTy) : Prop := (z.1 120 wn).toInt = (T.1.length : Nat) ∧ T.1.length ≤ 3000 ∧ FN3 C wn (fun f => z.1 126 (11 * wn + f)) T T.1.length ∧ ∀ s p, T.1[s]? = some p → (s = 0 → (z.1 132 (3000 * wn + s)).toInt = 0) ∧ (0 < s → (z.1 130 (3000 * wn + s)).toInt = (p.2.1 : Nat) ∧ (z.1 131 (3000 * wn + s)).toInt = (p.2.2 : Nat) ∧ (z.1 132 (3000 * wn + s)).toInt = (z.1 132 (3000 * wn + p.2.1)).toInt + 1)
section TYC
variable {C : gCo} {wn nl : Nat} {z y : gd} {T : gTy}
theorem FN3_c {x7 y7 : Nat → Int32} {k : Nat} (e : ∀ f, f < 11 → y7 f = x7 f) (h : FN3 C wn x7 T k) : FN3 C wn y7 T k := fun f hf => by rw [e f hf]; exact h f hf
theorem TYc_f (e1 : y.1 120 = z.1 120) (e2 : y.1 126 = z.1 126) (e3 : y.1 130 = z.1 130) (e4 : y.1 131 = z.1 131) (e5 : y.1 132 = z.1 132) (h : TYc C wn z T) : TYc C wn y T := by
  unfold TYc at h ⊢
  rw [e1, e2, e3, e4, e5]
  exact h
theorem TYc_mi {L A : List Nat} (m : mi L A z y) (hA : [120, 126, 130, 131, 132].all (fun k => !A.elem k) = true) (h : TYc C wn z T) : TYc C wn y T := by
  have g := fun k (h0 : k ≠ 0) hk => m.2 k h0 (all_no hA k hk)
  exact TYc_f (g 120 (by decide) (by decide)) (g 126 (by decide) (by decide)) (g 130 (by decide) (by decide)) (g 131 (by decide) (by decide)) (g 132 (by decide) (by decide)) h
theorem TYc_ow {W : Nat} (hW : TW C wn T) (hw : wn < 2) (ne : ¬ wn = W) (o : ow W z y) (h : TYc C wn z T) : TYc C wn y T := by
  obtain ⟨o1, -, o3, o4⟩ := o wn hw ne
  obtain ⟨h1, h2, h3, h4⟩ := h
  refine ⟨by rw [o1]; exact h1, h2, FN3_c (fun f hf => o3 f hf) h3, fun s p hp => ?_⟩
  have hs := gt_lt hp
  obtain ⟨a, b⟩ := h4 s p hp
  obtain ⟨e1, e2, e3⟩ := o4 s (by omega)
  refine ⟨fun z0 => by rw [e3]; exact a z0, fun s0 => ?_⟩
  have lt := ((hW s p hp).2 s0).1
  rw [e1, e2, e3, (o4 p.2.1 (by omega)).2.2]
  exact b s0
theorem TYc_of {A : Nat → gd} {z0 : gd} (hM : T.1.length ≤ 3000) (ti : TI z0 wn A T.1.length z) (tj : TJ C nl wn A wn T z) : TYc C wn z T := by
  obtain ⟨-, -, t3, -, -, -, t7, -, -⟩ := ti
  obtain ⟨-, j2, -, j4⟩ := tj
  refine ⟨by rw [t3, ofN hM], hM, j2, fun s p hp => ?_⟩
  obtain ⟨-, -, n3, n4⟩ := (t7 s (gt_lt hp)).1
  refine ⟨n3, fun s0 => ?_⟩
  obtain ⟨b1, b2⟩ := j4 s p hp s0
  obtain ⟨q, q1, q2, q3, -⟩ := n4 s0
  have eq : q = p.2.1 := by omega
  rw [eq] at q3
  exact ⟨b1, b2, q3⟩
theorem MK_mi {w w' : gd} {C : gCo} {L A : List Nat} (m : mi L A w w') (hL : mfL.all (fun k => !L.elem k) = true) (hA : mfA.all (fun k => !A.elem k) = true) (h : MK w C) : MK w' C := MK_f h (fun k hk => m.1 k (all_no hL k hk)) (fun c hc => m.2 c (mfA_0 c hc) (all_no hA c hc))
/-- how far a state is -/
theorem TYc_d (hW : TW C wn T) (h : TYc C wn z T) : ∀ n s p, s ≤ n → T.1[s]? = some p → (z.1 132 (3000 * wn + s)).toInt = ((pth T s).length : Nat) := by
  intro n
  induction n with
  | zero =>
    intro s p hs hp
    have e : s = 0 := by omega
    subst e
    exact (h.2.2.2 0 p hp).1 rfl
  | succ n ih =>
    intro s p hs hp
    by_cases s0 : s = 0
    · subst s0
      exact (h.2.2.2 0 p hp).1 rfl
    · obtain ⟨a2, a3, a4⟩ := (h.2.2.2 s p hp).2 (by omega)
      obtain ⟨hl, p', ch, h1, h2, h3⟩ := (hW s p hp).2 (by omega)
      rw [a4, ih p.2.1 p' (by omega) h1, pth_s hW (by omega) hp, List.length_append, List.length_singleton]
      rfl
end TYC
/-! refusals with their number -/
def rfK (k : Int32) (z z' : gd) : Prop := mi [0] [] z z' ∧ z'.1 0 0 = k
section RFK
variable {G : mG} {d D : Nat} {z : gd} {F : Int32 → gd → Prop}
theorem sc_refk {y : gd} (b k : Int32) (hy : z0 z y) (hk : 0 < k.toInt) (h0 : b = 0 → F 0 y) (h1 : ¬ b = 0 → ∀ y', rfK k z y' → F 1 y') : MT G d z_refuses 0 [(0, vr 0), (1, vi b), (2, vi k)] [] y (ri F) :=
  sp_refuses b k hy.2 hk h0 (fun c => h1 c _ ⟨mi_tr hy.1 (mi_of (md_f y 0 k)) rfl rfl, by rw [si_get, if_pos ⟨rfl, rfl⟩]⟩)
theorem sc_noRunk {y : gd} (hy : z0 z y) (h0 : ¬ y.1 0 67 = 0 → F 0 y) (h1 : y.1 0 67 = 0 → ∀ y', rfK 1 z y' → F 1 y') : MT G (d + 1) z_noRun 0 [(0, vr 0)] [] y (ri F) := by
  refine sg_noRun_0 ⟨fun c => sg_noRun_13 _ (sc_refk _ _ hy (by decide) (fun _ => ⟨gbool_0, ri_i (h0 c)⟩) (fun q => absurd rfl q)), fun c => sg_noRun_13 _ (sc_refk _ _ hy (by decide) (fun q => absurd q (by decide)) (fun _ y' m => ⟨gbool_1, ri_i (h1 c y' m)⟩))⟩
end RFK
/-- there is a way to show it -/
def shG (C : gCo) (Tw : Nat → gTy) (z : gd) (w f : Int32) : Prop := ∃ wn s : Nat, (wn = 0 ∨ wn = 1) ∧ w = Int32.ofNat wn ∧ 0 ≤ f.toInt ∧ f.toInt < 11 ∧ ¬ z.1 119 wn = 0 ∧ fsF C wn (Tw wn) f.toInt.toNat s ∧ (pth (Tw wn) s).length ≤ 400
theorem fsF_u {C : gCo} {w f s s' : Nat} {T : gTy} (h : fsF C w T f s) (g : fsF C w T f s') : s = s' := by
  obtain ⟨p, a1, a2, a3⟩ := h
  obtain ⟨p', b1, b2, b3⟩ := g
  apply Classical.byContradiction
  intro ne
  by_cases lt : s < s'
  · exact b3 s p lt a1 a2
  · exact a3 s' p' (by omega) b1 b2
section TSW
variable {G : mG} {d D : Nat} {x z a : gd} {F : Int32 → gd → Prop} {Fv : gd → Prop} {C : gCo}
theorem wn_eq {w : Int32} {wn wn' : Nat} (h1 : wn = 0 ∨ wn = 1) (h2 : wn' = 0 ∨ wn' = 1) (e1 : w = Int32.ofNat wn) (e2 : w = Int32.ofNat wn') : wn = wn' := by
  rcases h1 with rfl | rfl <;> rcases h2 with rfl | rfl
  · rfl
  · rw [e1] at e2; exact absurd e2 (by decide)
  · rw [e1] at e2; exact absurd e2 (by decide)
  · rfl
theorem sc_show {Tw : Nat → gTy} (q : MI z) (gc : GC C) (hK : ¬ z.1 0 66 = 0 → MK z C) (w f : Int32) (hT : ∀ wn, (wn = 0 ∨ wn = 1) → ¬ z.1 119 wn = 0 → TYc C wn z (Tw wn) ∧ TW C wn (Tw wn)) (hD : 8 ≤ D) (h01 : ¬ ((w = 0 ∨ w = 1) ∧ 0 ≤ f.toInt ∧ f.toInt < 11) → ∀ z', rfK 1 z z' → F 0 z') (h02 : ((w = 0 ∨ w = 1) ∧ 0 ≤ f.toInt ∧ f.toInt < 11) → ¬ shG C Tw z w f → ∀ z', rfK 2 z z' → F 0 z') (h1 : ∀ (wn s : Nat) z', (wn = 0 ∨ wn = 1) → w = Int32.ofNat wn → 0 ≤ f.toInt → f.toInt < 11 → ¬ z.1 119 wn = 0 → fsF C wn (Tw wn) f.toInt.toNat s → (pth (Tw wn) s).length ≤ 400 → HistC C wn z' → mi (0 :: 67 :: 68 :: dL) (138 :: dA) z z' → z'.1 0 0 = 0 → z'.1 0 67 = 1 → (z'.1 0 94).toInt = ((pth (Tw wn) s).length : Nat) → (∀ k v, (pth (Tw wn) s)[k]? = some v → c96 z' k = v) → F (z'.1 0 94) z') : MT G D z_show 0 [(0, vr 0), (1, vi w), (2, vi f)] [] z (ri F) := by
  obtain ⟨D, rfl⟩ : ∃ D', D = D' + 1 := ⟨D - 1, by omega⟩
  have k0 : (0 : Int32).toInt = 0 := rfl
  have k1 : (1 : Int32).toInt = 1 := rfl
  have km1 : (-1 : Int32).toInt = -1 := rfl
  have k4 : (400 : Int32).toInt = 400 := rfl
  refine sg_show_0 _ _ (fun y e => ?_)
  have hy := z0_s e
  have no : ∀ wn : Nat, (wn = 0 ∨ wn = 1) → w = Int32.ofNat wn → 0 ≤ f.toInt → f.toInt < 11 → ¬ shG C Tw z w f → ∀ y', rfK 2 z y' → ri F (some (vi 0)) y' := fun wn w01 ew f0 f1 hn y' m => ri_i (h02 ⟨by rcases w01 with e9 | e9 <;> rw [ew, e9]; exact Or.inl rfl; exact Or.inr rfl, f0, f1⟩ hn y' m)
  have qy := (MI_0 hy.1 q).1
  have g119 : y.1 119 = z.1 119 := hy.1.2 119 (by decide) (by simp)
  have p75 : ∀ wn : Nat, (wn = 0 ∨ wn = 1) → w = Int32.ofNat wn → vp_in w 2 → 0 ≤ f.toInt → f.toInt < 11 → ∀ s b : Int32, (b = 0 → ¬ y.1 119 wn = 0 ∧ ∃ S : Nat, s.toInt = (S : Nat) ∧ fsF C wn (Tw wn) f.toInt.toNat S) → (¬ b = 0 → ¬ shG C Tw z w f) → MT G (D + 1) z_show 75 [(0, vr 0), (1, vi w), (3, vi s)] [vi b, vr 0] y (ri F) := by
    intro wn w01 ew wv f0 f1 s b hb hb2
    refine sg_show_75 _ _ _ (sc_refk b 2 hy (by decide) (fun b0 => ⟨fun q => absurd rfl q, fun _ => ?_⟩) (fun nb y' m => ⟨fun _ => no wn w01 ew f0 f1 (hb2 nb) y' m, fun q => absurd q (by decide)⟩))
    obtain ⟨tr, S, es, hfs⟩ := hb b0
    obtain ⟨W, eW⟩ : ∃ W, W = w.toNatClampNeg := ⟨_, rfl⟩
    have eWn : W = wn := by rw [eW, ew]; rcases w01 with e9 | e9 <;> rw [e9] <;> rfl
    have tz : ¬ z.1 119 wn = 0 := by rw [← g119]; exact tr
    obtain ⟨tyz, hTW⟩ := hT wn w01 tz
    obtain ⟨T, eT⟩ : ∃ T, T = Tw wn := ⟨_, rfl⟩
    have h1 := fun z' => h1 wn S z' w01 ew f0 f1 tz hfs
    rw [← eT] at tyz hTW hfs h1
    have ty : TYc C wn y T := TYc_mi hy.1 rfl tyz
    obtain ⟨p9, hp9, -⟩ := id hfs
    have hc : ¬ y.1 0 66 = 0 := (qy.2.2.2 wn (by omega) tr).1
    have cp := qy.2.1 hc
    have hKz := hK (by rw [← hy.1.1 66 (by decide)]; exact hc)
    have b3 := ty.2.1
    have sS := gt_lt hp9
    have ix : ∀ (c : Int32) (c' : Nat), c.toInt = (c' : Nat) → c' < T.1.length → vp_in (3000 * w + c) 6000 ∧ (3000 * w + c).toNatClampNeg = 3000 * wn + c' := fun c c' ec c1 => by
      have := tmul (k := 3000) (K := 3000) (N := 6000) (n := 3000) (i := c) rfl wv (by omega) (by omega) (by omega) (by omega) (by omega)
      have cc := t_cl c
      rw [← eW, eWn] at this
      rw [show c.toNatClampNeg = c' by omega] at this
      exact this
    obtain ⟨sv, se⟩ := ix s S es sS
    have dS := TYc_d hTW ty S S p9 (Nat.le_refl _) hp9
    obtain ⟨N, eN⟩ : ∃ N, N = y.1 132 (3000 * w + s).toNatClampNeg := ⟨_, rfl⟩
    have dN : N.toInt = ((pth T S).length : Nat) := by rw [eN, se]; exact dS
    rw [← eN]
    -- the run gone again
    have loop : (pth T S).length ≤ 400 → ∀ (m : Nat) (u : gd) (k : Nat) (i : Int32), i.toInt = (k : Nat) → k ≤ (pth T S).length → (pth T S).length - k ≤ m → HistC C wn u → (u.1 0 94).toInt = (k : Nat) → (∀ j v, (pth T S)[j]? = some v → (u.1 138 j).toInt = (v : Nat)) → (∀ j v, j < k → (pth T S)[j]? = some v → c96 u j = v) → u.1 0 67 = 1 → mi (67 :: 68 :: dL) (138 :: dA) y u → MT G (D + 1) z_show 186 [(0, vr 0), (4, vi N), (5, vi i)] [] u (ri F) := by
      intro N4
      have end' : ∀ (u : gd) (k : Nat), k = (pth T S).length → HistC C wn u → (u.1 0 94).toInt = (k : Nat) → (∀ j v, j < k → (pth T S)[j]? = some v → c96 u j = v) → u.1 0 67 = 1 → mi (67 :: 68 :: dL) (138 :: dA) y u → ri F (some (vi (u.1 0 94))) u := fun u k ek hu u94 u96 u67 mu => ri_i (h1 u N4 hu (mi_tr hy.1 mu rfl rfl) (by rw [mu.1 0 (by decide)]; exact hy.2) u67 (by rw [u94, ek]) (fun j v hj => u96 j v (by rw [ek]; exact gt_lt hj) hj))
      intro m
      induction m with
      | zero =>
        intro u k i ei hk hm hu u94 u138 u96 u67 mu
        exact sg_show_186 _ _ ⟨fun _ => end' u k (by omega) hu u94 u96 u67 mu, fun c => absurd (t_le.mpr (by omega)) c⟩
      | succ m ih =>
        intro u k i ei hk hm hu u94 u138 u96 u67 mu
        refine sg_show_186 _ _ ⟨fun c => end' u k (by rw [t_le] at c; omega) hu u94 u96 u67 mu, fun c => ?_⟩
        rw [t_le] at c
        have kl : k < (pth T S).length := by omega
        have ci : i.toNatClampNeg = k := by rw [t_cl, ei]; rfl
        refine ⟨by rw [vp_in_iff]; omega, ?_⟩
        rw [ci]
        have hg := List.getElem?_eq_getElem kl
        obtain ⟨v, ev⟩ : ∃ v, v = (pth T S)[k] := ⟨_, rfl⟩
        rw [← ev] at hg
        have e138 := u138 k v hg
        -- the choice is one of those that there are
        obtain ⟨c9, hc9⟩ : ∃ c9 : Nat → Nat, ∀ j v, (pth T S)[j]? = some v → c9 j = v := ⟨fun j => ((pth T S)[j]?).getD 0, fun j v hj => congrArg (fun z : Option Nat => z.getD 0) hj⟩
        obtain ⟨-, r2⟩ := pth_run hTW S S p9 (Nat.le_refl _) hp9 c9 hc9
        have rE : runM C wn c9 k = runM C wn (c96 u) k := runM_cg (fun j hj => by
          have hgj := List.getElem?_eq_getElem (show j < (pth T S).length by omega)
          rw [hc9 j _ hgj, u96 j _ hj hgj])
        have lt := r2 k kl
        rw [hc9 k v hg, rE] at lt
        have e84 := HistC_n hu
        have ek : (u.1 0 94).toInt.toNat = k := by rw [u94]; rfl
        rw [ek] at e84
        have ii : (i + 1).toInt = ((k + 1 : Nat) : Int) := by rw [t_add (by omega) (by omega), k1, ei]; rfl
        refine sc_more gc hu (by omega) _ (by omega) (by omega) (by omega) (fun u' hu' df => ?_)
        obtain ⟨mm, e94, e96, e96b⟩ := df
        have cu : (u.1 0 94).toNatClampNeg = k := by rw [t_cl]; exact ek
        rw [cu] at e96 e96b
        refine ih u' (k + 1) (i + 1) ii kl (by omega) hu' (by rw [e94, u94]; push_cast; rfl) (fun j v hj => by rw [mm.2 138 (by decide) (by decide)]; exact u138 j v hj) (fun j v9 hj hv => ?_) (by rw [mm.1 67 (by decide)]; exact u67) (mi_tr mu mm rfl rfl)
        show (u'.1 96 j).toNatClampNeg = v9
        by_cases cj : j = k
        · rw [cj, e96, t_cl]
          rw [cj, hg] at hv
          have hv := Option.some.inj hv
          rw [e138, hv]; rfl
        · rw [e96b j cj]
          exact u96 j v9 (by omega) hv
    -- the way back to the first state
    have back : (pth T S).length ≤ 400 → ∀ (n : Nat) (u : gd) (c i : Int32) (U : Nat) (pU : gMa × Nat × Nat) (r : List Nat), i.toInt = (n : Int) - 1 → c.toInt = (U : Nat) → T.1[U]? = some pU → (pth T U).length = n → pth T S = pth T U ++ r → mi [] [138] y u → (∀ j v, r[j]? = some v → (u.1 138 (n + j)).toInt = (v : Nat)) → MT G (D + 1) z_show 135 [(0, vr 0), (1, vi w), (3, vi c), (4, vi N), (5, vi i)] [] u (ri F) := by
      intro N4 n
      induction n with
      | zero =>
        intro u c i U pU r ei ec hU hl hr mu hu
        have e0 : pth T U = [] := List.eq_nil_of_length_eq_zero hl
        rw [e0, List.nil_append] at hr
        refine sg_show_135 _ _ _ _ ⟨fun _ => ?_, fun cc => absurd (t_lt.mpr (by rw [k0]; omega)) cc⟩
        rw [ew]
        refine sc_startRun gc (CP_mi mu rfl rfl cp) (MK_mi mu rfl rfl (MK_mi hy.1 rfl rfl hKz)) w01 (by omega) (fun u' hh sf => ?_)
        obtain ⟨mm, f94, -, f67, f68⟩ := sf
        refine loop N4 (pth T S).length u' 0 0 rfl (Nat.zero_le _) (by omega) hh (by rw [f94]; rfl) (fun j v hj => ?_) (fun j v hj => absurd hj (Nat.not_lt_zero _)) f67 (mi_tr mu mm rfl rfl)
        rw [mm.2 138 (by decide) (by decide)]
        rw [hr] at hj
        have := hu j v hj
        rw [Nat.zero_add] at this
        exact this
      | succ n ih =>
        intro u c i U pU r ei ec hU hl hr mu hu
        have hlen : (pth T S).length = (n + 1) + r.length := by rw [hr, List.length_append, hl]
        have U0 : 0 < U := by
          apply Classical.byContradiction
          intro c9
          rw [show U = 0 by omega, pth_0] at hl
          cases hl
        have UL := gt_lt hU
        obtain ⟨a2, a3, a4⟩ := (ty.2.2.2 U pU hU).2 U0
        obtain ⟨hlt, p', ch, g1, g2, g3⟩ := (hTW U pU hU).2 U0
        have ps := pth_s hTW U0 hU
        push_cast at ei
        refine sg_show_135 _ _ _ _ ⟨fun cc => ?_, fun cc => ?_⟩
        · rw [t_lt, k0] at cc; exfalso; omega
        obtain ⟨cv, ce⟩ := ix c U ec UL
        have ci : i.toNatClampNeg = n := by rw [t_cl, ei]; omega
        have lv : vp_in i 400 := by rw [vp_in_iff]; omega
        refine ⟨cv, lv, fun v ev => ⟨cv, ?_⟩⟩
        rw [ce, ci] at ev
        rw [ce]
        have mv := md_a u 138 n (u.1 131 (3000 * wn + U)) (by decide)
        rw [← ev] at mv
        have g130 : v.1 130 = y.1 130 := by rw [mv.2.1 130 (by decide) (by decide), mu.2 130 (by decide) (by decide)]
        have g131 : u.1 131 = y.1 131 := mu.2 131 (by decide) (by decide)
        rw [g131] at ev
        rw [g130]
        obtain ⟨j9, ej⟩ : ∃ j, j = i + (-1) := ⟨_, rfl⟩
        have ji : j9.toInt = (n : Int) - 1 := by rw [ej, t_add (by rw [km1]; omega) (by rw [km1]; omega), km1]; omega
        rw [← ej]
        clear ej
        have hl' : (pth T pU.2.1).length = n := by rw [ps, List.length_append, List.length_singleton] at hl; omega
        refine ih v _ j9 pU.2.1 p' (pU.2.2 :: r) ji a2 g1 hl' (by rw [hr, ps, List.append_assoc]; rfl) (mi_tr mu (mi_of mv) rfl rfl) (fun j v9 hj => ?_)
        cases j with
        | zero =>
          have hj : pU.2.2 = v9 := Option.some.inj hj
          rw [Nat.add_zero, ev, si_get, if_pos ⟨rfl, rfl⟩, ← hj]
          exact a3
        | succ j =>
          have hj : r[j]? = some v9 := hj
          have := hu j v9 hj
          rw [ev, si_ne 138 _ (by omega), show n + (j + 1) = n + 1 + j by omega]
          exact this
    have p106 : ∀ b : Int32, (b = 0 → (pth T S).length ≤ 400) → (¬ b = 0 → ¬ (pth T S).length ≤ 400) → MT G (D + 1) z_show 106 [(0, vr 0), (1, vi w), (3, vi s)] [vi b, vr 0] y (ri F) := by
      intro b hb hb2
      refine sg_show_106 _ _ _ (sc_refk b 2 hy (by decide) (fun b0 => ⟨fun _ => ⟨sv, ?_⟩, fun q => absurd rfl q⟩) (fun nb y' m => ⟨fun q => absurd q (by decide), fun _ => no wn w01 ew f0 f1 (fun hg => hb2 nb ?_) y' m⟩))
      · rw [← eN]
        have N4 := hb b0
        obtain ⟨j, ej⟩ : ∃ j, j = N - 1 := ⟨_, rfl⟩
        have ji : j.toInt = ((pth T S).length : Int) - 1 := by rw [ej, t_sub (by rw [k1]; omega) (by rw [k1]; omega), k1, dN]
        rw [← ej]
        exact back N4 (pth T S).length y s j S p9 [] ji es hp9 rfl (List.append_nil _).symm ⟨fun _ _ => rfl, fun _ _ _ => rfl⟩ (fun j v hj => nomatch hj)
      · obtain ⟨wn', s', a1, a2, -, -, -, a6, a7⟩ := hg
        have e1 := wn_eq a1 w01 a2 ew
        rw [e1, ← eT] at a6 a7
        rw [fsF_u hfs a6]; exact a7
    exact ⟨sv, fun c => p106 0 (fun _ => by rw [t_le, k4] at c; omega) (fun z => absurd rfl z), fun c => p106 1 (fun q => absurd q (by decide)) (fun _ z9 => c (t_le.mpr (by rw [k4]; omega)))⟩
  have p63 : ∀ wn : Nat, (wn = 0 ∨ wn = 1) → w = Int32.ofNat wn → vp_in w 2 → 0 ≤ f.toInt → f.toInt < 11 → ∀ s : Int32, (s = -1 → ¬ shG C Tw z w f) → (¬ s = -1 → ¬ y.1 119 wn = 0 ∧ ∃ S : Nat, s.toInt = (S : Nat) ∧ fsF C wn (Tw wn) f.toInt.toNat S) → MT G (D + 1) z_show 63 [(0, vr 0), (1, vi w)] [vi s] y (ri F) := fun wn w01 ew wv f0 f1 s hs hs2 => sg_show_63 _ _ ⟨fun ne => p75 wn w01 ew wv f0 f1 s 0 (fun _ => hs2 ne) (fun z => absurd rfl z), fun e9 => p75 wn w01 ew wv f0 f1 s 1 (fun q => absurd q (by decide)) (fun _ => hs e9)⟩
  have p30 : ∀ b : Int32, (b = 0 → (vp_in w 2 ∧ (w = 0 ∨ w = 1)) ∧ 0 ≤ f.toInt ∧ f.toInt < 11) → (¬ b = 0 → ¬ ((w = 0 ∨ w = 1) ∧ 0 ≤ f.toInt ∧ f.toInt < 11)) → MT G (D + 1) z_show 30 [(0, vr 0), (1, vi w), (2, vi f)] [vi b, vr 0] y (ri F) := by
    intro b hb hb2
    refine sg_show_30 _ _ _ (sc_refk b 1 hy (by decide) (fun b0 => ⟨fun _ => ?_, fun q => absurd rfl q⟩) (fun nb y' m => ⟨fun q => absurd q (by decide), fun _ => ri_i (h01 (hb2 nb) y' m)⟩))
    obtain ⟨⟨wv, hw⟩, f0, f1⟩ := hb b0
    obtain ⟨wn, w01, ew, ewn⟩ := w_nat hw
    obtain ⟨fv, fe⟩ := t11 wv f0 f1
    rw [ewn]
    refine ⟨wv, fun t0 => p63 wn w01 ew wv f0 f1 _ (fun _ hg => ?_) (fun z => absurd rfl z), fun tr => ⟨fv, p63 wn w01 ew wv f0 f1 _ (fun e1 hg => ?_) (fun ne => ⟨tr, ?_⟩)⟩⟩
    · obtain ⟨wn', s', a1, a2, -, -, a5, -⟩ := hg
      rw [wn_eq a1 w01 a2 ew, ← g119] at a5
      exact a5 t0
    · rw [fe, ewn] at e1
      obtain ⟨wn', s', a1, a2, -, -, -, ⟨p9, c1, c2, -⟩, -⟩ := hg
      have e2 := wn_eq a1 w01 a2 ew
      rw [e2] at c1 c2
      have ty : TYc C wn y (Tw wn) := TYc_mi hy.1 rfl (hT wn w01 (by rw [← g119]; exact tr)).1
      have cf := t_cl f
      rcases ty.2.2.1 f.toInt.toNat (by omega) with ⟨-, g2⟩ | ⟨s9, p8, -, g2, -⟩
      · exact g2 s' p9 (gt_lt c1) c1 c2
      · have g2 : (y.1 126 (11 * wn + f.toNatClampNeg)).toInt = (s9 : Nat) := g2
        rw [e1, km1] at g2; omega
    · rw [fe, ewn] at ne ⊢
      have ty : TYc C wn y (Tw wn) := TYc_mi hy.1 rfl (hT wn w01 (by rw [← g119]; exact tr)).1
      rcases ty.2.2.1 f.toInt.toNat (by omega) with ⟨g1, -⟩ | ⟨s9, p8, g1, g2, g3, g4, g5⟩
      · exact absurd g1 ne
      · exact ⟨s9, g2, p8, g3, g4, g5⟩
  refine sp_in _ _ _ ⟨fun c1 => p30 1 (fun q => absurd q (by decide)) (fun _ hg => ?_), fun c1 => sp_in _ _ _ ⟨fun c2 => p30 0 (fun _ => ⟨w_in (bi_ne.mp c1), f_in (bi_ne.mp c2)⟩) (fun z => absurd rfl z), fun c2 => p30 1 (fun q => absurd q (by decide)) (fun _ hg => ?_)⟩⟩
  · refine bi_eq.mp c1 ?_
    rcases hg.1 with e9 | e9 <;> rw [e9]
    · exact ⟨by decide, by decide⟩
    · exact ⟨by decide, by decide⟩
  · refine bi_eq.mp c2 ⟨t_le.mpr (by rw [k0]; exact hg.2.1), t_le.mpr ?_⟩
    have k10 : (10 : Int32).toInt = 10 := rfl
    have := hg.2.2
    rw [k10]; omega
end TSW
