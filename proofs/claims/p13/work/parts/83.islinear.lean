/-! fits, mayCome, isLinear, linear -/
section LIS
variable {G : mG} {d D : Nat} {x y z a : gd} {F : Int32 → gd → Prop} {Fv : gd → Prop}
theorem sp_fits (k n : Int32) (n1 : n.toInt ≤ 13) (ho : ∀ j : Nat, (j : Int) < n.toInt → vp_in (z.1 114 j) 14) (hD : 1 ≤ D) (h : ∀ r z', md [116] [116] z z' → F r z') : MT G (D + 1) z_fits 0 [(0, vr 0), (1, vi k), (2, vi n)] [] z (ri F) := by
  obtain ⟨D, rfl⟩ : ∃ D', D = D' + 1 := ⟨D - 1, by omega⟩
  have k0 : (0 : Int32).toInt = 0 := rfl
  have k1 : (1 : Int32).toInt = 1 := rfl
  have loop : ∀ (m : Nat) (u : gd) (b i : Int32), md [116] [116] z u → (b = 0 ∨ b = 1) → 0 ≤ i.toInt → 0 ≤ (u.1 0 116).toInt → (u.1 0 116).toInt ≤ i.toInt → n.toInt - i.toInt ≤ m → MT G (D + 2) z_fits 10 [(0, vr 0), (1, vi k), (2, vi n), (3, vi b), (4, vi i)] [] u (ri F) := by
    intro m
    induction m with
    | zero =>
      intro u b i mu hb i0 u0 u1 hm
      exact sg_fits_10 _ _ _ _ ⟨fun _ => ⟨gbool_of hb, ri_i (h b u mu)⟩, fun q => absurd (t_le.mpr (by omega)) q⟩
    | succ m ih =>
      intro u b i mu hb i0 u0 u1 hm
      refine sg_fits_10 _ _ _ _ ⟨fun _ => ⟨gbool_of hb, ri_i (h b u mu)⟩, fun q => ?_⟩
      rw [t_le] at q
      have ci := cl_i i0
      have iv : vp_in i 14 := by rw [vp_in_iff]; omega
      have ii : (i + 1).toInt = i.toInt + 1 := by rw [t_add (by omega) (by omega), k1]
      have ov : vp_in (u.1 114 i.toNatClampNeg) 14 := by
        rw [mu.2.1 114 (by decide) (by decide)]
        exact ho _ (by omega)
      refine ⟨iv, ov, ov, sp_answer _ _ _ u0 (by omega) (fun r v mv v0 v1 => ?_)⟩
      have go : ∀ b', (b' = 0 ∨ b' = 1) → MT G (D + 2) z_fits 10 [(0, vr 0), (1, vi k), (2, vi n), (3, vi b'), (4, vi (i + 1))] [] v (ri F) := fun b' hb' => ih v b' (i + 1) (md_tr mu mv rfl rfl) hb' (by omega) v0 (by omega) (by omega)
      exact ⟨fun _ => go 0 (Or.inl rfl), fun _ => ⟨ov, fun _ => go 1 (Or.inr rfl), fun _ => ⟨ov, fun _ => go 0 (Or.inl rfl), fun _ => go 1 (Or.inr rfl)⟩⟩⟩
  refine sg_fits_0 _ _ (fun u e => ?_)
  have m := md_f z 116 0
  rw [← e] at m
  have e0 : u.1 0 116 = 0 := by rw [e, si_get, if_pos ⟨rfl, rfl⟩]
  exact loop _ u 1 0 (md_w m (by decide) (by decide)) (Or.inr rfl) (by decide) (by rw [e0]; decide) (by rw [e0]; decide) (Int.self_le_toNat _)
theorem sp_mayCome (c u : Int32) (c0 : 0 ≤ c.toInt) (c1 : c.toInt < 14) (N1 : (z.1 0 107).toInt ≤ 13) (h : ∀ r, (¬ r = 0 → bt u c.toNatClampNeg = false) → F r z) : MT G d z_mayCome 0 [(0, vr 0), (1, vi c), (2, vi u)] [] z (ri F) := by
  have k1 : (1 : Int32).toInt = 1 := rfl
  have cv : vp_in c 14 := by rw [vp_in_iff]; omega
  have no : ri F (some (vi 0)) z := ri_i (h 0 (fun q => absurd rfl q))
  have last : ((¬ (((u >>> (c &&& 31 : Int32)) &&& 1) = (0 : Int32)) → ri F (some (vi 0)) z) ∧ (((u >>> (c &&& 31 : Int32)) &&& 1) = (0 : Int32) → ri F (some (vi 1)) z)) := ⟨fun _ => no, fun e => ri_i (h 1 (fun _ => bt_sh c0 c1 e))⟩
  have loop : ∀ (m : Nat) (i : Int32), 0 ≤ i.toInt → (z.1 0 107).toInt - i.toInt ≤ m → MT G d z_mayCome 2 [(0, vr 0), (1, vi c), (2, vi u), (3, vi i)] [] z (ri F) := by
    intro m
    induction m with
    | zero =>
      intro i i0 hm
      exact sg_mayCome_2 _ _ _ ⟨fun _ => last, fun q => absurd (t_le.mpr (by omega)) q⟩
    | succ m ih =>
      intro i i0 hm
      refine sg_mayCome_2 _ _ _ ⟨fun _ => last, fun q => ?_⟩
      rw [t_le] at q
      have iv : vp_in i 14 := by rw [vp_in_iff]; omega
      have ii : (i + 1).toInt = i.toInt + 1 := by rw [t_add (by omega) (by omega), k1]
      have nx := ih (i + 1) (by omega) (by omega)
      exact ⟨fun _ => nx, fun _ => ⟨iv, fun _ => nx, fun _ => ⟨iv, cv, fun _ => nx, fun _ => no⟩⟩⟩
  exact sg_mayCome_0 _ _ (loop _ 0 (by decide) (Int.self_le_toNat _))
/-- the search: the calls T are taken -/
def LR (y : gd) (T : Nat → Int32) (d : Nat) (u : gd) : Prop := md [116] [114, 115, 116] y u ∧ (∀ k : Nat, k < d → u.1 115 k = T k) ∧ ∀ k : Nat, k < d → vp_in (u.1 114 k) 14
theorem sp_isLinear (k : Int32) (N0 : 0 ≤ (y.1 0 107).toInt) (N1 : (y.1 0 107).toInt ≤ 13) (hD : 3 ≤ D) (h : ∀ r z', md [116] [114, 115, 116] y z' → F r z') : MT G D z_isLinear 0 [(0, vr 0), (1, vi k)] [] y (ri F) := by
  obtain ⟨D, rfl⟩ : ∃ D', D = D' + 3 := ⟨D - 3, by omega⟩
  have k0 : (0 : Int32).toInt = 0 := rfl
  have k1 : (1 : Int32).toInt = 1 := rfl
  have km1 : (-1 : Int32).toInt = -1 := rfl
  obtain ⟨N, eN⟩ : ∃ N, N = y.1 0 107 := ⟨_, rfl⟩
  rw [← eN] at N0 N1
  have f107 : ∀ {u : gd}, md [116] [114, 115, 116] y u → u.1 0 107 = N := fun m => by rw [m.1 107 (by decide), eN]
  have key : ∀ (al : Int32) (n e : Nat) (l : Int32) (T : Nat → Int32), l.toInt = e → 13 - (e : Int) ≤ n → gT N.toInt T e → (∀ (u : gd) (c : Int32), LR y T e u → MT G (D + 3) z_isLinear 140 [(0, vr 0), (1, vi k), (2, vi al), (3, vi (uS T e)), (4, vi l), (5, vi c), (6, vi 0)] [] u (ri F)) → ∀ (r : Nat) (u : gd), LR y T e u → -1 ≤ (u.1 115 e).toInt → (u.1 115 e).toInt < N.toInt ∨ u.1 115 e = -1 → N.toInt - (u.1 115 e).toInt ≤ r → MT G (D + 3) z_isLinear 50 [(0, vr 0), (1, vi k), (2, vi al), (3, vi (uS T e)), (4, vi l)] [] u (ri F) := by
    intro al n
    induction n with
    | zero =>
      intro e l T le en gt cont r
      -- all calls are taken
      have e13 := gT_le N0 N1 gt
      intro u lr t0 t1 hr
      have cle : l.toNatClampNeg = e := by have := cl_i (a := l) (by omega); omega
      have lv : vp_in l 14 := by rw [vp_in_iff]; omega
      refine sg_isLinear_50 _ _ _ _ ⟨fun q => by rw [t_lt, k0] at q; omega, fun _ => ⟨fun _ => ⟨lv, ?_⟩, fun _ => ri_i (h _ u lr.1)⟩⟩
      have tr := t_rg (u.1 115 e)
      have p78 : ∀ (m : Nat) (u : gd) (c : Int32), LR y T e u → 0 ≤ c.toInt → N.toInt - c.toInt ≤ m → MT G (D + 3) z_isLinear 78 [(0, vr 0), (1, vi k), (2, vi al), (3, vi (uS T e)), (4, vi l), (5, vi c), (6, vi 0)] [] u (ri F) := by
        intro m
        induction m with
        | zero =>
          intro u c lr c0 hm
          exact sg_isLinear_78 _ _ _ _ _ _ ⟨fun _ => cont u c lr, fun q => absurd (t_le.mpr (by rw [f107 lr.1]; omega)) q⟩
        | succ m ihm =>
          intro u c lr c0 hm
          refine sg_isLinear_78 _ _ _ _ _ _ ⟨fun _ => cont u c lr, fun q => ⟨fun q => absurd rfl q, fun _ => ?_⟩⟩
          rw [t_le, f107 lr.1] at q
          have cc : (c + 1).toInt = c.toInt + 1 := by rw [t_add (by omega) (by omega), k1]
          refine sp_mayCome c _ c0 (by omega) (by rw [f107 lr.1]; exact N1) (fun r hr => ⟨fun _ => ?_, fun nr => ?_⟩)
          · exact sg_isLinear_122 _ _ _ _ _ _ ⟨fun _ => ihm u (c + 1) lr (by omega) (by omega), fun q => absurd rfl q⟩
          · have b := hr nr
            have g2 : gT N.toInt (fun j => if j = e then c else T j) (e + 1) := by
              intro j hj
              have cg : uS (fun j => if j = e then c else T j) j = uS T j := uS_cong j (fun i hi => by show (if i = e then c else T i) = T i; rw [if_neg (by omega)])
              rw [cg]
              show 0 ≤ (if j = e then c else T j).toInt ∧ (if j = e then c else T j).toInt < N.toInt ∧ bt (uS T j) (if j = e then c else T j).toNatClampNeg = false
              by_cases w : j = e
              · rw [if_pos w, w]; exact ⟨c0, by omega, b⟩
              · rw [if_neg w]; exact gt j (by omega)
            have := gT_le N0 N1 g2
            omega
      obtain ⟨c, ec⟩ : ∃ c, c = u.1 115 l.toNatClampNeg + 1 := ⟨_, rfl⟩
      rw [← ec]
      have ce : c.toInt = (u.1 115 e).toInt + 1 := by
        rw [ec, cle, t_add (by omega) (by rcases t1 with t1 | t1; omega; rw [t1]; decide), k1]
      exact p78 _ u c lr (by omega) (Int.self_le_toNat _)
    | succ n ih =>
      intro e l T le en gt cont r
      have e13 := gT_le N0 N1 gt
      have cle : l.toNatClampNeg = e := by have := cl_i (a := l) (by omega); omega
      have lv : vp_in l 14 := by rw [vp_in_iff]; omega
      have ll : (l + 1).toInt = l.toInt + 1 := by rw [t_add (by omega) (by omega), k1]
      induction r with
      | zero =>
        intro u lr t0 t1 hr
        rcases t1 with t1 | t1
        · omega
        · rw [t1, km1] at hr; omega
      | succ r ihr =>
        intro u0 lr0 t0 t1 hr0
        refine sg_isLinear_50 _ _ _ _ ⟨fun q => by rw [t_lt, k0] at q; omega, fun _ => ⟨fun _ => ⟨lv, ?_⟩, fun _ => ri_i (h _ u0 lr0.1)⟩⟩
        have p78 : ∀ (m : Nat) (u : gd) (c : Int32), LR y T e u → (u0.1 115 e).toInt < c.toInt → 0 ≤ c.toInt → N.toInt - c.toInt ≤ m → MT G (D + 3) z_isLinear 78 [(0, vr 0), (1, vi k), (2, vi al), (3, vi (uS T e)), (4, vi l), (5, vi c), (6, vi 0)] [] u (ri F) := by
          intro m
          induction m with
          | zero =>
            intro u c lr cl c0 hm
            exact sg_isLinear_78 _ _ _ _ _ _ ⟨fun _ => cont u c lr, fun q => absurd (t_le.mpr (by rw [f107 lr.1]; omega)) q⟩
          | succ m ihm =>
            intro u c lr cl c0 hm
            refine sg_isLinear_78 _ _ _ _ _ _ ⟨fun _ => cont u c lr, fun q => ⟨fun q => absurd rfl q, fun _ => ?_⟩⟩
            rw [t_le, f107 lr.1] at q
            have cc : (c + 1).toInt = c.toInt + 1 := by rw [t_add (by omega) (by omega), k1]
            have ccl := cl_i c0
            refine sp_mayCome c _ c0 (by omega) (by rw [f107 lr.1]; exact N1) (fun r9 hr => ⟨fun _ => ?_, fun nr => ⟨lv, fun u7 e7 => ?_⟩⟩)
            · exact sg_isLinear_122 _ _ _ _ _ _ ⟨fun _ => ihm u (c + 1) lr (by omega) (by omega) (by omega), fun q => absurd rfl q⟩
            · have b := hr nr
              obtain ⟨T2, eT⟩ : ∃ T2 : Nat → Int32, T2 = fun j => if j = e then c else T j := ⟨_, rfl⟩
              have T2e : T2 e = c := by rw [eT]; show (if e = e then c else T e) = c; rw [if_pos rfl]
              have T2n : ∀ j : Nat, ¬ j = e → T2 j = T j := fun j w => by rw [eT]; show (if j = e then c else T j) = T j; rw [if_neg w]
              have cg : ∀ j : Nat, j ≤ e → uS T2 j = uS T j := fun j hj => uS_cong j (fun i hi => T2n i (by omega))
              have g2 : gT N.toInt T2 (e + 1) := by
                intro j hj
                rw [cg j (by omega)]
                by_cases w : j = e
                · rw [w, T2e]; exact ⟨c0, by omega, b⟩
                · rw [T2n j w]; exact gt j (by omega)
              have e1 := gT_le N0 N1 g2
              have cv14 : vp_in c 14 := by rw [vp_in_iff]; omega
              have m7 := md_a u 114 l.toNatClampNeg c (by decide)
              rw [← e7] at m7
              have lr7 : LR y T e u7 := ⟨md_tr lr.1 m7 rfl rfl, fun j hj => by rw [m7.2.1 115 (by decide) (by decide)]; exact lr.2.1 j hj, fun j hj => by rw [e7, si_ne 114 j (by omega)]; exact lr.2.2 j hj⟩
              have o7 : ∀ j : Nat, j < e + 1 → vp_in (u7.1 114 j) 14 := fun j hj => by
                by_cases w : j = e
                · rw [e7, si_get, if_pos ⟨rfl, by omega⟩]; exact cv14
                · exact lr7.2.2 j (by omega)
              refine sp_fits k (l + 1) (by omega) (fun j hj => o7 j (by omega)) (by omega) (fun r8 u8 m8 => ?_)
              have lr8 : LR y T e u8 := ⟨md_tr lr7.1 m8 rfl rfl, fun j hj => by rw [m8.2.1 115 (by decide) (by decide)]; exact lr7.2.1 j hj, fun j hj => by rw [m8.2.1 114 (by decide) (by decide)]; exact lr7.2.2 j hj⟩
              have o8 : ∀ j : Nat, j < e + 1 → vp_in (u8.1 114 j) 14 := fun j hj => by rw [m8.2.1 114 (by decide) (by decide)]; exact o7 j hj
              refine sg_isLinear_122 _ _ _ _ _ _ ⟨fun r0 => by rw [r0]; exact ihm u8 (c + 1) lr8 (by omega) (by omega) (by omega), fun n8 => ?_⟩
              rw [Int32.add_zero]
              have p140 : MT G (D + 3) z_isLinear 140 [(0, vr 0), (1, vi k), (2, vi al), (3, vi (uS T e)), (4, vi l), (5, vi c), (6, vi r8)] [] u8 (ri F) := by
                refine sg_isLinear_140 _ _ _ _ _ _ ⟨fun q => absurd q n8, fun _ => ⟨lv, fun u5 e5 => ⟨by rw [vp_in_iff]; omega, fun u9 e9 => ?_⟩⟩⟩
                have cl1 : (l + 1).toNatClampNeg = e + 1 := by have := cl_i (a := l + 1) (by omega); omega
                rw [cl1] at e9
                rw [cle] at e5
                have m5 := md_a u8 115 e c (by decide)
                rw [← e5] at m5
                have m9 := md_a u5 115 (e + 1) (-1) (by decide)
                rw [← e9] at m9
                have uu : uS T e ||| (1 <<< (c &&& 31 : Int32)) = uS T2 (e + 1) := by
                  show uS T e ||| bc c = uS T2 e ||| bc (T2 e)
                  rw [cg e (Nat.le_refl _), T2e]
                rw [uu]
                have lr9 : LR y T2 (e + 1) u9 := by
                  refine ⟨md_tr (md_tr (L3 := [116]) (A3 := [114, 115, 116]) lr8.1 m5 rfl rfl) m9 rfl rfl, fun j hj => ?_, fun j hj => ?_⟩
                  · rw [e9, si_ne 115 j (by omega), e5]
                    by_cases w : j = e
                    · rw [si_get, if_pos ⟨rfl, w⟩, w, T2e]
                    · rw [si_ne 115 j w, T2n j w]; exact lr8.2.1 j (by omega)
                  · rw [m9.2.1 114 (by decide) (by decide), m5.2.1 114 (by decide) (by decide)]; exact o8 j hj
                have t9 : u9.1 115 (e + 1) = -1 := by rw [e9, si_get, if_pos ⟨rfl, rfl⟩]
                refine ih (e + 1) (l + 1) T2 (by omega) (by omega) g2 (fun v c2 lrv => ?_) (N.toInt + 1).toNat u9 lr9 (by rw [t9]; decide) (Or.inr t9) (by rw [t9, km1]; omega)
                obtain ⟨l', el'⟩ : ∃ l', l' = l + 1 + (-1) := ⟨_, rfl⟩
                have ell : l' = l := t_eq.mpr (by rw [el', t_add (by rw [km1]; omega) (by rw [km1]; omega), km1]; omega)
                refine sg_isLinear_140 _ _ _ _ _ _ ⟨fun _ => ?_, fun q => absurd rfl q⟩
                rw [← el', ell]
                refine ⟨fun q => by rw [t_lt, k0] at q; omega, fun _ => ⟨lv, ?_⟩⟩
                have ve : v.1 115 l.toNatClampNeg = c := by rw [cle, lrv.2.1 e (by omega), T2e]
                rw [ve]
                have off : uS T2 (e + 1) &&& ((1 <<< (c &&& 31 : Int32)) ^^^ (-1)) = uS T e := by
                  show (uS T2 e ||| bc (T2 e)) &&& (bc c ^^^ (-1)) = uS T e
                  rw [cg e (Nat.le_refl _), T2e]
                  exact bc_off c0 (by omega) b
                rw [off]
                rw [cle] at ve
                exact ihr v ⟨lrv.1, fun j hj => by rw [lrv.2.1 j (by omega), T2n j (by omega)], fun j hj => lrv.2.2 j (by omega)⟩ (by rw [ve]; omega) (Or.inl (by rw [ve]; omega)) (by rw [ve]; omega)
              exact sg_isLinear_78 _ _ _ _ _ _ ⟨fun _ => p140, fun _ => ⟨fun _ => p140, fun q => absurd q n8⟩⟩
        obtain ⟨c, ec⟩ : ∃ c, c = u0.1 115 l.toNatClampNeg + 1 := ⟨_, rfl⟩
        rw [← ec]
        have ce : c.toInt = (u0.1 115 e).toInt + 1 := by
          rw [ec, cle, t_add (by omega) (by rcases t1 with t1 | t1; omega; rw [t1]; decide), k1]
        exact p78 _ u0 c lr0 (by omega) (by omega) (Int.self_le_toNat _)
  have p4 : ∀ (m : Nat) (al i : Int32), 0 ≤ i.toInt → N.toInt - i.toInt ≤ m → MT G (D + 3) z_isLinear 4 [(0, vr 0), (1, vi k), (2, vi al), (3, vi i)] [] y (ri F) := by
    have last : ∀ al : Int32, vp_in 0 14 ∧ (∀ x3 : gd, x3 = si y 115 (0 : Int32).toNatClampNeg (-1) → MT G (D + 3) z_isLinear 50 [(0, vr 0), (1, vi k), (2, vi al), (3, vi 0), (4, vi 0)] [] x3 (ri F)) := by
      intro al
      refine ⟨by rw [vp_in_iff]; decide, fun u eu => ?_⟩
      have m := md_a y 115 (0 : Int32).toNatClampNeg (-1) (by decide)
      rw [← eu] at m
      have t9 : u.1 115 0 = -1 := by rw [eu, si_get, if_pos ⟨rfl, rfl⟩]
      refine key al 13 0 0 (fun _ => 0) rfl (by omega) (fun j hj => by omega) (fun v c lrv => ?_) (N.toInt + 1).toNat u ⟨md_w m (by decide) (by decide), fun j hj => by omega, fun j hj => by omega⟩ (by rw [t9]; decide) (Or.inr t9) (by rw [t9, km1]; omega)
      have neg : (0 : Int32) + (-1) < 0 := by decide
      exact sg_isLinear_140 _ _ _ _ _ _ ⟨fun _ => ⟨fun _ => sg_isLinear_50 _ _ _ _ ⟨fun _ => ri_i (h _ v lrv.1), fun q => absurd neg q⟩, fun q => absurd neg q⟩, fun q => absurd rfl q⟩
    intro m
    induction m with
    | zero =>
      intro al i i0 hm
      exact sg_isLinear_4 _ _ _ ⟨fun _ => last al, fun q => absurd (t_le.mpr (by rw [← eN]; omega)) q⟩
    | succ m ih =>
      intro al i i0 hm
      refine sg_isLinear_4 _ _ _ ⟨fun _ => last al, fun q => ?_⟩
      rw [t_le, ← eN] at q
      have ii : (i + 1).toInt = i.toInt + 1 := by rw [t_add (by omega) (by omega), k1]
      exact ⟨by rw [vp_in_iff]; omega, fun _ => ih _ (i + 1) (by omega) (by omega), fun _ => ih _ (i + 1) (by omega) (by omega)⟩
  exact sg_isLinear_0 _ (p4 _ 0 0 (by decide) (Int.self_le_toNat _))
theorem MI_o {L A : List Nat} {z z' : gd} (m : mi L A z z') (hL : stL.all (fun k => !L.elem k) = true) (hA : [2, 6, 7, 8, 36, 37, 38, 51, 52, 54, 55, 56, 57, 58, 59, 60, 61, 62, 64, 65, 66, 70, 71, 72, 73, 74, 75, 76, 77, 78, 79, 80, 81, 82, 86, 87, 88, 96, 98, 99, 100, 103, 106, 107, 119, 120, 123, 126, 130, 131, 132].all (fun k => !A.elem k) = true) (o : oA z') (q : MI z) : PM z z' := by
  have f := fun k hk => m.1 k (all_no hL k hk)
  obtain ⟨q1, q2, q3, q4⟩ := q
  have g119 : z'.1 119 = z.1 119 := m.2.1 119 (by decide) (all_no hA 119 (by decide))
  refine ⟨⟨?_, fun h => CP_mi m (all_sub hL rfl) (all_sub hA rfl) (q2 (by rw [f 66 (by decide)] at h; exact h)), fun h => ?_, fun w hw h => ?_⟩, f 2 (by decide), fun k hk => m.1 k (all_no (M := mfL) (all_sub hL rfl) k hk), fun c hc => m.2.1 c (mfA_0 c hc) (all_no (M := mfA) (all_sub hA rfl) c hc)⟩
  · unfold G0
    rw [f 2 (by decide), f 10 (by decide), f 42 (by decide)]
    exact ⟨q1.1, q1.2.1, TK_mi m (all_no hA 6 (by decide)) (all_no hA 8 (by decide)) (all_no hA 7 (by decide)) q1.2.2.1, q1.2.2.2.1, q1.2.2.2.2.1, o⟩
  · rw [f 67 (by decide)] at h
    rw [f 66 (by decide)]
    exact ⟨(q3 h).1, Hist_mi m (all_sub hL rfl) (all_sub hA rfl) (q3 h).2⟩
  · rw [g119] at h
    rw [f 66 (by decide)]
    exact ⟨(q4 w hw h).1, TY_mi m (all_sub hL rfl) (all_sub hA rfl) (q4 w hw h).2⟩
end LIS
