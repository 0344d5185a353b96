section
/-! the model: calls are taken out of the acts -/
section MTA
variable {G : mG} {d D : Nat} {x y z : gd} {F : Int32 → gd → Prop} {s n N : Nat} {H : gHi} {J : List gDe}
/-- while it goes: the calls so far, and where the open ones are -/
def MTk (u : gd) (H : gHi) (n : Nat) : Prop := ∃ N, MHn u H n N ∧ ∀ t c, t < 6 → H.2.2.2 t = some c → c < N → u.1 118 t = Int32.ofNat c
theorem ov_m {H H' : gHi} {c : Nat} (e : (H'.2.2.1 c).2.2.2 = (H.2.2.1 c).2.2.2) : ovB H' n c = ovB H n c := by unfold ovB; rw [e]
theorem MHc_e {H H' : gHi} {c : Nat} (e : H'.2.2.1 c = H.2.2.1 c) (h : MHc z H n c) : MHc z H' n c := by
  unfold MHc at h ⊢
  rw [e, ov_m (H := H) (H' := H') (by rw [e])]; exact h
theorem MHc_z {c : Nat} (f : ∀ a, 109 ≤ a → a ≤ 113 → y.1 a c = z.1 a c) (h : MHc z H n c) : MHc y H n c := by
  unfold MHc at h ⊢
  rw [f 109 (by omega) (by omega), f 110 (by omega) (by omega), f 111 (by omega) (by omega), f 112 (by omega) (by omega), f 113 (by omega) (by omega)]; exact h
theorem sa_take (ha : HA z) (o : oA z) (hj : MJo z J) (bk : bkJ J) (e6 : ∀ (a : Nat) (e : gDe), J[a]? = some e → e.1 < 6) (h12 : (hiJ J).1 ≤ 12) (nI : Int32) (en : nI.toInt = (n : Nat)) (h : ∀ (r : Int32) (z' : gd), mi [107] tcA z z' → oA z' → (∃ N, MHn z' (hiJ J) n N) → r.toInt = ((hiJ J).2.1 : Nat) → F r z') : MT G d z_takeCalls 0 [(0, vr 0), (1, vi nI)] [] z (ri F) := by
  have k0 : (0 : Int32).toInt = 0 := rfl
  have k1 : (1 : Int32).toInt = 1 := rfl
  have k13 : (13 : Int32).toInt = 13 := rfl
  have jl := hj.1
  have a3 := ha.2.2.1
  have a2 := ha.2.1
  have loop : ∀ (m k : Nat) (u : gd) (c i : Int32), i.toInt = (k : Nat) → k ≤ J.length → mi [107] tcA z u → oA u → MTk u (hiJ (J.take k)) n → c.toInt = ((hiJ (J.take k)).2.1 : Nat) → J.length - k ≤ m → MT G d z_takeCalls 9 [(0, vr 0), (1, vi nI), (2, vi c), (3, vi i)] [] u (ri F) := by
    intro m
    have fin : ∀ (k : Nat) (u : gd) (c : Int32), J.length ≤ k → mi [107] tcA z u → oA u → MTk u (hiJ (J.take k)) n → c.toInt = ((hiJ (J.take k)).2.1 : Nat) → ri F (some (vi c)) u := fun k u c hk mu ou ht hc => by
      rw [List.take_of_length_le hk] at ht hc
      obtain ⟨N, hN, -⟩ := ht
      exact ri_i (h c u mu ou ⟨N, hN⟩ hc)
    induction m with
    | zero =>
      intro k u c i ei hk mu ou ht hc hm
      refine sg_takeCalls_9 _ _ _ ⟨fun _ => fin k u c (by omega) mu ou ht hc, fun q => absurd (t_le.mpr ?_) q⟩
      rw [mu.1 96 (by decide)]; omega
    | succ m ih =>
      intro k u c i ei hk mu ou ht hc hm
      refine sg_takeCalls_9 _ _ _ ⟨fun q => fin k u c (by rw [t_le, mu.1 96 (by decide)] at q; omega) mu ou ht hc, fun q => ?_⟩
      rw [t_le, mu.1 96 (by decide)] at q
      have kl : k < J.length := by omega
      obtain ⟨e, he⟩ : ∃ e, J[k]? = some e := ⟨_, List.getElem?_eq_getElem kl⟩
      have iv : vp_in i 400 := by rw [vp_in_iff]; omega
      have ii : (i + 1).toInt = ((k + 1 : Nat) : Int) := by rw [t_add (by rw [k1]; omega) (by rw [k1]; omega), k1, ei]; rfl
      have ci : i.toNatClampNeg = k := by rw [t_cl, ei]; rfl
      obtain ⟨j0, j1, j2, -, j4, j5⟩ := hj.2 k e he
      have g := fun a (h0 : a ≠ 0) ha => mu.2 a h0 ha
      have tk := hiJ_tk he
      obtain ⟨H, eH⟩ : ∃ H, H = hiJ (J.take k) := ⟨_, rfl⟩
      rw [← eH] at ht hc tk
      have hw : hiW H := by rw [eH]; exact hiW_J
      have e400 : H.2.1 ≤ k := by rw [eH]; exact Nat.le_trans hi_ge (by rw [List.length_take]; omega)
      have h12' : H.1 ≤ 12 := by rw [eH]; exact Nat.le_trans hi_tk h12
      have cc : (c + 1).toInt = ((H.2.1 + 1 : Nat) : Int) := by rw [t_add (by rw [k1]; omega) (by rw [k1]; omega), k1, hc]; rfl
      have t6 := e6 k e he
      have tI : (Int32.ofNat e.1).toInt = (e.1 : Nat) := Int32.toInt_ofNat_of_lt (by omega)
      have cT : (Int32.ofNat e.1).toNatClampNeg = e.1 := by rw [t_cl, tI]; rfl
      have tv : vp_in (Int32.ofNat e.1) 6 := by rw [vp_in_iff]; omega
      have fd : (if e.2.2.2.2.2.1 = true then (1 : Int32) else 0) = 0 ↔ e.2.2.2.2.2.1 = false := by
        cases e.2.2.2.2.2.1 with
        | true => exact ⟨fun z => absurd z (by decide), fun z => nomatch z⟩
        | false => exact ⟨fun _ => rfl, fun _ => rfl⟩
      obtain ⟨N, ⟨n1, n2, n3, n4⟩, ho⟩ := ht
      have skip : ¬ s13 e → ¬ s14 e → MT G d z_takeCalls 9 [(0, vr 0), (1, vi nI), (2, vi c), (3, vi (i + 1))] [] u (ri F) := fun a b => by
        rw [hi_n a b] at tk
        exact ih (k + 1) u c (i + 1) ii kl mu ou (by rw [tk]; exact ⟨N, ⟨n1, n2, n3, n4⟩, ho⟩) (by rw [tk]; exact hc) (by omega)
      have next : ∀ v : gd, mi [107] tcA z v → oA v → MTk v (hiS H e) n → (hiS H e).2.1 = H.2.1 + 1 → MT G d z_takeCalls 9 [(0, vr 0), (1, vi nI), (2, vi (c + 1)), (3, vi (i + 1))] [] v (ri F) := fun v mv ov hv e21 => ih (k + 1) v (c + 1) (i + 1) ii kl mv ov (by rw [tk]; exact hv) (by rw [tk, e21]; exact cc) (by omega)
      have c98 : u.1 98 k = Int32.ofNat e.1 := by rw [g 98 (by decide) (by decide)]; exact j0
      have c99 : u.1 99 k = Int32.ofNat e.2.1 := by rw [g 99 (by decide) (by decide)]; exact j1
      have c100 : u.1 100 k = e.2.2.1 := by rw [g 100 (by decide) (by decide)]; exact j2
      have c102 : u.1 102 k = e.2.2.2.2.1 := by rw [g 102 (by decide) (by decide)]; exact j4
      have c103 : u.1 103 k = if e.2.2.2.2.2.1 = true then 1 else 0 := by rw [g 103 (by decide) (by decide)]; exact j5
      -- a call that comes too late is not told
      have late : n ≤ H.2.1 → s13 e ∨ s14 e → MTk u (hiS H e) n := fun hl hs => by
        by_cases c13 : s13 e
        · rw [hi_B c13]
          refine ⟨N, ⟨n1, by show N ≤ H.1 + 1; omega, fun c9 hc9 => ?_, fun c9 hc9 => MHc_e (upf_ne (by omega)) (n4 c9 hc9)⟩, fun t c9 ht9 ho9 hc9 => ?_⟩
          · have hc9 : c9 < H.1 + 1 := hc9
            show (upf H.2.2.1 H.1 (e.2.2.1, e.2.2.2.2.1, H.2.1, none) c9).2.2.1 < n ↔ c9 < N
            by_cases e9 : c9 = H.1
            · rw [e9, upf_eq]; exact ⟨fun q => absurd q (by show ¬ H.2.1 < n; omega), fun q => absurd q (by omega)⟩
            · rw [upf_ne e9]; exact n3 c9 (by omega)
          · have ho9 : upf H.2.2.2 e.1 (some H.1) t = some c9 := ho9
            by_cases e9 : t = e.1
            · rw [e9, upf_eq] at ho9
              have := Option.some.inj ho9
              omega
            · rw [upf_ne e9] at ho9; exact ho t c9 ht9 ho9 hc9
        · have c14 := hs.resolve_left c13
          cases ok : H.2.2.2 e.1 with
          | none => rw [hi_E0 c14 ok]; exact ⟨N, ⟨n1, n2, n3, fun c9 hc9 => MHc_e rfl (n4 c9 hc9)⟩, ho⟩
          | some b =>
            rw [hi_E c14 ok]
            obtain ⟨b1, b2⟩ := hw.2.2.2.1 e.1 b ok
            have fr : ∀ c9, (upf H.2.2.1 b ((H.2.2.1 b).1, (H.2.2.1 b).2.1, (H.2.2.1 b).2.2.1, some (H.2.1, e.2.2.2.2.1)) c9).2.2.1 = (H.2.2.1 c9).2.2.1 := fun c9 => by
              by_cases e1 : c9 = b
              · rw [e1, upf_eq]
              · rw [upf_ne e1]
            refine ⟨N, ⟨n1, n2, fun c9 hc9 => by show (upf H.2.2.1 b ((H.2.2.1 b).1, (H.2.2.1 b).2.1, (H.2.2.1 b).2.2.1, some (H.2.1, e.2.2.2.2.1)) c9).2.2.1 < n ↔ _; rw [fr]; exact n3 c9 hc9, fun c9 hc9 => ?_⟩, fun t c9 ht9 ho9 hc9 => ?_⟩
            · by_cases e9 : c9 = b
              · obtain ⟨q1, q2, q3, q4, q5⟩ := n4 c9 hc9
                have eN : (hiE H e b).2.2.1 c9 = ((H.2.2.1 b).1, (H.2.2.1 b).2.1, (H.2.2.1 b).2.2.1, some (H.2.1, e.2.2.2.2.1)) := by rw [e9]; exact upf_eq
                unfold MHc
                rw [eN]
                rw [e9] at q1 q2 q3
                have o0 : ovB H n c9 = false := by rw [e9]; unfold ovB; rw [b2]
                refine ⟨by rw [e9]; exact q1, by rw [e9]; exact q2, by rw [e9]; exact q3, fun p hp hp1 => ?_, fun _ => q5 o0⟩
                rw [← Option.some.inj hp] at hp1
                exact absurd hp1 (by show ¬ H.2.1 < n; omega)
              · exact MHc_e (upf_ne e9) (n4 c9 hc9)
            · have ho9 : upf H.2.2.2 e.1 none t = some c9 := ho9
              by_cases e9 : t = e.1
              · rw [e9, upf_eq] at ho9; exact nomatch ho9
              · rw [upf_ne e9] at ho9; exact ho t c9 ht9 ho9 hc9
      have e21 : s13 e ∨ s14 e → (hiS H e).2.1 = H.2.1 + 1 := fun hs => by
        by_cases c13 : s13 e
        · rw [hi_B c13]; rfl
        · have c14 := hs.resolve_left c13
          cases ok : H.2.2.2 e.1 with
          | none => rw [hi_E0 c14 ok]
          | some b => rw [hi_E c14 ok]; rfl
      have p158 : (s13 e → n ≤ H.2.1) → (s13 e ∨ s14 e) → MT G d z_takeCalls 158 [(0, vr 0), (1, vi nI), (2, vi c), (3, vi i), (4, vi (Int32.ofNat e.1))] [] u (ri F) := by
        intro h13 hs
        refine sg_takeCalls_158 _ _ _ _ ?_
        rw [ci, c99]
        refine ⟨fun le => next u mu ou (late (by rw [t_le, en, hc] at le; omega) hs) (e21 hs), fun nle => ?_⟩
        rw [t_le, en, hc] at nle
        have n13 : ¬ s13 e := fun z9 => by have := h13 z9; omega
        have c14 := hs.resolve_left n13
        refine ⟨iv, fun n14 => absurd c14.2 n14, fun _ => ?_⟩
        obtain ⟨b, ok⟩ : ∃ b, H.2.2.2 e.1 = some b := by
          cases ok : H.2.2.2 e.1 with
          | none => exact absurd (by rw [eH] at ok; exact ok) (bk k e he c14)
          | some b => exact ⟨b, rfl⟩
        obtain ⟨b1, b2⟩ := hw.2.2.2.1 e.1 b ok
        have bf := (hw.2.1 b b1).1
        have bN : b < N := (n3 b b1).mp (by omega)
        have ob := ho e.1 b t6 ok bN
        have bI : (Int32.ofNat b).toInt = (b : Nat) := Int32.toInt_ofNat_of_lt (by omega)
        have cB : (Int32.ofNat b).toNatClampNeg = b := by rw [t_cl, bI]; rfl
        rw [cT, ob, cB]
        refine ⟨tv, by rw [vp_in_iff]; omega, fun u6 e6' => ⟨tv, iv, ?_⟩⟩
        have u118 : u6.1 118 e.1 = Int32.ofNat b := by rw [e6', si_cell (by decide)]; exact ob
        have u102 : u6.1 102 k = e.2.2.2.2.1 := by rw [e6', si_cell (by decide)]; exact c102
        rw [u118, cB, u102]
        refine ⟨by rw [vp_in_iff]; omega, fun u10 e10 => ?_⟩
        have m6 := md_a u 113 b c (by decide)
        rw [← e6'] at m6
        have m10 := md_a u6 111 b e.2.2.2.2.1 (by decide)
        rw [← e10] at m10
        have m : md [] [111, 113] u u10 := md_tr m6 m10 rfl rfl
        refine next u10 (mi_tr mu (mi_of m) rfl rfl) (oA_md m (by decide) ou) ?_ (e21 hs)
        rw [hi_E c14 ok]
        have fr : ∀ c9, (upf H.2.2.1 b ((H.2.2.1 b).1, (H.2.2.1 b).2.1, (H.2.2.1 b).2.2.1, some (H.2.1, e.2.2.2.2.1)) c9).2.2.1 = (H.2.2.1 c9).2.2.1 := fun c9 => by
          by_cases e1 : c9 = b
          · rw [e1, upf_eq]
          · rw [upf_ne e1]
        refine ⟨N, ⟨by rw [m.1 107 (by decide)]; exact n1, n2, fun c9 hc9 => by show (upf H.2.2.1 b ((H.2.2.1 b).1, (H.2.2.1 b).2.1, (H.2.2.1 b).2.2.1, some (H.2.1, e.2.2.2.2.1)) c9).2.2.1 < n ↔ _; rw [fr]; exact n3 c9 hc9, fun c9 hc9 => ?_⟩, fun t c9 ht9 ho9 hc9 => ?_⟩
        · by_cases e9 : c9 = b
          · obtain ⟨q1, q2, q3, q4, q5⟩ := n4 c9 hc9
            have eN : (hiE H e b).2.2.1 c9 = ((H.2.2.1 b).1, (H.2.2.1 b).2.1, (H.2.2.1 b).2.2.1, some (H.2.1, e.2.2.2.2.1)) := by rw [e9]; exact upf_eq
            unfold MHc
            rw [m.2.1 109 (by decide) (by decide), m.2.1 110 (by decide) (by decide), m.2.1 112 (by decide) (by decide), eN]
            rw [e9] at q1 q2 q3
            have z3 : u10.1 113 b = c := by rw [e10, si_cell (by decide), e6', si_get, if_pos ⟨rfl, rfl⟩]
            have z1 : u10.1 111 b = e.2.2.2.2.1 := by rw [e10, si_get, if_pos ⟨rfl, rfl⟩]
            refine ⟨by rw [e9]; exact q1, by rw [e9]; exact q2, by rw [e9]; exact q3, fun p hp _ => ?_, fun o0 => ?_⟩
            · rw [e9, z3, z1, ← Option.some.inj hp]; exact ⟨hc, rfl⟩
            · have o1 : ovB (hiE H e b) n c9 = true := by
                unfold ovB
                rw [eN]
                exact decide_eq_true (show H.2.1 < n by omega)
              rw [o0] at o1; exact nomatch o1
          · refine MHc_z (fun a a1 a2 => ?_) (MHc_e (upf_ne e9) (n4 c9 hc9))
            rw [e10, si_get, if_neg (fun q => e9 q.2), e6', si_get, if_neg (fun q => e9 q.2)]
        · have ho9 : upf H.2.2.2 e.1 none t = some c9 := ho9
          rw [m.2.1 118 (by decide) (by decide)]
          by_cases e9 : t = e.1
          · rw [e9, upf_eq] at ho9; exact nomatch ho9
          · rw [upf_ne e9] at ho9; exact ho t c9 ht9 ho9 hc9
      have p59 : (s13 e ∨ s14 e) → MT G d z_takeCalls 59 [(0, vr 0), (1, vi nI), (2, vi c), (3, vi i), (4, vi (Int32.ofNat e.1))] [] u (ri F) := by
        intro hs
        refine sg_takeCalls_59 _ _ _ _ ?_
        rw [ci, c99]
        refine ⟨fun le => p158 (fun _ => by rw [t_le, en, hc] at le; omega) hs, fun nle => ⟨iv, fun n13 => p158 (fun z9 => absurd z9.2 n13) hs, fun e13 => ?_⟩⟩
        rw [t_le, en, hc] at nle
        have c13 : s13 e := hs.resolve_right (fun z9 => absurd (e13.symm.trans z9.2) (by decide))
        -- all calls so far are told
        have NH : N = H.1 := by
          have : ¬ N < H.1 := fun l => by
            have := (n3 N l).mp (by have := (hw.2.1 N l).1; omega)
            omega
          omega
        have tk1 : (hiJ (J.take (k + 1))).1 ≤ 12 := Nat.le_trans hi_tk h12
        rw [tk, hi_B c13] at tk1
        have tk1 : H.1 + 1 ≤ 12 := tk1
        refine ⟨fun l13 => by rw [t_le, k13, n1] at l13; omega, fun _ => ?_⟩
        have nv : ∀ u' : gd, u'.1 0 107 = u.1 0 107 → vp_in (u'.1 0 107) 14 := fun u' e => by rw [e, vp_in_iff]; omega
        have cN : (u.1 0 107).toNatClampNeg = N := by rw [t_cl, n1]; rfl
        rw [cN, c100]
        refine ⟨iv, nv u rfl, fun u7 e7 => ?_⟩
        have m7 := md_a u 109 N e.2.2.1 (by decide)
        rw [← e7] at m7
        rw [m7.1 107 (by decide), m7.2.1 102 (by decide) (by decide), cN, c102]
        refine ⟨iv, nv u rfl, fun u10 e10 => ?_⟩
        have m10 := md_a u7 110 N e.2.2.2.2.1 (by decide)
        rw [← e10] at m10
        have M10 : md [] [109, 110] u u10 := md_tr m7 m10 rfl rfl
        rw [M10.1 107 (by decide), cN]
        refine ⟨nv u rfl, fun u12 e12 => ?_⟩
        have m12 := md_a u10 112 N c (by decide)
        rw [← e12] at m12
        have M12 : md [] [109, 110, 112] u u12 := md_tr M10 m12 rfl rfl
        rw [M12.1 107 (by decide), cN]
        refine ⟨nv u rfl, fun u14 e14 => ?_⟩
        have m14 := md_a u12 113 N (-1) (by decide)
        rw [← e14] at m14
        have M14 : md [] [109, 110, 112, 113] u u14 := md_tr M12 m14 rfl rfl
        rw [M14.1 107 (by decide), cT]
        refine ⟨tv, fun u16 e16 u17 e17 => ?_⟩
        have m16 := md_a u14 118 e.1 (u.1 0 107) (by decide)
        rw [← e16] at m16
        have M16 : md [] [109, 110, 112, 113, 118] u u16 := md_tr M14 m16 rfl rfl
        rw [M16.1 107 (by decide)] at e17
        have m17 := md_f u16 107 (u.1 0 107 + 1)
        rw [← e17] at m17
        have M17 : md [107] [109, 110, 112, 113, 118] u u17 := md_tr M16 m17 rfl rfl
        have h17 : (u17.1 0 107).toInt = ((N + 1 : Nat) : Int) := by rw [e17, si_get, if_pos ⟨rfl, rfl⟩, t_add (by rw [k1]; omega) (by rw [k1]; omega), k1, n1]; rfl
        have o16 : oA u16 := by
          rw [e16]
          exact oA_si (oA_md M14 (by decide) ou) (by omega) (by omega)
        refine next u17 (mi_tr mu (mi_of M17) rfl rfl) (oA_md m17 (by decide) o16) ?_ (e21 hs)
        rw [hi_B c13]
        have gc : ∀ a c9, a ≠ 0 → a ≠ 118 → u17.1 a c9 = u14.1 a c9 := fun a c9 h0 h1 => by rw [e17, si_get, if_neg (fun q => h0 q.1), e16, si_get, if_neg (fun q => h1 q.1)]
        refine ⟨N + 1, ⟨h17, by show N + 1 ≤ H.1 + 1; omega, fun c9 hc9 => ?_, fun c9 hc9 => ?_⟩, fun t c9 ht9 ho9 hc9 => ?_⟩
        · have hc9 : c9 < H.1 + 1 := hc9
          show (upf H.2.2.1 H.1 (e.2.2.1, e.2.2.2.2.1, H.2.1, none) c9).2.2.1 < n ↔ c9 < N + 1
          by_cases e9 : c9 = H.1
          · rw [e9, upf_eq]; exact ⟨fun _ => by omega, fun _ => by show H.2.1 < n; omega⟩
          · rw [upf_ne e9]
            have := n3 c9 (by omega)
            exact ⟨fun q => by have := this.mp q; omega, fun _ => this.mpr (by omega)⟩
        · by_cases e9 : c9 = N
          · have eN : (hiB H e).2.2.1 c9 = (e.2.2.1, e.2.2.2.2.1, H.2.1, none) := by rw [e9, NH]; exact upf_eq
            unfold MHc
            rw [eN, e9]
            refine ⟨?_, ?_, ?_, fun p hp => (nomatch hp), fun _ => ?_⟩
            · rw [gc 109 N (by decide) (by decide), e14, si_cell (by decide), e12, si_cell (by decide), e10, si_cell (by decide), e7, si_get, if_pos ⟨rfl, rfl⟩]
            · rw [gc 110 N (by decide) (by decide), e14, si_cell (by decide), e12, si_cell (by decide), e10, si_get, if_pos ⟨rfl, rfl⟩]
            · rw [gc 112 N (by decide) (by decide), e14, si_cell (by decide), e12, si_get, if_pos ⟨rfl, rfl⟩]; exact hc
            · rw [gc 113 N (by decide) (by decide), e14, si_get, if_pos ⟨rfl, rfl⟩]
          · refine MHc_z (fun a a1 a2 => ?_) (MHc_e (H := H) (upf_ne (by omega)) (n4 c9 (by omega)))
            rw [gc a c9 (by omega) (by omega), e14, si_get, if_neg (fun q => e9 q.2), e12, si_get, if_neg (fun q => e9 q.2), e10, si_get, if_neg (fun q => e9 q.2), e7, si_get, if_neg (fun q => e9 q.2)]
        · have ho9 : upf H.2.2.2 e.1 (some H.1) t = some c9 := ho9
          rw [e17, si_get, if_neg (by omega), e16, si_get]
          by_cases e9 : t = e.1
          · rw [e9, upf_eq] at ho9
            rw [if_pos ⟨rfl, e9⟩, ← Option.some.inj ho9, ← NH]
            exact i32_of n1
          · rw [upf_ne e9] at ho9
            rw [if_neg (fun q => e9 q.2), M14.2.1 118 (by decide) (by decide)]
            exact ho t c9 ht9 ho9 (by have := (hw.2.2.2.1 t c9 ho9).1; omega)
      rw [ci, c98, c99, c103]
      exact ⟨iv, iv, fun nf => skip (fun z => nf (fd.mpr z.1)) (fun z => nf (fd.mpr z.1)), fun f0 => ⟨iv, fun c13 => p59 (Or.inl ⟨fd.mp f0, c13⟩), fun n13 => ⟨iv, fun c14 => p59 (Or.inr ⟨fd.mp f0, c14⟩), fun n14 => skip (fun z => n13 z.2) (fun z => n14 z.2)⟩⟩⟩
  refine sg_takeCalls_0 _ (fun y e => ?_)
  have m := md_f z 107 0
  rw [← e] at m
  have e0 : y.1 0 107 = 0 := by rw [e, si_get, if_pos ⟨rfl, rfl⟩]
  exact loop J.length 0 y 0 0 rfl (Nat.zero_le _) (mi_w (mi_of m) (by decide) (by decide)) (oA_md m (by decide) o) (by rw [hiJ_0]; exact ⟨0, ⟨by rw [e0]; rfl, Nat.zero_le _, fun c hc => absurd hc (Nat.not_lt_zero _), fun c hc => absurd hc (Nat.not_lt_zero _)⟩, fun t c _ hc => absurd hc hi0_n⟩) (by rw [hiJ_0]; rfl) (by omega)
end MTA
end
section
/-! calls in the acts of every run: one that is over was begun; kinds -/
section PCA
variable {C : gCo} {w t n : Nat} {M : gMa} {J : List gDe} {e : gDe} {wk : Option Nat} {c : Nat → Nat}
theorem ef_fl {s a : Nat} {f g : Int32} (n13 : ¬ s = 13) (n14 : ¬ s = 14) (o : Nat) : ((efM C w M t s a f g wk).1.2.2 o).2.2.2.2.2.1 = (M.2.2 o).2.2.2.2.2.1 := by
  have up : ∀ (M' : gMa) (u : Nat) (h : gTq), M'.2.2 = M.2.2 → h.2.2.2.2.2.1 = (M.2.2 u).2.2.2.2.2.1 → ((upT M' u h).2.2 o).2.2.2.2.2.1 = (M.2.2 o).2.2.2.2.2.1 := fun M' u h e1 e2 => by
    show (upf M'.2.2 u h o).2.2.2.2.2.1 = _
    by_cases co : o = u
    · rw [co, upf_eq]; exact e2
    · rw [upf_ne co, e1]
  unfold efM
  by_cases h0 : s = 0
  · rw [if_pos h0]
  rw [if_neg h0]
  by_cases h1 : s = 1
  · rw [if_pos h1]
    by_cases hw : w = 0 ∨ suM C a = true
    · rw [if_pos hw]; rfl
    · rw [if_neg hw]; exact up M t _ rfl rfl
  rw [if_neg h1]
  by_cases h2 : s = 2
  · rw [if_pos h2]; rfl
  rw [if_neg h2]
  by_cases h3 : s = 3
  · rw [if_pos h3]; rfl
  rw [if_neg h3]
  by_cases h4 : s = 4
  · rw [if_pos h4]; rfl
  rw [if_neg h4]
  by_cases h5 : s = 5
  · rw [if_pos h5]; rfl
  rw [if_neg h5]
  by_cases h6 : s = 6
  · rw [if_pos h6]; rfl
  rw [if_neg h6]
  by_cases h7 : s = 7
  · rw [if_pos h7]; exact up _ t _ rfl rfl
  rw [if_neg h7]
  by_cases h8 : s = 8
  · rw [if_pos h8]
    show (if o < C.2.1.length ∧ _ then ((M.2.2 o).1, (M.2.2 o).2.1, (M.2.2 o).2.2.1, 2, (M.2.2 o).2.2.2.2) else M.2.2 o).2.2.2.2.2.1 = _
    split <;> rfl
  rw [if_neg h8]
  by_cases h9 : s = 9
  · rw [if_pos h9]
    cases hq : C.2.1[a]? with
    | none => rfl
    | some q => exact up M a _ rfl rfl
  rw [if_neg h9, if_neg n13, if_neg n14]
  by_cases h15 : s = 15
  · rw [if_pos h15]; exact up _ t _ rfl rfl
  rw [if_neg h15]
/-- whose call stays or comes -/
theorem ac_fl {o : Nat} (h : ¬ ((acM C w M t wk).2.2 o).2.2.2.2.2.1 = -1) : (o = t ∧ (lkM C w M t).1 = 0 ∧ soM C (M.2.2 t) = 13) ∨ (¬ (M.2.2 o).2.2.2.2.2.1 = -1 ∧ ¬ (o = t ∧ (lkM C w M t).1 = 0 ∧ soM C (M.2.2 t) = 14)) := by
  unfold acM at h
  by_cases l0 : (lkM C w M t).1 = 0
  · rw [if_neg (fun z => z l0)] at h
    by_cases s7 : soM C (M.2.2 t) = 7
    · rw [if_pos s7, ef_fl (by decide) (by decide)] at h
      exact Or.inr ⟨h, fun z => by rw [s7] at z; exact absurd z.2.2 (by decide)⟩
    · rw [if_neg s7] at h
      obtain ⟨X, eX⟩ : ∃ X, X = (efM C w M t (soM C (M.2.2 t)) (lkM C w M t).2.1.toNatClampNeg (lkM C w M t).2.2.1 (lkM C w M t).2.2.2 wk).1 := ⟨_, rfl⟩
      have k : ¬ (X.2.2 o).2.2.2.2.2.1 = -1 := by
        intro z
        refine h ?_
        rw [← eX]
        show (upf X.2.2 t (thN C t (X.2.2 t) _ _) o).2.2.2.2.2.1 = -1
        by_cases co : o = t
        · rw [co, upf_eq]; rw [co] at z; exact z
        · rw [upf_ne co]; exact z
      by_cases c13 : soM C (M.2.2 t) = 13
      · by_cases co : o = t
        · exact Or.inl ⟨co, l0, c13⟩
        · refine Or.inr ⟨?_, fun z => co z.1⟩
          have e9 : (X.2.2 o) = M.2.2 o := by
            rw [eX, c13]
            unfold efM
            show (upf M.2.2 t _ o) = _
            exact upf_ne co
          rw [e9] at k; exact k
      · by_cases c14 : soM C (M.2.2 t) = 14
        · by_cases co : o = t
          · refine absurd ?_ k
            rw [eX, c14, co]
            unfold efM
            show (upf M.2.2 t _ t).2.2.2.2.2.1 = -1
            rw [upf_eq]
          · refine Or.inr ⟨?_, fun z => co z.1⟩
            have e9 : (X.2.2 o) = M.2.2 o := by
              rw [eX, c14]
              unfold efM
              show (upf M.2.2 t _ o) = _
              exact upf_ne co
            rw [e9] at k; exact k
        · rw [eX, ef_fl c13 c14] at k
          exact Or.inr ⟨k, fun z => c14 z.2.2⟩
  · rw [if_pos l0] at h
    refine Or.inr ⟨fun z => h ?_, fun z => l0 z.2.1⟩
    show (upf M.2.2 t (thF (M.2.2 t) _) o).2.2.2.2.2.1 = -1
    by_cases co : o = t
    · rw [co, upf_eq]; rw [co] at z; exact z
    · rw [upf_ne co]; exact z
theorem la_fl {i o : Nat} : ((laM M t i).2.2 o).2.2.2.2.2.1 = (M.2.2 o).2.2.2.2.2.1 := by
  unfold laM
  cases hq : (M.2.2 t).2.2.2.2.2.2.1[i]? with
  | none => rfl
  | some q =>
    show (upf M.2.2 t _ o).2.2.2.2.2.1 = _
    by_cases co : o = t
    · rw [co, upf_eq]
    · rw [upf_ne co]
/-- what holds of the acts of a run -/
def RJc (M : gMa) (J : List gDe) : Prop := (∀ t, ¬ (M.2.2 t).2.2.2.2.2.1 = -1 → opJ J t) ∧ bkJ J ∧ ∀ (a : Nat) (e : gDe), J[a]? = some e → e.1 < 6 ∧ (s13 e → kd4 e.2.2.1)
theorem so_22 (hN : NC C) {h : gTq} : soM C h < 22 := by
  unfold soM stN
  cases hq : C.1[h.2.2.1]? with
  | none => split <;> decide
  | some st =>
    have := (hN.1 _ st hq).1.1
    split
    · exact this
    · decide
theorem of22 {k m : Nat} (hk : k < 22) (hm : m < 22) (h : Int32.ofNat k = Int32.ofNat m) : k = m := by
  rw [t_eq, Int32.toInt_ofNat_of_lt (by omega), Int32.toInt_ofNat_of_lt (by omega)] at h; omega
theorem op_sn (h : opJ J t) (n : ¬ (s14 e ∧ t = e.1)) : opJ (J ++ [e]) t := by
  unfold opJ at h ⊢
  rw [hiJ_sn]
  by_cases c1 : s13 e
  · rw [hi_B c1]
    show ¬ upf (hiJ J).2.2.2 e.1 (some (hiJ J).1) t = none
    by_cases ct : t = e.1
    · rw [ct, upf_eq]; exact fun z => nomatch z
    · rw [upf_ne ct]; exact h
  · by_cases c2 : s14 e
    · cases o : (hiJ J).2.2.2 e.1 with
      | none => rw [hi_E0 c2 o]; exact h
      | some k =>
        rw [hi_E c2 o]
        show ¬ upf (hiJ J).2.2.2 e.1 none t = none
        rw [upf_ne (fun z => n ⟨c2, z⟩)]; exact h
    · rw [hi_n c1 c2]; exact h
theorem RJ_0 : RJc (fsM C) [] := by
  refine ⟨fun t h => absurd ?_ h, fun a e h => (jo_nil h).elim, fun a e h => (jo_nil h).elim⟩
  show (match C.2.1[t]? with | some q => if q.2 = 1 then th0 else thN C t th0 q.1 (fun _ => 0) | none => th0 : gTq).2.2.2.2.2.1 = -1
  cases C.2.1[t]? with
  | none => rfl
  | some q =>
    show (if q.2 = 1 then th0 else thN C t th0 q.1 (fun _ => 0)).2.2.2.2.2.1 = -1
    split <;> rfl
theorem bk_sn (h : bkJ J) (g : s14 e → opJ J e.1) : bkJ (J ++ [e]) := by
  intro a x hx h14
  by_cases c : a < J.length
  · rw [List.getElem?_append_left c] at hx
    rw [List.take_append_of_le_length (by omega)]
    exact h a x hx h14
  · have hl := gt_lt hx
    rw [List.length_append] at hl
    have hl : a < J.length + 1 := hl
    have ea : a = J.length := by omega
    rw [ea, List.getElem?_append_right (Nat.le_refl _), Nat.sub_self] at hx
    have ex : e = x := Option.some.inj hx
    rw [ea, List.take_append_of_le_length (Nat.le_refl _), List.take_length, ← ex]
    exact g (by rw [ex]; exact h14)
theorem RJ_ac (hN : NC C) (hX : NXc C) (hk : NKd C) (ht : t < 6) (h : RJc M J) : RJc (acM C w M t wk) (J ++ [deA C w M t wk]) := by
  obtain ⟨r1, r2, r3⟩ := h
  have s22 := so_22 (C := C) (h := M.2.2 t) hN
  have d14 : s14 (deA C w M t wk) → (lkM C w M t).1 = 0 ∧ soM C (M.2.2 t) = 14 := fun q => by
    have q1 : decide (¬ (lkM C w M t).1 = 0) = false := q.1
    exact ⟨Classical.byContradiction (fun z => by rw [decide_eq_true z] at q1; exact nomatch q1), of22 (m := 14) s22 (by decide) q.2⟩
  have d13 : s13 (deA C w M t wk) → (lkM C w M t).1 = 0 ∧ soM C (M.2.2 t) = 13 := fun q => by
    have q1 : decide (¬ (lkM C w M t).1 = 0) = false := q.1
    exact ⟨Classical.byContradiction (fun z => by rw [decide_eq_true z] at q1; exact nomatch q1), of22 (m := 13) s22 (by decide) q.2⟩
  -- an act of 13 or 14 that was done: what was looked at
  have look : ∀ k, (k = 13 ∨ k = 14) → (lkM C w M t).1 = 0 → soM C (M.2.2 t) = k → (M.2.2 t).2.2.2.1 = 0 ∧ (stN C (M.2.2 t).2.2.1).1 = k ∧ rsF C w M t k (lkI C M t).2.toNatClampNeg = 0 ∧ (lkM C w M t).2.1 = (lkI C M t).2 := fun k hk l0 sk => by
    have w0 : (M.2.2 t).2.2.2.1 = 0 := Classical.byContradiction (fun z => by unfold soM at sk; rw [if_neg z] at sk; omega)
    have e1 : (stN C (M.2.2 t).2.2.1).1 = k := by unfold soM at sk; rw [if_pos w0] at sk; exact sk
    by_cases i0 : (lkI C M t).1 = 0
    · cases ev1 : evO (M.2.2 t).2.2.2.2.2.2.2 (Int32.ofNat t) (stN C (M.2.2 t).2.2.1).2.2.2.2.2.2.2.2.1 with
      | none => rw [lkM_1 w0 i0 ev1] at l0; exact absurd l0 (show ¬ 1 = 0 by decide)
      | some f =>
        cases ev2 : evO (M.2.2 t).2.2.2.2.2.2.2 (Int32.ofNat t) (stN C (M.2.2 t).2.2.1).2.2.2.2.2.2.2.2.2 with
        | none => rw [lkM_2 w0 i0 ev1 ev2] at l0; exact absurd l0 (show ¬ 1 = 0 by decide)
        | some g =>
          have e3 := lkM_3 (C := C) (w := w) w0 i0 ev1 ev2
          rw [e3] at l0 ⊢
          rw [e1] at l0
          exact ⟨w0, e1, l0, rfl⟩
    · rw [lkM_i w0 i0] at l0; exact absurd l0 i0
  have e14 : s14 (deA C w M t wk) → opJ J t := fun q => by
    obtain ⟨l0, s14'⟩ := d14 q
    obtain ⟨-, -, rs, -⟩ := look 14 (Or.inr rfl) l0 s14'
    refine r1 t (fun z => ?_)
    unfold rsF at rs
    rw [if_neg (by omega), if_neg (by omega), if_neg (by omega), if_pos (Or.inr ⟨rfl, z⟩)] at rs
    exact absurd rs (by decide)
  refine ⟨fun o ho => ?_, bk_sn r2 e14, fun a x hx => ?_⟩
  · rcases ac_fl ho with ⟨z1, z2, z3⟩ | ⟨z1, z2⟩
    · rw [z1]
      unfold opJ
      have s : s13 (deA C w M t wk) := ⟨decide_eq_false (fun z => z z2), by show Int32.ofNat (soM C (M.2.2 t)) = 13; rw [z3]; rfl⟩
      rw [hiJ_sn, hi_B s]
      show ¬ upf (hiJ J).2.2.2 t (some (hiJ J).1) t = none
      rw [upf_eq]; exact fun z => nomatch z
    · refine op_sn (r1 o z1) (fun z => z2 ⟨z.2, d14 z.1⟩)
  · by_cases c : a < J.length
    · rw [List.getElem?_append_left c] at hx; exact r3 a x hx
    · have hl := gt_lt hx
      rw [List.length_append] at hl
      have hl : a < J.length + 1 := hl
      have ea : a = J.length := by omega
      rw [ea, List.getElem?_append_right (Nat.le_refl _), Nat.sub_self] at hx
      have ex : deA C w M t wk = x := Option.some.inj hx
      rw [← ex]
      refine ⟨ht, fun q => ?_⟩
      obtain ⟨l0, s9⟩ := d13 q
      obtain ⟨w0, e1, -, e2⟩ := look 13 (Or.inl rfl) l0 s9
      show kd4 (lkM C w M t).2.1
      rw [e2]
      cases hq : C.1[(M.2.2 t).2.2.1]? with
      | none =>
        unfold stN at e1
        rw [hq] at e1
        exact absurd e1 (show ¬ 0 = 13 by decide)
      | some st =>
        have es := stN_is hq
        rw [es] at e1
        have i0 : st.2.2.2.2.2.2.2.1 = none := Classical.byContradiction (fun z => by have := (hX _ st hq).1 z; omega)
        have li : lkI C M t = (0, st.2.2.2.2.1) := by rw [lkI_n (by rw [es]; exact i0), es]
        rw [li]
        show kd4 st.2.2.2.2.1
        obtain ⟨b0, b3⟩ := hk _ st hq e1
        have z0 : (0 : Int32).toInt = 0 := rfl
        have z1 : (1 : Int32).toInt = 1 := rfl
        have z2 : (2 : Int32).toInt = 2 := rfl
        have z3 : (3 : Int32).toInt = 3 := rfl
        unfold kd4
        rw [t_eq, t_eq, t_eq, t_eq, z0, z1, z2, z3]
        omega
theorem RJ_run (gc : GC C) (hk : NKd C) : ∀ {n : Nat}, (∀ k, k < n → c k < (chM C w (runM C w c k)).length) → RJc (runM C w c n) (joM C w c n) := by
  intro n
  induction n with
  | zero => exact fun _ => RJ_0
  | succ n ih =>
    intro h
    have hl := h n (by omega)
    have hg : (chM C w (runM C w c n))[c n]? = some _ := List.getElem?_eq_getElem hl
    have r := ih (fun k hk => h k (by omega))
    rw [runM_s hg, joM_s hg]
    obtain ⟨ch, ech⟩ : ∃ ch, ch = (chM C w (runM C w c n))[c n] := ⟨_, rfl⟩
    rw [← ech]
    have hc : ch ∈ chM C w (runM C w c n) := by rw [ech]; exact List.getElem_mem hl
    obtain ⟨i1, i2, i3⟩ := ch_in hc
    unfold doM deM
    cases hn : ch.2.1 with
    | some i =>
      show RJc (laM (runM C w c n) ch.1 i) (joM C w c n ++ [])
      rw [List.append_nil]
      exact ⟨fun t ht => r.1 t (by rw [la_fl] at ht; exact ht), r.2⟩
    | none => exact RJ_ac gc.1 gc.2.1 hk (by have := gc.2.2; omega) r
end PCA
theorem hi_nCa : ∀ {J : List gDe}, (hiJ J).1 = nCa J := by
  have key : ∀ (J : List gDe) (H : gHi), (J.foldl hiS H).1 = H.1 + nCa J := by
    intro J
    induction J with
    | nil => intro H; rfl
    | cons e J ih =>
      intro H
      show (J.foldl hiS (hiS H e)).1 = _
      rw [ih]
      unfold nCa
      by_cases c1 : s13 e
      · have p : pCa e = true := decide_eq_true ⟨c1.2, c1.1⟩
        rw [hi_B c1, List.filter_cons_of_pos p, List.length_cons]
        show H.1 + 1 + _ = _
        omega
      · have p : ¬ pCa e = true := fun z => c1 ⟨(of_decide_eq_true z).2, (of_decide_eq_true z).1⟩
        rw [List.filter_cons_of_neg p]
        by_cases c2 : s14 e
        · cases o : H.2.2.2 e.1 with
          | none => rw [hi_E0 c2 o]
          | some k => rw [hi_E c2 o]; rfl
        · rw [hi_n c1 c2]
  intro J
  have := key J hi0
  unfold hiJ
  rw [this]
  show 0 + nCa J = nCa J
  omega
theorem kd_J {J : List gDe} (h : ∀ (a : Nat) (e : gDe), J[a]? = some e → s13 e → kd4 e.2.2.1) : ∀ c, c < (hiJ J).1 → kd4 ((hiJ J).2.2.1 c).1 := by
  have key : ∀ (J : List gDe) (H : gHi), (∀ e ∈ J, s13 e → kd4 e.2.2.1) → (∀ c, c < H.1 → kd4 (H.2.2.1 c).1) → ∀ c, c < (J.foldl hiS H).1 → kd4 ((J.foldl hiS H).2.2.1 c).1 := by
    intro J
    induction J with
    | nil => intro H _ h; exact h
    | cons e J ih =>
      intro H hJ hH
      refine ih (hiS H e) (fun x hx => hJ x (List.mem_cons_of_mem _ hx)) ?_
      by_cases c1 : s13 e
      · rw [hi_B c1]
        intro c hc
        have hc : c < H.1 + 1 := hc
        show kd4 (upf H.2.2.1 H.1 (e.2.2.1, e.2.2.2.2.1, H.2.1, none) c).1
        by_cases ce : c = H.1
        · rw [ce, upf_eq]; exact hJ e (List.mem_cons_self ..) c1
        · rw [upf_ne ce]; exact hH c (by omega)
      · by_cases c2 : s14 e
        · cases o : H.2.2.2 e.1 with
          | none => rw [hi_E0 c2 o]; exact hH
          | some k =>
            rw [hi_E c2 o]
            intro c hc
            show kd4 (upf H.2.2.1 k ((H.2.2.1 k).1, (H.2.2.1 k).2.1, (H.2.2.1 k).2.2.1, some (H.2.1, e.2.2.2.2.1)) c).1
            by_cases ce : c = k
            · rw [ce, upf_eq]; rw [← ce]; exact hH c hc
            · rw [upf_ne ce]; exact hH c hc
        · rw [hi_n c1 c2]; exact hH
  refine key J hi0 (fun e he h13 => ?_) (fun c hc => absurd hc (Nat.not_lt_zero _))
  obtain ⟨a, ha⟩ := List.mem_iff_getElem?.mp he
  exact h a e ha h13
end
section
/-! linear: whether the history of calls is linear -/
abbrev inLi (l : Int32) : Prop := 0 ≤ l.toInt ∧ l.toInt ≤ 3
abbrev e2Li (x : gd) (l : Int32) : Prop := ¬ x.1 0 10 = 0 ∧ ¬ inLi l
def liR (C : gCo) (wr n : Nat) (c : Nat → Nat) (l r : Int32) : Prop := lnR l.toInt.toNat (hiJ (joM C wr c n)) r
def sLiq (C : gCo) (wr n : Nat) (c : Nat → Nat) (x : gd) (l r : Int32) (y : gd) : Prop := liR C wr n c l r ∧ KRd x y
abbrev f2Li (w : gd) (l : Int32) : Prop := ¬ w.1 0 67 = 0 ∧ ¬ inLi l
def tLi (C : gCo) (wr n : Nat) (w : gd) (l r : Int32) (w' : gd) : Prop := liR C wr n (c96 w) l r ∧ rdM C wr w w'
section KLI
variable {G : kG} {q : kP} {d : Nat} {x y w w' : gd} {P : Option gv → gd → kP → Prop} {X : String → gd → kP → Prop} {C : gCo} {wr n : Nat} {lm : Nat → Nat}
/-- what both hold of the calls -/
theorem JH_ca (h : JH C wr n lm x w) (hH : HOI x q) (h10 : ¬ x.1 0 10 = 0) : KJo x (joM C wr (c96 w) n) ∧ MJo w (joM C wr (c96 w) n) ∧ RJc (runM C wr (c96 w) n) (joM C wr (c96 w) n) := by
  obtain ⟨j, r, -, -⟩ := JH_R h h10
  obtain ⟨-, a, b, -⟩ := JH_jo h h10
  exact ⟨a, b, RJ_run (JH_gc h hH).1 j.2.2.2.2.2.2.2 (fun k hk => (r.2.2.2.2.1 k hk).1)⟩
theorem KJo_f9 {J : List gDe} (f : ∀ c k, (c = 160 ∧ (k = 3 ∨ k = 4)) ∨ (166 ≤ c ∧ c ≤ 171) → y.1 c k = x.1 c k) (h : KJo x J) : KJo y J := by
  obtain ⟨h1, h2, h3⟩ := h
  refine ⟨by rw [f 160 3 (by omega)]; exact h1, by rw [f 160 4 (by omega)]; exact h2, fun a e he => ?_⟩
  rw [f 166 a (by omega), f 167 a (by omega), f 168 a (by omega), f 169 a (by omega), f 170 a (by omega), f 171 a (by omega)]
  exact h3 a e he
theorem ka_linear (h : JH C wr n lm x w) (hu : kU q) (hH : HOI x q) (l : Int32) (hX1 : e1Ch x → X iSE x q) (hX2 : e2Li x l → X iAE x q) (hP : ¬ e1Ch x → ¬ e2Li x l → ∀ r y q1, kU q1 → kle q q1 → HOI y q1 → sLiq C wr n (c96 w) x l r y → P (some (vi r)) y q1) : KM G q (d + 18) zk_X11_linear 0 [(0, vr 0), (1, vi l)] [] x P X := by
  have k0 : (0 : Int32).toInt = 0 := rfl
  have k3 : (3 : Int32).toInt = 3 := rfl
  have k12 : (12 : Int32).toInt = 12 := rfl
  have km2 : (-2 : Int32).toInt = -2 := rfl
  refine kg_X11_linear_0 (d := d + 11) hu l (kh_run hu.1 hH hX1 (fun h10 hR => ?_))
  obtain ⟨kj, -, ra, rb, rc⟩ := JH_ca h hH h10
  obtain ⟨J, eJ⟩ : ∃ J, J = joM C wr (c96 w) n := ⟨_, rfl⟩
  have hP := hP h10
  unfold sLiq liR at hP
  rw [← eJ] at kj rb rc hP
  obtain ⟨H, eH⟩ : ∃ H, H = hiJ J := ⟨_, rfl⟩
  have hw : hiW H := by rw [eH]; exact hiW_J
  have j4 := hR.2.2.1
  have jl := kj.1
  have h4 : H.2.1 ≤ 400 := by
    have := hi_ge (J := J)
    rw [← eH] at this
    omega
  have nC : (x.1 160 4).toInt = (H.1 : Nat) := by rw [kj.2.1, eH, hi_nCa]
  rw [← eH] at hP
  have p56 : inLi l → H.1 ≤ 12 → ∀ (q1 : kP) (y : gd), kU q1 → kle q q1 → HOI y q1 → JN y → KJo y J → q1.hi = true → KRd x y → KM G q1 (d + 18) zk_X11_linear 56 [(0, vr 0), (1, vi l)] [] y P X := by
    intro hin h12 q1 y hu1 hl1 hH1 hJ hj hh el
    have nE2 : ¬ e2Li x l := fun z => z.2 hin
    have el4 : l = Int32.ofNat l.toInt.toNat := i32_of (by omega)
    refine kg_X11_linear_56 (d := d + 11) hu1 l (fun u1 e1 => ⟨by rw [e1, k08_t hh], hh, kt_take (d := d + 16) hu1.1 hh hJ hj (fun a e ha => (rc a e ha).1) (by rw [← eH]; exact h12) (fun z fz hz h7 u3 e3 => ⟨by rw [e3, k08_t hh], hh, ?_⟩)⟩)
    rw [← eH] at hz h7
    refine kt_fewest (s := l.toInt.toNat) hu1.1 hh (by omega) l el4 hz.1 h7 h4 hw (fun r w fw hr => ?_)
    have f : fm sNw y w := fm_tr (fm_w fz (fun c k q => by unfold sHi at q; unfold sNw; omega)) (fm_w fw (fun c k q => by unfold sHl at q; unfold sNw; omega))
    have hwo := HOI_mk (kle_rf q1) hu1 f hH1
    have e20 : KRd x w := fm_tr el (fm_w f (fun c k q => by unfold sNw at q; unfold sRd; omega))
    rcases hr with ⟨r1, r2⟩ | ⟨m, r1, r2⟩
    · exact ⟨fun z => absurd r1 z, fun _ => hP nE2 _ w q1 hu1 hl1 hwo ⟨Or.inr (Or.inl ⟨h12, r2, rfl⟩), e20⟩⟩
    · have m4 := r1.2.1
      refine ⟨fun _ => hP nE2 _ w q1 hu1 hl1 hwo ⟨Or.inr (Or.inr ⟨h12, m, r1, ?_⟩), e20⟩, fun z => ?_⟩
      · rw [t_sub (by rw [km2]; omega) (by rw [km2]; omega), km2, r2]
      · rw [z, tm1] at r2; omega
  refine ⟨fun c => kg_X11_linear_13 hu (hX2 ⟨h10, fun z => ?_⟩), fun c0 => ⟨fun c3 => ⟨fun c12 u5 e5 => ⟨fun hn => ⟨k08_n (by rw [← e5, hn]), fun q8 x9 e8 e9 hu8 hl8 => ?_⟩, fun c7 h7 => p56 ?_ ?_ q x hu (kle_rf q) hH hR.2.2 kj (k08_s (e5.symm.trans h7)) KR_rf⟩, fun n12 => ?_⟩, fun c3 => kg_X11_linear_13 hu (hX2 ⟨h10, fun z => ?_⟩)⟩⟩
  · rw [t_lt, k0] at c; have := z.1; omega
  · rw [t_lt, k0] at c0
    rw [t_le, k3] at c3
    rw [t_le, nC, k12] at c12
    have f9 : fm sNw x x9 := by
      rw [e9]
      refine fm_new (fun c hc k => ?_)
      have := (by decide +kernel : ∀ c ∈ 180 :: ops_180.flatMap xtch, (180 ≤ c ∧ c < 260) ∨ 300 ≤ c) c hc
      exact this
    exact p56 ⟨by omega, c3⟩ (by omega) q8 x9 hu8 hl8 (HOI_mk hl8 hu8 f9 hH) (JN_o (fun c k a b => f9 c k (by unfold sNw; omega)) hR.2.2) (KJo_f9 (fun c k hc => f9 c k (by unfold sNw; omega)) kj) (by rw [e8]; rfl) (fm_w f9 (fun c k q => by unfold sNw at q; unfold sRd; omega))
  · rw [t_lt, k0] at c0
    rw [t_le, k3] at c3
    exact ⟨by omega, c3⟩
  · rw [t_le, nC, k12] at c12
    omega
  · rw [t_lt, k0] at c0
    rw [t_le, k3] at c3
    rw [t_le, nC, k12] at n12
    exact hP (fun z => z.2 ⟨by omega, c3⟩) _ x q hu (kle_rf q) hH ⟨Or.inl ⟨by omega, rfl⟩, KR_rf⟩
  · rw [t_le, k3] at c3; exact c3 z.2
theorem ja_linear {l r9 r : Int32} {q1 : kP} (h : JH C wr n lm x w) (hH : HOI y q1) (k : ansK (e1Ch x) (e2Li x l) (sLiq C wr n (c96 w) x l) x r9 y) (m : ansM C wr (f1Ch w) (f2Li w l) (tLi C wr n w l) w r w') : JR3 y w' ∧ ansE r9 r y w' := by
  have e9 := JH_10 h
  refine ans_eq h hH e9 ⟨fun z => ⟨fun a => z.1 (e9.mpr a), z.2⟩, fun z => ⟨fun a => z.1 (e9.mp a), z.2⟩⟩ (fun a z => z.1 a) k m (fun c _ r' s t => ⟨JQ_rd h hH s.2 t.2, lnR_eq s.1 t.1⟩)
end KLI
section MLN
variable {G : mG} {d D : Nat} {x w z : gd} {F : Int32 → gd → Prop} {C : gCo} {wr n : Nat} {lm : Nat → Nat} {q : kP} {J : List gDe}
/-- how many calls there are, where they are too many -/
theorem sa_many (ha : HA z) (o : oA z) (hj : MJo z J) (h12 : 12 < (hiJ J).1) (h : ∀ (r : Int32) (z' : gd), mi [107] tcA z z' → oA z' → 12 < (z'.1 0 107).toInt → F r z') : MT G d z_takeCalls 0 [(0, vr 0), (1, vi 1000)] [] z (ri F) := by
  have k0 : (0 : Int32).toInt = 0 := rfl
  have k1 : (1 : Int32).toInt = 1 := rfl
  have k13 : (13 : Int32).toInt = 13 := rfl
  have kT : (1000 : Int32).toInt = 1000 := rfl
  have jl := hj.1
  obtain ⟨a1, a2, a3, a4, a5⟩ := ha
  have loop : ∀ (m k : Nat) (u : gd) (c i : Int32), i.toInt = (k : Nat) → k ≤ J.length → mi [107] tcA z u → oA u → (u.1 0 107).toInt = ((min 13 (hiJ (J.take k)).1 : Nat) : Int) → 0 ≤ c.toInt → c.toInt ≤ (k : Nat) → J.length - k ≤ m → MT G d z_takeCalls 9 [(0, vr 0), (1, vi 1000), (2, vi c), (3, vi i)] [] u (ri F) := by
    intro m
    have fin : ∀ (k : Nat) (u : gd) (c : Int32), J.length ≤ k → mi [107] tcA z u → oA u → (u.1 0 107).toInt = ((min 13 (hiJ (J.take k)).1 : Nat) : Int) → ri F (some (vi c)) u := fun k u c hk mu ou hn => by
      rw [List.take_of_length_le hk] at hn
      exact ri_i (h c u mu ou (by omega))
    induction m with
    | zero =>
      intro k u c i ei hk mu ou hn c0 ck hm
      refine sg_takeCalls_9 _ _ _ ⟨fun _ => fin k u c (by omega) mu ou hn, fun q => absurd (t_le.mpr ?_) q⟩
      rw [mu.1 96 (by decide)]; omega
    | succ m ih =>
      intro k u c i ei hk mu ou hn c0 ck hm
      refine sg_takeCalls_9 _ _ _ ⟨fun q => fin k u c (by rw [t_le, mu.1 96 (by decide)] at q; omega) mu ou hn, fun q => ?_⟩
      rw [t_le, mu.1 96 (by decide)] at q
      have kl : k < J.length := by omega
      obtain ⟨e, he⟩ : ∃ e, J[k]? = some e := ⟨_, List.getElem?_eq_getElem kl⟩
      have iv : vp_in i 400 := by rw [vp_in_iff]; omega
      have ii : (i + 1).toInt = ((k + 1 : Nat) : Int) := by rw [t_add (by rw [k1]; omega) (by rw [k1]; omega), k1, ei]; rfl
      have ci : i.toNatClampNeg = k := by rw [t_cl, ei]; rfl
      have cc : (c + 1).toInt = c.toInt + 1 := by rw [t_add (by rw [k1]; omega) (by rw [k1]; omega), k1]
      obtain ⟨j0, j1, j2, -, j4, j5⟩ := hj.2 k e he
      have tk := hiJ_tk he
      have tv : vp_in (u.1 98 k) 6 := by
        rw [mu.2 98 (by decide) (by decide), vp_in_iff]
        have := a4 k (by omega)
        exact ⟨this.1, this.2.1⟩
      have c99 : u.1 99 k = Int32.ofNat e.2.1 := by rw [mu.2 99 (by decide) (by decide)]; exact j1
      have c103 : u.1 103 k = if e.2.2.2.2.2.1 = true then 1 else 0 := by rw [mu.2 103 (by decide) (by decide)]; exact j5
      have fd : (if e.2.2.2.2.2.1 = true then (1 : Int32) else 0) = 0 ↔ e.2.2.2.2.2.1 = false := by
        cases e.2.2.2.2.2.1 with
        | true => exact ⟨fun z => absurd z (by decide), fun z => nomatch z⟩
        | false => exact ⟨fun _ => rfl, fun _ => rfl⟩
      have no13 : ¬ s13 e → (hiJ (J.take (k + 1))).1 = (hiJ (J.take k)).1 := fun n13 => by
        rw [tk]
        by_cases c2 : s14 e
        · cases ok : (hiJ (J.take k)).2.2.2 e.1 with
          | none => rw [hi_E0 c2 ok]
          | some b => rw [hi_E c2 ok]; rfl
        · rw [hi_n n13 c2]
      have next : ∀ (c' : Int32) (v : gd), 0 ≤ c'.toInt → c'.toInt ≤ ((k + 1 : Nat) : Int) → mi [107] tcA z v → oA v → (v.1 0 107).toInt = ((min 13 (hiJ (J.take (k + 1))).1 : Nat) : Int) → MT G d z_takeCalls 9 [(0, vr 0), (1, vi 1000), (2, vi c'), (3, vi (i + 1))] [] v (ri F) := fun c' v b1 b2 mv ov hv => ih (k + 1) v c' (i + 1) ii kl mv ov hv b1 b2 (by omega)
      have skip : ¬ s13 e → MT G d z_takeCalls 9 [(0, vr 0), (1, vi 1000), (2, vi c), (3, vi (i + 1))] [] u (ri F) := fun n13 => next c u c0 (by push_cast; omega) mu ou (by rw [no13 n13]; exact hn)
      have p158 : (13 ≤ (hiJ (J.take k)).1 ∨ ¬ s13 e) → MT G d z_takeCalls 158 [(0, vr 0), (1, vi 1000), (2, vi c), (3, vi i), (4, vi (u.1 98 k))] [] u (ri F) := by
        intro hs
        have keep : (u.1 0 107).toInt = ((min 13 (hiJ (J.take (k + 1))).1 : Nat) : Int) := by
          rcases hs with hs | hs
          · have : (hiJ (J.take k)).1 ≤ (hiJ (J.take (k + 1))).1 := by
              rw [tk]
              by_cases c1 : s13 e
              · rw [hi_B c1]; exact Nat.le_succ _
              · have := no13 c1; rw [tk] at this; rw [this]; exact Nat.le_refl _
            omega
          · rw [no13 hs]; exact hn
        refine sg_takeCalls_158 _ _ _ _ ?_
        rw [ci]
        refine ⟨fun _ => next (c + 1) u (by omega) (by push_cast; omega) mu ou keep, fun _ => ⟨iv, fun _ => next (c + 1) u (by omega) (by push_cast; omega) mu ou keep, fun _ => ⟨tv, ?_, fun u6 e6 => ⟨tv, iv, ?_, fun u10 e10 => ?_⟩⟩⟩⟩
        · rw [vp_in_iff]; exact ou _ (vp_lt tv)
        · rw [e6, si_cell (by decide), vp_in_iff]; exact ou _ (vp_lt tv)
        · have m6 := md_a u 113 (u.1 118 (u.1 98 k).toNatClampNeg).toNatClampNeg c (by decide)
          rw [← e6] at m6
          have m10 := md_a u6 111 (u6.1 118 (u.1 98 k).toNatClampNeg).toNatClampNeg (u6.1 102 k) (by decide)
          rw [← e10] at m10
          have m : md [] [111, 113] u u10 := md_tr m6 m10 rfl rfl
          exact next (c + 1) u10 (by omega) (by push_cast; omega) (mi_tr mu (mi_of m) rfl rfl) (oA_md m (by decide) ou) (by rw [m.1 107 (by decide)]; exact keep)
      have p59 : e.2.2.2.2.2.1 = false → MT G d z_takeCalls 59 [(0, vr 0), (1, vi 1000), (2, vi c), (3, vi i), (4, vi (u.1 98 k))] [] u (ri F) := by
        intro f0
        refine sg_takeCalls_59 _ _ _ _ ?_
        rw [ci, c99]
        refine ⟨fun le => by rw [t_le, kT] at le; omega, fun _ => ⟨iv, fun n13 => p158 (Or.inr (fun z => n13 z.2)), fun e13 => ⟨fun l13 => p158 (Or.inl (by rw [t_le, k13, hn] at l13; omega)), fun c13 => ?_⟩⟩⟩
        rw [t_le, k13, hn] at c13
        have s13' : s13 e := ⟨f0, e13⟩
        have lt : (hiJ (J.take k)).1 < 13 := by omega
        have n7 : (u.1 0 107).toInt = ((hiJ (J.take k)).1 : Nat) := by rw [hn]; omega
        have nv : ∀ u' : gd, u'.1 0 107 = u.1 0 107 → vp_in (u'.1 0 107) 14 := fun u' e => by rw [e, vp_in_iff]; omega
        refine ⟨iv, nv u rfl, fun u7 e7 => ?_⟩
        have m7 := md_a u 109 (u.1 0 107).toNatClampNeg (u.1 100 k) (by decide)
        rw [← e7] at m7
        refine ⟨iv, nv u7 (m7.1 107 (by decide)), fun u10 e10 => ?_⟩
        have m10 := md_a u7 110 (u7.1 0 107).toNatClampNeg (u7.1 102 k) (by decide)
        rw [← e10] at m10
        have M10 : md [] [109, 110] u u10 := md_tr m7 m10 rfl rfl
        refine ⟨nv u10 (M10.1 107 (by decide)), fun u12 e12 => ?_⟩
        have m12 := md_a u10 112 (u10.1 0 107).toNatClampNeg c (by decide)
        rw [← e12] at m12
        have M12 : md [] [109, 110, 112] u u12 := md_tr M10 m12 rfl rfl
        refine ⟨nv u12 (M12.1 107 (by decide)), fun u14 e14 => ?_⟩
        have m14 := md_a u12 113 (u12.1 0 107).toNatClampNeg (-1) (by decide)
        rw [← e14] at m14
        have M14 : md [] [109, 110, 112, 113] u u14 := md_tr M12 m14 rfl rfl
        refine ⟨tv, fun u16 e16 u17 e17 => ?_⟩
        have m16 := md_a u14 118 (u.1 98 k).toNatClampNeg (u14.1 0 107) (by decide)
        rw [← e16] at m16
        have m17 := md_f u16 107 (u16.1 0 107 + 1)
        rw [← e17] at m17
        have M16 : md [] [109, 110, 112, 113, 118] u u16 := md_tr M14 m16 rfl rfl
        have M17 : md [107] [109, 110, 112, 113, 118] u u17 := md_tr M16 m17 rfl rfl
        have h17 : (u17.1 0 107).toInt = (u.1 0 107).toInt + 1 := by rw [e17, si_get, if_pos ⟨rfl, rfl⟩, M16.1 107 (by decide), t_add (by rw [k1]; omega) (by rw [k1]; omega), k1]
        have o16 : oA u16 := by
          rw [e16, M14.1 107 (by decide)]
          exact oA_si (oA_md M14 (by decide) ou) (by omega) (by omega)
        refine next (c + 1) u17 (by omega) (by push_cast; omega) (mi_tr mu (mi_of M17) rfl rfl) (oA_md m17 (by decide) o16) ?_
        rw [h17, n7, tk, hi_B s13']
        show _ = ((min 13 ((hiJ (J.take k)).1 + 1) : Nat) : Int)
        omega
      rw [ci, c99, c103]
      exact ⟨iv, iv, fun nf => skip (fun z => nf (fd.mpr z.1)), fun f0 => ⟨iv, fun c13 => p59 (fd.mp f0), fun n13 => ⟨iv, fun c14 => p59 (fd.mp f0), fun n14 => skip (fun z => n13 z.2)⟩⟩⟩
  refine sg_takeCalls_0 _ (fun y e => ?_)
  have m := md_f z 107 0
  rw [← e] at m
  have e0 : y.1 0 107 = 0 := by rw [e, si_get, if_pos ⟨rfl, rfl⟩]
  exact loop J.length 0 y 0 0 rfl (Nat.zero_le _) (mi_w (mi_of m) (by decide) (by decide)) (oA_md m (by decide) o) (by rw [hiJ_0, e0]; rfl) (by decide) (by decide) (by omega)
theorem ma_linear (h : JH C wr n lm x w) (hH : HOI x q) (hm : MI w) (k : Int32) (hD : 5 ≤ D) (hF : ∀ r w', ansM C wr (f1Ch w) (f2Li w k) (tLi C wr n w k) w r w' → F r w') : MT G D z_linear 0 [(0, vr 0), (1, vi k)] [] w (ri F) := by
  obtain ⟨D, rfl⟩ : ∃ D', D = D' + 2 := ⟨D - 2, by omega⟩
  have k0 : (0 : Int32).toInt = 0 := rfl
  have k1 : (1 : Int32).toInt = 1 := rfl
  have k3 : (3 : Int32).toInt = 3 := rfl
  have k12 : (12 : Int32).toInt = 12 := rfl
  have km2 : (-2 : Int32).toInt = -2 := rfl
  refine sg_linear_0 _ (fun y e => ?_)
  have hy := z0_s e
  have e67 : y.1 0 67 = w.1 0 67 := hy.1.1 67 (by decide)
  have qy := (MI_0 hy.1 hm).1
  refine sc_noRunk hy (fun hr => ⟨fun q => absurd rfl q, fun _ => ?_⟩) (fun c y' m => ⟨fun _ => ri_i (hF _ y' (an_1 hm (show w.1 0 67 = 0 by rw [← e67]; exact c) m)), fun q => absurd q (by decide)⟩)
  obtain ⟨hc, s9, n9, q1, q2, q3, q4, q5, q6, ha⟩ := qy.2.2.1 hr
  rw [e67] at hr
  obtain ⟨-, mj, ra, rb, rc⟩ := JH_ca h hH (fun z => hr ((JH_10 h).mp z))
  obtain ⟨J, eJ⟩ : ∃ J, J = joM C wr (c96 w) n := ⟨_, rfl⟩
  have hF := hF
  unfold tLi liR at hF
  rw [← eJ] at mj rb rc hF
  have mjy : MJo y J := MJo_mi hy.1 rfl rfl mj
  obtain ⟨H, eH⟩ : ∃ H, H = hiJ J := ⟨_, rfl⟩
  rw [← eH] at hF
  have hw : hiW H := by rw [eH]; exact hiW_J
  have h4 : H.2.1 ≤ 400 := by
    have := hi_ge (J := J)
    rw [← eH] at this
    have := mjy.1
    have := ha.2.1
    have := ha.2.2.1
    omega
  have kd : ∀ c, c < H.1 → kd4 (H.2.2.1 c).1 := by rw [eH]; exact kd_J (fun a e ha => (rc a e ha).2)
  have end' : inLi k → ∀ (r : Int32) (u : gd), mi [107, 116] [109, 110, 111, 112, 113, 114, 115, 116, 118] y u → oA u → lnR k.toInt.toNat H r → ri F (some (vi r)) u := fun hin r u m o er => by
    have p := rd_o (C := C) (wr := wr) m rfl rfl o qy
    exact ri_i (hF r u (an_3 p.1.1 hr (fun z => z.2 hin) (by rw [m.1 0 (by decide)]; exact hy.2) ⟨er, rd_tr hy.1 p⟩))
  have p57 : inLi k → H.1 ≤ 12 → ∀ (c : Int32), c.toInt = (H.2.1 : Nat) → ∀ (m I : Nat) (u : gd) (i : Int32), i.toInt = (I : Nat) → 1 ≤ I → I ≤ H.2.1 + 1 → (∀ j, j < I → liH k.toInt.toNat H j) → mi [107, 116] [109, 110, 111, 112, 113, 114, 115, 116, 118] y u → oA u → H.2.1 + 1 - I ≤ m → MT G (D + 2) z_linear 57 [(0, vr 0), (1, vi k), (2, vi c), (3, vi i)] [] u (ri F) := by
    intro hin h12 c ec m
    have el4 : k = Int32.ofNat k.toInt.toNat := i32_of (by omega)
    have fin : ∀ (I : Nat) (u : gd), H.2.1 < I → (∀ j, j < I → liH k.toInt.toNat H j) → mi [107, 116] [109, 110, 111, 112, 113, 114, 115, 116, 118] y u → oA u → ri F (some (vi 1)) u := fun I u hI hl mu ou => end' hin 1 u mu ou (Or.inr (Or.inl ⟨h12, hl _ hI, rfl⟩))
    induction m with
    | zero =>
      intro I u i ei i1 i2 hl mu ou hm
      exact sg_linear_57 _ _ _ ⟨fun _ => fin I u (by omega) hl mu ou, fun q => absurd (t_lt.mpr (by omega)) q⟩
    | succ m ih =>
      intro I u i ei i1 i2 hl mu ou hm
      refine sg_linear_57 _ _ _ ⟨fun q => fin I u (by rw [t_lt] at q; omega) hl mu ou, fun q => ?_⟩
      rw [t_lt] at q
      have ii : (i + 1).toInt = ((I + 1 : Nat) : Int) := by rw [t_add (by rw [k1]; omega) (by rw [k1]; omega), k1, ei]; rfl
      refine sa_take (n := I) (HA_mi mu rfl rfl ha) ou (MJo_mi mu rfl rfl mjy) rb (fun a e ha => (rc a e ha).1) (by rw [← eH]; exact h12) i ei (fun r v mv ov hN _ => ?_)
      obtain ⟨N, hN⟩ := hN
      rw [← eH] at hN
      refine sa_isLinear (s := k.toInt.toNat) k (by omega) el4 h12 hw hN kd (by omega) (fun r2 v2 mw hr2 => ?_)
      have ow' : oA v2 := oA_md mw (by decide) ov
      have myw : mi [107, 116] [109, 110, 111, 112, 113, 114, 115, 116, 118] y v2 := mi_tr (mi_tr (L3 := [107, 116]) (A3 := [109, 110, 111, 112, 113, 114, 115, 116, 118]) mu mv rfl rfl) (mi_of mw) rfl rfl
      refine ⟨fun nr => ih (I + 1) v2 (i + 1) ii (by omega) (by omega) (fun j hj => ?_) myw ow' (by omega), fun r0 => end' hin _ v2 myw ow' (Or.inr (Or.inr ⟨h12, I, ⟨i1, by omega, fun z => hr2.mpr z r0, hl⟩, ?_⟩))⟩
      · by_cases cj : j = I
        · rw [cj]; exact hr2.mp nr
        · exact hl j (by omega)
      · rw [t_sub (by rw [km2]; omega) (by rw [km2]; omega), km2, ei]
  have p27 : ∀ b : Int32, (b = 0 → inLi k) → (¬ b = 0 → ¬ inLi k) → MT G (D + 2) z_linear 27 [(0, vr 0), (1, vi k)] [vi b, vr 0] y (ri F) := by
    intro b hb hb2
    refine sg_linear_27 _ _ (sc_refk b 2 hy (by decide) (fun b0 => ⟨fun _ => ?_, fun q => absurd rfl q⟩) (fun nb y' m => ⟨fun q => absurd q (by decide), fun _ => ri_i (hF _ y' (an_2 hm ⟨hr, hb2 nb⟩ m))⟩))
    have hin := hb b0
    by_cases h12 : H.1 ≤ 12
    · refine sa_take (n := 1000) ha qy.1.2.2.2.2.2 mjy rb (fun a e ha => (rc a e ha).1) (by rw [← eH]; exact h12) 1000 rfl (fun r v mv ov hN r4 => ?_)
      obtain ⟨N, hN⟩ := hN
      rw [← eH] at hN r4
      have n1 := hN.1
      have n2 := hN.2.1
      refine ⟨fun _ => p57 hin h12 r r4 (H.2.1 + 1) 1 v 1 rfl (by omega) (by omega) (fun j hj => by rw [show j = 0 by omega]; exact li_0) (mi_w mv (by decide) (by decide)) ov (by omega), fun c => absurd (t_le.mpr (by rw [n1, k12]; omega)) c⟩
    · refine sa_many ha qy.1.2.2.2.2.2 mjy (by rw [← eH]; omega) (fun r v mv ov n13 => ⟨fun c => ?_, fun _ => end' hin _ v (mi_w mv (by decide) (by decide)) ov (Or.inl ⟨by omega, rfl⟩)⟩)
      rw [t_le, k12] at c; omega
  refine sp_in _ _ _ ⟨fun c => p27 0 (fun _ => ?_) (fun z => absurd rfl z), fun c => p27 1 (fun q => absurd q (by decide)) (fun _ z => ?_)⟩
  · obtain ⟨a1, a2⟩ := bi_ne.mp c
    rw [t_le, k0] at a1
    rw [t_le, k3] at a2
    exact ⟨a1, a2⟩
  · exact bi_eq.mp c ⟨t_le.mpr (by rw [k0]; exact z.1), t_le.mpr (by rw [k3]; exact z.2)⟩
end MLN
end
