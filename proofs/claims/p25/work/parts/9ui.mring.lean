section
/-! ring: the model's search, and both answers -/
/-- a lock's way from l, behind K levels -/
def Rv9 (E : Nat → Nat → Prop) (l : Nat) (u : gd) (c K : Nat) : Prop := (u.1 139 c = 0 ∧ ∀ m, 1 ≤ m → m ≤ K → ¬ wk9 E l m c) ∨ ∃ t : Nat, 1 ≤ t ∧ (u.1 139 c).toInt = t ∧ fs9 E l t c
/-- the same within level k, where the first i are gone through -/
def Rm9 (E : Nat → Nat → Prop) (l : Nat) (u : gd) (c k i : Nat) : Prop := (u.1 139 c = 0 ∧ (∀ m, 1 ≤ m → m < k → ¬ wk9 E l m c) ∧ ∀ a, a < i → fs9 E l (k - 1) a → ¬ E a c) ∨ ∃ t : Nat, 1 ≤ t ∧ (u.1 139 c).toInt = t ∧ fs9 E l t c
section MRG
variable {G : mG} {d D : Nat} {y u u' : gd} {F : Int32 → gd → Prop} {E : Nat → Nat → Prop} {l c k i K nl v : Nat}
theorem Rm_f (e : u'.1 139 c = u.1 139 c) (h : Rm9 E l u c k i) : Rm9 E l u' c k i := by
  unfold Rm9 at h ⊢
  rw [e]; exact h
theorem Rv_m (h : Rv9 E l u c K) : Rm9 E l u c (K + 1) 0 := by
  rcases h with ⟨h1, h2⟩ | h
  · exact Or.inl ⟨h1, fun m m1 m2 => h2 m m1 (by omega), fun a ha => absurd ha (Nat.not_lt_zero _)⟩
  · exact Or.inr h
theorem Rm_v (hE : ∀ a b, a < 6 → E a b → a < nl ∧ b < nl) (h : Rm9 E l u c (K + 1) nl) : Rv9 E l u c (K + 1) := by
  rcases h with ⟨h1, h2, h3⟩ | h
  · refine Or.inl ⟨h1, fun m m1 m2 hm => ?_⟩
    by_cases e : m = K + 1
    · rw [e] at hm
      obtain ⟨b, b6, hb, hbc⟩ := hm
      have bn := (hE b c b6 hbc).1
      refine h3 b bn ⟨hb, fun j j1 j2 hj => ?_⟩ hbc
      exact h2 (j + 1) (by omega) (by omega) ⟨b, b6, hj, hbc⟩
    · exact h2 m m1 (by omega) hm
  · exact Or.inr h
/-- one that is not gone out from -/
theorem Rm_no (hn : ¬ fs9 E l (k - 1) i ∨ ¬ E i c) (h : Rm9 E l u c k i) : Rm9 E l u c k (i + 1) := by
  rcases h with ⟨h1, h2, h3⟩ | h
  · refine Or.inl ⟨h1, h2, fun a ha hf he => ?_⟩
    by_cases e : a = i
    · rw [e] at hf he
      exact hn.elim (fun z => z hf) (fun z => z he)
    · exact h3 a (by omega) hf he
  · exact Or.inr h
/-- which are gone out from -/
theorem Rm_at (hk : 2 ≤ k) (h : Rm9 E l u c k i) : (u.1 139 c).toInt = ((k - 1 : Nat) : Int) ↔ fs9 E l (k - 1) c := by
  have k0 : (0 : Int32).toInt = 0 := rfl
  rcases h with ⟨h1, h2, -⟩ | ⟨t, h1, h2, h3⟩
  · rw [h1, k0]
    exact ⟨fun z => by omega, fun z => absurd z.1 (h2 (k - 1) (by omega) (by omega))⟩
  · rw [h2]
    constructor
    · intro z
      have : t = k - 1 := by omega
      rw [← this]; exact h3
    · intro z
      have := fs9_u h1 (by omega) h3 z
      rw [this]
theorem sp_ring42 (w : Int32) (wv : vp_in w 2) (eW : w.toNatClampNeg = v) (en : (y.1 0 24).toInt = (nl : Nat)) (n6 : nl ≤ 6) (hEm : ∀ a, a < 6 → ∀ b, b < 6 → (¬ y.1 128 (36 * v + 6 * a + b) = 0 ↔ E a b)) (hE : ∀ a b, a < 6 → E a b → a < nl ∧ b < nl) (h : ∀ (u : gd) (r : Int32) (s : Nat), mi [] [139] y u → r.toInt = s → rgS E nl s → F r u) : MT G (D + 1) z_ring 42 [(0, vr 0), (1, vi w), (2, vi 0), (3, vi 0)] [] y (ri F) := by
  have k0 : (0 : Int32).toInt = 0 := rfl
  have k1 : (1 : Int32).toInt = 1 := rfl
  have k6 : (6 : Int32).toInt = 6 := rfl
  have k36 : (36 : Int32).toInt = 36 := rfl
  have wb := vp_in_iff.mp wv
  have cw : w.toInt = v := by rw [t_cl] at eW; omega
  have f24 : ∀ u : gd, mi [] [139] y u → (u.1 0 24).toInt = (nl : Nat) := fun u mu => by rw [mu.1 24 (by decide)]; exact en
  have f128 : ∀ u : gd, mi [] [139] y u → u.1 128 = y.1 128 := fun u mu => mu.2 128 (by decide) (by decide)
  have st : ∀ (u u2 : gd) (j : Nat) (v : Int32), mi [] [139] y u → u2 = si u 139 j v → mi [] [139] y u2 := fun u u2 j v mu e2 => by
    have m := md_a u 139 j v (by decide)
    rw [← e2] at m
    exact mi_tr mu (mi_of m) rfl rfl
  have p42 : ∀ (n L s : Nat) (u : gd) (r l : Int32), mi [] [139] y u → l.toInt = L → L ≤ nl → nl - L ≤ n → r.toInt = s → rgS E L s → MT G (D + 1) z_ring 42 [(0, vr 0), (1, vi w), (2, vi r), (3, vi l)] [] u (ri F) := by
    intro n
    have fin : ∀ (L s : Nat) (u : gd) (r l : Int32), mi [] [139] y u → l.toInt = L → L ≤ nl → r.toInt = s → rgS E L s → u.1 0 24 ≤ l → ri F (some (vi r)) u := by
      intro L s u r l mu el hL er hs c
      rw [t_le, f24 u mu] at c
      have e : L = nl := by omega
      rw [e] at hs
      exact ri_i (h u r s mu er hs)
    induction n with
    | zero =>
      intro L s u r l mu el hL hn er hs
      exact sg_ring_42 _ _ _ ⟨fun c => fin L s u r l mu el hL er hs c, fun c => absurd (t_le.mpr (by rw [f24 u mu]; omega)) c⟩
    | succ n ih =>
      intro L s u r l mu el hL hn er hs
      refine sg_ring_42 _ _ _ ⟨fun c => fin L s u r l mu el hL er hs c, fun c => ?_⟩
      rw [t_le, f24 u mu] at c
      have hL2 : L < nl := by omega
      have lv : vp_in l 6 := by rw [vp_in_iff]; omega
      have lK : l.toNatClampNeg = L := by rw [t_cl, el]; rfl
      have li : (l + 1).toInt = ((L + 1 : Nat) : Int) := by rw [t_add (by omega) (by omega), k1, el]; rfl
      have p79 : ∀ (m K : Nat) (u : gd) (k : Int32), mi [] [139] y u → k.toInt = ((K + 1 : Nat) : Int) → K ≤ nl → nl - K ≤ m → (∀ c, c < nl → Rv9 E L u c K) → MT G (D + 1) z_ring 79 [(0, vr 0), (1, vi w), (2, vi r), (3, vi l), (4, vi k)] [] u (ri F) := by
        have last : ∀ (K : Nat) (u : gd) (k : Int32), mi [] [139] y u → k.toInt = ((K + 1 : Nat) : Int) → K ≤ nl → (∀ c, c < nl → Rv9 E L u c K) → u.1 0 24 < k → vp_in l 6 ∧ (((u.1 139 l.toNatClampNeg) ≤ (0 : Int32) → MT G (D + 1) z_ring 42 [(0, vr 0), (1, vi w), (2, vi r), (3, vi (l + 1))] [] u (ri F)) ∧ (¬ ((u.1 139 l.toNatClampNeg) ≤ (0 : Int32)) → ((r = (0 : Int32) → vp_in l 6 ∧ MT G (D + 1) z_ring 42 [(0, vr 0), (1, vi w), (2, vi (u.1 139 l.toNatClampNeg)), (3, vi (l + 1))] [] u (ri F)) ∧ (¬ (r = (0 : Int32)) → vp_in l 6 ∧ ((r ≤ (u.1 139 l.toNatClampNeg) → MT G (D + 1) z_ring 42 [(0, vr 0), (1, vi w), (2, vi r), (3, vi (l + 1))] [] u (ri F)) ∧ (¬ (r ≤ (u.1 139 l.toNatClampNeg)) → vp_in l 6 ∧ MT G (D + 1) z_ring 42 [(0, vr 0), (1, vi w), (2, vi (u.1 139 l.toNatClampNeg)), (3, vi (l + 1))] [] u (ri F))))))) := by
          intro K u k mu ek hK hv q
          rw [t_lt, f24 u mu] at q
          have eK : K = nl := by clear hv; omega
          have nx : ∀ (r : Int32) (s : Nat), r.toInt = s → rgS E (L + 1) s → MT G (D + 1) z_ring 42 [(0, vr 0), (1, vi w), (2, vi r), (3, vi (l + 1))] [] u (ri F) := fun r s er hs => ih (L + 1) s u r (l + 1) mu li (by clear hv; omega) (by clear hv; omega) er hs
          rw [lK]
          have hvL := hv L hL2
          rw [eK] at hvL
          clear hv
          obtain ⟨t, et, ht⟩ : ∃ t : Nat, (u.1 139 L).toInt = t ∧ rgF E L t := by
            rcases hvL with ⟨a1, a2⟩ | ⟨t, a1, a2, a3⟩
            · exact ⟨0, by rw [a1]; rfl, rgF_none hE a2⟩
            · exact ⟨t, a2, Or.inr ⟨a1, by have := fs9_le hE a3; omega, a3⟩⟩
          obtain ⟨n1, n2, n3, n4⟩ := rgS_next hs ht
          refine ⟨lv, fun le => nx r s er (n1 (by rw [t_le, k0] at le; omega)), fun nle => ?_⟩
          rw [t_le, k0] at nle
          have tn : ¬ t = 0 := by omega
          refine ⟨fun r0 => ⟨lv, nx _ t et (n2 tn (by rw [r0, k0] at er; omega))⟩, fun rn => ⟨lv, ?_⟩⟩
          have sn : ¬ s = 0 := fun z => rn (t_eq.mpr (by rw [k0]; omega))
          exact ⟨fun le => nx r s er (n3 tn sn (by rw [t_le] at le; omega)), fun nle => ⟨lv, nx _ t et (n4 tn sn (by rw [t_le] at nle; omega))⟩⟩
        intro m
        induction m with
        | zero =>
          intro K u k mu ek hK hm hv
          exact sg_ring_79 _ _ _ _ ⟨fun q => last K u k mu ek hK hv q, fun q => absurd (t_lt.mpr (by clear hv; rw [f24 u mu]; omega)) q⟩
        | succ m ihm =>
          intro K u k mu ek hK hm hv
          refine sg_ring_79 _ _ _ _ ⟨fun q => last K u k mu ek hK hv q, fun q => ?_⟩
          rw [t_lt, f24 u mu] at q
          have hK2 : K < nl := by clear hv; omega
          have ki : (k + 1).toInt = ((K + 1 + 1 : Nat) : Int) := by clear hv; rw [t_add (by omega) (by omega), k1, ek]; rfl
          have p91 : ∀ (p I : Nat) (u : gd) (i : Int32), mi [] [139] y u → i.toInt = I → I ≤ nl → nl - I ≤ p → (∀ c, c < nl → Rm9 E L u c (K + 1) I) → MT G (D + 1) z_ring 91 [(0, vr 0), (1, vi w), (2, vi r), (3, vi l), (4, vi k), (5, vi i)] [] u (ri F) := by
            intro p
            have fin91 : ∀ (I : Nat) (u : gd) (i : Int32), mi [] [139] y u → i.toInt = I → I ≤ nl → (∀ c, c < nl → Rm9 E L u c (K + 1) I) → u.1 0 24 ≤ i → MT G (D + 1) z_ring 79 [(0, vr 0), (1, vi w), (2, vi r), (3, vi l), (4, vi (k + 1))] [] u (ri F) := by
              intro I u i mu ei hI hr q
              rw [t_le, f24 u mu] at q
              have eI : I = nl := by clear hr; omega
              refine ihm (K + 1) u (k + 1) mu ki (by clear hr; omega) (by clear hr; omega) (fun c hc => Rm_v hE ?_)
              have := hr c hc
              rw [eI] at this; exact this
            induction p with
            | zero =>
              intro I u i mu ei hI hp hr
              exact sg_ring_91 _ _ _ _ _ ⟨fun q => fin91 I u i mu ei hI hr q, fun q => absurd (t_le.mpr (by clear hr; rw [f24 u mu]; omega)) q⟩
            | succ p ihp =>
              intro I u i mu ei hI hp hr
              refine sg_ring_91 _ _ _ _ _ ⟨fun q => fin91 I u i mu ei hI hr q, fun q2 => ?_⟩
              rw [t_le, f24 u mu] at q2
              have hI2 : I < nl := by clear hr; omega
              have iv : vp_in i 6 := by clear hr; rw [vp_in_iff]; omega
              have iK : i.toNatClampNeg = I := by rw [t_cl, ei]; rfl
              have ii : (i + 1).toInt = ((I + 1 : Nat) : Int) := by clear hr; rw [t_add (by omega) (by omega), k1, ei]; rfl
              have p144 : ∀ (x s J : Nat) (u : gd) (f j : Int32), mi [] [139] y u → j.toInt = J → J ≤ nl → nl - J ≤ s → (¬ f = 0 ↔ fs9 E L K I) → (∀ c, c < J → Rm9 E L u c (K + 1) (I + 1)) → (∀ c, J ≤ c → c < nl → Rm9 E L u c (K + 1) I) → MT G (D + 1) z_ring 144 [(0, vr 0), (1, vi w), (2, vi r), (3, vi l), (4, vi k), (5, vi i), (6, vi f), (7, vi j)] [] u (ri F) := by
                intro _ s
                have fin : ∀ (J : Nat) (u : gd) (f j : Int32), mi [] [139] y u → j.toInt = J → J ≤ nl → (∀ c, c < J → Rm9 E L u c (K + 1) (I + 1)) → (∀ c, J ≤ c → c < nl → Rm9 E L u c (K + 1) (I + 1)) → MT G (D + 1) z_ring 91 [(0, vr 0), (1, vi w), (2, vi r), (3, vi l), (4, vi k), (5, vi (i + 1))] [] u (ri F) := by
                  intro J u f j mu ej hJ h1 h2
                  refine ihp (I + 1) u (i + 1) mu ii hI2 (by clear h1 h2; omega) (fun c hc => ?_)
                  by_cases cc : c < J
                  · exact h1 c cc
                  · exact h2 c (by omega) hc
                induction s with
                | zero =>
                  intro J u f j mu ej hJ hs hf h1 h2
                  exact sg_ring_144 _ _ _ _ _ _ _ ⟨fun q => fin J u f j mu ej hJ h1 (fun c c1 c2 => by clear h1 h2 hf; omega), fun q => absurd (t_le.mpr (by clear h1 h2 hf; rw [f24 u mu]; omega)) q⟩
                | succ s ihs =>
                  intro J u f j mu ej hJ hs hf h1 h2
                  refine sg_ring_144 _ _ _ _ _ _ _ ⟨fun q => fin J u f j mu ej hJ h1 (fun c c1 c2 => by rw [t_le, f24 u mu] at q; clear h1 h2 hf; omega), fun q3 => ⟨fun f0 => fin J u f j mu ej hJ h1 (fun c c1 c2 => Rm_no (Or.inl (fun z => hf.mpr (by rw [Nat.add_sub_cancel] at z; exact z) f0)) (h2 c c1 c2)), fun fn => ?_⟩⟩
                  rw [t_le, f24 u mu] at q3
                  have hJ2 : J < nl := by clear h1 h2 hf; omega
                  have jv : vp_in j 6 := by clear h1 h2 hf; rw [vp_in_iff]; omega
                  have jK : j.toNatClampNeg = J := by rw [t_cl, ej]; rfl
                  have ji : (j + 1).toInt = ((J + 1 : Nat) : Int) := by clear h1 h2 hf; rw [t_add (by omega) (by omega), k1, ej]; rfl
                  have a1 : (36 * w).toInt = 36 * w.toInt := by rw [t_mul (by rw [k36]; omega) (by rw [k36]; omega), k36]
                  have a2 : (6 * i).toInt = 6 * i.toInt := by clear h1 h2 hf; rw [t_mul (by rw [k6]; omega) (by rw [k6]; omega), k6]
                  have a3 : (36 * w + 6 * i).toInt = 36 * w.toInt + 6 * i.toInt := by clear h1 h2 hf; rw [t_add (by omega) (by omega), a1, a2]
                  have a4 : (36 * w + 6 * i + j).toInt = 36 * w.toInt + 6 * i.toInt + j.toInt := by clear h1 h2 hf; rw [t_add (by omega) (by omega), a3]
                  have a5 : (36 * w + 6 * i + j).toNatClampNeg = 36 * v + 6 * I + J := by clear h1 h2 hf; rw [t_cl, a4]; omega
                  have hEm9 := hEm I (by omega) J (by omega)
                  have go : ∀ u', mi [] [139] y u' → (∀ c, ¬ c = J → u'.1 139 c = u.1 139 c) → Rm9 E L u' J (K + 1) (I + 1) → MT G (D + 1) z_ring 144 [(0, vr 0), (1, vi w), (2, vi r), (3, vi l), (4, vi k), (5, vi i), (6, vi f), (7, vi (j + 1))] [] u' (ri F) := fun u' mu' e' hJJ => ihs (J + 1) u' f (j + 1) mu' ji hJ2 (by clear h1 h2 hf; omega) hf (fun c hc => by
                    by_cases cc : c = J
                    · rw [cc]; exact hJJ
                    · exact Rm_f (e' c cc) (h1 c (by omega))) (fun c c1 c2 => Rm_f (e' c (by omega)) (h2 c (by omega) c2))
                  have hJ9 := h2 J (Nat.le_refl _) hJ2
                  have hfs := hf.mp fn
                  rw [a5, f128 u mu, jK]
                  refine ⟨by clear h1 h2 hf; rw [vp_in_iff, a4]; omega, fun z0 => go u mu (fun _ _ => rfl) (Rm_no (Or.inr (fun z => hEm9.mpr z z0)) hJ9), fun zn => ⟨jv, fun nz => go u mu (fun _ _ => rfl) ?_, fun ez => ⟨jv, fun u8 e8 => go u8 (st u u8 _ _ mu e8) (fun c hc => by rw [e8, si_get, if_neg (fun q => hc q.2)]) (Or.inr ⟨K + 1, by omega, by rw [e8, si_get, if_pos ⟨rfl, rfl⟩]; exact ek, ⟨I, by omega, hfs.1, hEm9.mp zn⟩, ?_⟩)⟩⟩⟩
                  · rcases hJ9 with ⟨b1, -⟩ | b
                    · exact absurd b1 nz
                    · exact Or.inr b
                  · rcases hJ9 with ⟨-, b2, -⟩ | ⟨t, b1, b2, -⟩
                    · exact b2
                    · rw [ez, k0] at b2; omega
              have go : ∀ f : Int32, (¬ f = 0 ↔ fs9 E L K I) → MT G (D + 1) z_ring 144 [(0, vr 0), (1, vi w), (2, vi r), (3, vi l), (4, vi k), (5, vi i), (6, vi f), (7, vi 0)] [] u (ri F) := fun f hf => p144 0 nl 0 u f 0 mu rfl (Nat.zero_le _) (by omega) hf (fun c hc => absurd hc (Nat.not_lt_zero _)) (fun c _ hc => hr c hc)
              have n1 : ¬ (1 : Int32) = 0 := by decide
              refine ⟨fun nk => ⟨iv, ?_⟩, fun ek1 => ?_⟩
              · have K1 : 1 ≤ K := by
                  clear hr
                  have : ¬ k.toInt = 1 := fun z => nk (t_eq.mpr (by rw [k1]; exact z))
                  omega
                have km : (k - 1).toInt = (K : Nat) := by clear hr; rw [t_sub (by omega) (by omega), k1, ek]; push_cast; omega
                have hat := Rm_at (by omega) (hr I hI2)
                rw [Nat.add_sub_cancel] at hat
                rw [iK]
                refine ⟨fun ne => go 0 ⟨fun z => absurd rfl z, fun z => absurd (t_eq.mpr (by rw [hat.mpr z, km])) ne⟩, fun e => go 1 ⟨fun _ => hat.mp (by rw [e, km]), fun _ => n1⟩⟩
              · have K0 : K = 0 := by clear hr; rw [ek1, k1] at ek; omega
                have e0 : fs9 E L K I ↔ I = L := by
                  rw [K0]
                  exact ⟨fun z => z.1, fun z => ⟨z, fun m m1 m2 => by omega⟩⟩
                refine ⟨fun ne => go 0 ⟨fun z => absurd rfl z, fun z => absurd (t_eq.mpr (by rw [ei, el, e0.mp z])) ne⟩, fun e => go 1 ⟨fun _ => e0.mpr (by rw [t_eq, ei, el] at e; omega), fun _ => n1⟩⟩
          exact p91 nl 0 u 0 mu rfl (Nat.zero_le _) (by omega) (fun c hc => Rv_m (hv c hc))
      have p53 : ∀ (m I : Nat) (u : gd) (k : Int32), mi [] [139] y u → k.toInt = I → I ≤ nl → nl - I ≤ m → (∀ c, c < I → u.1 139 c = 0) → MT G (D + 1) z_ring 53 [(0, vr 0), (1, vi w), (2, vi r), (3, vi l), (4, vi k)] [] u (ri F) := by
        intro m
        have fin : ∀ (I : Nat) (u : gd) (k : Int32), mi [] [139] y u → k.toInt = I → I ≤ nl → (∀ c, c < I → u.1 139 c = 0) → u.1 0 24 ≤ k → MT G (D + 1) z_ring 79 [(0, vr 0), (1, vi w), (2, vi r), (3, vi l), (4, vi 1)] [] u (ri F) := by
          intro I u k mu ek hI h0 q
          rw [t_le, f24 u mu] at q
          exact p79 nl 0 u 1 mu rfl (Nat.zero_le _) (by omega) (fun c hc => Or.inl ⟨h0 c (by clear h0; omega), fun m m1 m2 => by omega⟩)
        induction m with
        | zero =>
          intro I u k mu ek hI hm h0
          exact sg_ring_53 _ _ _ _ ⟨fun q => fin I u k mu ek hI h0 q, fun q => absurd (t_le.mpr (by clear h0; rw [f24 u mu]; omega)) q⟩
        | succ m ihm =>
          intro I u k mu ek hI hm h0
          refine sg_ring_53 _ _ _ _ ⟨fun q => fin I u k mu ek hI h0 q, fun q => ?_⟩
          rw [t_le, f24 u mu] at q
          have ki : (k + 1).toInt = ((I + 1 : Nat) : Int) := by clear h0; rw [t_add (by omega) (by omega), k1, ek]; rfl
          have kK : k.toNatClampNeg = I := by rw [t_cl, ek]; rfl
          rw [kK]
          refine ⟨by clear h0; rw [vp_in_iff]; omega, fun u3 e3 => ihm (I + 1) u3 (k + 1) (st u u3 _ _ mu e3) ki (by clear h0; omega) (by clear h0; omega) (fun c hc => ?_)⟩
          rw [e3, si_get]
          by_cases cc : c = I
          · rw [if_pos ⟨rfl, cc⟩]
          · rw [if_neg (fun z => cc z.2)]; exact h0 c (by omega)
      exact p53 nl 0 u 0 mu rfl (Nat.zero_le _) (by omega) (fun c hc => absurd hc (Nat.not_lt_zero _))
  exact p42 nl 0 0 y 0 0 ⟨fun _ _ => rfl, fun _ _ _ => rfl⟩ rfl (Nat.zero_le _) (by omega) rfl rgS_0
end MRG
/-- which lock was taken behind which -/
def Ec9 (C : gCo) (nl wn : Nat) (T : gTy) (a b : Nat) : Prop := b < 6 ∧ ((loS C wn nl T T.1.length).2.2.2.2.1 a >>> (Int32.ofNat b &&& 31)) &&& 1 = 1
theorem lo_in {C : gCo} {nl w : Nat} {T : gTy} (hLk : LkN C nl) (n6 : nl ≤ 6) : ∀ k a b, a < 6 → b < 6 → ((loS C w nl T k).2.2.2.2.1 a >>> (Int32.ofNat b &&& 31)) &&& 1 = 1 → a < nl ∧ b < nl := by
  intro k
  induction k with
  | zero =>
    intro a b ha hb h
    have h : ((0 : Int32) >>> (Int32.ofNat b &&& 31)) &&& 1 = 1 := h
    rw [km_0 b (by omega)] at h
    exact absurd h (by decide)
  | succ k ih =>
    intro a b ha hb h
    rw [loS] at h
    cases hp : T.1[k]? with
    | none => rw [hp] at h; exact ih a b ha hb h
    | some p =>
      rw [hp] at h
      have h : (cbT C w nl p.1 a C.2.1.length ((loS C w nl T k).2.2.2.2.1 a) >>> (Int32.ofNat b &&& 31)) &&& 1 = 1 := h
      rcases (cb_bit hb (ob_lt hLk n6) _).mp h with z | ⟨t, -, z1, z2, -, z4, z5⟩
      · exact ih a b ha hb z
      · refine ⟨?_, ?_⟩
        · apply Classical.byContradiction
          intro c
          rw [hd_hi ha nl (by omega)] at z4
          exact absurd z4 (by decide)
        · have w0 : (p.1.2.2 t).2.2.2.1 = 0 := by
            by_cases w0 : (p.1.2.2 t).2.2.2.1 = 0
            · exact w0
            · unfold soM at z2; rw [if_neg w0] at z2; omega
          unfold soM at z2
          rw [if_pos w0] at z2
          cases hs : C.1[(p.1.2.2 t).2.2.1]? with
          | none => unfold stN at z2; rw [hs] at z2; exact absurd z2 (by decide)
          | some st =>
            have e := stN_is hs
            rw [e] at z2
            have := hLk _ st hs (by omega) (by omega)
            rw [z5]
            unfold obM
            rw [e]; exact this
abbrev e1Rg (l1 : Int32) : Prop := ¬ (l1 = 0 ∨ l1 = 1)
def rgV (tr : Nat → Prop) (C : gCo) (nl : Nat) (lm : Nat → Nat) (l1 r : Int32) : Prop := ∃ wn : Nat, (wn = 0 ∨ wn = 1) ∧ l1 = Int32.ofNat wn ∧ ((tr wn ∧ ∃ k : Nat, r.toInt = k ∧ rgS (Ec9 C nl wn (twM C lm wn)) 6 k) ∨ (¬ tr wn ∧ r = 0))
def sRg (C : gCo) (lm : Nat → Nat) (x : gd) (l1 r : Int32) (y : gd) : Prop := rgV (fun v => ¬ x.1 (260 + 20 * v) 0 = 0) C (x.1 60 9).toInt.toNat lm l1 r ∧ KRd x y
def tRg (C : gCo) (lm : Nat → Nat) (wr : Nat) (w : gd) (l1 r : Int32) (w' : gd) : Prop := rgV (fun v => ¬ w.1 119 v = 0) C (w.1 0 24).toInt.toNat lm l1 r ∧ rdM C wr w w'
theorem rgV_eq {tr tr' : Nat → Prop} {C : gCo} {nl nl' : Nat} {lm : Nat → Nat} {l1 r r' : Int32} (e : ∀ v, (v = 0 ∨ v = 1) → (tr v ↔ tr' v)) (en : ∀ v, (v = 0 ∨ v = 1) → tr v → nl = nl') (h : rgV tr C nl lm l1 r) (g : rgV tr' C nl' lm l1 r') : r = r' := by
  obtain ⟨wn, a1, a2, a3⟩ := h
  obtain ⟨wn', b1, b2, b3⟩ := g
  have ew := wn_eq b1 a1 b2 a2
  subst ew
  rcases a3 with ⟨c1, k, c2, c3⟩ | ⟨c1, c2⟩
  · rcases b3 with ⟨d1, k', d2, d3⟩ | ⟨d1, -⟩
    · rw [en _ a1 c1] at c3
      rw [t_eq, c2, d2, rgS_u c3 d3]
    · exact absurd ((e _ a1).mp c1) d1
  · rcases b3 with ⟨d1, -⟩ | ⟨-, d2⟩
    · exact absurd ((e _ a1).mpr d1) c1
    · rw [c2, d2]
section KRC
variable {G : kG} {q : kP} {d : Nat} {x y w w' : gd} {P : Option gv → gd → Prop} {X : String → gd → Prop} {C : gCo} {wr n : Nat} {lm : Nat → Nat}
theorem ja_ring {l1 r9 r : Int32} (h : JH C wr n lm x w) (hH : HOI y q) (k : ansK (e1Rg l1) False (sRg C lm x l1) x r9 y) (m : ansM C wr (e1Rg l1) False (tRg C lm wr w l1) w r w') : JR3 y w' ∧ ansE r9 r y w' :=
  ans_eq h hH Iff.rfl Iff.rfl (fun _ z => z) k m (fun c _ r' s t => ⟨JQ_rd h hH s.2 t.2, rgV_eq (JH_tr h) (fun v v01 tr => by rw [((JH_T h v v01).2 tr).1.1.2.2.2.1]) s.1 t.1⟩)
theorem ka_ring (h : JH C wr n lm x w) (hq : kV q) (hH : HOI x q) (l1 : Int32) (hX1 : e1Rg l1 → X iAE x) (hP : ¬ e1Rg l1 → ¬ False → ∀ r y, HOI y q → sRg C lm x l1 r y → P (some (vi r)) y) : KE G q (d + 7) zk_X11_ring 0 [(0, vr 0), (1, vi l1)] [] x P X := by
  refine kg_X11_ring_0 hq l1 (kf_way hq l1 (fun z => hX1 z) (fun hw => ?_))
  obtain ⟨v, w01, ew, ewn⟩ := w_nat hw
  have hP := hP (fun z => z hw) (fun z => z)
  refine kh_was (w := v) hq hH l1 w01 ew (fun c0 => ⟨fun _ => hP _ x hH ⟨⟨v, w01, ew, Or.inr ⟨fun z => z c0, rfl⟩⟩, KR_rf⟩, fun c => absurd rfl c⟩) (fun e7 ho hz hC nz => ⟨fun c => absurd c (by decide), fun _ => ⟨way_in hw, fun u5 e5 => ⟨260 + 20 * v, by rw [e5, ewn, e7], ho, ?_⟩⟩⟩)
  obtain ⟨-, ⟨-, -, -, -, -, s5, -⟩, -⟩ := (JH_T h v w01).2 nz
  refine kt_ring3 (E := Ec9 C (x.1 60 9).toInt.toNat v (twM C lm v)) hq ho (fun a ha b hb => ?_) (fun r k er hr => hP _ x hH ⟨⟨v, w01, ew, Or.inl ⟨nz, k, er, hr⟩⟩, KR_rf⟩)
  rw [s5 a ha]
  exact ⟨fun z => ⟨hb, z⟩, fun z => z.2⟩
end KRC
section MRC9
variable {G : mG} {d D : Nat} {x w : gd} {F : Int32 → gd → Prop} {C : gCo} {wr n : Nat} {lm : Nat → Nat} {q : kP}
theorem ma_ring (h : JH C wr n lm x w) (hH : HOI x q) (hm : MI w) (l1 : Int32) (hD : 3 ≤ D) (hF : ∀ r w', ansM C wr (e1Rg l1) False (tRg C lm wr w l1) w r w' → F r w') : MT G D z_ring 0 [(0, vr 0), (1, vi l1)] [] w (ri F) := by
  obtain ⟨D, rfl⟩ : ∃ D', D = D' + 1 := ⟨D - 1, by omega⟩
  refine sg_ring_0 _ (fun y e => ?_)
  have hy := z0_s e
  have qy := (MI_0 hy.1 hm).1
  have gy : ∀ c, ¬ c = 0 → y.1 c = w.1 c := fun c hc => hy.1.2 c hc (by simp)
  have y24 : y.1 0 24 = w.1 0 24 := hy.1.1 24 (by decide)
  have p20 : ∀ b : Int32, (b = 0 → vp_in l1 2 ∧ (l1 = 0 ∨ l1 = 1)) → (¬ b = 0 → e1Rg l1) → MT G (D + 1) z_ring 20 [(0, vr 0), (1, vi l1)] [vi b, vr 0] y (ri F) := by
    intro b hb hb2
    refine sg_ring_20 _ _ (sc_refk b 1 hy (by decide) (fun b0 => ⟨fun q => absurd rfl q, fun _ => ⟨(hb b0).1, ?_⟩⟩) (fun nb y' m => ⟨fun _ => ri_i (hF _ y' (an_1 hm (hb2 nb) m)), fun q => absurd q (by decide)⟩))
    obtain ⟨wv, hw⟩ := hb b0
    obtain ⟨v, w01, ew, ewn⟩ := w_nat hw
    rw [ewn, gy 119 (by omega)]
    refine ⟨fun tr => ?_, fun t0 => ri_i (hF _ y (an_3 qy (fun z => z hw) (fun z => z) hy.2 ⟨⟨v, w01, ew, Or.inr ⟨fun z => z t0, rfl⟩⟩, rd_0 hy.1 hm⟩))⟩
    obtain ⟨j, -, -, -, -, -, -, -, y7, -⟩ := (JH_T h v w01).2 (fun z => tr ((JH_T h v w01).1.mp z))
    have h9 := j.1.1
    obtain ⟨-, -, hLk, -, en, n6, -⟩ := JC_C (hH.2.1 h9) j
    have e24 : x.1 60 9 = w.1 0 24 := j.1.2.2.2.1
    rw [e24] at hLk en n6
    have hE : ∀ a b, a < 6 → Ec9 C (w.1 0 24).toInt.toNat v (twM C lm v) a b → a < (w.1 0 24).toInt.toNat ∧ b < (w.1 0 24).toInt.toNat := fun a b ha hz => lo_in hLk n6 _ a b ha hz.1 hz.2
    refine sp_ring42 (E := Ec9 C (w.1 0 24).toInt.toNat v (twM C lm v)) l1 wv ewn (by rw [y24]; exact en) n6 (fun a ha b hb => ?_) hE (fun u r s mu er hs => hF _ u (an_3 (rd_mi (C := C) (wr := wr) mu rfl rfl qy).1.1 (fun z => z hw) (fun z => z) (by rw [mu.1 0 (by decide)]; exact hy.2) ⟨⟨v, w01, ew, Or.inl ⟨tr, s, er, rgS_6 n6 hE hs⟩⟩, rd_tr hy.1 (rd_mi mu rfl rfl qy)⟩))
    rw [gy 128 (by omega), y7 a ha b hb]
    exact ⟨fun z => ⟨hb, z⟩, fun z => z.2⟩
  refine sp_in _ _ _ ⟨fun c => p20 0 (fun _ => w_in (bi_ne.mp c)) (fun z => absurd rfl z), fun c => p20 1 (fun q => absurd q (by decide)) (fun _ hg => bi_eq.mp c ?_)⟩
  rcases hg with e9 | e9 <;> rw [e9]
  · exact ⟨by decide, by decide⟩
  · exact ⟨by decide, by decide⟩
end MRC9
end
section
/-! outcome, alike: the outcomes of a trying, in order -/
noncomputable def ouL (C : gCo) (nl : Nat) (lm : Nat → Nat) (v : Nat) : List (List Int32) := (loS C v nl (twM C lm v) (twM C lm v).1.length).2.2.2.2.2
/-- there is such an outcome, such a cell -/
def okO (tr : Nat → Prop) (C : gCo) (nl : Nat) (nc : Int) (lm : Nat → Nat) (l1 l2 l3 : Int32) : Prop := ∃ v : Nat, (v = 0 ∨ v = 1) ∧ l1 = Int32.ofNat v ∧ tr v ∧ (0 ≤ l2.toInt ∧ l2.toInt < ((ouL C nl lm v).length : Nat)) ∧ 0 ≤ l3.toInt ∧ l3.toInt < nc
abbrev e1Ou (l1 : Int32) : Prop := ¬ (l1 = 0 ∨ l1 = 1)
abbrev e2Ou (C : gCo) (lm : Nat → Nat) (x : gd) (l1 l2 l3 : Int32) : Prop := (l1 = 0 ∨ l1 = 1) ∧ ¬ okO (fun v => ¬ x.1 (260 + 20 * v) 0 = 0) C (x.1 60 9).toInt.toNat (x.1 60 6).toInt lm l1 l2 l3
abbrev f2Ou (C : gCo) (lm : Nat → Nat) (w : gd) (l1 l2 l3 : Int32) : Prop := (l1 = 0 ∨ l1 = 1) ∧ ¬ okO (fun v => ¬ w.1 119 v = 0) C (w.1 0 24).toInt.toNat (w.1 0 23).toInt lm l1 l2 l3
def ouV (C : gCo) (nl : Nat) (lm : Nat → Nat) (l1 l2 l3 r : Int32) : Prop := ∃ v : Nat, (v = 0 ∨ v = 1) ∧ l1 = Int32.ofNat v ∧ ∃ r0, (ouL C nl lm v)[l2.toInt.toNat]? = some r0 ∧ r0[l3.toInt.toNat]? = some r
def sOc (C : gCo) (lm : Nat → Nat) (x : gd) (l1 l2 l3 r : Int32) (y : gd) : Prop := ouV C (x.1 60 9).toInt.toNat lm l1 l2 l3 r ∧ KRd x y
def tOc (C : gCo) (lm : Nat → Nat) (wr : Nat) (w : gd) (l1 l2 l3 r : Int32) (w' : gd) : Prop := ouV C (w.1 0 24).toInt.toNat lm l1 l2 l3 r ∧ rdM C wr w w'
theorem ouV_eq {C : gCo} {nl : Nat} {lm : Nat → Nat} {l1 l2 l3 r r' : Int32} (h : ouV C nl lm l1 l2 l3 r) (g : ouV C nl lm l1 l2 l3 r') : r = r' := by
  obtain ⟨v, a1, a2, r0, a3, a4⟩ := h
  obtain ⟨v', b1, b2, r1, b3, b4⟩ := g
  have ew := wn_eq b1 a1 b2 a2
  subst ew
  rw [a3] at b3
  cases Option.some.inj b3
  rw [a4] at b4
  exact Option.some.inj b4
section KOC
variable {G : kG} {q : kP} {d : Nat} {x y w w' : gd} {o p : Nat} {F : Int32 → gd → Prop} {P : Option gv → gd → Prop} {X : String → gd → Prop} {C : gCo} {wr n : Nat} {lm : Nat → Nat} {L K : List (List Int32)}
theorem JH_9v (h : JH C wr n lm x w) (v : Nat) (v01 : v = 0 ∨ v = 1) (tr : ¬ x.1 (260 + 20 * v) 0 = 0) : x.1 60 6 = w.1 0 23 ∧ x.1 60 9 = w.1 0 24 := ⟨((JH_T h v v01).2 tr).1.1.2.2.1, ((JH_T h v v01).2 tr).1.1.2.2.2.1⟩
theorem ok_iff {l1 l2 l3 : Int32} (h : JH C wr n lm x w) : e2Ou C lm x l1 l2 l3 ↔ f2Ou C lm w l1 l2 l3 := by
  have g : okO (fun v => ¬ x.1 (260 + 20 * v) 0 = 0) C (x.1 60 9).toInt.toNat (x.1 60 6).toInt lm l1 l2 l3 ↔ okO (fun v => ¬ w.1 119 v = 0) C (w.1 0 24).toInt.toNat (w.1 0 23).toInt lm l1 l2 l3 := by
    constructor
    · rintro ⟨v, a, b, c, e⟩
      obtain ⟨f1, f2⟩ := JH_9v h v a c
      rw [f1, f2] at e
      exact ⟨v, a, b, (JH_tr h v a).mp c, e⟩
    · rintro ⟨v, a, b, c, e⟩
      have c' := (JH_tr h v a).mpr c
      obtain ⟨f1, f2⟩ := JH_9v h v a c'
      rw [← f1, ← f2] at e
      exact ⟨v, a, b, c', e⟩
  exact ⟨fun z => ⟨z.1, fun z2 => z.2 (g.mpr z2)⟩, fun z => ⟨z.1, fun z2 => z.2 (g.mp z2)⟩⟩
theorem ja_outcome {l1 l2 l3 r9 r : Int32} (h : JH C wr n lm x w) (hH : HOI y q) (k : ansK (e1Ou l1) (e2Ou C lm x l1 l2 l3) (sOc C lm x l1 l2 l3) x r9 y) (m : ansM C wr (e1Ou l1) (f2Ou C lm w l1 l2 l3) (tOc C lm wr w l1 l2 l3) w r w') : JR3 y w' ∧ ansE r9 r y w' :=
  ans_eq h hH Iff.rfl (ok_iff h) (fun a z => a z.1) k m (fun c1 c2 r' s t => ⟨JQ_rd h hH s.2 t.2, by
    have hk : okO (fun v => ¬ x.1 (260 + 20 * v) 0 = 0) C (x.1 60 9).toInt.toNat (x.1 60 6).toInt lm l1 l2 l3 := Classical.byContradiction (fun z => c2 ⟨Classical.byContradiction c1, z⟩)
    obtain ⟨v, a, -, c, -⟩ := hk
    have t1 := t.1
    rw [← (JH_9v h v a c).2] at t1
    exact ouV_eq s.1 t1⟩)
theorem kt_value3 (hq : kV q) (ho : kiT q o) (i c : Int32) (hT : TO x q o) (hi : 0 ≤ i.toInt ∧ i.toInt < (x.1 o 3).toInt) (hc : 0 ≤ c.toInt ∧ c.toInt < 24) (h : F (x.1 (orw o (x.1 (o + 14) i.toInt.toNat).toInt.toNat) c.toInt.toNat) x) : KT G q d zk_X10_valueOf 0 [(0, vr o), (1, vi i), (2, vi c)] [] x (ri F) := by
  obtain ⟨⟨b0, b1, b2⟩, hO⟩ := hT
  obtain ⟨o0, o1⟩ := hO i.toInt.toNat (by omega)
  refine kg_X10_valueOf_0 hq ho _ _ ⟨by rw [vp_in_iff]; omega, ?_⟩
  rw [t_cl i]
  refine ⟨by rw [vp_in_iff]; omega, fun u3 e3 => ?_⟩
  obtain ⟨r1, r2, r3⟩ := tr_row2 (i := (x.1 (o + 14) i.toInt.toNat).toInt.toNat) hq ho (by omega)
  rw [t_cl, r1] at e3
  exact ⟨_, e3, r2, r3, by rw [vp_in_iff]; omega, by rw [t_cl c]; exact ri_i h⟩
theorem JH_ou (h : JH C wr n lm x w) {v : Nat} (v01 : v = 0 ∨ v = 1) (nz : ¬ x.1 (260 + 20 * v) 0 = 0) : OUk x (260 + 20 * v) (ouL C (x.1 60 9).toInt.toNat lm v) ∧ ∀ r ∈ ouL C (x.1 60 9).toInt.toNat lm v, (r.length : Int) = (x.1 60 6).toInt := by
  obtain ⟨⟨-, cs, -⟩, ⟨-, -, -, -, -, -, s6⟩, -⟩ := (JH_T h v v01).2 nz
  refine ⟨s6, fun r hr => ?_⟩
  have := (loS_so (C := C) (w := v) (nl := (x.1 60 9).toInt.toNat) (T := twM C lm v) (twM C lm v).1.length).2 r hr
  rw [this]
  exact (cs.2.2.1.1).symm
theorem ka_outcome (h : JH C wr n lm x w) (hq : kV q) (hH : HOI x q) (l1 l2 l3 : Int32) (hX1 : e1Ou l1 → X iAE x) (hX2 : e2Ou C lm x l1 l2 l3 → X iOE x) (hP : ¬ e1Ou l1 → ¬ e2Ou C lm x l1 l2 l3 → ∀ r y, HOI y q → sOc C lm x l1 l2 l3 r y → P (some (vi r)) y) : KE G q (d + 7) zk_X11_outcome 0 [(0, vr 0), (1, vi l1), (2, vi l2), (3, vi l3)] [] x P X := by
  have k0 : (0 : Int32).toInt = 0 := rfl
  refine kg_X11_outcome_0 hq l1 l2 l3 (kf_way hq l1 (fun z => hX1 z) (fun hw => ?_))
  obtain ⟨v, w01, ew, ewn⟩ := w_nat hw
  have vq : ∀ v', (v' = 0 ∨ v' = 1) → l1 = Int32.ofNat v' → v' = v := fun v' h1 h2 => wn_eq h1 w01 h2 ew
  refine kh_was (w := v) hq hH l1 w01 ew (fun c0 => ⟨fun _ => kg_X11_outcome_26 hq l1 l2 l3 _ _ (kh_ix hq l2 0 (fun _ => hX2 ⟨hw, ?_⟩) (fun a b => ?_)), fun c => absurd rfl c⟩) (fun e7 ho hz hC nz => ⟨fun c => absurd c (by decide), fun _ => ⟨way_in hw, fun u6 e6 => ⟨260 + 20 * v, by rw [e6, ewn, e7], ho, ?_⟩⟩⟩)
  · rintro ⟨v', a, b, c, -⟩
    rw [vq v' a b] at c
    exact c c0
  · rw [k0] at b; omega
  obtain ⟨⟨⟨s1, s2⟩, s3⟩, s4⟩ := JH_ou h w01 nz
  have hT := (hH.2.2.2 (260 + 20 * v) (by omega)).1.1
  have c6 := hC.1.1
  refine kg_X11_outcome_26 hq l1 l2 l3 _ _ (kh_ix hq l2 _ (fun hn => hX2 ⟨hw, ?_⟩) (fun h0 h1 => kh_ix hq l3 _ (fun hn => hX2 ⟨hw, ?_⟩) (fun g0 g1 => ⟨way_in hw, fun u4 e4 => ⟨260 + 20 * v, by rw [e4, ewn, e7], ho, kt_value3 hq ho l2 l3 hT ⟨h0, h1⟩ (by omega) ?_⟩⟩)))
  · rintro ⟨v', a, b, c, e, -⟩
    rw [vq v' a b] at e
    exact hn (by rw [s1]; exact e)
  · rintro ⟨v', a, b, c, -, e⟩
    exact hn e
  obtain ⟨r0, hr0⟩ : ∃ r0, (ouL C (x.1 60 9).toInt.toNat lm v)[l2.toInt.toNat]? = some r0 := ⟨_, List.getElem?_eq_getElem (by omega)⟩
  have l0 := s4 r0 (List.mem_of_getElem? hr0)
  obtain ⟨u, hu⟩ : ∃ u, r0[l3.toInt.toNat]? = some u := ⟨_, List.getElem?_eq_getElem (by omega)⟩
  rw [s2 _ r0 hr0 _ u hu]
  refine hP (fun z => z hw) (fun z => z.2 ⟨v, w01, ew, nz, ⟨h0, by rw [← s1]; exact h1⟩, g0, g1⟩) u x hH ⟨⟨v, w01, ew, r0, hr0, hu⟩, KR_rf⟩
end KOC
section MOC
variable {G : mG} {d D : Nat} {x w : gd} {F : Int32 → gd → Prop} {C : gCo} {wr n : Nat} {lm : Nat → Nat} {q : kP}
theorem JH_ous (h : JH C wr n lm x w) {v : Nat} (v01 : v = 0 ∨ v = 1) (tr : ¬ w.1 119 v = 0) : OUs w v (ouL C (w.1 0 24).toInt.toNat lm v) ∧ ∀ r ∈ ouL C (w.1 0 24).toInt.toNat lm v, (r.length : Int) = (w.1 0 23).toInt := by
  have nz := (JH_tr h v v01).mpr tr
  obtain ⟨f1, f2⟩ := JH_9v h v v01 nz
  obtain ⟨-, -, ⟨-, -, -, -, -, -, -, y3⟩⟩ := (JH_T h v v01).2 nz
  have := (JH_ou h v01 nz).2
  rw [f1, f2] at this
  exact ⟨y3, this⟩
theorem ma_outcome (h : JH C wr n lm x w) (hH : HOI x q) (hm : MI w) (l1 l2 l3 : Int32) (hD : 3 ≤ D) (hF : ∀ r w', ansM C wr (e1Ou l1) (f2Ou C lm w l1 l2 l3) (tOc C lm wr w l1 l2 l3) w r w' → F r w') : MT G D z_outcome 0 [(0, vr 0), (1, vi l1), (2, vi l2), (3, vi l3)] [] w (ri F) := by
  obtain ⟨D, rfl⟩ : ∃ D', D = D' + 1 := ⟨D - 1, by omega⟩
  have k0 : (0 : Int32).toInt = 0 := rfl
  have k1 : (1 : Int32).toInt = 1 := rfl
  refine sg_outcome_0 _ _ _ (fun y e => ?_)
  have hy := z0_s e
  have qy := (MI_0 hy.1 hm).1
  have gy : ∀ c, ¬ c = 0 → y.1 c = w.1 c := fun c hc => hy.1.2 c hc (by simp)
  have y23 : y.1 0 23 = w.1 0 23 := hy.1.1 23 (by decide)
  have p72 : vp_in l1 2 → (l1 = 0 ∨ l1 = 1) → ∀ b : Int32, (b = 0 → okO (fun v => ¬ w.1 119 v = 0) C (w.1 0 24).toInt.toNat (w.1 0 23).toInt lm l1 l2 l3) → (¬ b = 0 → ¬ okO (fun v => ¬ w.1 119 v = 0) C (w.1 0 24).toInt.toNat (w.1 0 23).toInt lm l1 l2 l3) → MT G (D + 1) z_outcome 72 [(0, vr 0), (1, vi l1), (2, vi l2), (3, vi l3)] [vi b, vr 0] y (ri F) := by
    intro wv hw b hb hb2
    refine sg_outcome_72 _ _ _ _ (sc_refk b 2 hy (by decide) (fun b0 => ⟨fun _ => ?_, fun q => absurd rfl q⟩) (fun nb y' m => ⟨fun q => absurd q (by decide), fun _ => ri_i (hF _ y' (an_2 hm ⟨hw, hb2 nb⟩ m))⟩))
    have hk := hb b0
    obtain ⟨v, v01, ev, tr, ⟨i0, i1⟩, j0, j1⟩ := id hk
    obtain ⟨⟨s1, s2, s3⟩, s4⟩ := JH_ous h v01 tr
    have v6 : l1.toNatClampNeg = v := by rcases v01 with e9 | e9 <;> rw [ev, e9] <;> rfl
    obtain ⟨r0, hr0⟩ : ∃ r0, (ouL C (w.1 0 24).toInt.toNat lm v)[l2.toInt.toNat]? = some r0 := ⟨_, List.getElem?_eq_getElem (by omega)⟩
    have l0 := s4 r0 (List.mem_of_getElem? hr0)
    obtain ⟨g1, g2, -⟩ := s3 _ r0 hr0
    obtain ⟨u, hu⟩ : ∃ u, r0[l3.toInt.toNat]? = some u := ⟨_, List.getElem?_eq_getElem (by omega)⟩
    rw [t72e wv v6 (i := l2) (I := l2.toInt.toNat) (c := l3) (c' := l3.toInt.toNat) (by omega) (by omega) (by omega) (by omega), gy 129 (by omega), g2 _ u hu]
    exact ⟨t72 wv (by omega) (by omega) (by omega) (by omega), ri_i (hF _ y (an_3 qy (fun z => z hw) (fun z => z.2 hk) hy.2 ⟨⟨v, v01, ev, r0, hr0, hu⟩, rd_0 hy.1 hm⟩))⟩
  have p20 : ∀ b : Int32, (b = 0 → vp_in l1 2 ∧ (l1 = 0 ∨ l1 = 1)) → (¬ b = 0 → e1Ou l1) → MT G (D + 1) z_outcome 20 [(0, vr 0), (1, vi l1), (2, vi l2), (3, vi l3)] [vi b, vr 0] y (ri F) := by
    intro b hb hb2
    refine sg_outcome_20 _ _ _ _ (sc_refk b 1 hy (by decide) (fun b0 => ⟨fun q => absurd rfl q, fun _ => ?_⟩) (fun nb y' m => ⟨fun _ => ri_i (hF _ y' (an_1 hm (hb2 nb) m)), fun q => absurd q (by decide)⟩))
    obtain ⟨wv, hw⟩ := hb b0
    obtain ⟨v, w01, ew, ewn⟩ := w_nat hw
    have vq : ∀ v', (v' = 0 ∨ v' = 1) → l1 = Int32.ofNat v' → v' = v := fun v' h1 h2 => wn_eq h1 w01 h2 ew
    rw [ewn, gy 119 (by omega), gy 123 (by omega)]
    refine ⟨wv, fun t0 => p72 wv hw 1 (fun z => absurd z (by decide)) (fun _ => ?_), fun tr => ⟨wv, ?_⟩⟩
    · rintro ⟨v', a, b', c, -⟩
      rw [vq v' a b'] at c
      exact c t0
    obtain ⟨⟨s1, s2, s3⟩, s4⟩ := JH_ous h w01 tr
    have c23 : 0 ≤ (w.1 0 23).toInt ∧ (w.1 0 23).toInt ≤ 24 := by
      have nz := (JH_tr h v w01).mpr tr
      have hx := ((JH_T h v w01).2 nz).1.1.1
      rw [← (JH_9v h v w01 nz).1]
      exact (hH.2.1 hx).1.1
    have m1 : (w.1 123 v - 1).toInt = (w.1 123 v).toInt - 1 := by rw [t_sub (by rw [k1]; omega) (by rw [k1]; omega), k1]
    have m2 : (w.1 0 23 - 1).toInt = (w.1 0 23).toInt - 1 := by rw [t_sub (by rw [k1]; omega) (by rw [k1]; omega), k1]
    refine sp_in _ _ _ ⟨fun c => p72 wv hw 1 (fun z => absurd z (by decide)) (fun _ => ?_), fun c => ?_⟩
    · rintro ⟨v', a, b', -, e, -⟩
      rw [vq v' a b'] at e
      refine bi_eq.mp c ?_
      rw [t_le, t_le, k0, m1]
      omega
    have c1 := bi_ne.mp c
    rw [t_le, t_le, k0, m1] at c1
    rw [y23]
    refine sp_in _ _ _ ⟨fun c => p72 wv hw 0 (fun _ => ⟨v, w01, ew, tr, by omega, ?_⟩) (fun z => absurd rfl z), fun c => p72 wv hw 1 (fun z => absurd z (by decide)) (fun _ => ?_)⟩
    · have c2 := bi_ne.mp c
      rw [t_le, t_le, k0, m2] at c2
      omega
    · rintro ⟨v', a, b', -, -, e⟩
      refine bi_eq.mp c ?_
      rw [t_le, t_le, k0, m2]
      omega
  refine sp_in _ _ _ ⟨fun c => p20 0 (fun _ => w_in (bi_ne.mp c)) (fun z => absurd rfl z), fun c => p20 1 (fun q => absurd q (by decide)) (fun _ hg => bi_eq.mp c ?_)⟩
  rcases hg with e9 | e9 <;> rw [e9]
  · exact ⟨by decide, by decide⟩
  · exact ⟨by decide, by decide⟩
end MOC
end
section
/-! the law's helpers: the class's world, and beside it the cell 299 (a long) -/
def wE (E : gE) : gE := (E.1, E.2.1, E.2.2.1, fun c => if c = 299 then .inr (.long, 1) else E.2.2.2.1 c, E.2.2.2.2)
theorem wE_k {E : gE} {c : Nat} (h : ¬ c = 299) : (wE E).2.2.2.1 c = E.2.2.2.1 c := if_neg h
theorem wE_9 {E : gE} : (wE E).2.2.2.1 299 = .inr (.long, 1) := by
  show (if (299 : Nat) = 299 then (.inr (.long, 1) : gk) else E.2.2.2.1 299) = _
  exact if_pos rfl
def fo (f : gf) : gf := (f.1, f.2.1 ++ [299], f.2.2)
def fO (f : gf) : gf := (f.1, [299], f.2.2)
/-- two worlds apart -/
def gdis (f1 : gf) (ad1 : Nat → Nat) (f2 : gf) (ad2 : Nat → Nat) : Prop := ∀ c ∈ f1.2.1, ∀ c' ∈ f2.2.1, ad1 c ≠ ad2 c'
theorem gwl_in {E : gE} {x : gd} {f : gf} {ad : Nat → Nat} {k : Nat} {q : Nat × va_E} (h : (gwl E x f ad)[k]? = some q) : ∃ c, f.2.1[k]? = some c ∧ q = (ad c, gce E x f ad c) := by
  rw [gwl, List.getElem?_map] at h
  cases hc : f.2.1[k]? with
  | none => rw [hc] at h; cases h
  | some c => rw [hc] at h; cases h; exact ⟨c, rfl, rfl⟩
/-- behind a call: the other world stands, and stays apart -/
theorem keep2 {E1 E2 : gE} {x2 y1 : gd} {f1 f2 g1 : gf} {ad1 ad2 b1 : Nat → Nat} {A : Nat → Prop} {H H2 : Heap} (hP2 : gP E2 x2 f2 ad2 A H) (hd : gdis f1 ad1 f2 ad2) (hk : ∀ q : Nat, q < H.size → ¬ gA f1 ad1 H.size q → H2[q]? = H[q]?) (hP1 : gP E1 y1 g1 b1 (gA f1 ad1 H.size) H2) : gP E2 x2 f2 ad2 A H2 ∧ gdis g1 b1 f2 ad2 := by
  have lt : ∀ c ∈ f2.2.1, ad2 c < H.size := fun c hc => by
    obtain ⟨i, -, hi⟩ := gwl_at (E := E2) (x := x2) (ad := ad2) hc
    exact (hP2.1.1 i _ hi).lt
  refine ⟨⟨⟨hP2.1.1.kept (fun k q hq => ?_), hP2.1.2⟩, hP2.2⟩, fun c hc c' hc' e => ?_⟩
  · obtain ⟨c, hc, rfl⟩ := gwl_in hq
    have hc := List.mem_of_getElem? hc
    refine hk _ (lt c hc) (fun z => ?_)
    rcases z with ⟨c1, h1, e1⟩ | z
    · exact hd c1 h1 c hc e1
    · have := lt c hc
      omega
  · obtain ⟨i, -, hi⟩ := gwl_at (E := E1) (x := y1) (ad := b1) hc
    have hA := hP1.1.2.2 i _ hi
    have l2 := lt c' hc'
    rcases hA with ⟨c1, h1, e1⟩ | z
    · exact hd c1 h1 c' hc' (e1.trans e)
    · have z : H.size ≤ b1 c := z
      omega
theorem gce_ag {E E' : gE} {x y : gd} {f g : gf} {ad bd : Nat → Nat} {c : Nat} (hk : E'.2.2.2.1 c = E.2.2.2.1 c) (ha : E'.2.2.1 = E.2.2.1) (h1 : y.1 c = x.1 c) (h2 : y.2 c = x.2 c) (hr : ∀ j, (g.1 c j).map bd = (f.1 c j).map ad) : gce E' y g bd c = gce E x f ad c := by
  unfold gce gfl gar
  rw [hk, ha, h1, h2]
  simp only [hr]
theorem gwl_ag {E E' : gE} {x y : gd} {f g : gf} {ad bd : Nat → Nat} (hL : g.2.1 = f.2.1) (hk : ∀ c ∈ f.2.1, E'.2.2.2.1 c = E.2.2.2.1 c) (ha : E'.2.2.1 = E.2.2.1) (h1 : ∀ c ∈ f.2.1, y.1 c = x.1 c) (h2 : ∀ c ∈ f.2.1, y.2 c = x.2 c) (hd : ∀ c ∈ f.2.1, bd c = ad c) (hr : ∀ c ∈ f.2.1, ∀ j, (g.1 c j).map bd = (f.1 c j).map ad) : gwl E' y g bd = gwl E x f ad := by
  unfold gwl
  rw [hL]
  apply List.map_congr_left
  intro c hc
  rw [hd c hc, gce_ag (hk c hc) ha (h1 c hc) (h2 c hc) (hr c hc)]
/-- the two parts of it -/
theorem fo_sp {E : gE} {x : gd} {f : gf} {ad : Nat → Nat} {A : Nat → Prop} {H : Heap} (hn : 299 ∉ f.2.1) (h : gP (wE E) x (fo f) ad A H) : gP E x f ad A H ∧ gP (wE E) x (fO f) ad A H ∧ gdis f ad (fO f) ad := by
  obtain ⟨⟨hP, hD⟩, hg⟩ := h
  have e1 : gwl (wE E) x (fo f) ad = gwl (wE E) x f ad ++ gwl (wE E) x (fO f) ad := by
    unfold gwl
    show (f.2.1 ++ [299]).map _ = _
    rw [List.map_append]; rfl
  have e2 : gwl (wE E) x f ad = gwl E x f ad := gwl_ag rfl (fun c hc => wE_k (fun e : c = 299 => hn (e ▸ hc))) rfl (fun _ _ => rfl) (fun _ _ => rfl) (fun _ _ => rfl) (fun _ _ _ => rfl)
  rw [e1, e2] at hP hD
  have l1 : ∀ (k : Nat) (q : Nat × va_E), (gwl E x f ad)[k]? = some q → (gwl E x f ad ++ gwl (wE E) x (fO f) ad)[k]? = some q := fun k q hk => by
    rw [List.getElem?_append_left (List.getElem?_eq_some_iff.mp hk).1]; exact hk
  have l2 : ∀ (k : Nat) (q : Nat × va_E), (gwl (wE E) x (fO f) ad)[k]? = some q → (gwl E x f ad ++ gwl (wE E) x (fO f) ad)[(gwl E x f ad).length + k]? = some q := fun k q hk => by
    rw [List.getElem?_append_right (Nat.le_add_right _ _), Nat.add_sub_cancel_left]; exact hk
  refine ⟨⟨⟨fun k q hk => hP k q (l1 k q hk), ⟨fun i j p q hi hj e => hD.1 i j p q (l1 i p hi) (l1 j q hj) e, fun k q hk => hD.2 k q (l1 k q hk)⟩⟩, hg⟩, ⟨⟨fun k q hk => hP _ q (l2 k q hk), ⟨fun i j p q hi hj e => ?_, fun k q hk => hD.2 _ q (l2 k q hk)⟩⟩, hg⟩, fun c hc c' hc' e => ?_⟩
  · have := hD.1 _ _ p q (l2 i p hi) (l2 j q hj) e
    omega
  · obtain ⟨i, -, hi⟩ := gwl_at (E := E) (x := x) (ad := ad) hc
    obtain ⟨j, -, hj⟩ := gwl_at (E := wE E) (x := x) (f := fO f) (ad := ad) hc'
    have := hD.1 _ _ _ _ (l1 i _ hi) (l2 j _ hj) e
    have := (List.getElem?_eq_some_iff.mp hi).1
    omega
theorem fo_gl {E : gE} {x : gd} {f : gf} {ad : Nat → Nat} {A : Nat → Prop} {H : Heap} (hn : 299 ∉ f.2.1) (h1 : gP E x f ad A H) (h2 : gP (wE E) x (fO f) ad A H) (hd : gdis f ad (fO f) ad) : gP (wE E) x (fo f) ad A H := by
  have e1 : gwl (wE E) x (fo f) ad = gwl (wE E) x f ad ++ gwl (wE E) x (fO f) ad := by
    unfold gwl
    show (f.2.1 ++ [299]).map _ = _
    rw [List.map_append]; rfl
  have e2 : gwl (wE E) x f ad = gwl E x f ad := gwl_ag rfl (fun c hc => wE_k (fun e : c = 299 => hn (e ▸ hc))) rfl (fun _ _ => rfl) (fun _ _ => rfl) (fun _ _ => rfl) (fun _ _ _ => rfl)
  refine ⟨⟨?_, ?_⟩, h1.2⟩
  · rw [e1, e2]; exact h1.1.1.app h2.1.1
  · rw [e1, e2]
    refine h1.1.2.app h2.1.2 (fun i j p q hi hj e => ?_)
    obtain ⟨c, hc, rfl⟩ := gwl_in hi
    obtain ⟨c', hc', rfl⟩ := gwl_in hj
    exact hd c (List.mem_of_getElem? hc) c' (List.mem_of_getElem? hc') e
/-- what a call leaves of the cell 299 -/
def xo (x x1 : gd) : gd := (x1.1, fun c => if c = 299 then x.2 299 else x1.2 c)
def ao (ad ad1 : Nat → Nat) : Nat → Nat := fun c => if c = 299 then ad 299 else ad1 c
theorem fo_mv {E : gE} {x x1 : gd} {f f1 : gf} {ad ad1 : Nat → Nat} {A A1 : Nat → Prop} {H : Heap} (hn1 : 299 ∉ f1.2.1) (hr1 : NR f1 299) (h1 : gP E x1 f1 ad1 A1 H) (hA : ∀ q, A1 q → A q) (h2 : gP (wE E) x (fO f) ad A H) (hd : gdis f1 ad1 (fO f) ad) : gP (wE E) (xo x x1) (fo f1) (ao ad ad1) A H := by
  have ne : ∀ c ∈ f1.2.1, ¬ c = 299 := fun c hc e => hn1 (e ▸ hc)
  have e1 : gwl E (xo x x1) f1 (ao ad ad1) = gwl E x1 f1 ad1 := gwl_ag rfl (fun _ _ => rfl) rfl (fun _ _ => rfl) (fun c hc => if_neg (ne c hc)) (fun c hc => if_neg (ne c hc)) (fun c hc j => by
    cases hr : f1.1 c j with
    | none => rfl
    | some b =>
      show some (ao ad ad1 b) = some (ad1 b)
      rw [show ao ad ad1 b = ad1 b from if_neg (fun e => hr1 c hc j (by rw [hr, e]))])
  have e2 : gwl (wE E) (xo x x1) (fO f1) (ao ad ad1) = gwl (wE E) x (fO f) ad := by
    show [(ao ad ad1 299, gce (wE E) (xo x x1) (fO f1) (ao ad ad1) 299)] = [(ad 299, gce (wE E) x (fO f) ad 299)]
    rw [show ao ad ad1 299 = ad 299 from if_pos rfl, gce_arr (n := 1) (ty := .long) wE_9, gce_arr (n := 1) (ty := .long) wE_9]
    show [(ad 299, Sum.inl (_, 1, Sum.inr (Sum.inl ((xo x x1).2 299))))] = [(ad 299, Sum.inl (_, 1, Sum.inr (Sum.inl (x.2 299))))]
    rw [show (xo x x1).2 299 = x.2 299 by show (if (299 : Nat) = 299 then x.2 299 else x1.2 299) = _; exact if_pos rfl]
  have hg : gad E (ao ad ad1) := fun i hi => by
    show (if 900 + i = 299 then ad 299 else ad1 (900 + i)) = _
    rw [if_neg (by omega)]; exact h1.2 i hi
  refine fo_gl hn1 ⟨⟨by rw [e1]; exact h1.1.1, by rw [e1]; exact ⟨h1.1.2.1, fun k q hk => hA _ (h1.1.2.2 k q hk)⟩⟩, hg⟩ ⟨⟨by rw [e2]; exact h2.1.1, by rw [e2]; exact h2.1.2⟩, hg⟩ (fun c hc c' hc' e => ?_)
  have : c' = 299 := List.mem_singleton.mp hc'
  subst this
  rw [show ao ad ad1 c = ad1 c from if_neg (ne c hc), show ao ad ad1 299 = ad 299 from if_pos rfl] at e
  exact hd c hc 299 (List.mem_singleton.mpr rfl) e
/-- an exception finds its handler -/
def gCat (y : gy) (pc : Nat) (X : String) (e9 : ExceptionTableEntry) : Prop := (∃ pre suf, tableOf y.2.2.2.2 = pre ++ e9 :: suf ∧ ∀ z ∈ pre, z.catchType ≠ 0 ∧ ∃ nm, Cond.classLink y.1.cls z.catchType nm ∈ W0 ∧ (X, nm) ∈ ev_no) ∧ covers e9 pc = true ∧ e9.catchType ≠ 0 ∧ Cond.classLink y.1.cls e9.catchType X ∈ W0 ∧ Cond.castable X X ∈ ev_tab
def gHs (y : gy) (hpc i ln : Nat) : Prop := (∃ n3 : Fin 4, (n3 : Nat) = i ∧ ln = 1 ∧ decode y.2.1 hpc = .ok (.astore_n n3, 1)) ∨ (ln = 2 ∧ decode y.2.1 hpc = .ok (.astore i, 2))
def gtry (E : gE) (d : Nat) (y : gy) (pc : Nat) (lv : List (Nat × gv)) (rest : List gv) (Q : gr → gd → gf → Prop) (x : gd) (o : gr) (x1 : gd) (f1 : gf) : Prop := (299 ∉ f1.2.1 ∧ NR f1 299) ∧ match o with
  | .inl v => (∃ r : Int32, v = some (vi r)) ∧ T (wE E) d y (pc + 3) lv (v.toList ++ rest) (xo x x1) (fo f1) Q
  | .inr X => ∃ (e9 : ExceptionTableEntry) (i ln : Nat), gCat y pc X e9 ∧ gHs y e9.handlerPc i ln ∧ i < y.2.2.1 ∧ gst1 i lv = lv ∧ T (wE E) d y (e9.handlerPc + ln) lv [] (xo x x1) (fo f1) Q
section GTR
variable {E : gE} {d : Nat} {y : gy} {pc : Nat} {lv : List (Nat × gv)} {st : List gv} {x : gd} {f : gf} {Q : gr → gd → gf → Prop}
theorem T_tryF {z : gy} {c ci idx n : Nat} {sl : List Bool} (As rest : List gv) (d1 : Nat) (hst : st = As.reverse ++ vr c :: rest) (hd : decode y.2.1 pc = .ok (.invokevirtual idx, 3)) (hM : gMv y.1.cls idx z n) (hn : As.length = n) (hK : E.2.2.2.1 c = .inl (ci, sl)) (hcl : (vwCl[ci]?).map (fun r => r.1) = some z.1.cls) (hc : c ∈ f.2.1) (hd1 : d1 + 1 ≤ d)
    (hfit : gsz (vr c :: As) ≤ z.2.2.1) (hcat : gsz rest ≤ 8) (hok : gok (fo f).2.1 lv rest = true) (hz : z.2.2.2.2 = []) (hn9 : 299 ∉ f.2.1)
    (k : T E d1 z 0 (glv 0 (vr c :: As)) [] x f (gtry E d y pc lv rest Q x)) : T (wE E) d y pc lv st x (fo f) Q := by
  obtain ⟨⟨m1, m2, m3, m4, m5⟩, m6, m7, m8⟩ := hM
  obtain ⟨o1, x1, f1, ⟨⟨hn1, hr1⟩, hk⟩, hle, hw1⟩ := k
  have hlv : lv.all (fun q => gokv (fo f).2.1 q.2) = true := (Bool.and_eq_true _ _ ▸ hok).1
  have hrs : rest.all (gokv (fo f).2.1) = true := (Bool.and_eq_true _ _ ▸ hok).2
  have hlo : gle (fo f) (fo f1) := ⟨fun c hc => by
    rcases List.mem_append.mp hc with h | h
    · exact List.mem_append_left _ (hle.1 c h)
    · exact List.mem_append_right _ h, hle.2⟩
  have hrun : ∀ (p : Program) (e : Env) (R : Room) (s : State) (m : MethodId) (args : Array Value) (below : List Frame) (meth : Method) (c0 : Code) (A : Nat → Prop) (H : Heap) (locs : List Loc) (cells slots : Nat) (ls : Array Slot) (ad : Nat → Nat), gC (wE E) d y p R s m args meth c0 A → gP E x f ad A H → va_S A s.heap H locs → lv_has ls y.2.2.1 (glc ad lv) → cells + (f1.2.2.1 - f.2.2.1) ≤ R.cells → slots + (f1.2.2.2 - f.2.2.2) ≤ R.slots →
      vx_Run p E.1 e R s m args below meth c0 H locs cells slots (f1.2.2.1 - f.2.2.1) (f1.2.2.2 - f.2.2.2) (F0 m pc ls (st.map (gcv ad))) (rest.map (gcv ad)) (gQc E (gA f ad H.size) f ad o1 x1 f1 ((vr c :: As).map (gcv ad)).toArray) (gXC E (gA f ad H.size) f ad o1 x1 f1) (gA f ad H.size) := by
    intro p e R s m args below meth c0 A H locs cells slots ls ad C0 hP hS hl hc1 hs1
    have C : gC E d y p R s m args meth c0 A := C0
    obtain ⟨i, hi0, hi⟩ := gwl_at (E := E) (x := x) (ad := ad) hc
    rw [gce_obj hK] at hi
    have hr9 : ∃ r : vw_C, vwCl[ci]? = some r ∧ r.1 = z.1.cls := by
      cases h9 : vwCl[ci]? with
      | none => rw [h9] at hcl; cases hcl
      | some r => rw [h9] at hcl; exact ⟨r, rfl, Option.some.inj hcl⟩
    obtain ⟨r, hr1, hr2⟩ := hr9
    have hrec := va_recv C.2.2.2.1.1 hP.1.1 hr1 hi
    rw [hr2] at hrec
    have hG : GoodIn W0 (wsV y.1.cls idx z.1.cls z.1 (gws z)) := by
      intro w hw
      rcases List.mem_append.mp hw with h | h
      · refine W0_good w ?_
        simp only [List.mem_cons, List.not_mem_nil, or_false] at h
        rcases h with rfl | rfl | rfl | rfl
        · exact m1
        · exact m2
        · exact m3
        · exact m4
      · exact gwsz m5 w h
    have hroom : 8 + (z.2.2.1 + 11) + 41 * d1 ≤ R.locals := by
      have hq := C.2.2.1.2
      omega
    have hstk : st.map (gcv ad) = (As.map (gcv ad)).reverse ++ Value.ref (ad c) :: rest.map (gcv ad) := by
      rw [hst, List.map_append, List.map_reverse]
      rfl
    exact vx_runV (As := As.map (gcv ad)) (C := z.1.cls) (b := ad c) (Pc := va_Pc ((vr c :: As).map (gcv ad)) (gst E x f ad H.size)) ⟨C.1.1, C.1.2.1, C.1.2.2.1, C.1.2.2.2.1, C.1.2.2.2.2⟩ (gM_of C.2.2.2.1.2.2.2 m7 hfit hw1 ad H.size)
      (cwV (bytes := z.2.1) (maxL := z.2.2.1) (ret := z.2.2.2.1) (ws' := W0) n C.1.2.2.2.2 hG (by rw [gws, gcw, hz]) rfl rfl ⟨rfl, m6⟩ ⟨Nat.le_trans hd1 C.2.2.1.1, hroom⟩) ⟨gst_blind, hrec, fun U hU hW => ⟨rfl, gst_in C hP hS hU hW⟩⟩ rfl (by rw [List.length_map]; exact hn) hl.1 hstk (lv_room (by rw [gsz_c]; exact hcat)) hd ⟨hc1, hs1⟩
  have exo : ∀ {ad ad1 : Nat → Nat}, gex f ad ad1 → gex (fo f) ad (ao ad ad1) := fun {ad ad1} hex => ⟨fun c hc => by
    rcases List.mem_append.mp hc with h | h
    · show (if c = 299 then ad 299 else ad1 c) = ad c
      rw [if_neg (fun e : c = 299 => hn9 (e ▸ h))]; exact hex.1 c h
    · rw [List.mem_singleton.mp h]; exact if_pos rfl, fun i hi => by
    show (if 900 + i = 299 then ad 299 else ad1 (900 + i)) = _
    rw [if_neg (by omega)]; exact hex.2 i hi⟩
  cases o1 with
  | inl v =>
    obtain ⟨⟨r9, hr9⟩, o, x', f', hQ, hle2, hw2⟩ := hk
    refine ⟨o, x', f', hQ, gle_tr hlo hle2, ?_⟩
    intro p e R s m args below meth c0 A H locs cells slots ls ad C hPo hS hl hc hs T9 hT X
    obtain ⟨hP, hPO, hdis⟩ := fo_sp hn9 hPo
    have a1 := hle.2.1
    have a2 := hle.2.2
    have b1 : f1.2.2.1 ≤ f'.2.2.1 := hle2.2.1
    have b2 : f1.2.2.2 ≤ f'.2.2.2 := hle2.2.2
    have hc : cells + (f'.2.2.1 - f.2.2.1) ≤ R.cells := hc
    have hs : slots + (f'.2.2.2 - f.2.2.2) ≤ R.slots := hs
    rcases hrun p e R s m args below meth c0 A H locs cells slots ls ad C hP hS hl (by omega) (by omega) T9 hT X with ⟨v', st₀, t, T', L, h0, X', hL, e1, e2, ⟨ad1, hex, ⟨v2, ev1, ev2⟩, hP1, hF⟩, stp⟩ | ⟨q, st₀, t, T', L, X0, ce, h0, X', hL, e1, e2, ⟨ad1, hex, hn, -⟩, -⟩
    · cases ev1
      cases ev2
      have hin := gA_in (sz := H.size) hP (fun q hq => C.2.2.2.2 q (Nat.le_trans hS.1 hq))
      obtain ⟨k1, k2, k3⟩ := vx_keep h0 e1 hS (fun q _ h => hin q h) hin hL hF
      rw [← e1] at hP1
      obtain ⟨kp1, kp2⟩ := keep2 hPO hdis k2 hP1
      have hP2 : gP (wE E) (xo x x1) (fo f1) (ao ad ad1) A T'.heap := fo_mv hn1 hr1 hP1 hin kp1 kp2
      have hexo := exo hex
      have hl2 : lv_has ls y.2.2.1 (glc (ao ad ad1) lv) := by rw [glc_live hexo hlv]; exact hl
      have hw3 := hw2 p e R s m args below meth c0 A T'.heap (locs ++ L) (cells + (f1.2.2.1 - f.2.2.1)) (slots + (f1.2.2.2 - f.2.2.2)) ls (ao ad ad1) C hP2 k3 hl2 (by show _ + (f'.2.2.1 - f1.2.2.1) ≤ _; omega) (by show _ + (f'.2.2.2 - f1.2.2.2) ≤ _; omega)
      rw [List.map_append, gst_live hexo hrs] at hw3
      have hv : (v.toList).map (gcv (ao ad ad1)) = (v.map (gcv ad1)).toList := by rw [hr9]; rfl
      rw [hv] at hw3
      rw [show cells + (f1.2.2.1 - f.2.2.1) + (f'.2.2.1 - (fo f1).2.2.1) = cells + (f'.2.2.1 - (fo f).2.2.1) by show cells + (f1.2.2.1 - f.2.2.1) + (f'.2.2.1 - f1.2.2.1) = cells + (f'.2.2.1 - f.2.2.1); omega, show slots + (f1.2.2.2 - f.2.2.2) + (f'.2.2.2 - (fo f1).2.2.2) = slots + (f'.2.2.2 - (fo f).2.2.2) by show slots + (f1.2.2.2 - f.2.2.2) + (f'.2.2.2 - f1.2.2.2) = slots + (f'.2.2.2 - f.2.2.2); omega] at hw3
      obtain ⟨t2, s1, s2⟩ := hw3 T' rfl X'
      refine ⟨t2, stp t2 s1, vx_MQ_mono s2 (fun _ _ _ _ q => ?_) (fun _ _ _ q => ?_)⟩
      · obtain ⟨ad2, g1, g2⟩ := q; exact ⟨ad2, gex_tr hlo hexo g1, g2⟩
      · obtain ⟨ad2, g1, g2⟩ := q; exact ⟨ad2, gex_tr hlo hexo g1, g2⟩
    · cases hn
  | inr X1 =>
    obtain ⟨e9, i3, ln, ⟨⟨pre, suf, htab, hpass⟩, hcov, h0c, hlink, hcast⟩, hhs, hn3, h9, o, x', f', hQ, hle2, hw2⟩ := hk
    refine ⟨o, x', f', hQ, gle_tr hlo hle2, ?_⟩
    intro p e R s m args below meth c0 A H locs cells slots ls ad C hPo hS hl hc hs T9 hT X
    obtain ⟨hP, hPO, hdis⟩ := fo_sp hn9 hPo
    have a1 := hle.2.1
    have a2 := hle.2.2
    have b1 : f1.2.2.1 ≤ f'.2.2.1 := hle2.2.1
    have b2 : f1.2.2.2 ≤ f'.2.2.2 := hle2.2.2
    have hc : cells + (f'.2.2.1 - f.2.2.1) ≤ R.cells := hc
    have hs : slots + (f'.2.2.2 - f.2.2.2) ≤ R.slots := hs
    rcases hrun p e R s m args below meth c0 A H locs cells slots ls ad C hP hS hl (by omega) (by omega) T9 hT X with ⟨v', st₀, t, T', L, h0, X', hL, e1, e2, ⟨ad1, hex, ⟨v2, ev1, -⟩, -⟩, -⟩ | ⟨q, st₀, t, T', L, X0, ce, h00, X', hL, e1, e2, ⟨ad1, hex, hn, hP1, hF⟩, hce, hcv, hcl, stp⟩
    · cases ev1
    · cases hn
      have hin := gA_in (sz := H.size) hP (fun q hq => C.2.2.2.2 q (Nat.le_trans hS.1 hq))
      obtain ⟨k1, k2, k3⟩ := vx_keep h00 e1 hS (fun q _ h => hin q h) hin hL hF
      rw [← e1] at hP1
      obtain ⟨kp1, kp2⟩ := keep2 hPO hdis k2 hP1
      have hP2 : gP (wE E) (xo x x1) (fo f1) (ao ad ad1) A T'.heap := fo_mv hn1 hr1 hP1 hin kp1 kp2
      have hexo := exo hex
      have hl2 : lv_has ls y.2.2.1 (glc (ao ad ad1) lv) := by rw [glc_live hexo hlv]; exact hl
      have hw3 := fun (ls2 : Array Slot) (hl3 : lv_has ls2 y.2.2.1 (glc (ao ad ad1) lv)) => hw2 p e R s m args below meth c0 A T'.heap (locs ++ L) (cells + (f1.2.2.1 - f.2.2.1)) (slots + (f1.2.2.2 - f.2.2.2)) ls2 (ao ad ad1) C hP2 k3 hl3 (by show _ + (f'.2.2.1 - f1.2.2.1) ≤ _; omega) (by show _ + (f'.2.2.2 - f1.2.2.2) ≤ _; omega)
      rw [show cells + (f1.2.2.1 - f.2.2.1) + (f'.2.2.1 - (fo f1).2.2.1) = cells + (f'.2.2.1 - (fo f).2.2.1) by show cells + (f1.2.2.1 - f.2.2.1) + (f'.2.2.1 - f1.2.2.1) = cells + (f'.2.2.1 - f.2.2.1); omega, show slots + (f1.2.2.2 - f.2.2.2) + (f'.2.2.2 - (fo f1).2.2.2) = slots + (f'.2.2.2 - (fo f).2.2.2) by show slots + (f1.2.2.2 - f.2.2.2) + (f'.2.2.2 - f1.2.2.2) = slots + (f'.2.2.2 - f.2.2.2); omega] at hw3
      have hfl : (i3, Value.ref q) :: (glc (ao ad ad1) lv).filter (fun q => !(q.1 == i3) && !(q.1 + 1 == i3 && q.2.category == 2)) = (i3, Value.ref q) :: glc (ao ad ad1) lv := by
        have := gst1_c (ad := ao ad ad1) (i := i3) (v := vi 0) (lv := lv) rfl
        rw [h9] at this
        have h5 := (List.cons.inj this).2
        rw [h5]; rfl
      have hdrop : ∀ ls2, lv_has ls2 y.2.2.1 ((i3, Value.ref q) :: glc (ao ad ad1) lv) → lv_has ls2 y.2.2.1 (glc (ao ad ad1) lv) := fun ls2 hl3 => ⟨hl3.1, hl3.2.1, fun z hz => hl3.2.2 z (List.mem_cons_of_mem _ hz)⟩
      have hwh : W p E.1 e R s m args below meth c0 T'.heap (locs ++ L) (cells + (f1.2.2.1 - f.2.2.1)) (slots + (f1.2.2.2 - f.2.2.2)) (vx_MQ below (gQc (wE E) A (fo f1) (ao ad ad1) o x' f') (gXC (wE E) A (fo f1) (ao ad ad1) o x' f') args s (cells + (f'.2.2.1 - (fo f).2.2.1)) (slots + (f'.2.2.2 - (fo f).2.2.2)) A) (F0 m e9.handlerPc ls [.ref q]) := by
        rcases hhs with ⟨n3, hi3, rfl, hd2⟩ | ⟨rfl, hd2⟩
        · exact lv_astore_n (x := q) C.1.1 C.1.2.1 hd2 hi3 hl2 hn3 hfl (fun ls2 hl3 => hw3 ls2 (hdrop ls2 hl3))
        · exact lv_astore (x := q) C.1.1 C.1.2.1 hd2 hl2 hn3 hfl (fun ls2 hl3 => hw3 ls2 (hdrop ls2 hl3))
      have hcat9 := vx_catch (own := y.1.cls) (name := X1) (E := X1) (ce := ce) (q := q) (pc := pc) (ls := ls) (rest := rest.map (gcv ad)) C.1.2.2.2.1 pre e9 suf (by rw [C.2.1.2.2.1, htab]) (fun z hz => Or.inr (by obtain ⟨q1, nm, q2, q3⟩ := hpass z hz; exact ⟨q1, nm, C.1.2.2.2.2 _ q2, C.2.2.2.1.2.1.2.2.1 (X1, nm) q3⟩)) hcov h0c (C.1.2.2.2.2 _ hlink) (show (Cond.castable X1 X1).before args s = true from C.2.2.2.1.2.1.2.1 (.castable X1 X1) hcast) (by rw [e1]; exact hce) hcv hcl hwh
      obtain ⟨t2, s1, s2⟩ := hcat9 T' rfl X'
      refine ⟨t2, stp.trans s1, vx_MQ_mono s2 (fun _ _ _ _ q => ?_) (fun _ _ _ q => ?_)⟩
      · obtain ⟨ad2, g1, g2⟩ := q; exact ⟨ad2, gex_tr hlo hexo g1, g2⟩
      · obtain ⟨ad2, g1, g2⟩ := q; exact ⟨ad2, gex_tr hlo hexo g1, g2⟩
end GTR
theorem n299 {q : kP} (hu : kU q) : 299 ∉ q.L := fun h => kmd_no (q := q) (c := 299) (by decide) (fun _ => by decide) (fun _ => by decide) (fun _ => by decide) (fun _ => by decide) (by omega) (by omega) (by omega) (hu.2.1 299 h)
/-- how much a call makes: what its shape says, and an exception -/
def kst (q q1 : kP) : Prop := q1.ce + wC q ≤ q.ce + wC q1 + 1 ∧ q1.sl + wS q ≤ q.sl + wS q1 + 6
theorem kst_rf (q : kP) : kst q q := ⟨by omega, by omega⟩
theorem kst_th (q : kP) : kst q (kTh q) := ⟨by show q.ce + 1 + wC q ≤ q.ce + wC q + 1; omega, by show q.sl + 6 + wS q ≤ q.sl + wS q + 6; omega⟩
theorem kst_le {q q1 : kP} (h : kle q q1) : kst q q1 := ⟨by have := h.2.2.2.1; omega, by have := h.2.2.2.2; omega⟩
theorem HOI_1 {x y : gd} {q : kP} (e : y.1 = x.1) (hu : kU q) (h : HOI x q) : HOI y q := HOI_mk (kle_rf q) hu (fun c k _ => by rw [e]) h
def wq (q : kP) (P : Int32 → gd → kP → Prop) : gr → gd → gf → Prop := fun o x f => ∃ (r : Int32) (q1 : kP), o = .inl (some (vi r)) ∧ f = fo (kf q1) ∧ kU q1 ∧ kst q q1 ∧ HOI x q1 ∧ P r x q1
def okk (x : gd) (n : Int32) : Prop := 1 ≤ n.toInt ∧ n.toInt ≤ 8 ∧ (x.1 20 1).toInt + n.toInt ≤ 3000
end
section
abbrev zw_feed : gy := (yL_feed, cL_feed, 6, (some .int), [(0, 11, 14, 13)])
set_option maxRecDepth 100000 in
theorem dtk_L_feed : dck cL_feed [(0, .aload 4, 2), (2, .iconst 0, 1), (3, .aload_n 0, 1), (4, .iload_n 1, 1), (5, .lload_n 2, 1), (6, .invokevirtual 7, 3), (9, .i2l, 1), (10, .lastore, 1), (11, .goto 7, 3), (14, .astore 5, 2), (16, .iconst 1, 1), (17, .ireturn, 1), (18, .iconst 0, 1), (19, .ireturn, 1)] = true := by decide +kernel
set_option maxRecDepth 100000 in
theorem wca_feed : tables_1_5[43]? = some (Cond.codeWith yL_feed cL_feed 6 (some .int) [(0, 11, 14, 13)]) := rfl
theorem wcw_feed : Cond.codeWith yL_feed cL_feed 6 (some .int) [(0, 11, 14, 13)] ∈ W0 := W0_in (tp_5 (List.mem_of_getElem? wca_feed)) rfl
theorem kcv_L_7 : gMv RL 7 zk_X11_feed 2 := ⟨⟨W0_in (tp_5 (List.mem_of_getElem? (i := 45) (by decide +kernel))) rfl, W0_in (tp_5 (List.mem_of_getElem? (i := 46) (by decide +kernel))) rfl, W0_in (tp_5 (List.mem_of_getElem? (i := 47) (by decide +kernel))) rfl, W0_in (tp_1 (List.mem_of_getElem? (i := 1) (by decide +kernel))) rfl, kcw_X11_feed⟩, ⟨by decide, by decide, by decide +kernel⟩, by decide, by decide⟩
theorem wct_feed_iAE : gCat zw_feed 6 iAE ⟨0, 11, 14, 13⟩ := ⟨⟨[], [], rfl, fun z hz => nomatch hz⟩, rfl, by decide, (W0_in (tp_5 (List.mem_of_getElem? (i := 44) (by decide +kernel))) rfl), by decide⟩
set_option maxRecDepth 100000 in
set_option maxHeartbeats 4000000 in
theorem kw_feed {G : kG} {q : kP} {d : Nat} {x : gd} (hu : kU q) (hH : HOI x q) (l1 : Int32) (l2 : Int64) : T (wE (kE G)) (d + 30) zw_feed 0 [(0, vr 0), (1, vi l1), (2, vl l2), (4, vr 299)] [] x (fo (kf q)) (wq q (fun _ y q1 => (okk x l1 → ((y.1 20 1).toInt = (x.1 20 1).toInt + l1.toInt ∧ y.1 0 9 = 0 ∧ FBc x l2 l1.toInt.toNat y) ∧ ZR y) ∧ (¬ okk x l1 → KRd x y))) := by
  have m0 : 0 ∈ (fo (kf q)).2.1 := List.mem_append_left _ (kl_0 hu.1)
  have m9 : 299 ∈ (fo (kf q)).2.1 := List.mem_append_right _ (List.mem_singleton.mpr rfl)
  have n9 := n299 hu
  have r9 : NR (kf q) 299 := kU_NR hu n9
  refine T_aload 3 (dk dtk_L_feed 0 rfl) rfl ?_
  refine T_iconst (v := 0) (dk dtk_L_feed 1 rfl) (by decide +kernel) ?_
  refine T_aload_n 0 (dk dtk_L_feed 2 rfl) rfl rfl ?_
  refine T_iload_n 1 (dk dtk_L_feed 3 rfl) rfl rfl ?_
  refine T_lload_n 2 (dk dtk_L_feed 4 rfl) rfl rfl ?_
  have hend : ∀ (r : Int32) (y : gd) (q1 : kP), kU q1 → kst q q1 → HOI y q1 → (fun _ y q1 => (okk x l1 → ((y.1 20 1).toInt = (x.1 20 1).toInt + l1.toInt ∧ y.1 0 9 = 0 ∧ FBc x l2 l1.toInt.toNat y) ∧ ZR y) ∧ (¬ okk x l1 → KRd x y)) 0 y q1 → T (wE (kE G)) (d + 30) zw_feed 9 [(0, vr 0), (1, vi l1), (2, vl l2), (4, vr 299)] [vi r, vi 0, vr 299] y (fo (kf q1)) (wq q (fun _ y q1 => (okk x l1 → ((y.1 20 1).toInt = (x.1 20 1).toInt + l1.toInt ∧ y.1 0 9 = 0 ∧ FBc x l2 l1.toInt.toNat y) ∧ ZR y) ∧ (¬ okk x l1 → KRd x y))) := by
    intro r y q1 hu1 hk1 hH1 hp1
    have n91 : 299 ∈ (fo (kf q1)).2.1 := List.mem_append_right _ (List.mem_singleton.mpr rfl)
    refine T_i2l (dk dtk_L_feed 6 rfl) ?_
    refine T_last 299 1 (dk dtk_L_feed 7 rfl) wE_9 n91 (vin0 (by omega)) ?_
    refine T_goto 18 (dk dtk_L_feed 8 rfl) (by decide) ?_
    refine T_iconst (v := 0) (dk dtk_L_feed 12 rfl) (by decide +kernel) ?_
    exact T_iret (dk dtk_L_feed 13 rfl) rfl rfl ⟨0, q1, rfl, rfl, hu1, hk1, HOI_1 rfl hu1 hH1, hp1⟩
  have hxiAE : ¬ okk x l1 → gtry (kE G) (d + 30) zw_feed 6 [(0, vr 0), (1, vi l1), (2, vl l2), (4, vr 299)] [vi 0, vr 299] (wq q (fun _ y q1 => (okk x l1 → ((y.1 20 1).toInt = (x.1 20 1).toInt + l1.toInt ∧ y.1 0 9 = 0 ∧ FBc x l2 l1.toInt.toNat y) ∧ ZR y) ∧ (¬ okk x l1 → KRd x y))) x (.inr iAE) x (gth (kf q)) := by
    intro hno
    refine ⟨⟨n9, r9⟩, ⟨0, 11, 14, 13⟩, 5, 2, wct_feed_iAE, Or.inr ⟨rfl, (dk dtk_L_feed 9 rfl)⟩, by decide, rfl, ?_⟩
    refine T_iconst (v := 1) (dk dtk_L_feed 10 rfl) (by decide +kernel) ?_
    exact T_iret (dk dtk_L_feed 11 rfl) rfl rfl ⟨1, kTh q, rfl, rfl, kTh_U hu, kst_th q, HOI_1 rfl (kTh_U hu) (HOI_th hH), ⟨fun e => absurd e hno, fun _ => KR_rf⟩⟩
  refine T_tryF (E := kE G) [vi l1, vl l2] [vi 0, vr 299] (d + 7) rfl (dk dtk_L_feed 5 rfl) kcv_L_7 rfl kk_0 rfl (kl_0 hu.1) (by omega) (Nat.le_of_ble_eq_true rfl) (Nat.le_of_ble_eq_true rfl) (gok_i (av_c (gkr m0) (av_c rfl (av_c rfl (av_c (gkr m9) av_n)))) (as_c rfl (as_c (gkr m9) as_n))) rfl n9 ?_
  refine T_mono (kr_feed (d := d) hu.1 hH l1 l2 (P := fun v9 y9 => okk x l1 ∧ ∃ r, v9 = some (vi r) ∧ HOI y9 q ∧ (((y9.1 20 1).toInt = (x.1 20 1).toInt + l1.toInt ∧ y9.1 0 9 = 0 ∧ FBc x l2 l1.toInt.toNat y9) ∧ ZR y9)) (X := fun c9 y9 => c9 = iAE ∧ y9 = x ∧ ¬ okk x l1) (fun hn => ⟨rfl, rfl, hn⟩) (fun hy y h1 h2 => ⟨hy, _, rfl, h1, h2⟩)) (fun o9 x9 f9 w9 => ?_)
  rcases w9 with ⟨rfl, v, rfl, hy, r, rfl, h1, h2⟩ | ⟨rfl, c9, rfl, rfl, rfl, hno⟩
  · exact ⟨⟨n9, r9⟩, ⟨r, rfl⟩, hend r (xo x x9) q hu (kst_rf q) (HOI_1 rfl hu h1) ⟨fun _ => h2, fun e => absurd hy e⟩⟩
  · exact hxiAE hno
abbrev zw_fault : gy := (yL_fault, cL_fault, 4, (some .int), [(0, 9, 12, 19)])
set_option maxRecDepth 100000 in
theorem dtk_L_fault : dck cL_fault [(0, .aload_n 2, 1), (1, .iconst 0, 1), (2, .aload_n 0, 1), (3, .iload_n 1, 1), (4, .invokevirtual 15, 3), (7, .i2l, 1), (8, .lastore, 1), (9, .goto 6, 3), (12, .astore_n 3, 1), (13, .iconst 1, 1), (14, .ireturn, 1), (15, .iconst 0, 1), (16, .ireturn, 1)] = true := by decide +kernel
set_option maxRecDepth 100000 in
theorem wca_fault : tables_1_5[72]? = some (Cond.codeWith yL_fault cL_fault 4 (some .int) [(0, 9, 12, 19)]) := rfl
theorem wcw_fault : Cond.codeWith yL_fault cL_fault 4 (some .int) [(0, 9, 12, 19)] ∈ W0 := W0_in (tp_5 (List.mem_of_getElem? wca_fault)) rfl
theorem kcv_L_15 : gMv RL 15 zk_X11_fault 1 := ⟨⟨W0_in (tp_5 (List.mem_of_getElem? (i := 74) (by decide +kernel))) rfl, W0_in (tp_5 (List.mem_of_getElem? (i := 75) (by decide +kernel))) rfl, W0_in (tp_5 (List.mem_of_getElem? (i := 76) (by decide +kernel))) rfl, W0_in (tp_1 (List.mem_of_getElem? (i := 1) (by decide +kernel))) rfl, kcw_X11_fault⟩, ⟨by decide, by decide, by decide +kernel⟩, by decide, by decide⟩
theorem wct_fault_iOE : gCat zw_fault 4 iOE ⟨0, 9, 12, 19⟩ := ⟨⟨[], [], rfl, fun z hz => nomatch hz⟩, rfl, by decide, (W0_in (tp_5 (List.mem_of_getElem? (i := 73) (by decide +kernel))) rfl), by decide⟩
set_option maxRecDepth 100000 in
set_option maxHeartbeats 4000000 in
theorem kw_fault {G : kG} {q : kP} {d : Nat} {x : gd} (hu : kU q) (hH : HOI x q) (l1 : Int32) : T (wE (kE G)) (d + 30) zw_fault 0 [(0, vr 0), (1, vi l1), (2, vr 299)] [] x (fo (kf q)) (wq q (fun _ y q1 => KRd x y)) := by
  have m0 : 0 ∈ (fo (kf q)).2.1 := List.mem_append_left _ (kl_0 hu.1)
  have m9 : 299 ∈ (fo (kf q)).2.1 := List.mem_append_right _ (List.mem_singleton.mpr rfl)
  have n9 := n299 hu
  have r9 : NR (kf q) 299 := kU_NR hu n9
  refine T_aload_n 2 (dk dtk_L_fault 0 rfl) rfl rfl ?_
  refine T_iconst (v := 0) (dk dtk_L_fault 1 rfl) (by decide +kernel) ?_
  refine T_aload_n 0 (dk dtk_L_fault 2 rfl) rfl rfl ?_
  refine T_iload_n 1 (dk dtk_L_fault 3 rfl) rfl rfl ?_
  have hend : ∀ (r : Int32) (y : gd) (q1 : kP), kU q1 → kst q q1 → HOI y q1 → (fun _ y q1 => KRd x y) 0 y q1 → T (wE (kE G)) (d + 30) zw_fault 7 [(0, vr 0), (1, vi l1), (2, vr 299)] [vi r, vi 0, vr 299] y (fo (kf q1)) (wq q (fun _ y q1 => KRd x y)) := by
    intro r y q1 hu1 hk1 hH1 hp1
    have n91 : 299 ∈ (fo (kf q1)).2.1 := List.mem_append_right _ (List.mem_singleton.mpr rfl)
    refine T_i2l (dk dtk_L_fault 5 rfl) ?_
    refine T_last 299 1 (dk dtk_L_fault 6 rfl) wE_9 n91 (vin0 (by omega)) ?_
    refine T_goto 15 (dk dtk_L_fault 7 rfl) (by decide) ?_
    refine T_iconst (v := 0) (dk dtk_L_fault 11 rfl) (by decide +kernel) ?_
    exact T_iret (dk dtk_L_fault 12 rfl) rfl rfl ⟨0, q1, rfl, rfl, hu1, hk1, HOI_1 rfl hu1 hH1, hp1⟩
  have hxiOE : gtry (kE G) (d + 30) zw_fault 4 [(0, vr 0), (1, vi l1), (2, vr 299)] [vi 0, vr 299] (wq q (fun _ y q1 => KRd x y)) x (.inr iOE) x (gth (kf q)) := by
    refine ⟨⟨n9, r9⟩, ⟨0, 9, 12, 19⟩, 3, 1, wct_fault_iOE, Or.inl ⟨3, rfl, rfl, (dk dtk_L_fault 8 rfl)⟩, by decide, rfl, ?_⟩
    refine T_iconst (v := 1) (dk dtk_L_fault 9 rfl) (by decide +kernel) ?_
    exact T_iret (dk dtk_L_fault 10 rfl) rfl rfl ⟨1, kTh q, rfl, rfl, kTh_U hu, kst_th q, HOI_1 rfl (kTh_U hu) (HOI_th hH), KR_rf⟩
  refine T_tryF (E := kE G) [vi l1] [vi 0, vr 299] (d + 6) rfl (dk dtk_L_fault 4 rfl) kcv_L_15 rfl kk_0 rfl (kl_0 hu.1) (by omega) (Nat.le_of_ble_eq_true rfl) (Nat.le_of_ble_eq_true rfl) (gok_i (av_c (gkr m0) (av_c rfl (av_c (gkr m9) av_n))) (as_c rfl (as_c (gkr m9) as_n))) rfl n9 ?_
  refine T_mono (kr_fault (d := d) hu.1 hH l1 (P := fun v9 y9 => ∃ r, v9 = some (vi r) ∧ HOI y9 q ∧ KRd x y9) (X := fun c9 y9 => (c9 = iOE) ∧ y9 = x) ⟨rfl, rfl⟩ (fun r y h1 h2 => ⟨r, rfl, h1, h2⟩)) (fun o9 x9 f9 w9 => ?_)
  rcases w9 with ⟨rfl, v, rfl, r, rfl, h1, h2⟩ | ⟨rfl, c9, rfl, hc, rfl⟩
  · exact ⟨⟨n9, r9⟩, ⟨r, rfl⟩, hend r (xo x x9) q hu (kst_rf q) (HOI_1 rfl hu h1) h2⟩
  · rw [hc]; exact hxiOE
abbrev zw_count : gy := (yL_count, cL_count, 4, (some .int), [(0, 9, 12, 19)])
set_option maxRecDepth 100000 in
theorem dtk_L_count : dck cL_count [(0, .aload_n 2, 1), (1, .iconst 0, 1), (2, .aload_n 0, 1), (3, .iload_n 1, 1), (4, .invokevirtual 21, 3), (7, .i2l, 1), (8, .lastore, 1), (9, .goto 6, 3), (12, .astore_n 3, 1), (13, .iconst 1, 1), (14, .ireturn, 1), (15, .iconst 0, 1), (16, .ireturn, 1)] = true := by decide +kernel
set_option maxRecDepth 100000 in
theorem wca_count : tables_1_5[96]? = some (Cond.codeWith yL_count cL_count 4 (some .int) [(0, 9, 12, 19)]) := rfl
theorem wcw_count : Cond.codeWith yL_count cL_count 4 (some .int) [(0, 9, 12, 19)] ∈ W0 := W0_in (tp_5 (List.mem_of_getElem? wca_count)) rfl
theorem kcv_L_21 : gMv RL 21 zk_X11_count 1 := ⟨⟨W0_in (tp_5 (List.mem_of_getElem? (i := 97) (by decide +kernel))) rfl, W0_in (tp_5 (List.mem_of_getElem? (i := 98) (by decide +kernel))) rfl, W0_in (tp_5 (List.mem_of_getElem? (i := 99) (by decide +kernel))) rfl, W0_in (tp_1 (List.mem_of_getElem? (i := 1) (by decide +kernel))) rfl, kcw_X11_count⟩, ⟨by decide, by decide, by decide +kernel⟩, by decide, by decide⟩
theorem wct_count_iOE : gCat zw_count 4 iOE ⟨0, 9, 12, 19⟩ := ⟨⟨[], [], rfl, fun z hz => nomatch hz⟩, rfl, by decide, (W0_in (tp_5 (List.mem_of_getElem? (i := 73) (by decide +kernel))) rfl), by decide⟩
set_option maxRecDepth 100000 in
set_option maxHeartbeats 4000000 in
theorem kw_count {G : kG} {q : kP} {d : Nat} {x : gd} (hu : kU q) (hH : HOI x q) (l1 : Int32) : T (wE (kE G)) (d + 30) zw_count 0 [(0, vr 0), (1, vi l1), (2, vr 299)] [] x (fo (kf q)) (wq q (fun _ y q1 => KRd x y)) := by
  have m0 : 0 ∈ (fo (kf q)).2.1 := List.mem_append_left _ (kl_0 hu.1)
  have m9 : 299 ∈ (fo (kf q)).2.1 := List.mem_append_right _ (List.mem_singleton.mpr rfl)
  have n9 := n299 hu
  have r9 : NR (kf q) 299 := kU_NR hu n9
  refine T_aload_n 2 (dk dtk_L_count 0 rfl) rfl rfl ?_
  refine T_iconst (v := 0) (dk dtk_L_count 1 rfl) (by decide +kernel) ?_
  refine T_aload_n 0 (dk dtk_L_count 2 rfl) rfl rfl ?_
  refine T_iload_n 1 (dk dtk_L_count 3 rfl) rfl rfl ?_
  have hend : ∀ (r : Int32) (y : gd) (q1 : kP), kU q1 → kst q q1 → HOI y q1 → (fun _ y q1 => KRd x y) 0 y q1 → T (wE (kE G)) (d + 30) zw_count 7 [(0, vr 0), (1, vi l1), (2, vr 299)] [vi r, vi 0, vr 299] y (fo (kf q1)) (wq q (fun _ y q1 => KRd x y)) := by
    intro r y q1 hu1 hk1 hH1 hp1
    have n91 : 299 ∈ (fo (kf q1)).2.1 := List.mem_append_right _ (List.mem_singleton.mpr rfl)
    refine T_i2l (dk dtk_L_count 5 rfl) ?_
    refine T_last 299 1 (dk dtk_L_count 6 rfl) wE_9 n91 (vin0 (by omega)) ?_
    refine T_goto 15 (dk dtk_L_count 7 rfl) (by decide) ?_
    refine T_iconst (v := 0) (dk dtk_L_count 11 rfl) (by decide +kernel) ?_
    exact T_iret (dk dtk_L_count 12 rfl) rfl rfl ⟨0, q1, rfl, rfl, hu1, hk1, HOI_1 rfl hu1 hH1, hp1⟩
  have hxiOE : gtry (kE G) (d + 30) zw_count 4 [(0, vr 0), (1, vi l1), (2, vr 299)] [vi 0, vr 299] (wq q (fun _ y q1 => KRd x y)) x (.inr iOE) x (gth (kf q)) := by
    refine ⟨⟨n9, r9⟩, ⟨0, 9, 12, 19⟩, 3, 1, wct_count_iOE, Or.inl ⟨3, rfl, rfl, (dk dtk_L_count 8 rfl)⟩, by decide, rfl, ?_⟩
    refine T_iconst (v := 1) (dk dtk_L_count 9 rfl) (by decide +kernel) ?_
    exact T_iret (dk dtk_L_count 10 rfl) rfl rfl ⟨1, kTh q, rfl, rfl, kTh_U hu, kst_th q, HOI_1 rfl (kTh_U hu) (HOI_th hH), KR_rf⟩
  refine T_tryF (E := kE G) [vi l1] [vi 0, vr 299] (d + 7) rfl (dk dtk_L_count 4 rfl) kcv_L_21 rfl kk_0 rfl (kl_0 hu.1) (by omega) (Nat.le_of_ble_eq_true rfl) (Nat.le_of_ble_eq_true rfl) (gok_i (av_c (gkr m0) (av_c rfl (av_c (gkr m9) av_n))) (as_c rfl (as_c (gkr m9) as_n))) rfl n9 ?_
  refine T_mono (kz_count (d := d) hu.1 hH l1 (P := fun v9 y9 => ∃ r, v9 = some (vi r) ∧ HOI y9 q ∧ KRd x y9) (X := fun c9 y9 => c9 = iOE ∧ y9 = x) (fun hn => ⟨rfl, rfl⟩) (fun hy r y h1 h2 h3 => ⟨r, rfl, h1, by rw [h2]; exact KR_rf⟩)) (fun o9 x9 f9 w9 => ?_)
  rcases w9 with ⟨rfl, v, rfl, r, rfl, h1, h2⟩ | ⟨rfl, c9, rfl, rfl, rfl⟩
  · exact ⟨⟨n9, r9⟩, ⟨r, rfl⟩, hend r (xo x x9) q hu (kst_rf q) (HOI_1 rfl hu h1) h2⟩
  · exact hxiOE
abbrev zw_begin : gy := (yL_begin, cL_begin, 4, (some .int), [(0, 9, 12, 27), (0, 9, 15, 13)])
set_option maxRecDepth 100000 in
theorem dtk_L_begin : dck cL_begin [(0, .aload_n 2, 1), (1, .iconst 0, 1), (2, .aload_n 0, 1), (3, .iload_n 1, 1), (4, .invokevirtual 24, 3), (7, .i2l, 1), (8, .lastore, 1), (9, .goto 9, 3), (12, .astore_n 3, 1), (13, .iconst 1, 1), (14, .ireturn, 1), (15, .astore_n 3, 1), (16, .iconst 2, 1), (17, .ireturn, 1), (18, .iconst 0, 1), (19, .ireturn, 1)] = true := by decide +kernel
set_option maxRecDepth 100000 in
theorem wca_begin : tables_1_5[106]? = some (Cond.codeWith yL_begin cL_begin 4 (some .int) [(0, 9, 12, 27), (0, 9, 15, 13)]) := rfl
theorem wcw_begin : Cond.codeWith yL_begin cL_begin 4 (some .int) [(0, 9, 12, 27), (0, 9, 15, 13)] ∈ W0 := W0_in (tp_5 (List.mem_of_getElem? wca_begin)) rfl
theorem kcv_L_24 : gMv RL 24 zk_X11_begin 1 := ⟨⟨W0_in (tp_5 (List.mem_of_getElem? (i := 108) (by decide +kernel))) rfl, W0_in (tp_5 (List.mem_of_getElem? (i := 109) (by decide +kernel))) rfl, W0_in (tp_5 (List.mem_of_getElem? (i := 110) (by decide +kernel))) rfl, W0_in (tp_1 (List.mem_of_getElem? (i := 1) (by decide +kernel))) rfl, kcw_X11_begin⟩, ⟨by decide, by decide, by decide +kernel⟩, by decide, by decide⟩
theorem wct_begin_iSE : gCat zw_begin 4 iSE ⟨0, 9, 12, 27⟩ := ⟨⟨[], [⟨0, 9, 15, 13⟩], rfl, fun z hz => nomatch hz⟩, rfl, by decide, (W0_in (tp_5 (List.mem_of_getElem? (i := 107) (by decide +kernel))) rfl), by decide⟩
theorem wct_begin_iAE : gCat zw_begin 4 iAE ⟨0, 9, 15, 13⟩ := ⟨⟨[⟨0, 9, 12, 27⟩], [], rfl, fun z hz => by
  cases hz with
  | head => exact ⟨by decide, iSE, (W0_in (tp_5 (List.mem_of_getElem? (i := 107) (by decide +kernel))) rfl), by decide⟩
  | tail _ hz => cases hz⟩, rfl, by decide, (W0_in (tp_5 (List.mem_of_getElem? (i := 44) (by decide +kernel))) rfl), by decide⟩
set_option maxRecDepth 100000 in
set_option maxHeartbeats 4000000 in
theorem kw_begin {G : kG} {q : kP} {d : Nat} {x : gd} {C : gCo} {wr n : Nat} {lm : Nat → Nat} {w : gd} (hj : JH C wr n lm x w) (hu : kU q) (hH : HOI x q) (l1 : Int32) : T (wE (kE G)) (d + 30) zw_begin 0 [(0, vr 0), (1, vi l1), (2, vr 299)] [] x (fo (kf q)) (wq q (fun r9 y q1 => ansK (e1Bg x) (e2Bg x l1) (sBg C x l1) x r9 y)) := by
  have m0 : 0 ∈ (fo (kf q)).2.1 := List.mem_append_left _ (kl_0 hu.1)
  have m9 : 299 ∈ (fo (kf q)).2.1 := List.mem_append_right _ (List.mem_singleton.mpr rfl)
  have n9 := n299 hu
  have r9 : NR (kf q) 299 := kU_NR hu n9
  refine T_aload_n 2 (dk dtk_L_begin 0 rfl) rfl rfl ?_
  refine T_iconst (v := 0) (dk dtk_L_begin 1 rfl) (by decide +kernel) ?_
  refine T_aload_n 0 (dk dtk_L_begin 2 rfl) rfl rfl ?_
  refine T_iload_n 1 (dk dtk_L_begin 3 rfl) rfl rfl ?_
  have hend : ∀ (r : Int32) (y : gd) (q1 : kP), kU q1 → kst q q1 → HOI y q1 → ¬ (e1Bg x) ∧ ¬ (e2Bg x l1) ∧ sBg C x l1 r y → T (wE (kE G)) (d + 30) zw_begin 7 [(0, vr 0), (1, vi l1), (2, vr 299)] [vi r, vi 0, vr 299] y (fo (kf q1)) (wq q (fun r9 y q1 => ansK (e1Bg x) (e2Bg x l1) (sBg C x l1) x r9 y)) := by
    intro r y q1 hu1 hk1 hH1 hp1
    have n91 : 299 ∈ (fo (kf q1)).2.1 := List.mem_append_right _ (List.mem_singleton.mpr rfl)
    refine T_i2l (dk dtk_L_begin 5 rfl) ?_
    refine T_last 299 1 (dk dtk_L_begin 6 rfl) wE_9 n91 (vin0 (by omega)) ?_
    refine T_goto 18 (dk dtk_L_begin 7 rfl) (by decide) ?_
    refine T_iconst (v := 0) (dk dtk_L_begin 14 rfl) (by decide +kernel) ?_
    exact T_iret (dk dtk_L_begin 15 rfl) rfl rfl ⟨0, q1, rfl, rfl, hu1, hk1, HOI_1 rfl hu1 hH1, Or.inr (Or.inr ⟨hp1.1, hp1.2.1, rfl, r, by rw [sL_c]; exact if_pos rfl, hp1.2.2⟩)⟩
  have hxiSE : e1Bg x → gtry (kE G) (d + 30) zw_begin 4 [(0, vr 0), (1, vi l1), (2, vr 299)] [vi 0, vr 299] (wq q (fun r9 y q1 => ansK (e1Bg x) (e2Bg x l1) (sBg C x l1) x r9 y)) x (.inr iSE) x (gth (kf q)) := by
    intro hno
    refine ⟨⟨n9, r9⟩, ⟨0, 9, 12, 27⟩, 3, 1, wct_begin_iSE, Or.inl ⟨3, rfl, rfl, (dk dtk_L_begin 8 rfl)⟩, by decide, rfl, ?_⟩
    refine T_iconst (v := 1) (dk dtk_L_begin 9 rfl) (by decide +kernel) ?_
    exact T_iret (dk dtk_L_begin 10 rfl) rfl rfl ⟨1, kTh q, rfl, rfl, kTh_U hu, kst_th q, HOI_1 rfl (kTh_U hu) (HOI_th hH), Or.inl ⟨hno, rfl, KR_rf⟩⟩
  have hxiAE : e2Bg x l1 → gtry (kE G) (d + 30) zw_begin 4 [(0, vr 0), (1, vi l1), (2, vr 299)] [vi 0, vr 299] (wq q (fun r9 y q1 => ansK (e1Bg x) (e2Bg x l1) (sBg C x l1) x r9 y)) x (.inr iAE) x (gth (kf q)) := by
    intro hno
    refine ⟨⟨n9, r9⟩, ⟨0, 9, 15, 13⟩, 3, 1, wct_begin_iAE, Or.inl ⟨3, rfl, rfl, (dk dtk_L_begin 11 rfl)⟩, by decide, rfl, ?_⟩
    refine T_iconst (v := 2) (dk dtk_L_begin 12 rfl) (by decide +kernel) ?_
    exact T_iret (dk dtk_L_begin 13 rfl) rfl rfl ⟨2, kTh q, rfl, rfl, kTh_U hu, kst_th q, HOI_1 rfl (kTh_U hu) (HOI_th hH), Or.inr (Or.inl ⟨hno, rfl, KR_rf⟩)⟩
  refine T_tryF (E := kE G) [vi l1] [vi 0, vr 299] (d + 7) rfl (dk dtk_L_begin 4 rfl) kcv_L_24 rfl kk_0 rfl (kl_0 hu.1) (by omega) (Nat.le_of_ble_eq_true rfl) (Nat.le_of_ble_eq_true rfl) (gok_i (av_c (gkr m0) (av_c rfl (av_c (gkr m9) av_n))) (as_c rfl (as_c (gkr m9) as_n))) rfl n9 ?_
  refine T_mono (ka_begin (d := d) hj hu.1 hH l1 (P := fun v9 y9 => ∃ r, v9 = some (vi r) ∧ HOI y9 q ∧ ¬ (e1Bg x) ∧ ¬ (e2Bg x l1) ∧ sBg C x l1 r y9) (X := fun c9 y9 => ((c9 = iSE ∧ e1Bg x) ∨ (c9 = iAE ∧ e2Bg x l1)) ∧ y9 = x) (fun h9 => ⟨Or.inl ⟨rfl, h9⟩, rfl⟩) (fun h9 => ⟨Or.inr ⟨rfl, h9⟩, rfl⟩) (fun h8 h9 r y h1 h2 => ⟨r, rfl, h1, h8, h9, h2⟩)) (fun o9 x9 f9 w9 => ?_)
  rcases w9 with ⟨rfl, v, rfl, r, rfl, h1, h2⟩ | ⟨rfl, c9, rfl, hc, rfl⟩
  · exact ⟨⟨n9, r9⟩, ⟨r, rfl⟩, hend r (xo x x9) q hu (kst_rf q) (HOI_1 rfl hu h1) h2⟩
  · rcases hc with ⟨rfl, hno⟩ | ⟨rfl, hno⟩
    · exact hxiSE hno
    · exact hxiAE hno
abbrev zw_choices : gy := (yL_choices, cL_choices, 3, (some .int), [(0, 8, 11, 27)])
set_option maxRecDepth 100000 in
theorem dtk_L_choices : dck cL_choices [(0, .aload_n 1, 1), (1, .iconst 0, 1), (2, .aload_n 0, 1), (3, .invokevirtual 29, 3), (6, .i2l, 1), (7, .lastore, 1), (8, .goto 6, 3), (11, .astore_n 2, 1), (12, .iconst 1, 1), (13, .ireturn, 1), (14, .iconst 0, 1), (15, .ireturn, 1)] = true := by decide +kernel
set_option maxRecDepth 100000 in
theorem wca_choices : tables_1_5[227]? = some (Cond.codeWith yL_choices cL_choices 3 (some .int) [(0, 8, 11, 27)]) := rfl
theorem wcw_choices : Cond.codeWith yL_choices cL_choices 3 (some .int) [(0, 8, 11, 27)] ∈ W0 := W0_in (tp_5 (List.mem_of_getElem? wca_choices)) rfl
theorem kcv_L_29 : gMv RL 29 zk_X11_choices 0 := ⟨⟨W0_in (tp_5 (List.mem_of_getElem? (i := 228) (by decide +kernel))) rfl, W0_in (tp_5 (List.mem_of_getElem? (i := 229) (by decide +kernel))) rfl, W0_in (tp_5 (List.mem_of_getElem? (i := 230) (by decide +kernel))) rfl, W0_in (tp_1 (List.mem_of_getElem? (i := 1) (by decide +kernel))) rfl, kcw_X11_choices⟩, ⟨by decide, by decide, by decide +kernel⟩, by decide, by decide⟩
theorem wct_choices_iSE : gCat zw_choices 3 iSE ⟨0, 8, 11, 27⟩ := ⟨⟨[], [], rfl, fun z hz => nomatch hz⟩, rfl, by decide, (W0_in (tp_5 (List.mem_of_getElem? (i := 107) (by decide +kernel))) rfl), by decide⟩
set_option maxRecDepth 100000 in
set_option maxHeartbeats 4000000 in
theorem kw_choices {G : kG} {q : kP} {d : Nat} {x : gd} (hu : kU q) (hH : HOI x q)  : T (wE (kE G)) (d + 30) zw_choices 0 [(0, vr 0), (1, vr 299)] [] x (fo (kf q)) (wq q (fun r9 y q1 => ansK (e1Ch x) (False) (sCh x) x r9 y)) := by
  have m0 : 0 ∈ (fo (kf q)).2.1 := List.mem_append_left _ (kl_0 hu.1)
  have m9 : 299 ∈ (fo (kf q)).2.1 := List.mem_append_right _ (List.mem_singleton.mpr rfl)
  have n9 := n299 hu
  have r9 : NR (kf q) 299 := kU_NR hu n9
  refine T_aload_n 1 (dk dtk_L_choices 0 rfl) rfl rfl ?_
  refine T_iconst (v := 0) (dk dtk_L_choices 1 rfl) (by decide +kernel) ?_
  refine T_aload_n 0 (dk dtk_L_choices 2 rfl) rfl rfl ?_
  have hend : ∀ (r : Int32) (y : gd) (q1 : kP), kU q1 → kst q q1 → HOI y q1 → ¬ (e1Ch x) ∧ ¬ (False) ∧ sCh x r y → T (wE (kE G)) (d + 30) zw_choices 6 [(0, vr 0), (1, vr 299)] [vi r, vi 0, vr 299] y (fo (kf q1)) (wq q (fun r9 y q1 => ansK (e1Ch x) (False) (sCh x) x r9 y)) := by
    intro r y q1 hu1 hk1 hH1 hp1
    have n91 : 299 ∈ (fo (kf q1)).2.1 := List.mem_append_right _ (List.mem_singleton.mpr rfl)
    refine T_i2l (dk dtk_L_choices 4 rfl) ?_
    refine T_last 299 1 (dk dtk_L_choices 5 rfl) wE_9 n91 (vin0 (by omega)) ?_
    refine T_goto 14 (dk dtk_L_choices 6 rfl) (by decide) ?_
    refine T_iconst (v := 0) (dk dtk_L_choices 10 rfl) (by decide +kernel) ?_
    exact T_iret (dk dtk_L_choices 11 rfl) rfl rfl ⟨0, q1, rfl, rfl, hu1, hk1, HOI_1 rfl hu1 hH1, Or.inr (Or.inr ⟨hp1.1, hp1.2.1, rfl, r, by rw [sL_c]; exact if_pos rfl, hp1.2.2⟩)⟩
  have hxiSE : e1Ch x → gtry (kE G) (d + 30) zw_choices 3 [(0, vr 0), (1, vr 299)] [vi 0, vr 299] (wq q (fun r9 y q1 => ansK (e1Ch x) (False) (sCh x) x r9 y)) x (.inr iSE) x (gth (kf q)) := by
    intro hno
    refine ⟨⟨n9, r9⟩, ⟨0, 8, 11, 27⟩, 2, 1, wct_choices_iSE, Or.inl ⟨2, rfl, rfl, (dk dtk_L_choices 7 rfl)⟩, by decide, rfl, ?_⟩
    refine T_iconst (v := 1) (dk dtk_L_choices 8 rfl) (by decide +kernel) ?_
    exact T_iret (dk dtk_L_choices 9 rfl) rfl rfl ⟨1, kTh q, rfl, rfl, kTh_U hu, kst_th q, HOI_1 rfl (kTh_U hu) (HOI_th hH), Or.inl ⟨hno, rfl, KR_rf⟩⟩
  refine T_tryF (E := kE G) [] [vi 0, vr 299] (d + 7) rfl (dk dtk_L_choices 3 rfl) kcv_L_29 rfl kk_0 rfl (kl_0 hu.1) (by omega) (Nat.le_of_ble_eq_true rfl) (Nat.le_of_ble_eq_true rfl) (gok_i (av_c (gkr m0) (av_c (gkr m9) av_n)) (as_c rfl (as_c (gkr m9) as_n))) rfl n9 ?_
  refine T_mono (ka_choices (d := d) hu.1 hH  (P := fun v9 y9 => ∃ r, v9 = some (vi r) ∧ HOI y9 q ∧ ¬ (e1Ch x) ∧ ¬ (False) ∧ sCh x r y9) (X := fun c9 y9 => ((c9 = iSE ∧ e1Ch x)) ∧ y9 = x) (fun h9 => ⟨⟨rfl, h9⟩, rfl⟩) (fun h8 h9 r y h1 h2 => ⟨r, rfl, h1, h8, h9, h2⟩)) (fun o9 x9 f9 w9 => ?_)
  rcases w9 with ⟨rfl, v, rfl, r, rfl, h1, h2⟩ | ⟨rfl, c9, rfl, hc, rfl⟩
  · exact ⟨⟨n9, r9⟩, ⟨r, rfl⟩, hend r (xo x x9) q hu (kst_rf q) (HOI_1 rfl hu h1) h2⟩
  · obtain ⟨rfl, hno⟩ := hc
    exact hxiSE hno
abbrev zw_choice : gy := (yL_choice, cL_choice, 5, (some .int), [(0, 10, 13, 27), (0, 10, 17, 19)])
set_option maxRecDepth 100000 in
theorem dtk_L_choice : dck cL_choice [(0, .aload_n 3, 1), (1, .iconst 0, 1), (2, .aload_n 0, 1), (3, .iload_n 1, 1), (4, .iload_n 2, 1), (5, .invokevirtual 33, 3), (8, .i2l, 1), (9, .lastore, 1), (10, .goto 11, 3), (13, .astore 4, 2), (15, .iconst 1, 1), (16, .ireturn, 1), (17, .astore 4, 2), (19, .iconst 2, 1), (20, .ireturn, 1), (21, .iconst 0, 1), (22, .ireturn, 1)] = true := by decide +kernel
set_option maxRecDepth 100000 in
theorem wca_choice : tables_1_5[239]? = some (Cond.codeWith yL_choice cL_choice 5 (some .int) [(0, 10, 13, 27), (0, 10, 17, 19)]) := rfl
theorem wcw_choice : Cond.codeWith yL_choice cL_choice 5 (some .int) [(0, 10, 13, 27), (0, 10, 17, 19)] ∈ W0 := W0_in (tp_5 (List.mem_of_getElem? wca_choice)) rfl
theorem kcv_L_33 : gMv RL 33 zk_X11_choice 2 := ⟨⟨W0_in (tp_6 (List.mem_of_getElem? (i := 0) (by decide +kernel))) rfl, W0_in (tp_6 (List.mem_of_getElem? (i := 1) (by decide +kernel))) rfl, W0_in (tp_6 (List.mem_of_getElem? (i := 2) (by decide +kernel))) rfl, W0_in (tp_1 (List.mem_of_getElem? (i := 1) (by decide +kernel))) rfl, kcw_X11_choice⟩, ⟨by decide, by decide, by decide +kernel⟩, by decide, by decide⟩
theorem wct_choice_iSE : gCat zw_choice 5 iSE ⟨0, 10, 13, 27⟩ := ⟨⟨[], [⟨0, 10, 17, 19⟩], rfl, fun z hz => nomatch hz⟩, rfl, by decide, (W0_in (tp_5 (List.mem_of_getElem? (i := 107) (by decide +kernel))) rfl), by decide⟩
theorem wct_choice_iOE : gCat zw_choice 5 iOE ⟨0, 10, 17, 19⟩ := ⟨⟨[⟨0, 10, 13, 27⟩], [], rfl, fun z hz => by
  cases hz with
  | head => exact ⟨by decide, iSE, (W0_in (tp_5 (List.mem_of_getElem? (i := 107) (by decide +kernel))) rfl), by decide⟩
  | tail _ hz => cases hz⟩, rfl, by decide, (W0_in (tp_5 (List.mem_of_getElem? (i := 73) (by decide +kernel))) rfl), by decide⟩
set_option maxRecDepth 100000 in
set_option maxHeartbeats 4000000 in
theorem kw_choice {G : kG} {q : kP} {d : Nat} {x : gd} {C : gCo} {wr n : Nat} {lm : Nat → Nat} {w : gd} (hj : JH C wr n lm x w) (hu : kU q) (hH : HOI x q) (l1 : Int32) (l2 : Int32) : T (wE (kE G)) (d + 30) zw_choice 0 [(0, vr 0), (1, vi l1), (2, vi l2), (3, vr 299)] [] x (fo (kf q)) (wq q (fun r9 y q1 => ansK (e1Ch x) (e2Ci x l1 l2) (sCi C wr n (c96 w) x l1 l2) x r9 y)) := by
  have m0 : 0 ∈ (fo (kf q)).2.1 := List.mem_append_left _ (kl_0 hu.1)
  have m9 : 299 ∈ (fo (kf q)).2.1 := List.mem_append_right _ (List.mem_singleton.mpr rfl)
  have n9 := n299 hu
  have r9 : NR (kf q) 299 := kU_NR hu n9
  refine T_aload_n 3 (dk dtk_L_choice 0 rfl) rfl rfl ?_
  refine T_iconst (v := 0) (dk dtk_L_choice 1 rfl) (by decide +kernel) ?_
  refine T_aload_n 0 (dk dtk_L_choice 2 rfl) rfl rfl ?_
  refine T_iload_n 1 (dk dtk_L_choice 3 rfl) rfl rfl ?_
  refine T_iload_n 2 (dk dtk_L_choice 4 rfl) rfl rfl ?_
  have hend : ∀ (r : Int32) (y : gd) (q1 : kP), kU q1 → kst q q1 → HOI y q1 → ¬ (e1Ch x) ∧ ¬ (e2Ci x l1 l2) ∧ sCi C wr n (c96 w) x l1 l2 r y → T (wE (kE G)) (d + 30) zw_choice 8 [(0, vr 0), (1, vi l1), (2, vi l2), (3, vr 299)] [vi r, vi 0, vr 299] y (fo (kf q1)) (wq q (fun r9 y q1 => ansK (e1Ch x) (e2Ci x l1 l2) (sCi C wr n (c96 w) x l1 l2) x r9 y)) := by
    intro r y q1 hu1 hk1 hH1 hp1
    have n91 : 299 ∈ (fo (kf q1)).2.1 := List.mem_append_right _ (List.mem_singleton.mpr rfl)
    refine T_i2l (dk dtk_L_choice 6 rfl) ?_
    refine T_last 299 1 (dk dtk_L_choice 7 rfl) wE_9 n91 (vin0 (by omega)) ?_
    refine T_goto 21 (dk dtk_L_choice 8 rfl) (by decide) ?_
    refine T_iconst (v := 0) (dk dtk_L_choice 15 rfl) (by decide +kernel) ?_
    exact T_iret (dk dtk_L_choice 16 rfl) rfl rfl ⟨0, q1, rfl, rfl, hu1, hk1, HOI_1 rfl hu1 hH1, Or.inr (Or.inr ⟨hp1.1, hp1.2.1, rfl, r, by rw [sL_c]; exact if_pos rfl, hp1.2.2⟩)⟩
  have hxiSE : e1Ch x → gtry (kE G) (d + 30) zw_choice 5 [(0, vr 0), (1, vi l1), (2, vi l2), (3, vr 299)] [vi 0, vr 299] (wq q (fun r9 y q1 => ansK (e1Ch x) (e2Ci x l1 l2) (sCi C wr n (c96 w) x l1 l2) x r9 y)) x (.inr iSE) x (gth (kf q)) := by
    intro hno
    refine ⟨⟨n9, r9⟩, ⟨0, 10, 13, 27⟩, 4, 2, wct_choice_iSE, Or.inr ⟨rfl, (dk dtk_L_choice 9 rfl)⟩, by decide, rfl, ?_⟩
    refine T_iconst (v := 1) (dk dtk_L_choice 10 rfl) (by decide +kernel) ?_
    exact T_iret (dk dtk_L_choice 11 rfl) rfl rfl ⟨1, kTh q, rfl, rfl, kTh_U hu, kst_th q, HOI_1 rfl (kTh_U hu) (HOI_th hH), Or.inl ⟨hno, rfl, KR_rf⟩⟩
  have hxiOE : e2Ci x l1 l2 → gtry (kE G) (d + 30) zw_choice 5 [(0, vr 0), (1, vi l1), (2, vi l2), (3, vr 299)] [vi 0, vr 299] (wq q (fun r9 y q1 => ansK (e1Ch x) (e2Ci x l1 l2) (sCi C wr n (c96 w) x l1 l2) x r9 y)) x (.inr iOE) x (gth (kf q)) := by
    intro hno
    refine ⟨⟨n9, r9⟩, ⟨0, 10, 17, 19⟩, 4, 2, wct_choice_iOE, Or.inr ⟨rfl, (dk dtk_L_choice 12 rfl)⟩, by decide, rfl, ?_⟩
    refine T_iconst (v := 2) (dk dtk_L_choice 13 rfl) (by decide +kernel) ?_
    exact T_iret (dk dtk_L_choice 14 rfl) rfl rfl ⟨2, kTh q, rfl, rfl, kTh_U hu, kst_th q, HOI_1 rfl (kTh_U hu) (HOI_th hH), Or.inr (Or.inl ⟨hno, rfl, KR_rf⟩)⟩
  refine T_tryF (E := kE G) [vi l1, vi l2] [vi 0, vr 299] (d + 7) rfl (dk dtk_L_choice 5 rfl) kcv_L_33 rfl kk_0 rfl (kl_0 hu.1) (by omega) (Nat.le_of_ble_eq_true rfl) (Nat.le_of_ble_eq_true rfl) (gok_i (av_c (gkr m0) (av_c rfl (av_c rfl (av_c (gkr m9) av_n)))) (as_c rfl (as_c (gkr m9) as_n))) rfl n9 ?_
  refine T_mono (ka_choice (d := d) hj hu.1 hH l1 l2 (P := fun v9 y9 => ∃ r, v9 = some (vi r) ∧ HOI y9 q ∧ ¬ (e1Ch x) ∧ ¬ (e2Ci x l1 l2) ∧ sCi C wr n (c96 w) x l1 l2 r y9) (X := fun c9 y9 => ((c9 = iSE ∧ e1Ch x) ∨ (c9 = iOE ∧ e2Ci x l1 l2)) ∧ y9 = x) (fun h9 => ⟨Or.inl ⟨rfl, h9⟩, rfl⟩) (fun h9 => ⟨Or.inr ⟨rfl, h9⟩, rfl⟩) (fun h8 h9 r y h1 h2 => ⟨r, rfl, h1, h8, h9, h2⟩)) (fun o9 x9 f9 w9 => ?_)
  rcases w9 with ⟨rfl, v, rfl, r, rfl, h1, h2⟩ | ⟨rfl, c9, rfl, hc, rfl⟩
  · exact ⟨⟨n9, r9⟩, ⟨r, rfl⟩, hend r (xo x x9) q hu (kst_rf q) (HOI_1 rfl hu h1) h2⟩
  · rcases hc with ⟨rfl, hno⟩ | ⟨rfl, hno⟩
    · exact hxiSE hno
    · exact hxiOE hno
abbrev zw_go : gy := (yL_go, cL_go, 4, (some .int), [(0, 9, 12, 27), (0, 9, 15, 19)])
set_option maxRecDepth 100000 in
theorem dtk_L_go : dck cL_go [(0, .aload_n 2, 1), (1, .iconst 0, 1), (2, .aload_n 0, 1), (3, .iload_n 1, 1), (4, .invokevirtual 37, 3), (7, .i2l, 1), (8, .lastore, 1), (9, .goto 9, 3), (12, .astore_n 3, 1), (13, .iconst 1, 1), (14, .ireturn, 1), (15, .astore_n 3, 1), (16, .iconst 2, 1), (17, .ireturn, 1), (18, .iconst 0, 1), (19, .ireturn, 1)] = true := by decide +kernel
set_option maxRecDepth 100000 in
theorem wca_go : tables_1_6[20]? = some (Cond.codeWith yL_go cL_go 4 (some .int) [(0, 9, 12, 27), (0, 9, 15, 19)]) := rfl
theorem wcw_go : Cond.codeWith yL_go cL_go 4 (some .int) [(0, 9, 12, 27), (0, 9, 15, 19)] ∈ W0 := W0_in (tp_6 (List.mem_of_getElem? wca_go)) rfl
theorem kcv_L_37 : gMv RL 37 zk_X11_go 1 := ⟨⟨W0_in (tp_6 (List.mem_of_getElem? (i := 21) (by decide +kernel))) rfl, W0_in (tp_6 (List.mem_of_getElem? (i := 22) (by decide +kernel))) rfl, W0_in (tp_6 (List.mem_of_getElem? (i := 23) (by decide +kernel))) rfl, W0_in (tp_1 (List.mem_of_getElem? (i := 1) (by decide +kernel))) rfl, kcw_X11_go⟩, ⟨by decide, by decide, by decide +kernel⟩, by decide, by decide⟩
theorem wct_go_iSE : gCat zw_go 4 iSE ⟨0, 9, 12, 27⟩ := ⟨⟨[], [⟨0, 9, 15, 19⟩], rfl, fun z hz => nomatch hz⟩, rfl, by decide, (W0_in (tp_5 (List.mem_of_getElem? (i := 107) (by decide +kernel))) rfl), by decide⟩
theorem wct_go_iOE : gCat zw_go 4 iOE ⟨0, 9, 15, 19⟩ := ⟨⟨[⟨0, 9, 12, 27⟩], [], rfl, fun z hz => by
  cases hz with
  | head => exact ⟨by decide, iSE, (W0_in (tp_5 (List.mem_of_getElem? (i := 107) (by decide +kernel))) rfl), by decide⟩
  | tail _ hz => cases hz⟩, rfl, by decide, (W0_in (tp_5 (List.mem_of_getElem? (i := 73) (by decide +kernel))) rfl), by decide⟩
set_option maxRecDepth 100000 in
set_option maxHeartbeats 4000000 in
theorem kw_go {G : kG} {q : kP} {d : Nat} {x : gd} {C : gCo} {wr n : Nat} {lm : Nat → Nat} {w : gd} (hj : JH C wr n lm x w) (hu : kU q) (hH : HOI x q) (l1 : Int32) : T (wE (kE G)) (d + 30) zw_go 0 [(0, vr 0), (1, vi l1), (2, vr 299)] [] x (fo (kf q)) (wq q (fun r9 y q1 => ansK (e1Go n x) (e2Go n x l1) (sGo C wr n (c96 w) x l1) x r9 y)) := by
  have m0 : 0 ∈ (fo (kf q)).2.1 := List.mem_append_left _ (kl_0 hu.1)
  have m9 : 299 ∈ (fo (kf q)).2.1 := List.mem_append_right _ (List.mem_singleton.mpr rfl)
  have n9 := n299 hu
  have r9 : NR (kf q) 299 := kU_NR hu n9
  refine T_aload_n 2 (dk dtk_L_go 0 rfl) rfl rfl ?_
  refine T_iconst (v := 0) (dk dtk_L_go 1 rfl) (by decide +kernel) ?_
  refine T_aload_n 0 (dk dtk_L_go 2 rfl) rfl rfl ?_
  refine T_iload_n 1 (dk dtk_L_go 3 rfl) rfl rfl ?_
  have hend : ∀ (r : Int32) (y : gd) (q1 : kP), kU q1 → kst q q1 → HOI y q1 → ¬ (e1Go n x) ∧ ¬ (e2Go n x l1) ∧ sGo C wr n (c96 w) x l1 r y → T (wE (kE G)) (d + 30) zw_go 7 [(0, vr 0), (1, vi l1), (2, vr 299)] [vi r, vi 0, vr 299] y (fo (kf q1)) (wq q (fun r9 y q1 => ansK (e1Go n x) (e2Go n x l1) (sGo C wr n (c96 w) x l1) x r9 y)) := by
    intro r y q1 hu1 hk1 hH1 hp1
    have n91 : 299 ∈ (fo (kf q1)).2.1 := List.mem_append_right _ (List.mem_singleton.mpr rfl)
    refine T_i2l (dk dtk_L_go 5 rfl) ?_
    refine T_last 299 1 (dk dtk_L_go 6 rfl) wE_9 n91 (vin0 (by omega)) ?_
    refine T_goto 18 (dk dtk_L_go 7 rfl) (by decide) ?_
    refine T_iconst (v := 0) (dk dtk_L_go 14 rfl) (by decide +kernel) ?_
    exact T_iret (dk dtk_L_go 15 rfl) rfl rfl ⟨0, q1, rfl, rfl, hu1, hk1, HOI_1 rfl hu1 hH1, Or.inr (Or.inr ⟨hp1.1, hp1.2.1, rfl, r, by rw [sL_c]; exact if_pos rfl, hp1.2.2⟩)⟩
  have hxiSE : e1Go n x → gtry (kE G) (d + 30) zw_go 4 [(0, vr 0), (1, vi l1), (2, vr 299)] [vi 0, vr 299] (wq q (fun r9 y q1 => ansK (e1Go n x) (e2Go n x l1) (sGo C wr n (c96 w) x l1) x r9 y)) x (.inr iSE) x (gth (kf q)) := by
    intro hno
    refine ⟨⟨n9, r9⟩, ⟨0, 9, 12, 27⟩, 3, 1, wct_go_iSE, Or.inl ⟨3, rfl, rfl, (dk dtk_L_go 8 rfl)⟩, by decide, rfl, ?_⟩
    refine T_iconst (v := 1) (dk dtk_L_go 9 rfl) (by decide +kernel) ?_
    exact T_iret (dk dtk_L_go 10 rfl) rfl rfl ⟨1, kTh q, rfl, rfl, kTh_U hu, kst_th q, HOI_1 rfl (kTh_U hu) (HOI_th hH), Or.inl ⟨hno, rfl, KR_rf⟩⟩
  have hxiOE : e2Go n x l1 → gtry (kE G) (d + 30) zw_go 4 [(0, vr 0), (1, vi l1), (2, vr 299)] [vi 0, vr 299] (wq q (fun r9 y q1 => ansK (e1Go n x) (e2Go n x l1) (sGo C wr n (c96 w) x l1) x r9 y)) x (.inr iOE) x (gth (kf q)) := by
    intro hno
    refine ⟨⟨n9, r9⟩, ⟨0, 9, 15, 19⟩, 3, 1, wct_go_iOE, Or.inl ⟨3, rfl, rfl, (dk dtk_L_go 11 rfl)⟩, by decide, rfl, ?_⟩
    refine T_iconst (v := 2) (dk dtk_L_go 12 rfl) (by decide +kernel) ?_
    exact T_iret (dk dtk_L_go 13 rfl) rfl rfl ⟨2, kTh q, rfl, rfl, kTh_U hu, kst_th q, HOI_1 rfl (kTh_U hu) (HOI_th hH), Or.inr (Or.inl ⟨hno, rfl, KR_rf⟩)⟩
  refine T_tryF (E := kE G) [vi l1] [vi 0, vr 299] (d + 7) rfl (dk dtk_L_go 4 rfl) kcv_L_37 rfl kk_0 rfl (kl_0 hu.1) (by omega) (Nat.le_of_ble_eq_true rfl) (Nat.le_of_ble_eq_true rfl) (gok_i (av_c (gkr m0) (av_c rfl (av_c (gkr m9) av_n))) (as_c rfl (as_c (gkr m9) as_n))) rfl n9 ?_
  refine T_mono (ka_go (d := d) hj hu.1 hH l1 (P := fun v9 y9 => ∃ r, v9 = some (vi r) ∧ HOI y9 q ∧ ¬ (e1Go n x) ∧ ¬ (e2Go n x l1) ∧ sGo C wr n (c96 w) x l1 r y9) (X := fun c9 y9 => ((c9 = iSE ∧ e1Go n x) ∨ (c9 = iOE ∧ e2Go n x l1)) ∧ y9 = x) (fun h9 => ⟨Or.inl ⟨rfl, h9⟩, rfl⟩) (fun h9 => ⟨Or.inr ⟨rfl, h9⟩, rfl⟩) (fun h8 h9 r y h1 h2 => ⟨r, rfl, h1, h8, h9, h2⟩)) (fun o9 x9 f9 w9 => ?_)
  rcases w9 with ⟨rfl, v, rfl, r, rfl, h1, h2⟩ | ⟨rfl, c9, rfl, hc, rfl⟩
  · exact ⟨⟨n9, r9⟩, ⟨r, rfl⟩, hend r (xo x x9) q hu (kst_rf q) (HOI_1 rfl hu h1) h2⟩
  · rcases hc with ⟨rfl, hno⟩ | ⟨rfl, hno⟩
    · exact hxiSE hno
    · exact hxiOE hno
abbrev zw_draw : gy := (yL_draw, cL_draw, 5, (some .int), [(0, 10, 13, 27), (0, 10, 17, 13)])
set_option maxRecDepth 100000 in
theorem dtk_L_draw : dck cL_draw [(0, .aload_n 3, 1), (1, .iconst 0, 1), (2, .aload_n 0, 1), (3, .iload_n 1, 1), (4, .iload_n 2, 1), (5, .invokevirtual 40, 3), (8, .i2l, 1), (9, .lastore, 1), (10, .goto 11, 3), (13, .astore 4, 2), (15, .iconst 1, 1), (16, .ireturn, 1), (17, .astore 4, 2), (19, .iconst 2, 1), (20, .ireturn, 1), (21, .iconst 0, 1), (22, .ireturn, 1)] = true := by decide +kernel
set_option maxRecDepth 100000 in
theorem wca_draw : tables_1_6[139]? = some (Cond.codeWith yL_draw cL_draw 5 (some .int) [(0, 10, 13, 27), (0, 10, 17, 13)]) := rfl
theorem wcw_draw : Cond.codeWith yL_draw cL_draw 5 (some .int) [(0, 10, 13, 27), (0, 10, 17, 13)] ∈ W0 := W0_in (tp_6 (List.mem_of_getElem? wca_draw)) rfl
theorem kcv_L_40 : gMv RL 40 zk_X11_draw 2 := ⟨⟨W0_in (tp_6 (List.mem_of_getElem? (i := 140) (by decide +kernel))) rfl, W0_in (tp_6 (List.mem_of_getElem? (i := 141) (by decide +kernel))) rfl, W0_in (tp_6 (List.mem_of_getElem? (i := 142) (by decide +kernel))) rfl, W0_in (tp_1 (List.mem_of_getElem? (i := 1) (by decide +kernel))) rfl, kcw_X11_draw⟩, ⟨by decide, by decide, by decide +kernel⟩, by decide, by decide⟩
theorem wct_draw_iSE : gCat zw_draw 5 iSE ⟨0, 10, 13, 27⟩ := ⟨⟨[], [⟨0, 10, 17, 13⟩], rfl, fun z hz => nomatch hz⟩, rfl, by decide, (W0_in (tp_5 (List.mem_of_getElem? (i := 107) (by decide +kernel))) rfl), by decide⟩
theorem wct_draw_iAE : gCat zw_draw 5 iAE ⟨0, 10, 17, 13⟩ := ⟨⟨[⟨0, 10, 13, 27⟩], [], rfl, fun z hz => by
  cases hz with
  | head => exact ⟨by decide, iSE, (W0_in (tp_5 (List.mem_of_getElem? (i := 107) (by decide +kernel))) rfl), by decide⟩
  | tail _ hz => cases hz⟩, rfl, by decide, (W0_in (tp_5 (List.mem_of_getElem? (i := 44) (by decide +kernel))) rfl), by decide⟩
set_option maxRecDepth 100000 in
set_option maxHeartbeats 4000000 in
theorem kw_draw {G : kG} {q : kP} {d : Nat} {x : gd} {C : gCo} {wr n : Nat} {lm : Nat → Nat} {w : gd} (hj : JH C wr n lm x w) (hu : kU q) (hH : HOI x q) (l1 : Int32) (l2 : Int32) : T (wE (kE G)) (d + 30) zw_draw 0 [(0, vr 0), (1, vi l1), (2, vi l2), (3, vr 299)] [] x (fo (kf q)) (wq q (fun r9 y q1 => ansK (e1Ch x) (e2Dr x l2) (sDr C wr n (c96 w) x l1 l2) x r9 y)) := by
  have m0 : 0 ∈ (fo (kf q)).2.1 := List.mem_append_left _ (kl_0 hu.1)
  have m9 : 299 ∈ (fo (kf q)).2.1 := List.mem_append_right _ (List.mem_singleton.mpr rfl)
  have n9 := n299 hu
  have r9 : NR (kf q) 299 := kU_NR hu n9
  refine T_aload_n 3 (dk dtk_L_draw 0 rfl) rfl rfl ?_
  refine T_iconst (v := 0) (dk dtk_L_draw 1 rfl) (by decide +kernel) ?_
  refine T_aload_n 0 (dk dtk_L_draw 2 rfl) rfl rfl ?_
  refine T_iload_n 1 (dk dtk_L_draw 3 rfl) rfl rfl ?_
  refine T_iload_n 2 (dk dtk_L_draw 4 rfl) rfl rfl ?_
  have hend : ∀ (r : Int32) (y : gd) (q1 : kP), kU q1 → kst q q1 → HOI y q1 → ¬ (e1Ch x) ∧ ¬ (e2Dr x l2) ∧ sDr C wr n (c96 w) x l1 l2 r y → T (wE (kE G)) (d + 30) zw_draw 8 [(0, vr 0), (1, vi l1), (2, vi l2), (3, vr 299)] [vi r, vi 0, vr 299] y (fo (kf q1)) (wq q (fun r9 y q1 => ansK (e1Ch x) (e2Dr x l2) (sDr C wr n (c96 w) x l1 l2) x r9 y)) := by
    intro r y q1 hu1 hk1 hH1 hp1
    have n91 : 299 ∈ (fo (kf q1)).2.1 := List.mem_append_right _ (List.mem_singleton.mpr rfl)
    refine T_i2l (dk dtk_L_draw 6 rfl) ?_
    refine T_last 299 1 (dk dtk_L_draw 7 rfl) wE_9 n91 (vin0 (by omega)) ?_
    refine T_goto 21 (dk dtk_L_draw 8 rfl) (by decide) ?_
    refine T_iconst (v := 0) (dk dtk_L_draw 15 rfl) (by decide +kernel) ?_
    exact T_iret (dk dtk_L_draw 16 rfl) rfl rfl ⟨0, q1, rfl, rfl, hu1, hk1, HOI_1 rfl hu1 hH1, Or.inr (Or.inr ⟨hp1.1, hp1.2.1, rfl, r, by rw [sL_c]; exact if_pos rfl, hp1.2.2⟩)⟩
  have hxiSE : e1Ch x → gtry (kE G) (d + 30) zw_draw 5 [(0, vr 0), (1, vi l1), (2, vi l2), (3, vr 299)] [vi 0, vr 299] (wq q (fun r9 y q1 => ansK (e1Ch x) (e2Dr x l2) (sDr C wr n (c96 w) x l1 l2) x r9 y)) x (.inr iSE) x (gth (kf q)) := by
    intro hno
    refine ⟨⟨n9, r9⟩, ⟨0, 10, 13, 27⟩, 4, 2, wct_draw_iSE, Or.inr ⟨rfl, (dk dtk_L_draw 9 rfl)⟩, by decide, rfl, ?_⟩
    refine T_iconst (v := 1) (dk dtk_L_draw 10 rfl) (by decide +kernel) ?_
    exact T_iret (dk dtk_L_draw 11 rfl) rfl rfl ⟨1, kTh q, rfl, rfl, kTh_U hu, kst_th q, HOI_1 rfl (kTh_U hu) (HOI_th hH), Or.inl ⟨hno, rfl, KR_rf⟩⟩
  have hxiAE : e2Dr x l2 → gtry (kE G) (d + 30) zw_draw 5 [(0, vr 0), (1, vi l1), (2, vi l2), (3, vr 299)] [vi 0, vr 299] (wq q (fun r9 y q1 => ansK (e1Ch x) (e2Dr x l2) (sDr C wr n (c96 w) x l1 l2) x r9 y)) x (.inr iAE) x (gth (kf q)) := by
    intro hno
    refine ⟨⟨n9, r9⟩, ⟨0, 10, 17, 13⟩, 4, 2, wct_draw_iAE, Or.inr ⟨rfl, (dk dtk_L_draw 12 rfl)⟩, by decide, rfl, ?_⟩
    refine T_iconst (v := 2) (dk dtk_L_draw 13 rfl) (by decide +kernel) ?_
    exact T_iret (dk dtk_L_draw 14 rfl) rfl rfl ⟨2, kTh q, rfl, rfl, kTh_U hu, kst_th q, HOI_1 rfl (kTh_U hu) (HOI_th hH), Or.inr (Or.inl ⟨hno, rfl, KR_rf⟩)⟩
  refine T_tryF (E := kE G) [vi l1, vi l2] [vi 0, vr 299] (d + 7) rfl (dk dtk_L_draw 5 rfl) kcv_L_40 rfl kk_0 rfl (kl_0 hu.1) (by omega) (Nat.le_of_ble_eq_true rfl) (Nat.le_of_ble_eq_true rfl) (gok_i (av_c (gkr m0) (av_c rfl (av_c rfl (av_c (gkr m9) av_n)))) (as_c rfl (as_c (gkr m9) as_n))) rfl n9 ?_
  refine T_mono (ka_draw (d := d) hj hu.1 hH l1 l2 (P := fun v9 y9 => ∃ r, v9 = some (vi r) ∧ HOI y9 q ∧ ¬ (e1Ch x) ∧ ¬ (e2Dr x l2) ∧ sDr C wr n (c96 w) x l1 l2 r y9) (X := fun c9 y9 => ((c9 = iSE ∧ e1Ch x) ∨ (c9 = iAE ∧ e2Dr x l2)) ∧ y9 = x) (fun h9 => ⟨Or.inl ⟨rfl, h9⟩, rfl⟩) (fun h9 => ⟨Or.inr ⟨rfl, h9⟩, rfl⟩) (fun h8 h9 r y h1 h2 => ⟨r, rfl, h1, h8, h9, h2⟩)) (fun o9 x9 f9 w9 => ?_)
  rcases w9 with ⟨rfl, v, rfl, r, rfl, h1, h2⟩ | ⟨rfl, c9, rfl, hc, rfl⟩
  · exact ⟨⟨n9, r9⟩, ⟨r, rfl⟩, hend r (xo x x9) q hu (kst_rf q) (HOI_1 rfl hu h1) h2⟩
  · rcases hc with ⟨rfl, hno⟩ | ⟨rfl, hno⟩
    · exact hxiSE hno
    · exact hxiAE hno
abbrev zw_again : gy := (yL_again, cL_again, 4, (some .int), [(0, 9, 12, 27), (0, 9, 15, 13)])
set_option maxRecDepth 100000 in
theorem dtk_L_again : dck cL_again [(0, .aload_n 2, 1), (1, .iconst 0, 1), (2, .aload_n 0, 1), (3, .iload_n 1, 1), (4, .invokevirtual 43, 3), (7, .i2l, 1), (8, .lastore, 1), (9, .goto 9, 3), (12, .astore_n 3, 1), (13, .iconst 1, 1), (14, .ireturn, 1), (15, .astore_n 3, 1), (16, .iconst 2, 1), (17, .ireturn, 1), (18, .iconst 0, 1), (19, .ireturn, 1)] = true := by decide +kernel
set_option maxRecDepth 100000 in
theorem wca_again : tables_1_6[148]? = some (Cond.codeWith yL_again cL_again 4 (some .int) [(0, 9, 12, 27), (0, 9, 15, 13)]) := rfl
theorem wcw_again : Cond.codeWith yL_again cL_again 4 (some .int) [(0, 9, 12, 27), (0, 9, 15, 13)] ∈ W0 := W0_in (tp_6 (List.mem_of_getElem? wca_again)) rfl
theorem kcv_L_43 : gMv RL 43 zk_X11_again 1 := ⟨⟨W0_in (tp_6 (List.mem_of_getElem? (i := 149) (by decide +kernel))) rfl, W0_in (tp_6 (List.mem_of_getElem? (i := 150) (by decide +kernel))) rfl, W0_in (tp_6 (List.mem_of_getElem? (i := 151) (by decide +kernel))) rfl, W0_in (tp_1 (List.mem_of_getElem? (i := 1) (by decide +kernel))) rfl, kcw_X11_again⟩, ⟨by decide, by decide, by decide +kernel⟩, by decide, by decide⟩
theorem wct_again_iSE : gCat zw_again 4 iSE ⟨0, 9, 12, 27⟩ := ⟨⟨[], [⟨0, 9, 15, 13⟩], rfl, fun z hz => nomatch hz⟩, rfl, by decide, (W0_in (tp_5 (List.mem_of_getElem? (i := 107) (by decide +kernel))) rfl), by decide⟩
theorem wct_again_iAE : gCat zw_again 4 iAE ⟨0, 9, 15, 13⟩ := ⟨⟨[⟨0, 9, 12, 27⟩], [], rfl, fun z hz => by
  cases hz with
  | head => exact ⟨by decide, iSE, (W0_in (tp_5 (List.mem_of_getElem? (i := 107) (by decide +kernel))) rfl), by decide⟩
  | tail _ hz => cases hz⟩, rfl, by decide, (W0_in (tp_5 (List.mem_of_getElem? (i := 44) (by decide +kernel))) rfl), by decide⟩
set_option maxRecDepth 100000 in
set_option maxHeartbeats 4000000 in
theorem kw_again {G : kG} {q : kP} {d : Nat} {x : gd} {C : gCo} {wr n : Nat} {lm : Nat → Nat} {w : gd} (hj : JH C wr n lm x w) (hu : kU q) (hH : HOI x q) (l1 : Int32) : T (wE (kE G)) (d + 30) zw_again 0 [(0, vr 0), (1, vi l1), (2, vr 299)] [] x (fo (kf q)) (wq q (fun r9 y q1 => ansK (e1Ch x) (e2Ag n x l1) (sAg C wr (c96 w) x l1) x r9 y)) := by
  have m0 : 0 ∈ (fo (kf q)).2.1 := List.mem_append_left _ (kl_0 hu.1)
  have m9 : 299 ∈ (fo (kf q)).2.1 := List.mem_append_right _ (List.mem_singleton.mpr rfl)
  have n9 := n299 hu
  have r9 : NR (kf q) 299 := kU_NR hu n9
  refine T_aload_n 2 (dk dtk_L_again 0 rfl) rfl rfl ?_
  refine T_iconst (v := 0) (dk dtk_L_again 1 rfl) (by decide +kernel) ?_
  refine T_aload_n 0 (dk dtk_L_again 2 rfl) rfl rfl ?_
  refine T_iload_n 1 (dk dtk_L_again 3 rfl) rfl rfl ?_
  have hend : ∀ (r : Int32) (y : gd) (q1 : kP), kU q1 → kst q q1 → HOI y q1 → ¬ (e1Ch x) ∧ ¬ (e2Ag n x l1) ∧ sAg C wr (c96 w) x l1 r y → T (wE (kE G)) (d + 30) zw_again 7 [(0, vr 0), (1, vi l1), (2, vr 299)] [vi r, vi 0, vr 299] y (fo (kf q1)) (wq q (fun r9 y q1 => ansK (e1Ch x) (e2Ag n x l1) (sAg C wr (c96 w) x l1) x r9 y)) := by
    intro r y q1 hu1 hk1 hH1 hp1
    have n91 : 299 ∈ (fo (kf q1)).2.1 := List.mem_append_right _ (List.mem_singleton.mpr rfl)
    refine T_i2l (dk dtk_L_again 5 rfl) ?_
    refine T_last 299 1 (dk dtk_L_again 6 rfl) wE_9 n91 (vin0 (by omega)) ?_
    refine T_goto 18 (dk dtk_L_again 7 rfl) (by decide) ?_
    refine T_iconst (v := 0) (dk dtk_L_again 14 rfl) (by decide +kernel) ?_
    exact T_iret (dk dtk_L_again 15 rfl) rfl rfl ⟨0, q1, rfl, rfl, hu1, hk1, HOI_1 rfl hu1 hH1, Or.inr (Or.inr ⟨hp1.1, hp1.2.1, rfl, r, by rw [sL_c]; exact if_pos rfl, hp1.2.2⟩)⟩
  have hxiSE : e1Ch x → gtry (kE G) (d + 30) zw_again 4 [(0, vr 0), (1, vi l1), (2, vr 299)] [vi 0, vr 299] (wq q (fun r9 y q1 => ansK (e1Ch x) (e2Ag n x l1) (sAg C wr (c96 w) x l1) x r9 y)) x (.inr iSE) x (gth (kf q)) := by
    intro hno
    refine ⟨⟨n9, r9⟩, ⟨0, 9, 12, 27⟩, 3, 1, wct_again_iSE, Or.inl ⟨3, rfl, rfl, (dk dtk_L_again 8 rfl)⟩, by decide, rfl, ?_⟩
    refine T_iconst (v := 1) (dk dtk_L_again 9 rfl) (by decide +kernel) ?_
    exact T_iret (dk dtk_L_again 10 rfl) rfl rfl ⟨1, kTh q, rfl, rfl, kTh_U hu, kst_th q, HOI_1 rfl (kTh_U hu) (HOI_th hH), Or.inl ⟨hno, rfl, KR_rf⟩⟩
  have hxiAE : e2Ag n x l1 → gtry (kE G) (d + 30) zw_again 4 [(0, vr 0), (1, vi l1), (2, vr 299)] [vi 0, vr 299] (wq q (fun r9 y q1 => ansK (e1Ch x) (e2Ag n x l1) (sAg C wr (c96 w) x l1) x r9 y)) x (.inr iAE) x (gth (kf q)) := by
    intro hno
    refine ⟨⟨n9, r9⟩, ⟨0, 9, 15, 13⟩, 3, 1, wct_again_iAE, Or.inl ⟨3, rfl, rfl, (dk dtk_L_again 11 rfl)⟩, by decide, rfl, ?_⟩
    refine T_iconst (v := 2) (dk dtk_L_again 12 rfl) (by decide +kernel) ?_
    exact T_iret (dk dtk_L_again 13 rfl) rfl rfl ⟨2, kTh q, rfl, rfl, kTh_U hu, kst_th q, HOI_1 rfl (kTh_U hu) (HOI_th hH), Or.inr (Or.inl ⟨hno, rfl, KR_rf⟩)⟩
  refine T_tryF (E := kE G) [vi l1] [vi 0, vr 299] (d + 7) rfl (dk dtk_L_again 4 rfl) kcv_L_43 rfl kk_0 rfl (kl_0 hu.1) (by omega) (Nat.le_of_ble_eq_true rfl) (Nat.le_of_ble_eq_true rfl) (gok_i (av_c (gkr m0) (av_c rfl (av_c (gkr m9) av_n))) (as_c rfl (as_c (gkr m9) as_n))) rfl n9 ?_
  refine T_mono (ka_again (d := d) hj hu.1 hH l1 (P := fun v9 y9 => ∃ r, v9 = some (vi r) ∧ HOI y9 q ∧ ¬ (e1Ch x) ∧ ¬ (e2Ag n x l1) ∧ sAg C wr (c96 w) x l1 r y9) (X := fun c9 y9 => ((c9 = iSE ∧ e1Ch x) ∨ (c9 = iAE ∧ e2Ag n x l1)) ∧ y9 = x) (fun h9 => ⟨Or.inl ⟨rfl, h9⟩, rfl⟩) (fun h9 => ⟨Or.inr ⟨rfl, h9⟩, rfl⟩) (fun h8 h9 r y h1 h2 => ⟨r, rfl, h1, h8, h9, h2⟩)) (fun o9 x9 f9 w9 => ?_)
  rcases w9 with ⟨rfl, v, rfl, r, rfl, h1, h2⟩ | ⟨rfl, c9, rfl, hc, rfl⟩
  · exact ⟨⟨n9, r9⟩, ⟨r, rfl⟩, hend r (xo x x9) q hu (kst_rf q) (HOI_1 rfl hu h1) h2⟩
  · rcases hc with ⟨rfl, hno⟩ | ⟨rfl, hno⟩
    · exact hxiSE hno
    · exact hxiAE hno
abbrev zw_run : gy := (yL_run, cL_run, 4, (some .int), [(0, 9, 12, 27), (0, 9, 15, 19)])
set_option maxRecDepth 100000 in
theorem dtk_L_run : dck cL_run [(0, .aload_n 2, 1), (1, .iconst 0, 1), (2, .aload_n 0, 1), (3, .iload_n 1, 1), (4, .invokevirtual 46, 3), (7, .i2l, 1), (8, .lastore, 1), (9, .goto 9, 3), (12, .astore_n 3, 1), (13, .iconst 1, 1), (14, .ireturn, 1), (15, .astore_n 3, 1), (16, .iconst 2, 1), (17, .ireturn, 1), (18, .iconst 0, 1), (19, .ireturn, 1)] = true := by decide +kernel
set_option maxRecDepth 100000 in
theorem wca_run : tables_1_6[156]? = some (Cond.codeWith yL_run cL_run 4 (some .int) [(0, 9, 12, 27), (0, 9, 15, 19)]) := rfl
theorem wcw_run : Cond.codeWith yL_run cL_run 4 (some .int) [(0, 9, 12, 27), (0, 9, 15, 19)] ∈ W0 := W0_in (tp_6 (List.mem_of_getElem? wca_run)) rfl
theorem kcv_L_46 : gMv RL 46 zk_X11_run 1 := ⟨⟨W0_in (tp_6 (List.mem_of_getElem? (i := 157) (by decide +kernel))) rfl, W0_in (tp_6 (List.mem_of_getElem? (i := 158) (by decide +kernel))) rfl, W0_in (tp_6 (List.mem_of_getElem? (i := 159) (by decide +kernel))) rfl, W0_in (tp_1 (List.mem_of_getElem? (i := 1) (by decide +kernel))) rfl, kcw_X11_run⟩, ⟨by decide, by decide, by decide +kernel⟩, by decide, by decide⟩
theorem wct_run_iSE : gCat zw_run 4 iSE ⟨0, 9, 12, 27⟩ := ⟨⟨[], [⟨0, 9, 15, 19⟩], rfl, fun z hz => nomatch hz⟩, rfl, by decide, (W0_in (tp_5 (List.mem_of_getElem? (i := 107) (by decide +kernel))) rfl), by decide⟩
theorem wct_run_iOE : gCat zw_run 4 iOE ⟨0, 9, 15, 19⟩ := ⟨⟨[⟨0, 9, 12, 27⟩], [], rfl, fun z hz => by
  cases hz with
  | head => exact ⟨by decide, iSE, (W0_in (tp_5 (List.mem_of_getElem? (i := 107) (by decide +kernel))) rfl), by decide⟩
  | tail _ hz => cases hz⟩, rfl, by decide, (W0_in (tp_5 (List.mem_of_getElem? (i := 73) (by decide +kernel))) rfl), by decide⟩
set_option maxRecDepth 100000 in
set_option maxHeartbeats 4000000 in
theorem kw_run {G : kG} {q : kP} {d : Nat} {x : gd} (hu : kU q) (hH : HOI x q) (l1 : Int32) : T (wE (kE G)) (d + 30) zw_run 0 [(0, vr 0), (1, vi l1), (2, vr 299)] [] x (fo (kf q)) (wq q (fun _ y q1 => KRd x y)) := by
  have m0 : 0 ∈ (fo (kf q)).2.1 := List.mem_append_left _ (kl_0 hu.1)
  have m9 : 299 ∈ (fo (kf q)).2.1 := List.mem_append_right _ (List.mem_singleton.mpr rfl)
  have n9 := n299 hu
  have r9 : NR (kf q) 299 := kU_NR hu n9
  refine T_aload_n 2 (dk dtk_L_run 0 rfl) rfl rfl ?_
  refine T_iconst (v := 0) (dk dtk_L_run 1 rfl) (by decide +kernel) ?_
  refine T_aload_n 0 (dk dtk_L_run 2 rfl) rfl rfl ?_
  refine T_iload_n 1 (dk dtk_L_run 3 rfl) rfl rfl ?_
  have hend : ∀ (r : Int32) (y : gd) (q1 : kP), kU q1 → kst q q1 → HOI y q1 → (fun _ y q1 => KRd x y) 0 y q1 → T (wE (kE G)) (d + 30) zw_run 7 [(0, vr 0), (1, vi l1), (2, vr 299)] [vi r, vi 0, vr 299] y (fo (kf q1)) (wq q (fun _ y q1 => KRd x y)) := by
    intro r y q1 hu1 hk1 hH1 hp1
    have n91 : 299 ∈ (fo (kf q1)).2.1 := List.mem_append_right _ (List.mem_singleton.mpr rfl)
    refine T_i2l (dk dtk_L_run 5 rfl) ?_
    refine T_last 299 1 (dk dtk_L_run 6 rfl) wE_9 n91 (vin0 (by omega)) ?_
    refine T_goto 18 (dk dtk_L_run 7 rfl) (by decide) ?_
    refine T_iconst (v := 0) (dk dtk_L_run 14 rfl) (by decide +kernel) ?_
    exact T_iret (dk dtk_L_run 15 rfl) rfl rfl ⟨0, q1, rfl, rfl, hu1, hk1, HOI_1 rfl hu1 hH1, hp1⟩
  have hxiSE : gtry (kE G) (d + 30) zw_run 4 [(0, vr 0), (1, vi l1), (2, vr 299)] [vi 0, vr 299] (wq q (fun _ y q1 => KRd x y)) x (.inr iSE) x (gth (kf q)) := by
    refine ⟨⟨n9, r9⟩, ⟨0, 9, 12, 27⟩, 3, 1, wct_run_iSE, Or.inl ⟨3, rfl, rfl, (dk dtk_L_run 8 rfl)⟩, by decide, rfl, ?_⟩
    refine T_iconst (v := 1) (dk dtk_L_run 9 rfl) (by decide +kernel) ?_
    exact T_iret (dk dtk_L_run 10 rfl) rfl rfl ⟨1, kTh q, rfl, rfl, kTh_U hu, kst_th q, HOI_1 rfl (kTh_U hu) (HOI_th hH), KR_rf⟩
  have hxiOE : gtry (kE G) (d + 30) zw_run 4 [(0, vr 0), (1, vi l1), (2, vr 299)] [vi 0, vr 299] (wq q (fun _ y q1 => KRd x y)) x (.inr iOE) x (gth (kf q)) := by
    refine ⟨⟨n9, r9⟩, ⟨0, 9, 15, 19⟩, 3, 1, wct_run_iOE, Or.inl ⟨3, rfl, rfl, (dk dtk_L_run 11 rfl)⟩, by decide, rfl, ?_⟩
    refine T_iconst (v := 2) (dk dtk_L_run 12 rfl) (by decide +kernel) ?_
    exact T_iret (dk dtk_L_run 13 rfl) rfl rfl ⟨2, kTh q, rfl, rfl, kTh_U hu, kst_th q, HOI_1 rfl (kTh_U hu) (HOI_th hH), KR_rf⟩
  refine T_tryF (E := kE G) [vi l1] [vi 0, vr 299] (d + 7) rfl (dk dtk_L_run 4 rfl) kcv_L_46 rfl kk_0 rfl (kl_0 hu.1) (by omega) (Nat.le_of_ble_eq_true rfl) (Nat.le_of_ble_eq_true rfl) (gok_i (av_c (gkr m0) (av_c rfl (av_c (gkr m9) av_n))) (as_c rfl (as_c (gkr m9) as_n))) rfl n9 ?_
  refine T_mono (kr_runq (d := d) hu.1 hH l1 (P := fun v9 y9 => ∃ r, v9 = some (vi r) ∧ HOI y9 q ∧ KRd x y9) (X := fun c9 y9 => (c9 = iSE ∨ c9 = iOE) ∧ y9 = x) ⟨Or.inl rfl, rfl⟩ ⟨Or.inr rfl, rfl⟩ (fun r y h1 h2 => ⟨r, rfl, h1, h2⟩)) (fun o9 x9 f9 w9 => ?_)
  rcases w9 with ⟨rfl, v, rfl, r, rfl, h1, h2⟩ | ⟨rfl, c9, rfl, hc, rfl⟩
  · exact ⟨⟨n9, r9⟩, ⟨r, rfl⟩, hend r (xo x x9) q hu (kst_rf q) (HOI_1 rfl hu h1) h2⟩
  · rcases hc with rfl | rfl
    · exact hxiSE
    · exact hxiOE
abbrev zw_cell : gy := (yL_cell, cL_cell, 4, (some .int), [(0, 9, 12, 27), (0, 9, 15, 19)])
set_option maxRecDepth 100000 in
theorem dtk_L_cell : dck cL_cell [(0, .aload_n 2, 1), (1, .iconst 0, 1), (2, .aload_n 0, 1), (3, .iload_n 1, 1), (4, .invokevirtual 49, 3), (7, .i2l, 1), (8, .lastore, 1), (9, .goto 9, 3), (12, .astore_n 3, 1), (13, .iconst 1, 1), (14, .ireturn, 1), (15, .astore_n 3, 1), (16, .iconst 2, 1), (17, .ireturn, 1), (18, .iconst 0, 1), (19, .ireturn, 1)] = true := by decide +kernel
set_option maxRecDepth 100000 in
theorem wca_cell : tables_1_6[179]? = some (Cond.codeWith yL_cell cL_cell 4 (some .int) [(0, 9, 12, 27), (0, 9, 15, 19)]) := rfl
theorem wcw_cell : Cond.codeWith yL_cell cL_cell 4 (some .int) [(0, 9, 12, 27), (0, 9, 15, 19)] ∈ W0 := W0_in (tp_6 (List.mem_of_getElem? wca_cell)) rfl
theorem kcv_L_49 : gMv RL 49 zk_X11_cell 1 := ⟨⟨W0_in (tp_6 (List.mem_of_getElem? (i := 180) (by decide +kernel))) rfl, W0_in (tp_6 (List.mem_of_getElem? (i := 181) (by decide +kernel))) rfl, W0_in (tp_6 (List.mem_of_getElem? (i := 182) (by decide +kernel))) rfl, W0_in (tp_1 (List.mem_of_getElem? (i := 1) (by decide +kernel))) rfl, kcw_X11_cell⟩, ⟨by decide, by decide, by decide +kernel⟩, by decide, by decide⟩
theorem wct_cell_iSE : gCat zw_cell 4 iSE ⟨0, 9, 12, 27⟩ := ⟨⟨[], [⟨0, 9, 15, 19⟩], rfl, fun z hz => nomatch hz⟩, rfl, by decide, (W0_in (tp_5 (List.mem_of_getElem? (i := 107) (by decide +kernel))) rfl), by decide⟩
theorem wct_cell_iOE : gCat zw_cell 4 iOE ⟨0, 9, 15, 19⟩ := ⟨⟨[⟨0, 9, 12, 27⟩], [], rfl, fun z hz => by
  cases hz with
  | head => exact ⟨by decide, iSE, (W0_in (tp_5 (List.mem_of_getElem? (i := 107) (by decide +kernel))) rfl), by decide⟩
  | tail _ hz => cases hz⟩, rfl, by decide, (W0_in (tp_5 (List.mem_of_getElem? (i := 73) (by decide +kernel))) rfl), by decide⟩
set_option maxRecDepth 100000 in
set_option maxHeartbeats 4000000 in
theorem kw_cell {G : kG} {q : kP} {d : Nat} {x : gd} {C : gCo} {wr n : Nat} {lm : Nat → Nat} {w : gd} (hj : JH C wr n lm x w) (hu : kU q) (hH : HOI x q) (l1 : Int32) : T (wE (kE G)) (d + 30) zw_cell 0 [(0, vr 0), (1, vi l1), (2, vr 299)] [] x (fo (kf q)) (wq q (fun r9 y q1 => ansK (e1Ch x) (e2Ce x l1) (sCe C wr n (c96 w) x l1) x r9 y)) := by
  have m0 : 0 ∈ (fo (kf q)).2.1 := List.mem_append_left _ (kl_0 hu.1)
  have m9 : 299 ∈ (fo (kf q)).2.1 := List.mem_append_right _ (List.mem_singleton.mpr rfl)
  have n9 := n299 hu
  have r9 : NR (kf q) 299 := kU_NR hu n9
  refine T_aload_n 2 (dk dtk_L_cell 0 rfl) rfl rfl ?_
  refine T_iconst (v := 0) (dk dtk_L_cell 1 rfl) (by decide +kernel) ?_
  refine T_aload_n 0 (dk dtk_L_cell 2 rfl) rfl rfl ?_
  refine T_iload_n 1 (dk dtk_L_cell 3 rfl) rfl rfl ?_
  have hend : ∀ (r : Int32) (y : gd) (q1 : kP), kU q1 → kst q q1 → HOI y q1 → ¬ (e1Ch x) ∧ ¬ (e2Ce x l1) ∧ sCe C wr n (c96 w) x l1 r y → T (wE (kE G)) (d + 30) zw_cell 7 [(0, vr 0), (1, vi l1), (2, vr 299)] [vi r, vi 0, vr 299] y (fo (kf q1)) (wq q (fun r9 y q1 => ansK (e1Ch x) (e2Ce x l1) (sCe C wr n (c96 w) x l1) x r9 y)) := by
    intro r y q1 hu1 hk1 hH1 hp1
    have n91 : 299 ∈ (fo (kf q1)).2.1 := List.mem_append_right _ (List.mem_singleton.mpr rfl)
    refine T_i2l (dk dtk_L_cell 5 rfl) ?_
    refine T_last 299 1 (dk dtk_L_cell 6 rfl) wE_9 n91 (vin0 (by omega)) ?_
    refine T_goto 18 (dk dtk_L_cell 7 rfl) (by decide) ?_
    refine T_iconst (v := 0) (dk dtk_L_cell 14 rfl) (by decide +kernel) ?_
    exact T_iret (dk dtk_L_cell 15 rfl) rfl rfl ⟨0, q1, rfl, rfl, hu1, hk1, HOI_1 rfl hu1 hH1, Or.inr (Or.inr ⟨hp1.1, hp1.2.1, rfl, r, by rw [sL_c]; exact if_pos rfl, hp1.2.2⟩)⟩
  have hxiSE : e1Ch x → gtry (kE G) (d + 30) zw_cell 4 [(0, vr 0), (1, vi l1), (2, vr 299)] [vi 0, vr 299] (wq q (fun r9 y q1 => ansK (e1Ch x) (e2Ce x l1) (sCe C wr n (c96 w) x l1) x r9 y)) x (.inr iSE) x (gth (kf q)) := by
    intro hno
    refine ⟨⟨n9, r9⟩, ⟨0, 9, 12, 27⟩, 3, 1, wct_cell_iSE, Or.inl ⟨3, rfl, rfl, (dk dtk_L_cell 8 rfl)⟩, by decide, rfl, ?_⟩
    refine T_iconst (v := 1) (dk dtk_L_cell 9 rfl) (by decide +kernel) ?_
    exact T_iret (dk dtk_L_cell 10 rfl) rfl rfl ⟨1, kTh q, rfl, rfl, kTh_U hu, kst_th q, HOI_1 rfl (kTh_U hu) (HOI_th hH), Or.inl ⟨hno, rfl, KR_rf⟩⟩
  have hxiOE : e2Ce x l1 → gtry (kE G) (d + 30) zw_cell 4 [(0, vr 0), (1, vi l1), (2, vr 299)] [vi 0, vr 299] (wq q (fun r9 y q1 => ansK (e1Ch x) (e2Ce x l1) (sCe C wr n (c96 w) x l1) x r9 y)) x (.inr iOE) x (gth (kf q)) := by
    intro hno
    refine ⟨⟨n9, r9⟩, ⟨0, 9, 15, 19⟩, 3, 1, wct_cell_iOE, Or.inl ⟨3, rfl, rfl, (dk dtk_L_cell 11 rfl)⟩, by decide, rfl, ?_⟩
    refine T_iconst (v := 2) (dk dtk_L_cell 12 rfl) (by decide +kernel) ?_
    exact T_iret (dk dtk_L_cell 13 rfl) rfl rfl ⟨2, kTh q, rfl, rfl, kTh_U hu, kst_th q, HOI_1 rfl (kTh_U hu) (HOI_th hH), Or.inr (Or.inl ⟨hno, rfl, KR_rf⟩)⟩
  refine T_tryF (E := kE G) [vi l1] [vi 0, vr 299] (d + 7) rfl (dk dtk_L_cell 4 rfl) kcv_L_49 rfl kk_0 rfl (kl_0 hu.1) (by omega) (Nat.le_of_ble_eq_true rfl) (Nat.le_of_ble_eq_true rfl) (gok_i (av_c (gkr m0) (av_c rfl (av_c (gkr m9) av_n))) (as_c rfl (as_c (gkr m9) as_n))) rfl n9 ?_
  refine T_mono (ka_cell (d := d) hj hu.1 hH l1 (P := fun v9 y9 => ∃ r, v9 = some (vi r) ∧ HOI y9 q ∧ ¬ (e1Ch x) ∧ ¬ (e2Ce x l1) ∧ sCe C wr n (c96 w) x l1 r y9) (X := fun c9 y9 => ((c9 = iSE ∧ e1Ch x) ∨ (c9 = iOE ∧ e2Ce x l1)) ∧ y9 = x) (fun h9 => ⟨Or.inl ⟨rfl, h9⟩, rfl⟩) (fun h9 => ⟨Or.inr ⟨rfl, h9⟩, rfl⟩) (fun h8 h9 r y h1 h2 => ⟨r, rfl, h1, h8, h9, h2⟩)) (fun o9 x9 f9 w9 => ?_)
  rcases w9 with ⟨rfl, v, rfl, r, rfl, h1, h2⟩ | ⟨rfl, c9, rfl, hc, rfl⟩
  · exact ⟨⟨n9, r9⟩, ⟨r, rfl⟩, hend r (xo x x9) q hu (kst_rf q) (HOI_1 rfl hu h1) h2⟩
  · rcases hc with ⟨rfl, hno⟩ | ⟨rfl, hno⟩
    · exact hxiSE hno
    · exact hxiOE hno
abbrev zw_seen : gy := (yL_seen, cL_seen, 5, (some .int), [(0, 10, 13, 27), (0, 10, 17, 19)])
set_option maxRecDepth 100000 in
theorem dtk_L_seen : dck cL_seen [(0, .aload_n 3, 1), (1, .iconst 0, 1), (2, .aload_n 0, 1), (3, .iload_n 1, 1), (4, .iload_n 2, 1), (5, .invokevirtual 52, 3), (8, .i2l, 1), (9, .lastore, 1), (10, .goto 11, 3), (13, .astore 4, 2), (15, .iconst 1, 1), (16, .ireturn, 1), (17, .astore 4, 2), (19, .iconst 2, 1), (20, .ireturn, 1), (21, .iconst 0, 1), (22, .ireturn, 1)] = true := by decide +kernel
set_option maxRecDepth 100000 in
theorem wca_seen : tables_1_6[186]? = some (Cond.codeWith yL_seen cL_seen 5 (some .int) [(0, 10, 13, 27), (0, 10, 17, 19)]) := rfl
theorem wcw_seen : Cond.codeWith yL_seen cL_seen 5 (some .int) [(0, 10, 13, 27), (0, 10, 17, 19)] ∈ W0 := W0_in (tp_6 (List.mem_of_getElem? wca_seen)) rfl
theorem kcv_L_52 : gMv RL 52 zk_X11_seen 2 := ⟨⟨W0_in (tp_6 (List.mem_of_getElem? (i := 187) (by decide +kernel))) rfl, W0_in (tp_6 (List.mem_of_getElem? (i := 188) (by decide +kernel))) rfl, W0_in (tp_6 (List.mem_of_getElem? (i := 189) (by decide +kernel))) rfl, W0_in (tp_1 (List.mem_of_getElem? (i := 1) (by decide +kernel))) rfl, kcw_X11_seen⟩, ⟨by decide, by decide, by decide +kernel⟩, by decide, by decide⟩
theorem wct_seen_iSE : gCat zw_seen 5 iSE ⟨0, 10, 13, 27⟩ := ⟨⟨[], [⟨0, 10, 17, 19⟩], rfl, fun z hz => nomatch hz⟩, rfl, by decide, (W0_in (tp_5 (List.mem_of_getElem? (i := 107) (by decide +kernel))) rfl), by decide⟩
theorem wct_seen_iOE : gCat zw_seen 5 iOE ⟨0, 10, 17, 19⟩ := ⟨⟨[⟨0, 10, 13, 27⟩], [], rfl, fun z hz => by
  cases hz with
  | head => exact ⟨by decide, iSE, (W0_in (tp_5 (List.mem_of_getElem? (i := 107) (by decide +kernel))) rfl), by decide⟩
  | tail _ hz => cases hz⟩, rfl, by decide, (W0_in (tp_5 (List.mem_of_getElem? (i := 73) (by decide +kernel))) rfl), by decide⟩
set_option maxRecDepth 100000 in
set_option maxHeartbeats 4000000 in
theorem kw_seen {G : kG} {q : kP} {d : Nat} {x : gd} {C : gCo} {wr n : Nat} {lm : Nat → Nat} {w : gd} (hj : JH C wr n lm x w) (hu : kU q) (hH : HOI x q) (l1 : Int32) (l2 : Int32) : T (wE (kE G)) (d + 30) zw_seen 0 [(0, vr 0), (1, vi l1), (2, vi l2), (3, vr 299)] [] x (fo (kf q)) (wq q (fun r9 y q1 => ansK (e1Ch x) (e2Se x l1 l2) (sSe C wr n (c96 w) x l1 l2) x r9 y)) := by
  have m0 : 0 ∈ (fo (kf q)).2.1 := List.mem_append_left _ (kl_0 hu.1)
  have m9 : 299 ∈ (fo (kf q)).2.1 := List.mem_append_right _ (List.mem_singleton.mpr rfl)
  have n9 := n299 hu
  have r9 : NR (kf q) 299 := kU_NR hu n9
  refine T_aload_n 3 (dk dtk_L_seen 0 rfl) rfl rfl ?_
  refine T_iconst (v := 0) (dk dtk_L_seen 1 rfl) (by decide +kernel) ?_
  refine T_aload_n 0 (dk dtk_L_seen 2 rfl) rfl rfl ?_
  refine T_iload_n 1 (dk dtk_L_seen 3 rfl) rfl rfl ?_
  refine T_iload_n 2 (dk dtk_L_seen 4 rfl) rfl rfl ?_
  have hend : ∀ (r : Int32) (y : gd) (q1 : kP), kU q1 → kst q q1 → HOI y q1 → ¬ (e1Ch x) ∧ ¬ (e2Se x l1 l2) ∧ sSe C wr n (c96 w) x l1 l2 r y → T (wE (kE G)) (d + 30) zw_seen 8 [(0, vr 0), (1, vi l1), (2, vi l2), (3, vr 299)] [vi r, vi 0, vr 299] y (fo (kf q1)) (wq q (fun r9 y q1 => ansK (e1Ch x) (e2Se x l1 l2) (sSe C wr n (c96 w) x l1 l2) x r9 y)) := by
    intro r y q1 hu1 hk1 hH1 hp1
    have n91 : 299 ∈ (fo (kf q1)).2.1 := List.mem_append_right _ (List.mem_singleton.mpr rfl)
    refine T_i2l (dk dtk_L_seen 6 rfl) ?_
    refine T_last 299 1 (dk dtk_L_seen 7 rfl) wE_9 n91 (vin0 (by omega)) ?_
    refine T_goto 21 (dk dtk_L_seen 8 rfl) (by decide) ?_
    refine T_iconst (v := 0) (dk dtk_L_seen 15 rfl) (by decide +kernel) ?_
    exact T_iret (dk dtk_L_seen 16 rfl) rfl rfl ⟨0, q1, rfl, rfl, hu1, hk1, HOI_1 rfl hu1 hH1, Or.inr (Or.inr ⟨hp1.1, hp1.2.1, rfl, r, by rw [sL_c]; exact if_pos rfl, hp1.2.2⟩)⟩
  have hxiSE : e1Ch x → gtry (kE G) (d + 30) zw_seen 5 [(0, vr 0), (1, vi l1), (2, vi l2), (3, vr 299)] [vi 0, vr 299] (wq q (fun r9 y q1 => ansK (e1Ch x) (e2Se x l1 l2) (sSe C wr n (c96 w) x l1 l2) x r9 y)) x (.inr iSE) x (gth (kf q)) := by
    intro hno
    refine ⟨⟨n9, r9⟩, ⟨0, 10, 13, 27⟩, 4, 2, wct_seen_iSE, Or.inr ⟨rfl, (dk dtk_L_seen 9 rfl)⟩, by decide, rfl, ?_⟩
    refine T_iconst (v := 1) (dk dtk_L_seen 10 rfl) (by decide +kernel) ?_
    exact T_iret (dk dtk_L_seen 11 rfl) rfl rfl ⟨1, kTh q, rfl, rfl, kTh_U hu, kst_th q, HOI_1 rfl (kTh_U hu) (HOI_th hH), Or.inl ⟨hno, rfl, KR_rf⟩⟩
  have hxiOE : e2Se x l1 l2 → gtry (kE G) (d + 30) zw_seen 5 [(0, vr 0), (1, vi l1), (2, vi l2), (3, vr 299)] [vi 0, vr 299] (wq q (fun r9 y q1 => ansK (e1Ch x) (e2Se x l1 l2) (sSe C wr n (c96 w) x l1 l2) x r9 y)) x (.inr iOE) x (gth (kf q)) := by
    intro hno
    refine ⟨⟨n9, r9⟩, ⟨0, 10, 17, 19⟩, 4, 2, wct_seen_iOE, Or.inr ⟨rfl, (dk dtk_L_seen 12 rfl)⟩, by decide, rfl, ?_⟩
    refine T_iconst (v := 2) (dk dtk_L_seen 13 rfl) (by decide +kernel) ?_
    exact T_iret (dk dtk_L_seen 14 rfl) rfl rfl ⟨2, kTh q, rfl, rfl, kTh_U hu, kst_th q, HOI_1 rfl (kTh_U hu) (HOI_th hH), Or.inr (Or.inl ⟨hno, rfl, KR_rf⟩)⟩
  refine T_tryF (E := kE G) [vi l1, vi l2] [vi 0, vr 299] (d + 7) rfl (dk dtk_L_seen 5 rfl) kcv_L_52 rfl kk_0 rfl (kl_0 hu.1) (by omega) (Nat.le_of_ble_eq_true rfl) (Nat.le_of_ble_eq_true rfl) (gok_i (av_c (gkr m0) (av_c rfl (av_c rfl (av_c (gkr m9) av_n)))) (as_c rfl (as_c (gkr m9) as_n))) rfl n9 ?_
  refine T_mono (ka_seen (d := d) hj hu.1 hH l1 l2 (P := fun v9 y9 => ∃ r, v9 = some (vi r) ∧ HOI y9 q ∧ ¬ (e1Ch x) ∧ ¬ (e2Se x l1 l2) ∧ sSe C wr n (c96 w) x l1 l2 r y9) (X := fun c9 y9 => ((c9 = iSE ∧ e1Ch x) ∨ (c9 = iOE ∧ e2Se x l1 l2)) ∧ y9 = x) (fun h9 => ⟨Or.inl ⟨rfl, h9⟩, rfl⟩) (fun h9 => ⟨Or.inr ⟨rfl, h9⟩, rfl⟩) (fun h8 h9 r y h1 h2 => ⟨r, rfl, h1, h8, h9, h2⟩)) (fun o9 x9 f9 w9 => ?_)
  rcases w9 with ⟨rfl, v, rfl, r, rfl, h1, h2⟩ | ⟨rfl, c9, rfl, hc, rfl⟩
  · exact ⟨⟨n9, r9⟩, ⟨r, rfl⟩, hend r (xo x x9) q hu (kst_rf q) (HOI_1 rfl hu h1) h2⟩
  · rcases hc with ⟨rfl, hno⟩ | ⟨rfl, hno⟩
    · exact hxiSE hno
    · exact hxiOE hno
abbrev zw_lock : gy := (yL_lock, cL_lock, 5, (some .int), [(0, 10, 13, 27), (0, 10, 17, 19)])
set_option maxRecDepth 100000 in
theorem dtk_L_lock : dck cL_lock [(0, .aload_n 3, 1), (1, .iconst 0, 1), (2, .aload_n 0, 1), (3, .iload_n 1, 1), (4, .iload_n 2, 1), (5, .invokevirtual 55, 3), (8, .i2l, 1), (9, .lastore, 1), (10, .goto 11, 3), (13, .astore 4, 2), (15, .iconst 1, 1), (16, .ireturn, 1), (17, .astore 4, 2), (19, .iconst 2, 1), (20, .ireturn, 1), (21, .iconst 0, 1), (22, .ireturn, 1)] = true := by decide +kernel
set_option maxRecDepth 100000 in
theorem wca_lock : tables_1_6[194]? = some (Cond.codeWith yL_lock cL_lock 5 (some .int) [(0, 10, 13, 27), (0, 10, 17, 19)]) := rfl
theorem wcw_lock : Cond.codeWith yL_lock cL_lock 5 (some .int) [(0, 10, 13, 27), (0, 10, 17, 19)] ∈ W0 := W0_in (tp_6 (List.mem_of_getElem? wca_lock)) rfl
theorem kcv_L_55 : gMv RL 55 zk_X11_lock 2 := ⟨⟨W0_in (tp_6 (List.mem_of_getElem? (i := 195) (by decide +kernel))) rfl, W0_in (tp_6 (List.mem_of_getElem? (i := 196) (by decide +kernel))) rfl, W0_in (tp_6 (List.mem_of_getElem? (i := 197) (by decide +kernel))) rfl, W0_in (tp_1 (List.mem_of_getElem? (i := 1) (by decide +kernel))) rfl, kcw_X11_lock⟩, ⟨by decide, by decide, by decide +kernel⟩, by decide, by decide⟩
theorem wct_lock_iSE : gCat zw_lock 5 iSE ⟨0, 10, 13, 27⟩ := ⟨⟨[], [⟨0, 10, 17, 19⟩], rfl, fun z hz => nomatch hz⟩, rfl, by decide, (W0_in (tp_5 (List.mem_of_getElem? (i := 107) (by decide +kernel))) rfl), by decide⟩
theorem wct_lock_iOE : gCat zw_lock 5 iOE ⟨0, 10, 17, 19⟩ := ⟨⟨[⟨0, 10, 13, 27⟩], [], rfl, fun z hz => by
  cases hz with
  | head => exact ⟨by decide, iSE, (W0_in (tp_5 (List.mem_of_getElem? (i := 107) (by decide +kernel))) rfl), by decide⟩
  | tail _ hz => cases hz⟩, rfl, by decide, (W0_in (tp_5 (List.mem_of_getElem? (i := 73) (by decide +kernel))) rfl), by decide⟩
set_option maxRecDepth 100000 in
set_option maxHeartbeats 4000000 in
theorem kw_lock {G : kG} {q : kP} {d : Nat} {x : gd} (hu : kU q) (hH : HOI x q) (l1 : Int32) (l2 : Int32) : T (wE (kE G)) (d + 30) zw_lock 0 [(0, vr 0), (1, vi l1), (2, vi l2), (3, vr 299)] [] x (fo (kf q)) (wq q (fun _ y q1 => KRd x y)) := by
  have m0 : 0 ∈ (fo (kf q)).2.1 := List.mem_append_left _ (kl_0 hu.1)
  have m9 : 299 ∈ (fo (kf q)).2.1 := List.mem_append_right _ (List.mem_singleton.mpr rfl)
  have n9 := n299 hu
  have r9 : NR (kf q) 299 := kU_NR hu n9
  refine T_aload_n 3 (dk dtk_L_lock 0 rfl) rfl rfl ?_
  refine T_iconst (v := 0) (dk dtk_L_lock 1 rfl) (by decide +kernel) ?_
  refine T_aload_n 0 (dk dtk_L_lock 2 rfl) rfl rfl ?_
  refine T_iload_n 1 (dk dtk_L_lock 3 rfl) rfl rfl ?_
  refine T_iload_n 2 (dk dtk_L_lock 4 rfl) rfl rfl ?_
  have hend : ∀ (r : Int32) (y : gd) (q1 : kP), kU q1 → kst q q1 → HOI y q1 → (fun _ y q1 => KRd x y) 0 y q1 → T (wE (kE G)) (d + 30) zw_lock 8 [(0, vr 0), (1, vi l1), (2, vi l2), (3, vr 299)] [vi r, vi 0, vr 299] y (fo (kf q1)) (wq q (fun _ y q1 => KRd x y)) := by
    intro r y q1 hu1 hk1 hH1 hp1
    have n91 : 299 ∈ (fo (kf q1)).2.1 := List.mem_append_right _ (List.mem_singleton.mpr rfl)
    refine T_i2l (dk dtk_L_lock 6 rfl) ?_
    refine T_last 299 1 (dk dtk_L_lock 7 rfl) wE_9 n91 (vin0 (by omega)) ?_
    refine T_goto 21 (dk dtk_L_lock 8 rfl) (by decide) ?_
    refine T_iconst (v := 0) (dk dtk_L_lock 15 rfl) (by decide +kernel) ?_
    exact T_iret (dk dtk_L_lock 16 rfl) rfl rfl ⟨0, q1, rfl, rfl, hu1, hk1, HOI_1 rfl hu1 hH1, hp1⟩
  have hxiSE : gtry (kE G) (d + 30) zw_lock 5 [(0, vr 0), (1, vi l1), (2, vi l2), (3, vr 299)] [vi 0, vr 299] (wq q (fun _ y q1 => KRd x y)) x (.inr iSE) x (gth (kf q)) := by
    refine ⟨⟨n9, r9⟩, ⟨0, 10, 13, 27⟩, 4, 2, wct_lock_iSE, Or.inr ⟨rfl, (dk dtk_L_lock 9 rfl)⟩, by decide, rfl, ?_⟩
    refine T_iconst (v := 1) (dk dtk_L_lock 10 rfl) (by decide +kernel) ?_
    exact T_iret (dk dtk_L_lock 11 rfl) rfl rfl ⟨1, kTh q, rfl, rfl, kTh_U hu, kst_th q, HOI_1 rfl (kTh_U hu) (HOI_th hH), KR_rf⟩
  have hxiOE : gtry (kE G) (d + 30) zw_lock 5 [(0, vr 0), (1, vi l1), (2, vi l2), (3, vr 299)] [vi 0, vr 299] (wq q (fun _ y q1 => KRd x y)) x (.inr iOE) x (gth (kf q)) := by
    refine ⟨⟨n9, r9⟩, ⟨0, 10, 17, 19⟩, 4, 2, wct_lock_iOE, Or.inr ⟨rfl, (dk dtk_L_lock 12 rfl)⟩, by decide, rfl, ?_⟩
    refine T_iconst (v := 2) (dk dtk_L_lock 13 rfl) (by decide +kernel) ?_
    exact T_iret (dk dtk_L_lock 14 rfl) rfl rfl ⟨2, kTh q, rfl, rfl, kTh_U hu, kst_th q, HOI_1 rfl (kTh_U hu) (HOI_th hH), KR_rf⟩
  refine T_tryF (E := kE G) [vi l1, vi l2] [vi 0, vr 299] (d + 7) rfl (dk dtk_L_lock 5 rfl) kcv_L_55 rfl kk_0 rfl (kl_0 hu.1) (by omega) (Nat.le_of_ble_eq_true rfl) (Nat.le_of_ble_eq_true rfl) (gok_i (av_c (gkr m0) (av_c rfl (av_c rfl (av_c (gkr m9) av_n)))) (as_c rfl (as_c (gkr m9) as_n))) rfl n9 ?_
  refine T_mono (kr_lock (d := d) hu.1 hH l1 l2 (P := fun v9 y9 => ∃ r, v9 = some (vi r) ∧ HOI y9 q ∧ KRd x y9) (X := fun c9 y9 => (c9 = iSE ∨ c9 = iOE) ∧ y9 = x) ⟨Or.inl rfl, rfl⟩ ⟨Or.inr rfl, rfl⟩ (fun r y h1 h2 => ⟨r, rfl, h1, h2⟩)) (fun o9 x9 f9 w9 => ?_)
  rcases w9 with ⟨rfl, v, rfl, r, rfl, h1, h2⟩ | ⟨rfl, c9, rfl, hc, rfl⟩
  · exact ⟨⟨n9, r9⟩, ⟨r, rfl⟩, hend r (xo x x9) q hu (kst_rf q) (HOI_1 rfl hu h1) h2⟩
  · rcases hc with rfl | rfl
    · exact hxiSE
    · exact hxiOE
abbrev zw_thread : gy := (yL_thread, cL_thread, 5, (some .int), [(0, 10, 13, 27), (0, 10, 17, 19)])
set_option maxRecDepth 100000 in
theorem dtk_L_thread : dck cL_thread [(0, .aload_n 3, 1), (1, .iconst 0, 1), (2, .aload_n 0, 1), (3, .iload_n 1, 1), (4, .iload_n 2, 1), (5, .invokevirtual 58, 3), (8, .i2l, 1), (9, .lastore, 1), (10, .goto 11, 3), (13, .astore 4, 2), (15, .iconst 1, 1), (16, .ireturn, 1), (17, .astore 4, 2), (19, .iconst 2, 1), (20, .ireturn, 1), (21, .iconst 0, 1), (22, .ireturn, 1)] = true := by decide +kernel
set_option maxRecDepth 100000 in
theorem wca_thread : tables_1_6[210]? = some (Cond.codeWith yL_thread cL_thread 5 (some .int) [(0, 10, 13, 27), (0, 10, 17, 19)]) := rfl
theorem wcw_thread : Cond.codeWith yL_thread cL_thread 5 (some .int) [(0, 10, 13, 27), (0, 10, 17, 19)] ∈ W0 := W0_in (tp_6 (List.mem_of_getElem? wca_thread)) rfl
theorem kcv_L_58 : gMv RL 58 zk_X11_thread 2 := ⟨⟨W0_in (tp_6 (List.mem_of_getElem? (i := 211) (by decide +kernel))) rfl, W0_in (tp_6 (List.mem_of_getElem? (i := 212) (by decide +kernel))) rfl, W0_in (tp_6 (List.mem_of_getElem? (i := 213) (by decide +kernel))) rfl, W0_in (tp_1 (List.mem_of_getElem? (i := 1) (by decide +kernel))) rfl, kcw_X11_thread⟩, ⟨by decide, by decide, by decide +kernel⟩, by decide, by decide⟩
theorem wct_thread_iSE : gCat zw_thread 5 iSE ⟨0, 10, 13, 27⟩ := ⟨⟨[], [⟨0, 10, 17, 19⟩], rfl, fun z hz => nomatch hz⟩, rfl, by decide, (W0_in (tp_5 (List.mem_of_getElem? (i := 107) (by decide +kernel))) rfl), by decide⟩
theorem wct_thread_iOE : gCat zw_thread 5 iOE ⟨0, 10, 17, 19⟩ := ⟨⟨[⟨0, 10, 13, 27⟩], [], rfl, fun z hz => by
  cases hz with
  | head => exact ⟨by decide, iSE, (W0_in (tp_5 (List.mem_of_getElem? (i := 107) (by decide +kernel))) rfl), by decide⟩
  | tail _ hz => cases hz⟩, rfl, by decide, (W0_in (tp_5 (List.mem_of_getElem? (i := 73) (by decide +kernel))) rfl), by decide⟩
set_option maxRecDepth 100000 in
set_option maxHeartbeats 4000000 in
theorem kw_thread {G : kG} {q : kP} {d : Nat} {x : gd} (hu : kU q) (hH : HOI x q) (l1 : Int32) (l2 : Int32) : T (wE (kE G)) (d + 30) zw_thread 0 [(0, vr 0), (1, vi l1), (2, vi l2), (3, vr 299)] [] x (fo (kf q)) (wq q (fun _ y q1 => KRd x y)) := by
  have m0 : 0 ∈ (fo (kf q)).2.1 := List.mem_append_left _ (kl_0 hu.1)
  have m9 : 299 ∈ (fo (kf q)).2.1 := List.mem_append_right _ (List.mem_singleton.mpr rfl)
  have n9 := n299 hu
  have r9 : NR (kf q) 299 := kU_NR hu n9
  refine T_aload_n 3 (dk dtk_L_thread 0 rfl) rfl rfl ?_
  refine T_iconst (v := 0) (dk dtk_L_thread 1 rfl) (by decide +kernel) ?_
  refine T_aload_n 0 (dk dtk_L_thread 2 rfl) rfl rfl ?_
  refine T_iload_n 1 (dk dtk_L_thread 3 rfl) rfl rfl ?_
  refine T_iload_n 2 (dk dtk_L_thread 4 rfl) rfl rfl ?_
  have hend : ∀ (r : Int32) (y : gd) (q1 : kP), kU q1 → kst q q1 → HOI y q1 → (fun _ y q1 => KRd x y) 0 y q1 → T (wE (kE G)) (d + 30) zw_thread 8 [(0, vr 0), (1, vi l1), (2, vi l2), (3, vr 299)] [vi r, vi 0, vr 299] y (fo (kf q1)) (wq q (fun _ y q1 => KRd x y)) := by
    intro r y q1 hu1 hk1 hH1 hp1
    have n91 : 299 ∈ (fo (kf q1)).2.1 := List.mem_append_right _ (List.mem_singleton.mpr rfl)
    refine T_i2l (dk dtk_L_thread 6 rfl) ?_
    refine T_last 299 1 (dk dtk_L_thread 7 rfl) wE_9 n91 (vin0 (by omega)) ?_
    refine T_goto 21 (dk dtk_L_thread 8 rfl) (by decide) ?_
    refine T_iconst (v := 0) (dk dtk_L_thread 15 rfl) (by decide +kernel) ?_
    exact T_iret (dk dtk_L_thread 16 rfl) rfl rfl ⟨0, q1, rfl, rfl, hu1, hk1, HOI_1 rfl hu1 hH1, hp1⟩
  have hxiSE : gtry (kE G) (d + 30) zw_thread 5 [(0, vr 0), (1, vi l1), (2, vi l2), (3, vr 299)] [vi 0, vr 299] (wq q (fun _ y q1 => KRd x y)) x (.inr iSE) x (gth (kf q)) := by
    refine ⟨⟨n9, r9⟩, ⟨0, 10, 13, 27⟩, 4, 2, wct_thread_iSE, Or.inr ⟨rfl, (dk dtk_L_thread 9 rfl)⟩, by decide, rfl, ?_⟩
    refine T_iconst (v := 1) (dk dtk_L_thread 10 rfl) (by decide +kernel) ?_
    exact T_iret (dk dtk_L_thread 11 rfl) rfl rfl ⟨1, kTh q, rfl, rfl, kTh_U hu, kst_th q, HOI_1 rfl (kTh_U hu) (HOI_th hH), KR_rf⟩
  have hxiOE : gtry (kE G) (d + 30) zw_thread 5 [(0, vr 0), (1, vi l1), (2, vi l2), (3, vr 299)] [vi 0, vr 299] (wq q (fun _ y q1 => KRd x y)) x (.inr iOE) x (gth (kf q)) := by
    refine ⟨⟨n9, r9⟩, ⟨0, 10, 17, 19⟩, 4, 2, wct_thread_iOE, Or.inr ⟨rfl, (dk dtk_L_thread 12 rfl)⟩, by decide, rfl, ?_⟩
    refine T_iconst (v := 2) (dk dtk_L_thread 13 rfl) (by decide +kernel) ?_
    exact T_iret (dk dtk_L_thread 14 rfl) rfl rfl ⟨2, kTh q, rfl, rfl, kTh_U hu, kst_th q, HOI_1 rfl (kTh_U hu) (HOI_th hH), KR_rf⟩
  refine T_tryF (E := kE G) [vi l1, vi l2] [vi 0, vr 299] (d + 7) rfl (dk dtk_L_thread 5 rfl) kcv_L_58 rfl kk_0 rfl (kl_0 hu.1) (by omega) (Nat.le_of_ble_eq_true rfl) (Nat.le_of_ble_eq_true rfl) (gok_i (av_c (gkr m0) (av_c rfl (av_c rfl (av_c (gkr m9) av_n)))) (as_c rfl (as_c (gkr m9) as_n))) rfl n9 ?_
  refine T_mono (kr_thread (d := d) hu.1 hH l1 l2 (P := fun v9 y9 => ∃ r, v9 = some (vi r) ∧ HOI y9 q ∧ KRd x y9) (X := fun c9 y9 => (c9 = iSE ∨ c9 = iOE) ∧ y9 = x) ⟨Or.inl rfl, rfl⟩ ⟨Or.inr rfl, rfl⟩ (fun r y h1 h2 => ⟨r, rfl, h1, h2⟩)) (fun o9 x9 f9 w9 => ?_)
  rcases w9 with ⟨rfl, v, rfl, r, rfl, h1, h2⟩ | ⟨rfl, c9, rfl, hc, rfl⟩
  · exact ⟨⟨n9, r9⟩, ⟨r, rfl⟩, hend r (xo x x9) q hu (kst_rf q) (HOI_1 rfl hu h1) h2⟩
  · rcases hc with rfl | rfl
    · exact hxiSE
    · exact hxiOE
abbrev zw_local : gy := (yL_local, cL_local, 5, (some .int), [(0, 10, 13, 27), (0, 10, 17, 19)])
set_option maxRecDepth 100000 in
theorem dtk_L_local : dck cL_local [(0, .aload_n 3, 1), (1, .iconst 0, 1), (2, .aload_n 0, 1), (3, .iload_n 1, 1), (4, .iload_n 2, 1), (5, .invokevirtual 61, 3), (8, .i2l, 1), (9, .lastore, 1), (10, .goto 11, 3), (13, .astore 4, 2), (15, .iconst 1, 1), (16, .ireturn, 1), (17, .astore 4, 2), (19, .iconst 2, 1), (20, .ireturn, 1), (21, .iconst 0, 1), (22, .ireturn, 1)] = true := by decide +kernel
set_option maxRecDepth 100000 in
theorem wca_local : tables_1_6[223]? = some (Cond.codeWith yL_local cL_local 5 (some .int) [(0, 10, 13, 27), (0, 10, 17, 19)]) := rfl
theorem wcw_local : Cond.codeWith yL_local cL_local 5 (some .int) [(0, 10, 13, 27), (0, 10, 17, 19)] ∈ W0 := W0_in (tp_6 (List.mem_of_getElem? wca_local)) rfl
theorem kcv_L_61 : gMv RL 61 zk_X11_local 2 := ⟨⟨W0_in (tp_6 (List.mem_of_getElem? (i := 224) (by decide +kernel))) rfl, W0_in (tp_6 (List.mem_of_getElem? (i := 225) (by decide +kernel))) rfl, W0_in (tp_6 (List.mem_of_getElem? (i := 226) (by decide +kernel))) rfl, W0_in (tp_1 (List.mem_of_getElem? (i := 1) (by decide +kernel))) rfl, kcw_X11_local⟩, ⟨by decide, by decide, by decide +kernel⟩, by decide, by decide⟩
theorem wct_local_iSE : gCat zw_local 5 iSE ⟨0, 10, 13, 27⟩ := ⟨⟨[], [⟨0, 10, 17, 19⟩], rfl, fun z hz => nomatch hz⟩, rfl, by decide, (W0_in (tp_5 (List.mem_of_getElem? (i := 107) (by decide +kernel))) rfl), by decide⟩
theorem wct_local_iOE : gCat zw_local 5 iOE ⟨0, 10, 17, 19⟩ := ⟨⟨[⟨0, 10, 13, 27⟩], [], rfl, fun z hz => by
  cases hz with
  | head => exact ⟨by decide, iSE, (W0_in (tp_5 (List.mem_of_getElem? (i := 107) (by decide +kernel))) rfl), by decide⟩
  | tail _ hz => cases hz⟩, rfl, by decide, (W0_in (tp_5 (List.mem_of_getElem? (i := 73) (by decide +kernel))) rfl), by decide⟩
set_option maxRecDepth 100000 in
set_option maxHeartbeats 4000000 in
theorem kw_local {G : kG} {q : kP} {d : Nat} {x : gd} {C : gCo} {wr n : Nat} {lm : Nat → Nat} {w : gd} (hj : JH C wr n lm x w) (hu : kU q) (hH : HOI x q) (l1 : Int32) (l2 : Int32) : T (wE (kE G)) (d + 30) zw_local 0 [(0, vr 0), (1, vi l1), (2, vi l2), (3, vr 299)] [] x (fo (kf q)) (wq q (fun r9 y q1 => ansK (e1Ch x) (e2Lo C wr n (c96 w) x l1 l2) (sLo C wr n (c96 w) x l1 l2) x r9 y)) := by
  have m0 : 0 ∈ (fo (kf q)).2.1 := List.mem_append_left _ (kl_0 hu.1)
  have m9 : 299 ∈ (fo (kf q)).2.1 := List.mem_append_right _ (List.mem_singleton.mpr rfl)
  have n9 := n299 hu
  have r9 : NR (kf q) 299 := kU_NR hu n9
  refine T_aload_n 3 (dk dtk_L_local 0 rfl) rfl rfl ?_
  refine T_iconst (v := 0) (dk dtk_L_local 1 rfl) (by decide +kernel) ?_
  refine T_aload_n 0 (dk dtk_L_local 2 rfl) rfl rfl ?_
  refine T_iload_n 1 (dk dtk_L_local 3 rfl) rfl rfl ?_
  refine T_iload_n 2 (dk dtk_L_local 4 rfl) rfl rfl ?_
  have hend : ∀ (r : Int32) (y : gd) (q1 : kP), kU q1 → kst q q1 → HOI y q1 → ¬ (e1Ch x) ∧ ¬ (e2Lo C wr n (c96 w) x l1 l2) ∧ sLo C wr n (c96 w) x l1 l2 r y → T (wE (kE G)) (d + 30) zw_local 8 [(0, vr 0), (1, vi l1), (2, vi l2), (3, vr 299)] [vi r, vi 0, vr 299] y (fo (kf q1)) (wq q (fun r9 y q1 => ansK (e1Ch x) (e2Lo C wr n (c96 w) x l1 l2) (sLo C wr n (c96 w) x l1 l2) x r9 y)) := by
    intro r y q1 hu1 hk1 hH1 hp1
    have n91 : 299 ∈ (fo (kf q1)).2.1 := List.mem_append_right _ (List.mem_singleton.mpr rfl)
    refine T_i2l (dk dtk_L_local 6 rfl) ?_
    refine T_last 299 1 (dk dtk_L_local 7 rfl) wE_9 n91 (vin0 (by omega)) ?_
    refine T_goto 21 (dk dtk_L_local 8 rfl) (by decide) ?_
    refine T_iconst (v := 0) (dk dtk_L_local 15 rfl) (by decide +kernel) ?_
    exact T_iret (dk dtk_L_local 16 rfl) rfl rfl ⟨0, q1, rfl, rfl, hu1, hk1, HOI_1 rfl hu1 hH1, Or.inr (Or.inr ⟨hp1.1, hp1.2.1, rfl, r, by rw [sL_c]; exact if_pos rfl, hp1.2.2⟩)⟩
  have hxiSE : e1Ch x → gtry (kE G) (d + 30) zw_local 5 [(0, vr 0), (1, vi l1), (2, vi l2), (3, vr 299)] [vi 0, vr 299] (wq q (fun r9 y q1 => ansK (e1Ch x) (e2Lo C wr n (c96 w) x l1 l2) (sLo C wr n (c96 w) x l1 l2) x r9 y)) x (.inr iSE) x (gth (kf q)) := by
    intro hno
    refine ⟨⟨n9, r9⟩, ⟨0, 10, 13, 27⟩, 4, 2, wct_local_iSE, Or.inr ⟨rfl, (dk dtk_L_local 9 rfl)⟩, by decide, rfl, ?_⟩
    refine T_iconst (v := 1) (dk dtk_L_local 10 rfl) (by decide +kernel) ?_
    exact T_iret (dk dtk_L_local 11 rfl) rfl rfl ⟨1, kTh q, rfl, rfl, kTh_U hu, kst_th q, HOI_1 rfl (kTh_U hu) (HOI_th hH), Or.inl ⟨hno, rfl, KR_rf⟩⟩
  have hxiOE : e2Lo C wr n (c96 w) x l1 l2 → gtry (kE G) (d + 30) zw_local 5 [(0, vr 0), (1, vi l1), (2, vi l2), (3, vr 299)] [vi 0, vr 299] (wq q (fun r9 y q1 => ansK (e1Ch x) (e2Lo C wr n (c96 w) x l1 l2) (sLo C wr n (c96 w) x l1 l2) x r9 y)) x (.inr iOE) x (gth (kf q)) := by
    intro hno
    refine ⟨⟨n9, r9⟩, ⟨0, 10, 17, 19⟩, 4, 2, wct_local_iOE, Or.inr ⟨rfl, (dk dtk_L_local 12 rfl)⟩, by decide, rfl, ?_⟩
    refine T_iconst (v := 2) (dk dtk_L_local 13 rfl) (by decide +kernel) ?_
    exact T_iret (dk dtk_L_local 14 rfl) rfl rfl ⟨2, kTh q, rfl, rfl, kTh_U hu, kst_th q, HOI_1 rfl (kTh_U hu) (HOI_th hH), Or.inr (Or.inl ⟨hno, rfl, KR_rf⟩)⟩
  refine T_tryF (E := kE G) [vi l1, vi l2] [vi 0, vr 299] (d + 7) rfl (dk dtk_L_local 5 rfl) kcv_L_61 rfl kk_0 rfl (kl_0 hu.1) (by omega) (Nat.le_of_ble_eq_true rfl) (Nat.le_of_ble_eq_true rfl) (gok_i (av_c (gkr m0) (av_c rfl (av_c rfl (av_c (gkr m9) av_n)))) (as_c rfl (as_c (gkr m9) as_n))) rfl n9 ?_
  refine T_mono (ka_local (d := d) hj hu.1 hH l1 l2 (P := fun v9 y9 => ∃ r, v9 = some (vi r) ∧ HOI y9 q ∧ ¬ (e1Ch x) ∧ ¬ (e2Lo C wr n (c96 w) x l1 l2) ∧ sLo C wr n (c96 w) x l1 l2 r y9) (X := fun c9 y9 => ((c9 = iSE ∧ e1Ch x) ∨ (c9 = iOE ∧ e2Lo C wr n (c96 w) x l1 l2)) ∧ y9 = x) (fun h9 => ⟨Or.inl ⟨rfl, h9⟩, rfl⟩) (fun h9 => ⟨Or.inr ⟨rfl, h9⟩, rfl⟩) (fun h8 h9 r y h1 h2 => ⟨r, rfl, h1, h8, h9, h2⟩)) (fun o9 x9 f9 w9 => ?_)
  rcases w9 with ⟨rfl, v, rfl, r, rfl, h1, h2⟩ | ⟨rfl, c9, rfl, hc, rfl⟩
  · exact ⟨⟨n9, r9⟩, ⟨r, rfl⟩, hend r (xo x x9) q hu (kst_rf q) (HOI_1 rfl hu h1) h2⟩
  · rcases hc with ⟨rfl, hno⟩ | ⟨rfl, hno⟩
    · exact hxiSE hno
    · exact hxiOE hno
abbrev zw_act : gy := (yL_act, cL_act, 5, (some .int), [(0, 10, 13, 27), (0, 10, 17, 19)])
set_option maxRecDepth 100000 in
theorem dtk_L_act : dck cL_act [(0, .aload_n 3, 1), (1, .iconst 0, 1), (2, .aload_n 0, 1), (3, .iload_n 1, 1), (4, .iload_n 2, 1), (5, .invokevirtual 64, 3), (8, .i2l, 1), (9, .lastore, 1), (10, .goto 11, 3), (13, .astore 4, 2), (15, .iconst 1, 1), (16, .ireturn, 1), (17, .astore 4, 2), (19, .iconst 2, 1), (20, .ireturn, 1), (21, .iconst 0, 1), (22, .ireturn, 1)] = true := by decide +kernel
set_option maxRecDepth 100000 in
theorem wca_act : tables_1_6[230]? = some (Cond.codeWith yL_act cL_act 5 (some .int) [(0, 10, 13, 27), (0, 10, 17, 19)]) := rfl
theorem wcw_act : Cond.codeWith yL_act cL_act 5 (some .int) [(0, 10, 13, 27), (0, 10, 17, 19)] ∈ W0 := W0_in (tp_6 (List.mem_of_getElem? wca_act)) rfl
theorem kcv_L_64 : gMv RL 64 zk_X11_act 2 := ⟨⟨W0_in (tp_6 (List.mem_of_getElem? (i := 231) (by decide +kernel))) rfl, W0_in (tp_6 (List.mem_of_getElem? (i := 232) (by decide +kernel))) rfl, W0_in (tp_6 (List.mem_of_getElem? (i := 233) (by decide +kernel))) rfl, W0_in (tp_1 (List.mem_of_getElem? (i := 1) (by decide +kernel))) rfl, kcw_X11_act⟩, ⟨by decide, by decide, by decide +kernel⟩, by decide, by decide⟩
theorem wct_act_iSE : gCat zw_act 5 iSE ⟨0, 10, 13, 27⟩ := ⟨⟨[], [⟨0, 10, 17, 19⟩], rfl, fun z hz => nomatch hz⟩, rfl, by decide, (W0_in (tp_5 (List.mem_of_getElem? (i := 107) (by decide +kernel))) rfl), by decide⟩
theorem wct_act_iOE : gCat zw_act 5 iOE ⟨0, 10, 17, 19⟩ := ⟨⟨[⟨0, 10, 13, 27⟩], [], rfl, fun z hz => by
  cases hz with
  | head => exact ⟨by decide, iSE, (W0_in (tp_5 (List.mem_of_getElem? (i := 107) (by decide +kernel))) rfl), by decide⟩
  | tail _ hz => cases hz⟩, rfl, by decide, (W0_in (tp_5 (List.mem_of_getElem? (i := 73) (by decide +kernel))) rfl), by decide⟩
set_option maxRecDepth 100000 in
set_option maxHeartbeats 4000000 in
theorem kw_act {G : kG} {q : kP} {d : Nat} {x : gd} (hu : kU q) (hH : HOI x q) (l1 : Int32) (l2 : Int32) : T (wE (kE G)) (d + 30) zw_act 0 [(0, vr 0), (1, vi l1), (2, vi l2), (3, vr 299)] [] x (fo (kf q)) (wq q (fun _ y q1 => KRd x y)) := by
  have m0 : 0 ∈ (fo (kf q)).2.1 := List.mem_append_left _ (kl_0 hu.1)
  have m9 : 299 ∈ (fo (kf q)).2.1 := List.mem_append_right _ (List.mem_singleton.mpr rfl)
  have n9 := n299 hu
  have r9 : NR (kf q) 299 := kU_NR hu n9
  refine T_aload_n 3 (dk dtk_L_act 0 rfl) rfl rfl ?_
  refine T_iconst (v := 0) (dk dtk_L_act 1 rfl) (by decide +kernel) ?_
  refine T_aload_n 0 (dk dtk_L_act 2 rfl) rfl rfl ?_
  refine T_iload_n 1 (dk dtk_L_act 3 rfl) rfl rfl ?_
  refine T_iload_n 2 (dk dtk_L_act 4 rfl) rfl rfl ?_
  have hend : ∀ (r : Int32) (y : gd) (q1 : kP), kU q1 → kst q q1 → HOI y q1 → (fun _ y q1 => KRd x y) 0 y q1 → T (wE (kE G)) (d + 30) zw_act 8 [(0, vr 0), (1, vi l1), (2, vi l2), (3, vr 299)] [vi r, vi 0, vr 299] y (fo (kf q1)) (wq q (fun _ y q1 => KRd x y)) := by
    intro r y q1 hu1 hk1 hH1 hp1
    have n91 : 299 ∈ (fo (kf q1)).2.1 := List.mem_append_right _ (List.mem_singleton.mpr rfl)
    refine T_i2l (dk dtk_L_act 6 rfl) ?_
    refine T_last 299 1 (dk dtk_L_act 7 rfl) wE_9 n91 (vin0 (by omega)) ?_
    refine T_goto 21 (dk dtk_L_act 8 rfl) (by decide) ?_
    refine T_iconst (v := 0) (dk dtk_L_act 15 rfl) (by decide +kernel) ?_
    exact T_iret (dk dtk_L_act 16 rfl) rfl rfl ⟨0, q1, rfl, rfl, hu1, hk1, HOI_1 rfl hu1 hH1, hp1⟩
  have hxiSE : gtry (kE G) (d + 30) zw_act 5 [(0, vr 0), (1, vi l1), (2, vi l2), (3, vr 299)] [vi 0, vr 299] (wq q (fun _ y q1 => KRd x y)) x (.inr iSE) x (gth (kf q)) := by
    refine ⟨⟨n9, r9⟩, ⟨0, 10, 13, 27⟩, 4, 2, wct_act_iSE, Or.inr ⟨rfl, (dk dtk_L_act 9 rfl)⟩, by decide, rfl, ?_⟩
    refine T_iconst (v := 1) (dk dtk_L_act 10 rfl) (by decide +kernel) ?_
    exact T_iret (dk dtk_L_act 11 rfl) rfl rfl ⟨1, kTh q, rfl, rfl, kTh_U hu, kst_th q, HOI_1 rfl (kTh_U hu) (HOI_th hH), KR_rf⟩
  have hxiOE : gtry (kE G) (d + 30) zw_act 5 [(0, vr 0), (1, vi l1), (2, vi l2), (3, vr 299)] [vi 0, vr 299] (wq q (fun _ y q1 => KRd x y)) x (.inr iOE) x (gth (kf q)) := by
    refine ⟨⟨n9, r9⟩, ⟨0, 10, 17, 19⟩, 4, 2, wct_act_iOE, Or.inr ⟨rfl, (dk dtk_L_act 12 rfl)⟩, by decide, rfl, ?_⟩
    refine T_iconst (v := 2) (dk dtk_L_act 13 rfl) (by decide +kernel) ?_
    exact T_iret (dk dtk_L_act 14 rfl) rfl rfl ⟨2, kTh q, rfl, rfl, kTh_U hu, kst_th q, HOI_1 rfl (kTh_U hu) (HOI_th hH), KR_rf⟩
  refine T_tryF (E := kE G) [vi l1, vi l2] [vi 0, vr 299] (d + 7) rfl (dk dtk_L_act 5 rfl) kcv_L_64 rfl kk_0 rfl (kl_0 hu.1) (by omega) (Nat.le_of_ble_eq_true rfl) (Nat.le_of_ble_eq_true rfl) (gok_i (av_c (gkr m0) (av_c rfl (av_c rfl (av_c (gkr m9) av_n)))) (as_c rfl (as_c (gkr m9) as_n))) rfl n9 ?_
  refine T_mono (kr_act (d := d) hu.1 hH l1 l2 (P := fun v9 y9 => ∃ r, v9 = some (vi r) ∧ HOI y9 q ∧ KRd x y9) (X := fun c9 y9 => (c9 = iSE ∨ c9 = iOE) ∧ y9 = x) ⟨Or.inl rfl, rfl⟩ ⟨Or.inr rfl, rfl⟩ (fun r y h1 h2 => ⟨r, rfl, h1, h2⟩)) (fun o9 x9 f9 w9 => ?_)
  rcases w9 with ⟨rfl, v, rfl, r, rfl, h1, h2⟩ | ⟨rfl, c9, rfl, hc, rfl⟩
  · exact ⟨⟨n9, r9⟩, ⟨r, rfl⟩, hend r (xo x x9) q hu (kst_rf q) (HOI_1 rfl hu h1) h2⟩
  · rcases hc with rfl | rfl
    · exact hxiSE
    · exact hxiOE
abbrev zw_before : gy := (yL_before, cL_before, 5, (some .int), [(0, 17, 20, 27), (0, 17, 24, 19)])
set_option maxRecDepth 100000 in
theorem dtk_L_before : dck cL_before [(0, .aload_n 3, 1), (1, .iconst 0, 1), (2, .aload_n 0, 1), (3, .iload_n 1, 1), (4, .iload_n 2, 1), (5, .invokevirtual 67, 3), (8, .ifCond .eq 7, 3), (11, .lconst 1, 1), (12, .goto 4, 3), (15, .lconst 0, 1), (16, .lastore, 1), (17, .goto 11, 3), (20, .astore 4, 2), (22, .iconst 1, 1), (23, .ireturn, 1), (24, .astore 4, 2), (26, .iconst 2, 1), (27, .ireturn, 1), (28, .iconst 0, 1), (29, .ireturn, 1)] = true := by decide +kernel
set_option maxRecDepth 100000 in
theorem wca_before : tables_1_6[237]? = some (Cond.codeWith yL_before cL_before 5 (some .int) [(0, 17, 20, 27), (0, 17, 24, 19)]) := rfl
theorem wcw_before : Cond.codeWith yL_before cL_before 5 (some .int) [(0, 17, 20, 27), (0, 17, 24, 19)] ∈ W0 := W0_in (tp_6 (List.mem_of_getElem? wca_before)) rfl
theorem kcv_L_67 : gMv RL 67 zk_X11_before 2 := ⟨⟨W0_in (tp_6 (List.mem_of_getElem? (i := 238) (by decide +kernel))) rfl, W0_in (tp_6 (List.mem_of_getElem? (i := 239) (by decide +kernel))) rfl, W0_in (tp_7 (List.mem_of_getElem? (i := 0) (by decide +kernel))) rfl, W0_in (tp_1 (List.mem_of_getElem? (i := 1) (by decide +kernel))) rfl, kcw_X11_before⟩, ⟨by decide, by decide, by decide +kernel⟩, by decide, by decide⟩
theorem wct_before_iSE : gCat zw_before 5 iSE ⟨0, 17, 20, 27⟩ := ⟨⟨[], [⟨0, 17, 24, 19⟩], rfl, fun z hz => nomatch hz⟩, rfl, by decide, (W0_in (tp_5 (List.mem_of_getElem? (i := 107) (by decide +kernel))) rfl), by decide⟩
theorem wct_before_iOE : gCat zw_before 5 iOE ⟨0, 17, 24, 19⟩ := ⟨⟨[⟨0, 17, 20, 27⟩], [], rfl, fun z hz => by
  cases hz with
  | head => exact ⟨by decide, iSE, (W0_in (tp_5 (List.mem_of_getElem? (i := 107) (by decide +kernel))) rfl), by decide⟩
  | tail _ hz => cases hz⟩, rfl, by decide, (W0_in (tp_5 (List.mem_of_getElem? (i := 73) (by decide +kernel))) rfl), by decide⟩
set_option maxRecDepth 100000 in
set_option maxHeartbeats 4000000 in
theorem kw_before {G : kG} {q : kP} {d : Nat} {x : gd} (hu : kU q) (hH : HOI x q) (l1 : Int32) (l2 : Int32) : T (wE (kE G)) (d + 30) zw_before 0 [(0, vr 0), (1, vi l1), (2, vi l2), (3, vr 299)] [] x (fo (kf q)) (wq q (fun _ y q1 => KRd x y)) := by
  have m0 : 0 ∈ (fo (kf q)).2.1 := List.mem_append_left _ (kl_0 hu.1)
  have m9 : 299 ∈ (fo (kf q)).2.1 := List.mem_append_right _ (List.mem_singleton.mpr rfl)
  have n9 := n299 hu
  have r9 : NR (kf q) 299 := kU_NR hu n9
  refine T_aload_n 3 (dk dtk_L_before 0 rfl) rfl rfl ?_
  refine T_iconst (v := 0) (dk dtk_L_before 1 rfl) (by decide +kernel) ?_
  refine T_aload_n 0 (dk dtk_L_before 2 rfl) rfl rfl ?_
  refine T_iload_n 1 (dk dtk_L_before 3 rfl) rfl rfl ?_
  refine T_iload_n 2 (dk dtk_L_before 4 rfl) rfl rfl ?_
  have hend : ∀ (r : Int32) (y : gd) (q1 : kP), kU q1 → kst q q1 → HOI y q1 → (fun _ y q1 => KRd x y) 0 y q1 → T (wE (kE G)) (d + 30) zw_before 8 [(0, vr 0), (1, vi l1), (2, vi l2), (3, vr 299)] [vi r, vi 0, vr 299] y (fo (kf q1)) (wq q (fun _ y q1 => KRd x y)) := by
    intro r y q1 hu1 hk1 hH1 hp1
    have n91 : 299 ∈ (fo (kf q1)).2.1 := List.mem_append_right _ (List.mem_singleton.mpr rfl)
    refine T_if_eq 15 (dk dtk_L_before 6 rfl) (by decide) (fun b0 => ?_) (fun b1 => ?_)
    · refine T_lconst (v := 0) (dk dtk_L_before 9 rfl) (by decide +kernel) ?_
      refine T_last 299 1 (dk dtk_L_before 10 rfl) wE_9 n91 (vin0 (by omega)) ?_
      refine T_goto 28 (dk dtk_L_before 11 rfl) (by decide) ?_
      refine T_iconst (v := 0) (dk dtk_L_before 18 rfl) (by decide +kernel) ?_
      exact T_iret (dk dtk_L_before 19 rfl) rfl rfl ⟨0, q1, rfl, rfl, hu1, hk1, HOI_1 rfl hu1 hH1, hp1⟩
    · refine T_lconst (v := 1) (dk dtk_L_before 7 rfl) (by decide +kernel) ?_
      refine T_goto 16 (dk dtk_L_before 8 rfl) (by decide) ?_
      refine T_last 299 1 (dk dtk_L_before 10 rfl) wE_9 n91 (vin0 (by omega)) ?_
      refine T_goto 28 (dk dtk_L_before 11 rfl) (by decide) ?_
      refine T_iconst (v := 0) (dk dtk_L_before 18 rfl) (by decide +kernel) ?_
      exact T_iret (dk dtk_L_before 19 rfl) rfl rfl ⟨0, q1, rfl, rfl, hu1, hk1, HOI_1 rfl hu1 hH1, hp1⟩
  have hxiSE : gtry (kE G) (d + 30) zw_before 5 [(0, vr 0), (1, vi l1), (2, vi l2), (3, vr 299)] [vi 0, vr 299] (wq q (fun _ y q1 => KRd x y)) x (.inr iSE) x (gth (kf q)) := by
    refine ⟨⟨n9, r9⟩, ⟨0, 17, 20, 27⟩, 4, 2, wct_before_iSE, Or.inr ⟨rfl, (dk dtk_L_before 12 rfl)⟩, by decide, rfl, ?_⟩
    refine T_iconst (v := 1) (dk dtk_L_before 13 rfl) (by decide +kernel) ?_
    exact T_iret (dk dtk_L_before 14 rfl) rfl rfl ⟨1, kTh q, rfl, rfl, kTh_U hu, kst_th q, HOI_1 rfl (kTh_U hu) (HOI_th hH), KR_rf⟩
  have hxiOE : gtry (kE G) (d + 30) zw_before 5 [(0, vr 0), (1, vi l1), (2, vi l2), (3, vr 299)] [vi 0, vr 299] (wq q (fun _ y q1 => KRd x y)) x (.inr iOE) x (gth (kf q)) := by
    refine ⟨⟨n9, r9⟩, ⟨0, 17, 24, 19⟩, 4, 2, wct_before_iOE, Or.inr ⟨rfl, (dk dtk_L_before 15 rfl)⟩, by decide, rfl, ?_⟩
    refine T_iconst (v := 2) (dk dtk_L_before 16 rfl) (by decide +kernel) ?_
    exact T_iret (dk dtk_L_before 17 rfl) rfl rfl ⟨2, kTh q, rfl, rfl, kTh_U hu, kst_th q, HOI_1 rfl (kTh_U hu) (HOI_th hH), KR_rf⟩
  refine T_tryF (E := kE G) [vi l1, vi l2] [vi 0, vr 299] (d + 7) rfl (dk dtk_L_before 5 rfl) kcv_L_67 rfl kk_0 rfl (kl_0 hu.1) (by omega) (Nat.le_of_ble_eq_true rfl) (Nat.le_of_ble_eq_true rfl) (gok_i (av_c (gkr m0) (av_c rfl (av_c rfl (av_c (gkr m9) av_n)))) (as_c rfl (as_c (gkr m9) as_n))) rfl n9 ?_
  refine T_mono (kr_before (d := d) hu.1 hH l1 l2 (P := fun v9 y9 => ∃ r, v9 = some (vi r) ∧ HOI y9 q ∧ KRd x y9) (X := fun c9 y9 => (c9 = iSE ∨ c9 = iOE) ∧ y9 = x) ⟨Or.inl rfl, rfl⟩ ⟨Or.inr rfl, rfl⟩ (fun r y _ h1 h2 => ⟨r, rfl, h1, h2⟩)) (fun o9 x9 f9 w9 => ?_)
  rcases w9 with ⟨rfl, v, rfl, r, rfl, h1, h2⟩ | ⟨rfl, c9, rfl, hc, rfl⟩
  · exact ⟨⟨n9, r9⟩, ⟨r, rfl⟩, hend r (xo x x9) q hu (kst_rf q) (HOI_1 rfl hu h1) h2⟩
  · rcases hc with rfl | rfl
    · exact hxiSE
    · exact hxiOE
abbrev zw_race : gy := (yL_race, cL_race, 5, (some .int), [(0, 10, 13, 27), (0, 10, 17, 19)])
set_option maxRecDepth 100000 in
theorem dtk_L_race : dck cL_race [(0, .aload_n 3, 1), (1, .iconst 0, 1), (2, .aload_n 0, 1), (3, .iload_n 1, 1), (4, .iload_n 2, 1), (5, .invokevirtual 71, 3), (8, .i2l, 1), (9, .lastore, 1), (10, .goto 11, 3), (13, .astore 4, 2), (15, .iconst 1, 1), (16, .ireturn, 1), (17, .astore 4, 2), (19, .iconst 2, 1), (20, .ireturn, 1), (21, .iconst 0, 1), (22, .ireturn, 1)] = true := by decide +kernel
set_option maxRecDepth 100000 in
theorem wca_race : tables_1_7[5]? = some (Cond.codeWith yL_race cL_race 5 (some .int) [(0, 10, 13, 27), (0, 10, 17, 19)]) := rfl
theorem wcw_race : Cond.codeWith yL_race cL_race 5 (some .int) [(0, 10, 13, 27), (0, 10, 17, 19)] ∈ W0 := W0_in (tp_7 (List.mem_of_getElem? wca_race)) rfl
theorem kcv_L_71 : gMv RL 71 zk_X11_race 2 := ⟨⟨W0_in (tp_7 (List.mem_of_getElem? (i := 6) (by decide +kernel))) rfl, W0_in (tp_7 (List.mem_of_getElem? (i := 7) (by decide +kernel))) rfl, W0_in (tp_7 (List.mem_of_getElem? (i := 8) (by decide +kernel))) rfl, W0_in (tp_1 (List.mem_of_getElem? (i := 1) (by decide +kernel))) rfl, kcw_X11_race⟩, ⟨by decide, by decide, by decide +kernel⟩, by decide, by decide⟩
theorem wct_race_iSE : gCat zw_race 5 iSE ⟨0, 10, 13, 27⟩ := ⟨⟨[], [⟨0, 10, 17, 19⟩], rfl, fun z hz => nomatch hz⟩, rfl, by decide, (W0_in (tp_5 (List.mem_of_getElem? (i := 107) (by decide +kernel))) rfl), by decide⟩
theorem wct_race_iOE : gCat zw_race 5 iOE ⟨0, 10, 17, 19⟩ := ⟨⟨[⟨0, 10, 13, 27⟩], [], rfl, fun z hz => by
  cases hz with
  | head => exact ⟨by decide, iSE, (W0_in (tp_5 (List.mem_of_getElem? (i := 107) (by decide +kernel))) rfl), by decide⟩
  | tail _ hz => cases hz⟩, rfl, by decide, (W0_in (tp_5 (List.mem_of_getElem? (i := 73) (by decide +kernel))) rfl), by decide⟩
set_option maxRecDepth 100000 in
set_option maxHeartbeats 4000000 in
theorem kw_race {G : kG} {q : kP} {d : Nat} {x : gd} (hu : kU q) (hH : HOI x q) (l1 : Int32) (l2 : Int32) : T (wE (kE G)) (d + 30) zw_race 0 [(0, vr 0), (1, vi l1), (2, vi l2), (3, vr 299)] [] x (fo (kf q)) (wq q (fun _ y q1 => KRd x y)) := by
  have m0 : 0 ∈ (fo (kf q)).2.1 := List.mem_append_left _ (kl_0 hu.1)
  have m9 : 299 ∈ (fo (kf q)).2.1 := List.mem_append_right _ (List.mem_singleton.mpr rfl)
  have n9 := n299 hu
  have r9 : NR (kf q) 299 := kU_NR hu n9
  refine T_aload_n 3 (dk dtk_L_race 0 rfl) rfl rfl ?_
  refine T_iconst (v := 0) (dk dtk_L_race 1 rfl) (by decide +kernel) ?_
  refine T_aload_n 0 (dk dtk_L_race 2 rfl) rfl rfl ?_
  refine T_iload_n 1 (dk dtk_L_race 3 rfl) rfl rfl ?_
  refine T_iload_n 2 (dk dtk_L_race 4 rfl) rfl rfl ?_
  have hend : ∀ (r : Int32) (y : gd) (q1 : kP), kU q1 → kst q q1 → HOI y q1 → (fun _ y q1 => KRd x y) 0 y q1 → T (wE (kE G)) (d + 30) zw_race 8 [(0, vr 0), (1, vi l1), (2, vi l2), (3, vr 299)] [vi r, vi 0, vr 299] y (fo (kf q1)) (wq q (fun _ y q1 => KRd x y)) := by
    intro r y q1 hu1 hk1 hH1 hp1
    have n91 : 299 ∈ (fo (kf q1)).2.1 := List.mem_append_right _ (List.mem_singleton.mpr rfl)
    refine T_i2l (dk dtk_L_race 6 rfl) ?_
    refine T_last 299 1 (dk dtk_L_race 7 rfl) wE_9 n91 (vin0 (by omega)) ?_
    refine T_goto 21 (dk dtk_L_race 8 rfl) (by decide) ?_
    refine T_iconst (v := 0) (dk dtk_L_race 15 rfl) (by decide +kernel) ?_
    exact T_iret (dk dtk_L_race 16 rfl) rfl rfl ⟨0, q1, rfl, rfl, hu1, hk1, HOI_1 rfl hu1 hH1, hp1⟩
  have hxiSE : gtry (kE G) (d + 30) zw_race 5 [(0, vr 0), (1, vi l1), (2, vi l2), (3, vr 299)] [vi 0, vr 299] (wq q (fun _ y q1 => KRd x y)) x (.inr iSE) x (gth (kf q)) := by
    refine ⟨⟨n9, r9⟩, ⟨0, 10, 13, 27⟩, 4, 2, wct_race_iSE, Or.inr ⟨rfl, (dk dtk_L_race 9 rfl)⟩, by decide, rfl, ?_⟩
    refine T_iconst (v := 1) (dk dtk_L_race 10 rfl) (by decide +kernel) ?_
    exact T_iret (dk dtk_L_race 11 rfl) rfl rfl ⟨1, kTh q, rfl, rfl, kTh_U hu, kst_th q, HOI_1 rfl (kTh_U hu) (HOI_th hH), KR_rf⟩
  have hxiOE : gtry (kE G) (d + 30) zw_race 5 [(0, vr 0), (1, vi l1), (2, vi l2), (3, vr 299)] [vi 0, vr 299] (wq q (fun _ y q1 => KRd x y)) x (.inr iOE) x (gth (kf q)) := by
    refine ⟨⟨n9, r9⟩, ⟨0, 10, 17, 19⟩, 4, 2, wct_race_iOE, Or.inr ⟨rfl, (dk dtk_L_race 12 rfl)⟩, by decide, rfl, ?_⟩
    refine T_iconst (v := 2) (dk dtk_L_race 13 rfl) (by decide +kernel) ?_
    exact T_iret (dk dtk_L_race 14 rfl) rfl rfl ⟨2, kTh q, rfl, rfl, kTh_U hu, kst_th q, HOI_1 rfl (kTh_U hu) (HOI_th hH), KR_rf⟩
  refine T_tryF (E := kE G) [vi l1, vi l2] [vi 0, vr 299] (d + 7) rfl (dk dtk_L_race 5 rfl) kcv_L_71 rfl kk_0 rfl (kl_0 hu.1) (by omega) (Nat.le_of_ble_eq_true rfl) (Nat.le_of_ble_eq_true rfl) (gok_i (av_c (gkr m0) (av_c rfl (av_c rfl (av_c (gkr m9) av_n)))) (as_c rfl (as_c (gkr m9) as_n))) rfl n9 ?_
  refine T_mono (kr_race (d := d) hu.1 hH l1 l2 (P := fun v9 y9 => ∃ r, v9 = some (vi r) ∧ HOI y9 q ∧ KRd x y9) (X := fun c9 y9 => (c9 = iSE ∨ c9 = iOE) ∧ y9 = x) ⟨Or.inl rfl, rfl⟩ ⟨Or.inr rfl, rfl⟩ (fun r y h1 h2 => ⟨r, rfl, h1, h2⟩)) (fun o9 x9 f9 w9 => ?_)
  rcases w9 with ⟨rfl, v, rfl, r, rfl, h1, h2⟩ | ⟨rfl, c9, rfl, hc, rfl⟩
  · exact ⟨⟨n9, r9⟩, ⟨r, rfl⟩, hend r (xo x x9) q hu (kst_rf q) (HOI_1 rfl hu h1) h2⟩
  · rcases hc with rfl | rfl
    · exact hxiSE
    · exact hxiOE
abbrev zw_linear : gy := (yL_linear, cL_linear, 4, (some .int), [(0, 9, 12, 27), (0, 9, 15, 13)])
set_option maxRecDepth 100000 in
theorem dtk_L_linear : dck cL_linear [(0, .aload_n 2, 1), (1, .iconst 0, 1), (2, .aload_n 0, 1), (3, .iload_n 1, 1), (4, .invokevirtual 74, 3), (7, .i2l, 1), (8, .lastore, 1), (9, .goto 9, 3), (12, .astore_n 3, 1), (13, .iconst 1, 1), (14, .ireturn, 1), (15, .astore_n 3, 1), (16, .iconst 2, 1), (17, .ireturn, 1), (18, .iconst 0, 1), (19, .ireturn, 1)] = true := by decide +kernel
set_option maxRecDepth 100000 in
theorem wca_linear : tables_1_7[20]? = some (Cond.codeWith yL_linear cL_linear 4 (some .int) [(0, 9, 12, 27), (0, 9, 15, 13)]) := rfl
theorem wcw_linear : Cond.codeWith yL_linear cL_linear 4 (some .int) [(0, 9, 12, 27), (0, 9, 15, 13)] ∈ W0 := W0_in (tp_7 (List.mem_of_getElem? wca_linear)) rfl
theorem kcv_L_74 : gMv RL 74 zk_X11_linear 1 := ⟨⟨W0_in (tp_7 (List.mem_of_getElem? (i := 21) (by decide +kernel))) rfl, W0_in (tp_7 (List.mem_of_getElem? (i := 22) (by decide +kernel))) rfl, W0_in (tp_7 (List.mem_of_getElem? (i := 23) (by decide +kernel))) rfl, W0_in (tp_1 (List.mem_of_getElem? (i := 1) (by decide +kernel))) rfl, kcw_X11_linear⟩, ⟨by decide, by decide, by decide +kernel⟩, by decide, by decide⟩
theorem wct_linear_iSE : gCat zw_linear 4 iSE ⟨0, 9, 12, 27⟩ := ⟨⟨[], [⟨0, 9, 15, 13⟩], rfl, fun z hz => nomatch hz⟩, rfl, by decide, (W0_in (tp_5 (List.mem_of_getElem? (i := 107) (by decide +kernel))) rfl), by decide⟩
theorem wct_linear_iAE : gCat zw_linear 4 iAE ⟨0, 9, 15, 13⟩ := ⟨⟨[⟨0, 9, 12, 27⟩], [], rfl, fun z hz => by
  cases hz with
  | head => exact ⟨by decide, iSE, (W0_in (tp_5 (List.mem_of_getElem? (i := 107) (by decide +kernel))) rfl), by decide⟩
  | tail _ hz => cases hz⟩, rfl, by decide, (W0_in (tp_5 (List.mem_of_getElem? (i := 44) (by decide +kernel))) rfl), by decide⟩
set_option maxRecDepth 100000 in
set_option maxHeartbeats 4000000 in
theorem kw_linear {G : kG} {q : kP} {d : Nat} {x : gd} (hu : kU q) (hH : HOI x q) (l1 : Int32) : T (wE (kE G)) (d + 30) zw_linear 0 [(0, vr 0), (1, vi l1), (2, vr 299)] [] x (fo (kf q)) (wq q (fun _ y q1 => KRd x y)) := by
  have m0 : 0 ∈ (fo (kf q)).2.1 := List.mem_append_left _ (kl_0 hu.1)
  have m9 : 299 ∈ (fo (kf q)).2.1 := List.mem_append_right _ (List.mem_singleton.mpr rfl)
  have n9 := n299 hu
  have r9 : NR (kf q) 299 := kU_NR hu n9
  refine T_aload_n 2 (dk dtk_L_linear 0 rfl) rfl rfl ?_
  refine T_iconst (v := 0) (dk dtk_L_linear 1 rfl) (by decide +kernel) ?_
  refine T_aload_n 0 (dk dtk_L_linear 2 rfl) rfl rfl ?_
  refine T_iload_n 1 (dk dtk_L_linear 3 rfl) rfl rfl ?_
  have hend : ∀ (r : Int32) (y : gd) (q1 : kP), kU q1 → kst q q1 → HOI y q1 → (fun _ y q1 => KRd x y) 0 y q1 → T (wE (kE G)) (d + 30) zw_linear 7 [(0, vr 0), (1, vi l1), (2, vr 299)] [vi r, vi 0, vr 299] y (fo (kf q1)) (wq q (fun _ y q1 => KRd x y)) := by
    intro r y q1 hu1 hk1 hH1 hp1
    have n91 : 299 ∈ (fo (kf q1)).2.1 := List.mem_append_right _ (List.mem_singleton.mpr rfl)
    refine T_i2l (dk dtk_L_linear 5 rfl) ?_
    refine T_last 299 1 (dk dtk_L_linear 6 rfl) wE_9 n91 (vin0 (by omega)) ?_
    refine T_goto 18 (dk dtk_L_linear 7 rfl) (by decide) ?_
    refine T_iconst (v := 0) (dk dtk_L_linear 14 rfl) (by decide +kernel) ?_
    exact T_iret (dk dtk_L_linear 15 rfl) rfl rfl ⟨0, q1, rfl, rfl, hu1, hk1, HOI_1 rfl hu1 hH1, hp1⟩
  have hxiSE : gtry (kE G) (d + 30) zw_linear 4 [(0, vr 0), (1, vi l1), (2, vr 299)] [vi 0, vr 299] (wq q (fun _ y q1 => KRd x y)) x (.inr iSE) x (gth (kf q)) := by
    refine ⟨⟨n9, r9⟩, ⟨0, 9, 12, 27⟩, 3, 1, wct_linear_iSE, Or.inl ⟨3, rfl, rfl, (dk dtk_L_linear 8 rfl)⟩, by decide, rfl, ?_⟩
    refine T_iconst (v := 1) (dk dtk_L_linear 9 rfl) (by decide +kernel) ?_
    exact T_iret (dk dtk_L_linear 10 rfl) rfl rfl ⟨1, kTh q, rfl, rfl, kTh_U hu, kst_th q, HOI_1 rfl (kTh_U hu) (HOI_th hH), KR_rf⟩
  have hxiAE : gtry (kE G) (d + 30) zw_linear 4 [(0, vr 0), (1, vi l1), (2, vr 299)] [vi 0, vr 299] (wq q (fun _ y q1 => KRd x y)) x (.inr iAE) x (gth (kf q)) := by
    refine ⟨⟨n9, r9⟩, ⟨0, 9, 15, 13⟩, 3, 1, wct_linear_iAE, Or.inl ⟨3, rfl, rfl, (dk dtk_L_linear 11 rfl)⟩, by decide, rfl, ?_⟩
    refine T_iconst (v := 2) (dk dtk_L_linear 12 rfl) (by decide +kernel) ?_
    exact T_iret (dk dtk_L_linear 13 rfl) rfl rfl ⟨2, kTh q, rfl, rfl, kTh_U hu, kst_th q, HOI_1 rfl (kTh_U hu) (HOI_th hH), KR_rf⟩
  refine T_tryF (E := kE G) [vi l1] [vi 0, vr 299] (d + 18) rfl (dk dtk_L_linear 4 rfl) kcv_L_74 rfl kk_0 rfl (kl_0 hu.1) (by omega) (Nat.le_of_ble_eq_true rfl) (Nat.le_of_ble_eq_true rfl) (gok_i (av_c (gkr m0) (av_c rfl (av_c (gkr m9) av_n))) (as_c rfl (as_c (gkr m9) as_n))) rfl n9 ?_
  refine T_mono (kr_linear (d := d) hu hH l1 (P := fun v9 y9 q9 => ∃ r, v9 = some (vi r) ∧ kU q9 ∧ kle q q9 ∧ HOI y9 q9 ∧ KRd x y9) (X := fun c9 y9 q9 => (c9 = iSE ∨ c9 = iAE) ∧ y9 = x ∧ q9 = q) ⟨Or.inl rfl, rfl, rfl⟩ ⟨Or.inr rfl, rfl, rfl⟩ (fun r y q1 g1 g2 g3 g4 => ⟨r, rfl, g1, g2, g3, g4⟩)) (fun o9 x9 f9 w9 => ?_)
  obtain ⟨q9, ⟨rfl, v, rfl, r, rfl, g1, g2, h1, h2⟩ | ⟨rfl, c9, rfl, hc, rfl, rfl⟩⟩ := w9
  · exact ⟨⟨n299 g1, kU_NR g1 (n299 g1)⟩, ⟨r, rfl⟩, hend r (xo x x9) q9 g1 (kst_le g2) (HOI_1 rfl g1 h1) h2⟩
  · rcases hc with rfl | rfl
    · exact hxiSE
    · exact hxiAE
abbrev zw_attempt : gy := (yL_attempt, cL_attempt, 5, (some .int), [(0, 10, 13, 27), (0, 10, 17, 13)])
set_option maxRecDepth 100000 in
theorem dtk_L_attempt : dck cL_attempt [(0, .aload_n 3, 1), (1, .iconst 0, 1), (2, .aload_n 0, 1), (3, .iload_n 1, 1), (4, .iload_n 2, 1), (5, .invokevirtual 77, 3), (8, .i2l, 1), (9, .lastore, 1), (10, .goto 11, 3), (13, .astore 4, 2), (15, .iconst 1, 1), (16, .ireturn, 1), (17, .astore 4, 2), (19, .iconst 2, 1), (20, .ireturn, 1), (21, .iconst 0, 1), (22, .ireturn, 1)] = true := by decide +kernel
set_option maxRecDepth 100000 in
theorem wca_attempt : tables_1_7[128]? = some (Cond.codeWith yL_attempt cL_attempt 5 (some .int) [(0, 10, 13, 27), (0, 10, 17, 13)]) := rfl
theorem wcw_attempt : Cond.codeWith yL_attempt cL_attempt 5 (some .int) [(0, 10, 13, 27), (0, 10, 17, 13)] ∈ W0 := W0_in (tp_7 (List.mem_of_getElem? wca_attempt)) rfl
theorem kcv_L_77 : gMv RL 77 zk_X11_attempt 2 := ⟨⟨W0_in (tp_7 (List.mem_of_getElem? (i := 129) (by decide +kernel))) rfl, W0_in (tp_7 (List.mem_of_getElem? (i := 130) (by decide +kernel))) rfl, W0_in (tp_7 (List.mem_of_getElem? (i := 131) (by decide +kernel))) rfl, W0_in (tp_1 (List.mem_of_getElem? (i := 1) (by decide +kernel))) rfl, kcw_X11_attempt⟩, ⟨by decide, by decide, by decide +kernel⟩, by decide, by decide⟩
theorem wct_attempt_iSE : gCat zw_attempt 5 iSE ⟨0, 10, 13, 27⟩ := ⟨⟨[], [⟨0, 10, 17, 13⟩], rfl, fun z hz => nomatch hz⟩, rfl, by decide, (W0_in (tp_5 (List.mem_of_getElem? (i := 107) (by decide +kernel))) rfl), by decide⟩
theorem wct_attempt_iAE : gCat zw_attempt 5 iAE ⟨0, 10, 17, 13⟩ := ⟨⟨[⟨0, 10, 13, 27⟩], [], rfl, fun z hz => by
  cases hz with
  | head => exact ⟨by decide, iSE, (W0_in (tp_5 (List.mem_of_getElem? (i := 107) (by decide +kernel))) rfl), by decide⟩
  | tail _ hz => cases hz⟩, rfl, by decide, (W0_in (tp_5 (List.mem_of_getElem? (i := 44) (by decide +kernel))) rfl), by decide⟩
set_option maxRecDepth 100000 in
set_option maxHeartbeats 4000000 in
theorem kw_attempt {G : kG} {q : kP} {d : Nat} {x : gd} {C : gCo} {wr n : Nat} {lm : Nat → Nat} {w : gd} (hj : JH C wr n lm x w) (hu : kU q) (hH : HOI x q) (l1 : Int32) (l2 : Int32) : T (wE (kE G)) (d + 30) zw_attempt 0 [(0, vr 0), (1, vi l1), (2, vi l2), (3, vr 299)] [] x (fo (kf q)) (wq q (fun r9 y q1 => ansK (e1Bg x) (e2At x l1 l2) (sAq C x l1 l2) x r9 y)) := by
  have m0 : 0 ∈ (fo (kf q)).2.1 := List.mem_append_left _ (kl_0 hu.1)
  have m9 : 299 ∈ (fo (kf q)).2.1 := List.mem_append_right _ (List.mem_singleton.mpr rfl)
  have n9 := n299 hu
  have r9 : NR (kf q) 299 := kU_NR hu n9
  refine T_aload_n 3 (dk dtk_L_attempt 0 rfl) rfl rfl ?_
  refine T_iconst (v := 0) (dk dtk_L_attempt 1 rfl) (by decide +kernel) ?_
  refine T_aload_n 0 (dk dtk_L_attempt 2 rfl) rfl rfl ?_
  refine T_iload_n 1 (dk dtk_L_attempt 3 rfl) rfl rfl ?_
  refine T_iload_n 2 (dk dtk_L_attempt 4 rfl) rfl rfl ?_
  have hend : ∀ (r : Int32) (y : gd) (q1 : kP), kU q1 → kst q q1 → HOI y q1 → ¬ (e1Bg x) ∧ ¬ (e2At x l1 l2) ∧ sAq C x l1 l2 r y → T (wE (kE G)) (d + 30) zw_attempt 8 [(0, vr 0), (1, vi l1), (2, vi l2), (3, vr 299)] [vi r, vi 0, vr 299] y (fo (kf q1)) (wq q (fun r9 y q1 => ansK (e1Bg x) (e2At x l1 l2) (sAq C x l1 l2) x r9 y)) := by
    intro r y q1 hu1 hk1 hH1 hp1
    have n91 : 299 ∈ (fo (kf q1)).2.1 := List.mem_append_right _ (List.mem_singleton.mpr rfl)
    refine T_i2l (dk dtk_L_attempt 6 rfl) ?_
    refine T_last 299 1 (dk dtk_L_attempt 7 rfl) wE_9 n91 (vin0 (by omega)) ?_
    refine T_goto 21 (dk dtk_L_attempt 8 rfl) (by decide) ?_
    refine T_iconst (v := 0) (dk dtk_L_attempt 15 rfl) (by decide +kernel) ?_
    exact T_iret (dk dtk_L_attempt 16 rfl) rfl rfl ⟨0, q1, rfl, rfl, hu1, hk1, HOI_1 rfl hu1 hH1, Or.inr (Or.inr ⟨hp1.1, hp1.2.1, rfl, r, by rw [sL_c]; exact if_pos rfl, hp1.2.2⟩)⟩
  have hxiSE : e1Bg x → gtry (kE G) (d + 30) zw_attempt 5 [(0, vr 0), (1, vi l1), (2, vi l2), (3, vr 299)] [vi 0, vr 299] (wq q (fun r9 y q1 => ansK (e1Bg x) (e2At x l1 l2) (sAq C x l1 l2) x r9 y)) x (.inr iSE) x (gth (kf q)) := by
    intro hno
    refine ⟨⟨n9, r9⟩, ⟨0, 10, 13, 27⟩, 4, 2, wct_attempt_iSE, Or.inr ⟨rfl, (dk dtk_L_attempt 9 rfl)⟩, by decide, rfl, ?_⟩
    refine T_iconst (v := 1) (dk dtk_L_attempt 10 rfl) (by decide +kernel) ?_
    exact T_iret (dk dtk_L_attempt 11 rfl) rfl rfl ⟨1, kTh q, rfl, rfl, kTh_U hu, kst_th q, HOI_1 rfl (kTh_U hu) (HOI_th hH), Or.inl ⟨hno, rfl, KR_rf⟩⟩
  have hxiAE : e2At x l1 l2 → gtry (kE G) (d + 30) zw_attempt 5 [(0, vr 0), (1, vi l1), (2, vi l2), (3, vr 299)] [vi 0, vr 299] (wq q (fun r9 y q1 => ansK (e1Bg x) (e2At x l1 l2) (sAq C x l1 l2) x r9 y)) x (.inr iAE) x (gth (kf q)) := by
    intro hno
    refine ⟨⟨n9, r9⟩, ⟨0, 10, 17, 13⟩, 4, 2, wct_attempt_iAE, Or.inr ⟨rfl, (dk dtk_L_attempt 12 rfl)⟩, by decide, rfl, ?_⟩
    refine T_iconst (v := 2) (dk dtk_L_attempt 13 rfl) (by decide +kernel) ?_
    exact T_iret (dk dtk_L_attempt 14 rfl) rfl rfl ⟨2, kTh q, rfl, rfl, kTh_U hu, kst_th q, HOI_1 rfl (kTh_U hu) (HOI_th hH), Or.inr (Or.inl ⟨hno, rfl, KR_rf⟩)⟩
  refine T_tryF (E := kE G) [vi l1, vi l2] [vi 0, vr 299] (d + 7) rfl (dk dtk_L_attempt 5 rfl) kcv_L_77 rfl kk_0 rfl (kl_0 hu.1) (by omega) (Nat.le_of_ble_eq_true rfl) (Nat.le_of_ble_eq_true rfl) (gok_i (av_c (gkr m0) (av_c rfl (av_c rfl (av_c (gkr m9) av_n)))) (as_c rfl (as_c (gkr m9) as_n))) rfl n9 ?_
  refine T_mono (ka_attempt (d := d) hj hu hH l1 l2 (P := fun v9 y9 q9 => ∃ r, v9 = some (vi r) ∧ kU q9 ∧ kle q q9 ∧ HOI y9 q9 ∧ ¬ (e1Bg x) ∧ ¬ (e2At x l1 l2) ∧ sAq C x l1 l2 r y9) (X := fun c9 y9 q9 => ((c9 = iSE ∧ e1Bg x) ∨ (c9 = iAE ∧ e2At x l1 l2)) ∧ y9 = x ∧ q9 = q) (fun h9 => ⟨Or.inl ⟨rfl, h9⟩, rfl, rfl⟩) (fun h9 => ⟨Or.inr ⟨rfl, h9⟩, rfl, rfl⟩) (fun h8 h9 r y q1 g1 g2 g3 g4 => ⟨r, rfl, g1, g2, g3, h8, h9, g4⟩)) (fun o9 x9 f9 w9 => ?_)
  obtain ⟨q9, ⟨rfl, v, rfl, r, rfl, g1, g2, h1, h2⟩ | ⟨rfl, c9, rfl, hc, rfl, rfl⟩⟩ := w9
  · exact ⟨⟨n299 g1, kU_NR g1 (n299 g1)⟩, ⟨r, rfl⟩, hend r (xo x x9) q9 g1 (kst_le g2) (HOI_1 rfl g1 h1) h2⟩
  · rcases hc with ⟨rfl, hno⟩ | ⟨rfl, hno⟩
    · exact hxiSE hno
    · exact hxiAE hno
abbrev zw_tried : gy := (yL_tried, cL_tried, 5, (some .int), [(0, 10, 13, 13), (0, 10, 17, 19)])
set_option maxRecDepth 100000 in
theorem dtk_L_tried : dck cL_tried [(0, .aload_n 3, 1), (1, .iconst 0, 1), (2, .aload_n 0, 1), (3, .iload_n 1, 1), (4, .iload_n 2, 1), (5, .invokevirtual 80, 3), (8, .i2l, 1), (9, .lastore, 1), (10, .goto 11, 3), (13, .astore 4, 2), (15, .iconst 1, 1), (16, .ireturn, 1), (17, .astore 4, 2), (19, .iconst 2, 1), (20, .ireturn, 1), (21, .iconst 0, 1), (22, .ireturn, 1)] = true := by decide +kernel
set_option maxRecDepth 100000 in
theorem wca_tried : tables_1_8[114]? = some (Cond.codeWith yL_tried cL_tried 5 (some .int) [(0, 10, 13, 13), (0, 10, 17, 19)]) := rfl
theorem wcw_tried : Cond.codeWith yL_tried cL_tried 5 (some .int) [(0, 10, 13, 13), (0, 10, 17, 19)] ∈ W0 := W0_in (tp_8 (List.mem_of_getElem? wca_tried)) rfl
theorem kcv_L_80 : gMv RL 80 zk_X11_tried 2 := ⟨⟨W0_in (tp_8 (List.mem_of_getElem? (i := 115) (by decide +kernel))) rfl, W0_in (tp_8 (List.mem_of_getElem? (i := 116) (by decide +kernel))) rfl, W0_in (tp_8 (List.mem_of_getElem? (i := 117) (by decide +kernel))) rfl, W0_in (tp_1 (List.mem_of_getElem? (i := 1) (by decide +kernel))) rfl, kcw_X11_tried⟩, ⟨by decide, by decide, by decide +kernel⟩, by decide, by decide⟩
theorem wct_tried_iAE : gCat zw_tried 5 iAE ⟨0, 10, 13, 13⟩ := ⟨⟨[], [⟨0, 10, 17, 19⟩], rfl, fun z hz => nomatch hz⟩, rfl, by decide, (W0_in (tp_5 (List.mem_of_getElem? (i := 44) (by decide +kernel))) rfl), by decide⟩
theorem wct_tried_iOE : gCat zw_tried 5 iOE ⟨0, 10, 17, 19⟩ := ⟨⟨[⟨0, 10, 13, 13⟩], [], rfl, fun z hz => by
  cases hz with
  | head => exact ⟨by decide, iAE, (W0_in (tp_5 (List.mem_of_getElem? (i := 44) (by decide +kernel))) rfl), by decide⟩
  | tail _ hz => cases hz⟩, rfl, by decide, (W0_in (tp_5 (List.mem_of_getElem? (i := 73) (by decide +kernel))) rfl), by decide⟩
set_option maxRecDepth 100000 in
set_option maxHeartbeats 4000000 in
theorem kw_tried {G : kG} {q : kP} {d : Nat} {x : gd} {C : gCo} {wr n : Nat} {lm : Nat → Nat} {w : gd} (hj : JH C wr n lm x w) (hu : kU q) (hH : HOI x q) (l1 : Int32) (l2 : Int32) : T (wE (kE G)) (d + 30) zw_tried 0 [(0, vr 0), (1, vi l1), (2, vi l2), (3, vr 299)] [] x (fo (kf q)) (wq q (fun r9 y q1 => ansK (e1Tr l1 l2) (e2Tr l1 l2) (sTd C lm x l1 l2) x r9 y)) := by
  have m0 : 0 ∈ (fo (kf q)).2.1 := List.mem_append_left _ (kl_0 hu.1)
  have m9 : 299 ∈ (fo (kf q)).2.1 := List.mem_append_right _ (List.mem_singleton.mpr rfl)
  have n9 := n299 hu
  have r9 : NR (kf q) 299 := kU_NR hu n9
  refine T_aload_n 3 (dk dtk_L_tried 0 rfl) rfl rfl ?_
  refine T_iconst (v := 0) (dk dtk_L_tried 1 rfl) (by decide +kernel) ?_
  refine T_aload_n 0 (dk dtk_L_tried 2 rfl) rfl rfl ?_
  refine T_iload_n 1 (dk dtk_L_tried 3 rfl) rfl rfl ?_
  refine T_iload_n 2 (dk dtk_L_tried 4 rfl) rfl rfl ?_
  have hend : ∀ (r : Int32) (y : gd) (q1 : kP), kU q1 → kst q q1 → HOI y q1 → ¬ (e1Tr l1 l2) ∧ ¬ (e2Tr l1 l2) ∧ sTd C lm x l1 l2 r y → T (wE (kE G)) (d + 30) zw_tried 8 [(0, vr 0), (1, vi l1), (2, vi l2), (3, vr 299)] [vi r, vi 0, vr 299] y (fo (kf q1)) (wq q (fun r9 y q1 => ansK (e1Tr l1 l2) (e2Tr l1 l2) (sTd C lm x l1 l2) x r9 y)) := by
    intro r y q1 hu1 hk1 hH1 hp1
    have n91 : 299 ∈ (fo (kf q1)).2.1 := List.mem_append_right _ (List.mem_singleton.mpr rfl)
    refine T_i2l (dk dtk_L_tried 6 rfl) ?_
    refine T_last 299 1 (dk dtk_L_tried 7 rfl) wE_9 n91 (vin0 (by omega)) ?_
    refine T_goto 21 (dk dtk_L_tried 8 rfl) (by decide) ?_
    refine T_iconst (v := 0) (dk dtk_L_tried 15 rfl) (by decide +kernel) ?_
    exact T_iret (dk dtk_L_tried 16 rfl) rfl rfl ⟨0, q1, rfl, rfl, hu1, hk1, HOI_1 rfl hu1 hH1, Or.inr (Or.inr ⟨hp1.1, hp1.2.1, rfl, r, by rw [sL_c]; exact if_pos rfl, hp1.2.2⟩)⟩
  have hxiAE : e1Tr l1 l2 → gtry (kE G) (d + 30) zw_tried 5 [(0, vr 0), (1, vi l1), (2, vi l2), (3, vr 299)] [vi 0, vr 299] (wq q (fun r9 y q1 => ansK (e1Tr l1 l2) (e2Tr l1 l2) (sTd C lm x l1 l2) x r9 y)) x (.inr iAE) x (gth (kf q)) := by
    intro hno
    refine ⟨⟨n9, r9⟩, ⟨0, 10, 13, 13⟩, 4, 2, wct_tried_iAE, Or.inr ⟨rfl, (dk dtk_L_tried 9 rfl)⟩, by decide, rfl, ?_⟩
    refine T_iconst (v := 1) (dk dtk_L_tried 10 rfl) (by decide +kernel) ?_
    exact T_iret (dk dtk_L_tried 11 rfl) rfl rfl ⟨1, kTh q, rfl, rfl, kTh_U hu, kst_th q, HOI_1 rfl (kTh_U hu) (HOI_th hH), Or.inl ⟨hno, rfl, KR_rf⟩⟩
  have hxiOE : e2Tr l1 l2 → gtry (kE G) (d + 30) zw_tried 5 [(0, vr 0), (1, vi l1), (2, vi l2), (3, vr 299)] [vi 0, vr 299] (wq q (fun r9 y q1 => ansK (e1Tr l1 l2) (e2Tr l1 l2) (sTd C lm x l1 l2) x r9 y)) x (.inr iOE) x (gth (kf q)) := by
    intro hno
    refine ⟨⟨n9, r9⟩, ⟨0, 10, 17, 19⟩, 4, 2, wct_tried_iOE, Or.inr ⟨rfl, (dk dtk_L_tried 12 rfl)⟩, by decide, rfl, ?_⟩
    refine T_iconst (v := 2) (dk dtk_L_tried 13 rfl) (by decide +kernel) ?_
    exact T_iret (dk dtk_L_tried 14 rfl) rfl rfl ⟨2, kTh q, rfl, rfl, kTh_U hu, kst_th q, HOI_1 rfl (kTh_U hu) (HOI_th hH), Or.inr (Or.inl ⟨hno, rfl, KR_rf⟩)⟩
  refine T_tryF (E := kE G) [vi l1, vi l2] [vi 0, vr 299] (d + 7) rfl (dk dtk_L_tried 5 rfl) kcv_L_80 rfl kk_0 rfl (kl_0 hu.1) (by omega) (Nat.le_of_ble_eq_true rfl) (Nat.le_of_ble_eq_true rfl) (gok_i (av_c (gkr m0) (av_c rfl (av_c rfl (av_c (gkr m9) av_n)))) (as_c rfl (as_c (gkr m9) as_n))) rfl n9 ?_
  refine T_mono (ka_tried (d := d) hj hu.1 hH l1 l2 (P := fun v9 y9 => ∃ r, v9 = some (vi r) ∧ HOI y9 q ∧ ¬ (e1Tr l1 l2) ∧ ¬ (e2Tr l1 l2) ∧ sTd C lm x l1 l2 r y9) (X := fun c9 y9 => ((c9 = iAE ∧ e1Tr l1 l2) ∨ (c9 = iOE ∧ e2Tr l1 l2)) ∧ y9 = x) (fun h9 => ⟨Or.inl ⟨rfl, h9⟩, rfl⟩) (fun h9 => ⟨Or.inr ⟨rfl, h9⟩, rfl⟩) (fun h8 h9 r y h1 h2 => ⟨r, rfl, h1, h8, h9, h2⟩)) (fun o9 x9 f9 w9 => ?_)
  rcases w9 with ⟨rfl, v, rfl, r, rfl, h1, h2⟩ | ⟨rfl, c9, rfl, hc, rfl⟩
  · exact ⟨⟨n9, r9⟩, ⟨r, rfl⟩, hend r (xo x x9) q hu (kst_rf q) (HOI_1 rfl hu h1) h2⟩
  · rcases hc with ⟨rfl, hno⟩ | ⟨rfl, hno⟩
    · exact hxiAE hno
    · exact hxiOE hno
abbrev zw_outcome : gy := (yL_outcome, cL_outcome, 6, (some .int), [(0, 12, 15, 13), (0, 12, 19, 19)])
set_option maxRecDepth 100000 in
theorem dtk_L_outcome : dck cL_outcome [(0, .aload 4, 2), (2, .iconst 0, 1), (3, .aload_n 0, 1), (4, .iload_n 1, 1), (5, .iload_n 2, 1), (6, .iload_n 3, 1), (7, .invokevirtual 83, 3), (10, .i2l, 1), (11, .lastore, 1), (12, .goto 11, 3), (15, .astore 5, 2), (17, .iconst 1, 1), (18, .ireturn, 1), (19, .astore 5, 2), (21, .iconst 2, 1), (22, .ireturn, 1), (23, .iconst 0, 1), (24, .ireturn, 1)] = true := by decide +kernel
set_option maxRecDepth 100000 in
theorem wca_outcome : tables_1_8[121]? = some (Cond.codeWith yL_outcome cL_outcome 6 (some .int) [(0, 12, 15, 13), (0, 12, 19, 19)]) := rfl
theorem wcw_outcome : Cond.codeWith yL_outcome cL_outcome 6 (some .int) [(0, 12, 15, 13), (0, 12, 19, 19)] ∈ W0 := W0_in (tp_8 (List.mem_of_getElem? wca_outcome)) rfl
theorem kcv_L_83 : gMv RL 83 zk_X11_outcome 3 := ⟨⟨W0_in (tp_8 (List.mem_of_getElem? (i := 122) (by decide +kernel))) rfl, W0_in (tp_8 (List.mem_of_getElem? (i := 123) (by decide +kernel))) rfl, W0_in (tp_8 (List.mem_of_getElem? (i := 124) (by decide +kernel))) rfl, W0_in (tp_1 (List.mem_of_getElem? (i := 1) (by decide +kernel))) rfl, kcw_X11_outcome⟩, ⟨by decide, by decide, by decide +kernel⟩, by decide, by decide⟩
theorem wct_outcome_iAE : gCat zw_outcome 7 iAE ⟨0, 12, 15, 13⟩ := ⟨⟨[], [⟨0, 12, 19, 19⟩], rfl, fun z hz => nomatch hz⟩, rfl, by decide, (W0_in (tp_5 (List.mem_of_getElem? (i := 44) (by decide +kernel))) rfl), by decide⟩
theorem wct_outcome_iOE : gCat zw_outcome 7 iOE ⟨0, 12, 19, 19⟩ := ⟨⟨[⟨0, 12, 15, 13⟩], [], rfl, fun z hz => by
  cases hz with
  | head => exact ⟨by decide, iAE, (W0_in (tp_5 (List.mem_of_getElem? (i := 44) (by decide +kernel))) rfl), by decide⟩
  | tail _ hz => cases hz⟩, rfl, by decide, (W0_in (tp_5 (List.mem_of_getElem? (i := 73) (by decide +kernel))) rfl), by decide⟩
set_option maxRecDepth 100000 in
set_option maxHeartbeats 4000000 in
theorem kw_outcome {G : kG} {q : kP} {d : Nat} {x : gd} {C : gCo} {wr n : Nat} {lm : Nat → Nat} {w : gd} (hj : JH C wr n lm x w) (hu : kU q) (hH : HOI x q) (l1 : Int32) (l2 : Int32) (l3 : Int32) : T (wE (kE G)) (d + 30) zw_outcome 0 [(0, vr 0), (1, vi l1), (2, vi l2), (3, vi l3), (4, vr 299)] [] x (fo (kf q)) (wq q (fun r9 y q1 => ansK (e1Ou l1) (e2Ou C lm x l1 l2 l3) (sOc C lm x l1 l2 l3) x r9 y)) := by
  have m0 : 0 ∈ (fo (kf q)).2.1 := List.mem_append_left _ (kl_0 hu.1)
  have m9 : 299 ∈ (fo (kf q)).2.1 := List.mem_append_right _ (List.mem_singleton.mpr rfl)
  have n9 := n299 hu
  have r9 : NR (kf q) 299 := kU_NR hu n9
  refine T_aload 4 (dk dtk_L_outcome 0 rfl) rfl ?_
  refine T_iconst (v := 0) (dk dtk_L_outcome 1 rfl) (by decide +kernel) ?_
  refine T_aload_n 0 (dk dtk_L_outcome 2 rfl) rfl rfl ?_
  refine T_iload_n 1 (dk dtk_L_outcome 3 rfl) rfl rfl ?_
  refine T_iload_n 2 (dk dtk_L_outcome 4 rfl) rfl rfl ?_
  refine T_iload_n 3 (dk dtk_L_outcome 5 rfl) rfl rfl ?_
  have hend : ∀ (r : Int32) (y : gd) (q1 : kP), kU q1 → kst q q1 → HOI y q1 → ¬ (e1Ou l1) ∧ ¬ (e2Ou C lm x l1 l2 l3) ∧ sOc C lm x l1 l2 l3 r y → T (wE (kE G)) (d + 30) zw_outcome 10 [(0, vr 0), (1, vi l1), (2, vi l2), (3, vi l3), (4, vr 299)] [vi r, vi 0, vr 299] y (fo (kf q1)) (wq q (fun r9 y q1 => ansK (e1Ou l1) (e2Ou C lm x l1 l2 l3) (sOc C lm x l1 l2 l3) x r9 y)) := by
    intro r y q1 hu1 hk1 hH1 hp1
    have n91 : 299 ∈ (fo (kf q1)).2.1 := List.mem_append_right _ (List.mem_singleton.mpr rfl)
    refine T_i2l (dk dtk_L_outcome 7 rfl) ?_
    refine T_last 299 1 (dk dtk_L_outcome 8 rfl) wE_9 n91 (vin0 (by omega)) ?_
    refine T_goto 23 (dk dtk_L_outcome 9 rfl) (by decide) ?_
    refine T_iconst (v := 0) (dk dtk_L_outcome 16 rfl) (by decide +kernel) ?_
    exact T_iret (dk dtk_L_outcome 17 rfl) rfl rfl ⟨0, q1, rfl, rfl, hu1, hk1, HOI_1 rfl hu1 hH1, Or.inr (Or.inr ⟨hp1.1, hp1.2.1, rfl, r, by rw [sL_c]; exact if_pos rfl, hp1.2.2⟩)⟩
  have hxiAE : e1Ou l1 → gtry (kE G) (d + 30) zw_outcome 7 [(0, vr 0), (1, vi l1), (2, vi l2), (3, vi l3), (4, vr 299)] [vi 0, vr 299] (wq q (fun r9 y q1 => ansK (e1Ou l1) (e2Ou C lm x l1 l2 l3) (sOc C lm x l1 l2 l3) x r9 y)) x (.inr iAE) x (gth (kf q)) := by
    intro hno
    refine ⟨⟨n9, r9⟩, ⟨0, 12, 15, 13⟩, 5, 2, wct_outcome_iAE, Or.inr ⟨rfl, (dk dtk_L_outcome 10 rfl)⟩, by decide, rfl, ?_⟩
    refine T_iconst (v := 1) (dk dtk_L_outcome 11 rfl) (by decide +kernel) ?_
    exact T_iret (dk dtk_L_outcome 12 rfl) rfl rfl ⟨1, kTh q, rfl, rfl, kTh_U hu, kst_th q, HOI_1 rfl (kTh_U hu) (HOI_th hH), Or.inl ⟨hno, rfl, KR_rf⟩⟩
  have hxiOE : e2Ou C lm x l1 l2 l3 → gtry (kE G) (d + 30) zw_outcome 7 [(0, vr 0), (1, vi l1), (2, vi l2), (3, vi l3), (4, vr 299)] [vi 0, vr 299] (wq q (fun r9 y q1 => ansK (e1Ou l1) (e2Ou C lm x l1 l2 l3) (sOc C lm x l1 l2 l3) x r9 y)) x (.inr iOE) x (gth (kf q)) := by
    intro hno
    refine ⟨⟨n9, r9⟩, ⟨0, 12, 19, 19⟩, 5, 2, wct_outcome_iOE, Or.inr ⟨rfl, (dk dtk_L_outcome 13 rfl)⟩, by decide, rfl, ?_⟩
    refine T_iconst (v := 2) (dk dtk_L_outcome 14 rfl) (by decide +kernel) ?_
    exact T_iret (dk dtk_L_outcome 15 rfl) rfl rfl ⟨2, kTh q, rfl, rfl, kTh_U hu, kst_th q, HOI_1 rfl (kTh_U hu) (HOI_th hH), Or.inr (Or.inl ⟨hno, rfl, KR_rf⟩)⟩
  refine T_tryF (E := kE G) [vi l1, vi l2, vi l3] [vi 0, vr 299] (d + 7) rfl (dk dtk_L_outcome 6 rfl) kcv_L_83 rfl kk_0 rfl (kl_0 hu.1) (by omega) (Nat.le_of_ble_eq_true rfl) (Nat.le_of_ble_eq_true rfl) (gok_i (av_c (gkr m0) (av_c rfl (av_c rfl (av_c rfl (av_c (gkr m9) av_n))))) (as_c rfl (as_c (gkr m9) as_n))) rfl n9 ?_
  refine T_mono (ka_outcome (d := d) hj hu.1 hH l1 l2 l3 (P := fun v9 y9 => ∃ r, v9 = some (vi r) ∧ HOI y9 q ∧ ¬ (e1Ou l1) ∧ ¬ (e2Ou C lm x l1 l2 l3) ∧ sOc C lm x l1 l2 l3 r y9) (X := fun c9 y9 => ((c9 = iAE ∧ e1Ou l1) ∨ (c9 = iOE ∧ e2Ou C lm x l1 l2 l3)) ∧ y9 = x) (fun h9 => ⟨Or.inl ⟨rfl, h9⟩, rfl⟩) (fun h9 => ⟨Or.inr ⟨rfl, h9⟩, rfl⟩) (fun h8 h9 r y h1 h2 => ⟨r, rfl, h1, h8, h9, h2⟩)) (fun o9 x9 f9 w9 => ?_)
  rcases w9 with ⟨rfl, v, rfl, r, rfl, h1, h2⟩ | ⟨rfl, c9, rfl, hc, rfl⟩
  · exact ⟨⟨n9, r9⟩, ⟨r, rfl⟩, hend r (xo x x9) q hu (kst_rf q) (HOI_1 rfl hu h1) h2⟩
  · rcases hc with ⟨rfl, hno⟩ | ⟨rfl, hno⟩
    · exact hxiAE hno
    · exact hxiOE hno
abbrev zw_finding : gy := (yL_finding, cL_finding, 5, (some .int), [(0, 10, 13, 13)])
set_option maxRecDepth 100000 in
theorem dtk_L_finding : dck cL_finding [(0, .aload_n 3, 1), (1, .iconst 0, 1), (2, .aload_n 0, 1), (3, .iload_n 1, 1), (4, .iload_n 2, 1), (5, .invokevirtual 87, 3), (8, .i2l, 1), (9, .lastore, 1), (10, .goto 7, 3), (13, .astore 4, 2), (15, .iconst 1, 1), (16, .ireturn, 1), (17, .iconst 0, 1), (18, .ireturn, 1)] = true := by decide +kernel
set_option maxRecDepth 100000 in
theorem wca_finding : tables_1_8[132]? = some (Cond.codeWith yL_finding cL_finding 5 (some .int) [(0, 10, 13, 13)]) := rfl
theorem wcw_finding : Cond.codeWith yL_finding cL_finding 5 (some .int) [(0, 10, 13, 13)] ∈ W0 := W0_in (tp_8 (List.mem_of_getElem? wca_finding)) rfl
theorem kcv_L_87 : gMv RL 87 zk_X11_finding 2 := ⟨⟨W0_in (tp_8 (List.mem_of_getElem? (i := 133) (by decide +kernel))) rfl, W0_in (tp_8 (List.mem_of_getElem? (i := 134) (by decide +kernel))) rfl, W0_in (tp_8 (List.mem_of_getElem? (i := 135) (by decide +kernel))) rfl, W0_in (tp_1 (List.mem_of_getElem? (i := 1) (by decide +kernel))) rfl, kcw_X11_finding⟩, ⟨by decide, by decide, by decide +kernel⟩, by decide, by decide⟩
theorem wct_finding_iAE : gCat zw_finding 5 iAE ⟨0, 10, 13, 13⟩ := ⟨⟨[], [], rfl, fun z hz => nomatch hz⟩, rfl, by decide, (W0_in (tp_5 (List.mem_of_getElem? (i := 44) (by decide +kernel))) rfl), by decide⟩
set_option maxRecDepth 100000 in
set_option maxHeartbeats 4000000 in
theorem kw_finding {G : kG} {q : kP} {d : Nat} {x : gd} {C : gCo} {wr n : Nat} {lm : Nat → Nat} {w : gd} (hj : JH C wr n lm x w) (hu : kU q) (hH : HOI x q) (l1 : Int32) (l2 : Int32) : T (wE (kE G)) (d + 30) zw_finding 0 [(0, vr 0), (1, vi l1), (2, vi l2), (3, vr 299)] [] x (fo (kf q)) (wq q (fun r9 y q1 => ansK (e1Sh l1 l2) (False) (sFi C lm x l1 l2) x r9 y)) := by
  have m0 : 0 ∈ (fo (kf q)).2.1 := List.mem_append_left _ (kl_0 hu.1)
  have m9 : 299 ∈ (fo (kf q)).2.1 := List.mem_append_right _ (List.mem_singleton.mpr rfl)
  have n9 := n299 hu
  have r9 : NR (kf q) 299 := kU_NR hu n9
  refine T_aload_n 3 (dk dtk_L_finding 0 rfl) rfl rfl ?_
  refine T_iconst (v := 0) (dk dtk_L_finding 1 rfl) (by decide +kernel) ?_
  refine T_aload_n 0 (dk dtk_L_finding 2 rfl) rfl rfl ?_
  refine T_iload_n 1 (dk dtk_L_finding 3 rfl) rfl rfl ?_
  refine T_iload_n 2 (dk dtk_L_finding 4 rfl) rfl rfl ?_
  have hend : ∀ (r : Int32) (y : gd) (q1 : kP), kU q1 → kst q q1 → HOI y q1 → ¬ (e1Sh l1 l2) ∧ ¬ (False) ∧ sFi C lm x l1 l2 r y → T (wE (kE G)) (d + 30) zw_finding 8 [(0, vr 0), (1, vi l1), (2, vi l2), (3, vr 299)] [vi r, vi 0, vr 299] y (fo (kf q1)) (wq q (fun r9 y q1 => ansK (e1Sh l1 l2) (False) (sFi C lm x l1 l2) x r9 y)) := by
    intro r y q1 hu1 hk1 hH1 hp1
    have n91 : 299 ∈ (fo (kf q1)).2.1 := List.mem_append_right _ (List.mem_singleton.mpr rfl)
    refine T_i2l (dk dtk_L_finding 6 rfl) ?_
    refine T_last 299 1 (dk dtk_L_finding 7 rfl) wE_9 n91 (vin0 (by omega)) ?_
    refine T_goto 17 (dk dtk_L_finding 8 rfl) (by decide) ?_
    refine T_iconst (v := 0) (dk dtk_L_finding 12 rfl) (by decide +kernel) ?_
    exact T_iret (dk dtk_L_finding 13 rfl) rfl rfl ⟨0, q1, rfl, rfl, hu1, hk1, HOI_1 rfl hu1 hH1, Or.inr (Or.inr ⟨hp1.1, hp1.2.1, rfl, r, by rw [sL_c]; exact if_pos rfl, hp1.2.2⟩)⟩
  have hxiAE : e1Sh l1 l2 → gtry (kE G) (d + 30) zw_finding 5 [(0, vr 0), (1, vi l1), (2, vi l2), (3, vr 299)] [vi 0, vr 299] (wq q (fun r9 y q1 => ansK (e1Sh l1 l2) (False) (sFi C lm x l1 l2) x r9 y)) x (.inr iAE) x (gth (kf q)) := by
    intro hno
    refine ⟨⟨n9, r9⟩, ⟨0, 10, 13, 13⟩, 4, 2, wct_finding_iAE, Or.inr ⟨rfl, (dk dtk_L_finding 9 rfl)⟩, by decide, rfl, ?_⟩
    refine T_iconst (v := 1) (dk dtk_L_finding 10 rfl) (by decide +kernel) ?_
    exact T_iret (dk dtk_L_finding 11 rfl) rfl rfl ⟨1, kTh q, rfl, rfl, kTh_U hu, kst_th q, HOI_1 rfl (kTh_U hu) (HOI_th hH), Or.inl ⟨hno, rfl, KR_rf⟩⟩
  refine T_tryF (E := kE G) [vi l1, vi l2] [vi 0, vr 299] (d + 7) rfl (dk dtk_L_finding 5 rfl) kcv_L_87 rfl kk_0 rfl (kl_0 hu.1) (by omega) (Nat.le_of_ble_eq_true rfl) (Nat.le_of_ble_eq_true rfl) (gok_i (av_c (gkr m0) (av_c rfl (av_c rfl (av_c (gkr m9) av_n)))) (as_c rfl (as_c (gkr m9) as_n))) rfl n9 ?_
  refine T_mono (ka_finding (d := d) hj hu.1 hH l1 l2 (P := fun v9 y9 => ∃ r, v9 = some (vi r) ∧ HOI y9 q ∧ ¬ (e1Sh l1 l2) ∧ ¬ (False) ∧ sFi C lm x l1 l2 r y9) (X := fun c9 y9 => ((c9 = iAE ∧ e1Sh l1 l2)) ∧ y9 = x) (fun h9 => ⟨⟨rfl, h9⟩, rfl⟩) (fun h8 h9 r y h1 h2 => ⟨r, rfl, h1, h8, h9, h2⟩)) (fun o9 x9 f9 w9 => ?_)
  rcases w9 with ⟨rfl, v, rfl, r, rfl, h1, h2⟩ | ⟨rfl, c9, rfl, hc, rfl⟩
  · exact ⟨⟨n9, r9⟩, ⟨r, rfl⟩, hend r (xo x x9) q hu (kst_rf q) (HOI_1 rfl hu h1) h2⟩
  · obtain ⟨rfl, hno⟩ := hc
    exact hxiAE hno
abbrev zw_show : gy := (yL_show, cL_show, 5, (some .int), [(0, 10, 13, 13), (0, 10, 17, 27)])
set_option maxRecDepth 100000 in
theorem dtk_L_show : dck cL_show [(0, .aload_n 3, 1), (1, .iconst 0, 1), (2, .aload_n 0, 1), (3, .iload_n 1, 1), (4, .iload_n 2, 1), (5, .invokevirtual 90, 3), (8, .i2l, 1), (9, .lastore, 1), (10, .goto 11, 3), (13, .astore 4, 2), (15, .iconst 1, 1), (16, .ireturn, 1), (17, .astore 4, 2), (19, .iconst 2, 1), (20, .ireturn, 1), (21, .iconst 0, 1), (22, .ireturn, 1)] = true := by decide +kernel
set_option maxRecDepth 100000 in
theorem wca_show : tables_1_8[147]? = some (Cond.codeWith yL_show cL_show 5 (some .int) [(0, 10, 13, 13), (0, 10, 17, 27)]) := rfl
theorem wcw_show : Cond.codeWith yL_show cL_show 5 (some .int) [(0, 10, 13, 13), (0, 10, 17, 27)] ∈ W0 := W0_in (tp_8 (List.mem_of_getElem? wca_show)) rfl
theorem kcv_L_90 : gMv RL 90 zk_X11_show 2 := ⟨⟨W0_in (tp_8 (List.mem_of_getElem? (i := 148) (by decide +kernel))) rfl, W0_in (tp_8 (List.mem_of_getElem? (i := 149) (by decide +kernel))) rfl, W0_in (tp_8 (List.mem_of_getElem? (i := 150) (by decide +kernel))) rfl, W0_in (tp_1 (List.mem_of_getElem? (i := 1) (by decide +kernel))) rfl, kcw_X11_show⟩, ⟨by decide, by decide, by decide +kernel⟩, by decide, by decide⟩
theorem wct_show_iAE : gCat zw_show 5 iAE ⟨0, 10, 13, 13⟩ := ⟨⟨[], [⟨0, 10, 17, 27⟩], rfl, fun z hz => nomatch hz⟩, rfl, by decide, (W0_in (tp_5 (List.mem_of_getElem? (i := 44) (by decide +kernel))) rfl), by decide⟩
theorem wct_show_iSE : gCat zw_show 5 iSE ⟨0, 10, 17, 27⟩ := ⟨⟨[⟨0, 10, 13, 13⟩], [], rfl, fun z hz => by
  cases hz with
  | head => exact ⟨by decide, iAE, (W0_in (tp_5 (List.mem_of_getElem? (i := 44) (by decide +kernel))) rfl), by decide⟩
  | tail _ hz => cases hz⟩, rfl, by decide, (W0_in (tp_5 (List.mem_of_getElem? (i := 107) (by decide +kernel))) rfl), by decide⟩
set_option maxRecDepth 100000 in
set_option maxHeartbeats 4000000 in
theorem kw_show {G : kG} {q : kP} {d : Nat} {x : gd} {C : gCo} {wr n : Nat} {lm : Nat → Nat} {w : gd} (hj : JH C wr n lm x w) (hu : kU q) (hH : HOI x q) (l1 : Int32) (l2 : Int32) : T (wE (kE G)) (d + 30) zw_show 0 [(0, vr 0), (1, vi l1), (2, vi l2), (3, vr 299)] [] x (fo (kf q)) (wq q (fun r9 y q1 => ansK (e1Sh l1 l2) (e2Sh C lm x l1 l2) (sSh C lm x l1 l2) x r9 y)) := by
  have m0 : 0 ∈ (fo (kf q)).2.1 := List.mem_append_left _ (kl_0 hu.1)
  have m9 : 299 ∈ (fo (kf q)).2.1 := List.mem_append_right _ (List.mem_singleton.mpr rfl)
  have n9 := n299 hu
  have r9 : NR (kf q) 299 := kU_NR hu n9
  refine T_aload_n 3 (dk dtk_L_show 0 rfl) rfl rfl ?_
  refine T_iconst (v := 0) (dk dtk_L_show 1 rfl) (by decide +kernel) ?_
  refine T_aload_n 0 (dk dtk_L_show 2 rfl) rfl rfl ?_
  refine T_iload_n 1 (dk dtk_L_show 3 rfl) rfl rfl ?_
  refine T_iload_n 2 (dk dtk_L_show 4 rfl) rfl rfl ?_
  have hend : ∀ (r : Int32) (y : gd) (q1 : kP), kU q1 → kst q q1 → HOI y q1 → ¬ (e1Sh l1 l2) ∧ ¬ (e2Sh C lm x l1 l2) ∧ sSh C lm x l1 l2 r y → T (wE (kE G)) (d + 30) zw_show 8 [(0, vr 0), (1, vi l1), (2, vi l2), (3, vr 299)] [vi r, vi 0, vr 299] y (fo (kf q1)) (wq q (fun r9 y q1 => ansK (e1Sh l1 l2) (e2Sh C lm x l1 l2) (sSh C lm x l1 l2) x r9 y)) := by
    intro r y q1 hu1 hk1 hH1 hp1
    have n91 : 299 ∈ (fo (kf q1)).2.1 := List.mem_append_right _ (List.mem_singleton.mpr rfl)
    refine T_i2l (dk dtk_L_show 6 rfl) ?_
    refine T_last 299 1 (dk dtk_L_show 7 rfl) wE_9 n91 (vin0 (by omega)) ?_
    refine T_goto 21 (dk dtk_L_show 8 rfl) (by decide) ?_
    refine T_iconst (v := 0) (dk dtk_L_show 15 rfl) (by decide +kernel) ?_
    exact T_iret (dk dtk_L_show 16 rfl) rfl rfl ⟨0, q1, rfl, rfl, hu1, hk1, HOI_1 rfl hu1 hH1, Or.inr (Or.inr ⟨hp1.1, hp1.2.1, rfl, r, by rw [sL_c]; exact if_pos rfl, hp1.2.2⟩)⟩
  have hxiAE : e1Sh l1 l2 → gtry (kE G) (d + 30) zw_show 5 [(0, vr 0), (1, vi l1), (2, vi l2), (3, vr 299)] [vi 0, vr 299] (wq q (fun r9 y q1 => ansK (e1Sh l1 l2) (e2Sh C lm x l1 l2) (sSh C lm x l1 l2) x r9 y)) x (.inr iAE) x (gth (kf q)) := by
    intro hno
    refine ⟨⟨n9, r9⟩, ⟨0, 10, 13, 13⟩, 4, 2, wct_show_iAE, Or.inr ⟨rfl, (dk dtk_L_show 9 rfl)⟩, by decide, rfl, ?_⟩
    refine T_iconst (v := 1) (dk dtk_L_show 10 rfl) (by decide +kernel) ?_
    exact T_iret (dk dtk_L_show 11 rfl) rfl rfl ⟨1, kTh q, rfl, rfl, kTh_U hu, kst_th q, HOI_1 rfl (kTh_U hu) (HOI_th hH), Or.inl ⟨hno, rfl, KR_rf⟩⟩
  have hxiSE : e2Sh C lm x l1 l2 → gtry (kE G) (d + 30) zw_show 5 [(0, vr 0), (1, vi l1), (2, vi l2), (3, vr 299)] [vi 0, vr 299] (wq q (fun r9 y q1 => ansK (e1Sh l1 l2) (e2Sh C lm x l1 l2) (sSh C lm x l1 l2) x r9 y)) x (.inr iSE) x (gth (kf q)) := by
    intro hno
    refine ⟨⟨n9, r9⟩, ⟨0, 10, 17, 27⟩, 4, 2, wct_show_iSE, Or.inr ⟨rfl, (dk dtk_L_show 12 rfl)⟩, by decide, rfl, ?_⟩
    refine T_iconst (v := 2) (dk dtk_L_show 13 rfl) (by decide +kernel) ?_
    exact T_iret (dk dtk_L_show 14 rfl) rfl rfl ⟨2, kTh q, rfl, rfl, kTh_U hu, kst_th q, HOI_1 rfl (kTh_U hu) (HOI_th hH), Or.inr (Or.inl ⟨hno, rfl, KR_rf⟩)⟩
  refine T_tryF (E := kE G) [vi l1, vi l2] [vi 0, vr 299] (d + 7) rfl (dk dtk_L_show 5 rfl) kcv_L_90 rfl kk_0 rfl (kl_0 hu.1) (by omega) (Nat.le_of_ble_eq_true rfl) (Nat.le_of_ble_eq_true rfl) (gok_i (av_c (gkr m0) (av_c rfl (av_c rfl (av_c (gkr m9) av_n)))) (as_c rfl (as_c (gkr m9) as_n))) rfl n9 ?_
  refine T_mono (ka_show (d := d) hj hu.1 hH l1 l2 (P := fun v9 y9 => ∃ r, v9 = some (vi r) ∧ HOI y9 q ∧ ¬ (e1Sh l1 l2) ∧ ¬ (e2Sh C lm x l1 l2) ∧ sSh C lm x l1 l2 r y9) (X := fun c9 y9 => ((c9 = iAE ∧ e1Sh l1 l2) ∨ (c9 = iSE ∧ e2Sh C lm x l1 l2)) ∧ y9 = x) (fun h9 => ⟨Or.inl ⟨rfl, h9⟩, rfl⟩) (fun h9 => ⟨Or.inr ⟨rfl, h9⟩, rfl⟩) (fun h8 h9 r y h1 h2 => ⟨r, rfl, h1, h8, h9, h2⟩)) (fun o9 x9 f9 w9 => ?_)
  rcases w9 with ⟨rfl, v, rfl, r, rfl, h1, h2⟩ | ⟨rfl, c9, rfl, hc, rfl⟩
  · exact ⟨⟨n9, r9⟩, ⟨r, rfl⟩, hend r (xo x x9) q hu (kst_rf q) (HOI_1 rfl hu h1) h2⟩
  · rcases hc with ⟨rfl, hno⟩ | ⟨rfl, hno⟩
    · exact hxiAE hno
    · exact hxiSE hno
abbrev zw_common : gy := (yL_common, cL_common, 5, (some .int), [(0, 10, 13, 13), (0, 10, 17, 19)])
set_option maxRecDepth 100000 in
theorem dtk_L_common : dck cL_common [(0, .aload_n 3, 1), (1, .iconst 0, 1), (2, .aload_n 0, 1), (3, .iload_n 1, 1), (4, .iload_n 2, 1), (5, .invokevirtual 93, 3), (8, .i2l, 1), (9, .lastore, 1), (10, .goto 11, 3), (13, .astore 4, 2), (15, .iconst 1, 1), (16, .ireturn, 1), (17, .astore 4, 2), (19, .iconst 2, 1), (20, .ireturn, 1), (21, .iconst 0, 1), (22, .ireturn, 1)] = true := by decide +kernel
set_option maxRecDepth 100000 in
theorem wca_common : tables_1_8[159]? = some (Cond.codeWith yL_common cL_common 5 (some .int) [(0, 10, 13, 13), (0, 10, 17, 19)]) := rfl
theorem wcw_common : Cond.codeWith yL_common cL_common 5 (some .int) [(0, 10, 13, 13), (0, 10, 17, 19)] ∈ W0 := W0_in (tp_8 (List.mem_of_getElem? wca_common)) rfl
theorem kcv_L_93 : gMv RL 93 zk_X11_common 2 := ⟨⟨W0_in (tp_8 (List.mem_of_getElem? (i := 160) (by decide +kernel))) rfl, W0_in (tp_8 (List.mem_of_getElem? (i := 161) (by decide +kernel))) rfl, W0_in (tp_8 (List.mem_of_getElem? (i := 162) (by decide +kernel))) rfl, W0_in (tp_1 (List.mem_of_getElem? (i := 1) (by decide +kernel))) rfl, kcw_X11_common⟩, ⟨by decide, by decide, by decide +kernel⟩, by decide, by decide⟩
theorem wct_common_iAE : gCat zw_common 5 iAE ⟨0, 10, 13, 13⟩ := ⟨⟨[], [⟨0, 10, 17, 19⟩], rfl, fun z hz => nomatch hz⟩, rfl, by decide, (W0_in (tp_5 (List.mem_of_getElem? (i := 44) (by decide +kernel))) rfl), by decide⟩
theorem wct_common_iOE : gCat zw_common 5 iOE ⟨0, 10, 17, 19⟩ := ⟨⟨[⟨0, 10, 13, 13⟩], [], rfl, fun z hz => by
  cases hz with
  | head => exact ⟨by decide, iAE, (W0_in (tp_5 (List.mem_of_getElem? (i := 44) (by decide +kernel))) rfl), by decide⟩
  | tail _ hz => cases hz⟩, rfl, by decide, (W0_in (tp_5 (List.mem_of_getElem? (i := 73) (by decide +kernel))) rfl), by decide⟩
set_option maxRecDepth 100000 in
set_option maxHeartbeats 4000000 in
theorem kw_common {G : kG} {q : kP} {d : Nat} {x : gd} {C : gCo} {wr n : Nat} {lm : Nat → Nat} {w : gd} (hj : JH C wr n lm x w) (hu : kU q) (hH : HOI x q) (l1 : Int32) (l2 : Int32) : T (wE (kE G)) (d + 30) zw_common 0 [(0, vr 0), (1, vi l1), (2, vi l2), (3, vr 299)] [] x (fo (kf q)) (wq q (fun r9 y q1 => ansK (e1Tr l1 l2) (e2Co x l1 l2) (sCo C lm x l1 l2) x r9 y)) := by
  have m0 : 0 ∈ (fo (kf q)).2.1 := List.mem_append_left _ (kl_0 hu.1)
  have m9 : 299 ∈ (fo (kf q)).2.1 := List.mem_append_right _ (List.mem_singleton.mpr rfl)
  have n9 := n299 hu
  have r9 : NR (kf q) 299 := kU_NR hu n9
  refine T_aload_n 3 (dk dtk_L_common 0 rfl) rfl rfl ?_
  refine T_iconst (v := 0) (dk dtk_L_common 1 rfl) (by decide +kernel) ?_
  refine T_aload_n 0 (dk dtk_L_common 2 rfl) rfl rfl ?_
  refine T_iload_n 1 (dk dtk_L_common 3 rfl) rfl rfl ?_
  refine T_iload_n 2 (dk dtk_L_common 4 rfl) rfl rfl ?_
  have hend : ∀ (r : Int32) (y : gd) (q1 : kP), kU q1 → kst q q1 → HOI y q1 → ¬ (e1Tr l1 l2) ∧ ¬ (e2Co x l1 l2) ∧ sCo C lm x l1 l2 r y → T (wE (kE G)) (d + 30) zw_common 8 [(0, vr 0), (1, vi l1), (2, vi l2), (3, vr 299)] [vi r, vi 0, vr 299] y (fo (kf q1)) (wq q (fun r9 y q1 => ansK (e1Tr l1 l2) (e2Co x l1 l2) (sCo C lm x l1 l2) x r9 y)) := by
    intro r y q1 hu1 hk1 hH1 hp1
    have n91 : 299 ∈ (fo (kf q1)).2.1 := List.mem_append_right _ (List.mem_singleton.mpr rfl)
    refine T_i2l (dk dtk_L_common 6 rfl) ?_
    refine T_last 299 1 (dk dtk_L_common 7 rfl) wE_9 n91 (vin0 (by omega)) ?_
    refine T_goto 21 (dk dtk_L_common 8 rfl) (by decide) ?_
    refine T_iconst (v := 0) (dk dtk_L_common 15 rfl) (by decide +kernel) ?_
    exact T_iret (dk dtk_L_common 16 rfl) rfl rfl ⟨0, q1, rfl, rfl, hu1, hk1, HOI_1 rfl hu1 hH1, Or.inr (Or.inr ⟨hp1.1, hp1.2.1, rfl, r, by rw [sL_c]; exact if_pos rfl, hp1.2.2⟩)⟩
  have hxiAE : e1Tr l1 l2 → gtry (kE G) (d + 30) zw_common 5 [(0, vr 0), (1, vi l1), (2, vi l2), (3, vr 299)] [vi 0, vr 299] (wq q (fun r9 y q1 => ansK (e1Tr l1 l2) (e2Co x l1 l2) (sCo C lm x l1 l2) x r9 y)) x (.inr iAE) x (gth (kf q)) := by
    intro hno
    refine ⟨⟨n9, r9⟩, ⟨0, 10, 13, 13⟩, 4, 2, wct_common_iAE, Or.inr ⟨rfl, (dk dtk_L_common 9 rfl)⟩, by decide, rfl, ?_⟩
    refine T_iconst (v := 1) (dk dtk_L_common 10 rfl) (by decide +kernel) ?_
    exact T_iret (dk dtk_L_common 11 rfl) rfl rfl ⟨1, kTh q, rfl, rfl, kTh_U hu, kst_th q, HOI_1 rfl (kTh_U hu) (HOI_th hH), Or.inl ⟨hno, rfl, KR_rf⟩⟩
  have hxiOE : e2Co x l1 l2 → gtry (kE G) (d + 30) zw_common 5 [(0, vr 0), (1, vi l1), (2, vi l2), (3, vr 299)] [vi 0, vr 299] (wq q (fun r9 y q1 => ansK (e1Tr l1 l2) (e2Co x l1 l2) (sCo C lm x l1 l2) x r9 y)) x (.inr iOE) x (gth (kf q)) := by
    intro hno
    refine ⟨⟨n9, r9⟩, ⟨0, 10, 17, 19⟩, 4, 2, wct_common_iOE, Or.inr ⟨rfl, (dk dtk_L_common 12 rfl)⟩, by decide, rfl, ?_⟩
    refine T_iconst (v := 2) (dk dtk_L_common 13 rfl) (by decide +kernel) ?_
    exact T_iret (dk dtk_L_common 14 rfl) rfl rfl ⟨2, kTh q, rfl, rfl, kTh_U hu, kst_th q, HOI_1 rfl (kTh_U hu) (HOI_th hH), Or.inr (Or.inl ⟨hno, rfl, KR_rf⟩)⟩
  refine T_tryF (E := kE G) [vi l1, vi l2] [vi 0, vr 299] (d + 7) rfl (dk dtk_L_common 5 rfl) kcv_L_93 rfl kk_0 rfl (kl_0 hu.1) (by omega) (Nat.le_of_ble_eq_true rfl) (Nat.le_of_ble_eq_true rfl) (gok_i (av_c (gkr m0) (av_c rfl (av_c rfl (av_c (gkr m9) av_n)))) (as_c rfl (as_c (gkr m9) as_n))) rfl n9 ?_
  refine T_mono (ka_common (d := d) hj hu.1 hH l1 l2 (P := fun v9 y9 => ∃ r, v9 = some (vi r) ∧ HOI y9 q ∧ ¬ (e1Tr l1 l2) ∧ ¬ (e2Co x l1 l2) ∧ sCo C lm x l1 l2 r y9) (X := fun c9 y9 => ((c9 = iAE ∧ e1Tr l1 l2) ∨ (c9 = iOE ∧ e2Co x l1 l2)) ∧ y9 = x) (fun h9 => ⟨Or.inl ⟨rfl, h9⟩, rfl⟩) (fun h9 => ⟨Or.inr ⟨rfl, h9⟩, rfl⟩) (fun h8 h9 r y h1 h2 => ⟨r, rfl, h1, h8, h9, h2⟩)) (fun o9 x9 f9 w9 => ?_)
  rcases w9 with ⟨rfl, v, rfl, r, rfl, h1, h2⟩ | ⟨rfl, c9, rfl, hc, rfl⟩
  · exact ⟨⟨n9, r9⟩, ⟨r, rfl⟩, hend r (xo x x9) q hu (kst_rf q) (HOI_1 rfl hu h1) h2⟩
  · rcases hc with ⟨rfl, hno⟩ | ⟨rfl, hno⟩
    · exact hxiAE hno
    · exact hxiOE hno
abbrev zw_ring : gy := (yL_ring, cL_ring, 4, (some .int), [(0, 9, 12, 13)])
set_option maxRecDepth 100000 in
theorem dtk_L_ring : dck cL_ring [(0, .aload_n 2, 1), (1, .iconst 0, 1), (2, .aload_n 0, 1), (3, .iload_n 1, 1), (4, .invokevirtual 96, 3), (7, .i2l, 1), (8, .lastore, 1), (9, .goto 6, 3), (12, .astore_n 3, 1), (13, .iconst 1, 1), (14, .ireturn, 1), (15, .iconst 0, 1), (16, .ireturn, 1)] = true := by decide +kernel
set_option maxRecDepth 100000 in
theorem wca_ring : tables_1_8[166]? = some (Cond.codeWith yL_ring cL_ring 4 (some .int) [(0, 9, 12, 13)]) := rfl
theorem wcw_ring : Cond.codeWith yL_ring cL_ring 4 (some .int) [(0, 9, 12, 13)] ∈ W0 := W0_in (tp_8 (List.mem_of_getElem? wca_ring)) rfl
theorem kcv_L_96 : gMv RL 96 zk_X11_ring 1 := ⟨⟨W0_in (tp_8 (List.mem_of_getElem? (i := 167) (by decide +kernel))) rfl, W0_in (tp_8 (List.mem_of_getElem? (i := 168) (by decide +kernel))) rfl, W0_in (tp_8 (List.mem_of_getElem? (i := 169) (by decide +kernel))) rfl, W0_in (tp_1 (List.mem_of_getElem? (i := 1) (by decide +kernel))) rfl, kcw_X11_ring⟩, ⟨by decide, by decide, by decide +kernel⟩, by decide, by decide⟩
theorem wct_ring_iAE : gCat zw_ring 4 iAE ⟨0, 9, 12, 13⟩ := ⟨⟨[], [], rfl, fun z hz => nomatch hz⟩, rfl, by decide, (W0_in (tp_5 (List.mem_of_getElem? (i := 44) (by decide +kernel))) rfl), by decide⟩
set_option maxRecDepth 100000 in
set_option maxHeartbeats 4000000 in
theorem kw_ring {G : kG} {q : kP} {d : Nat} {x : gd} {C : gCo} {wr n : Nat} {lm : Nat → Nat} {w : gd} (hj : JH C wr n lm x w) (hu : kU q) (hH : HOI x q) (l1 : Int32) : T (wE (kE G)) (d + 30) zw_ring 0 [(0, vr 0), (1, vi l1), (2, vr 299)] [] x (fo (kf q)) (wq q (fun r9 y q1 => ansK (e1Rg l1) (False) (sRg C lm x l1) x r9 y)) := by
  have m0 : 0 ∈ (fo (kf q)).2.1 := List.mem_append_left _ (kl_0 hu.1)
  have m9 : 299 ∈ (fo (kf q)).2.1 := List.mem_append_right _ (List.mem_singleton.mpr rfl)
  have n9 := n299 hu
  have r9 : NR (kf q) 299 := kU_NR hu n9
  refine T_aload_n 2 (dk dtk_L_ring 0 rfl) rfl rfl ?_
  refine T_iconst (v := 0) (dk dtk_L_ring 1 rfl) (by decide +kernel) ?_
  refine T_aload_n 0 (dk dtk_L_ring 2 rfl) rfl rfl ?_
  refine T_iload_n 1 (dk dtk_L_ring 3 rfl) rfl rfl ?_
  have hend : ∀ (r : Int32) (y : gd) (q1 : kP), kU q1 → kst q q1 → HOI y q1 → ¬ (e1Rg l1) ∧ ¬ (False) ∧ sRg C lm x l1 r y → T (wE (kE G)) (d + 30) zw_ring 7 [(0, vr 0), (1, vi l1), (2, vr 299)] [vi r, vi 0, vr 299] y (fo (kf q1)) (wq q (fun r9 y q1 => ansK (e1Rg l1) (False) (sRg C lm x l1) x r9 y)) := by
    intro r y q1 hu1 hk1 hH1 hp1
    have n91 : 299 ∈ (fo (kf q1)).2.1 := List.mem_append_right _ (List.mem_singleton.mpr rfl)
    refine T_i2l (dk dtk_L_ring 5 rfl) ?_
    refine T_last 299 1 (dk dtk_L_ring 6 rfl) wE_9 n91 (vin0 (by omega)) ?_
    refine T_goto 15 (dk dtk_L_ring 7 rfl) (by decide) ?_
    refine T_iconst (v := 0) (dk dtk_L_ring 11 rfl) (by decide +kernel) ?_
    exact T_iret (dk dtk_L_ring 12 rfl) rfl rfl ⟨0, q1, rfl, rfl, hu1, hk1, HOI_1 rfl hu1 hH1, Or.inr (Or.inr ⟨hp1.1, hp1.2.1, rfl, r, by rw [sL_c]; exact if_pos rfl, hp1.2.2⟩)⟩
  have hxiAE : e1Rg l1 → gtry (kE G) (d + 30) zw_ring 4 [(0, vr 0), (1, vi l1), (2, vr 299)] [vi 0, vr 299] (wq q (fun r9 y q1 => ansK (e1Rg l1) (False) (sRg C lm x l1) x r9 y)) x (.inr iAE) x (gth (kf q)) := by
    intro hno
    refine ⟨⟨n9, r9⟩, ⟨0, 9, 12, 13⟩, 3, 1, wct_ring_iAE, Or.inl ⟨3, rfl, rfl, (dk dtk_L_ring 8 rfl)⟩, by decide, rfl, ?_⟩
    refine T_iconst (v := 1) (dk dtk_L_ring 9 rfl) (by decide +kernel) ?_
    exact T_iret (dk dtk_L_ring 10 rfl) rfl rfl ⟨1, kTh q, rfl, rfl, kTh_U hu, kst_th q, HOI_1 rfl (kTh_U hu) (HOI_th hH), Or.inl ⟨hno, rfl, KR_rf⟩⟩
  refine T_tryF (E := kE G) [vi l1] [vi 0, vr 299] (d + 7) rfl (dk dtk_L_ring 4 rfl) kcv_L_96 rfl kk_0 rfl (kl_0 hu.1) (by omega) (Nat.le_of_ble_eq_true rfl) (Nat.le_of_ble_eq_true rfl) (gok_i (av_c (gkr m0) (av_c rfl (av_c (gkr m9) av_n))) (as_c rfl (as_c (gkr m9) as_n))) rfl n9 ?_
  refine T_mono (ka_ring (d := d) hj hu.1 hH l1 (P := fun v9 y9 => ∃ r, v9 = some (vi r) ∧ HOI y9 q ∧ ¬ (e1Rg l1) ∧ ¬ (False) ∧ sRg C lm x l1 r y9) (X := fun c9 y9 => ((c9 = iAE ∧ e1Rg l1)) ∧ y9 = x) (fun h9 => ⟨⟨rfl, h9⟩, rfl⟩) (fun h8 h9 r y h1 h2 => ⟨r, rfl, h1, h8, h9, h2⟩)) (fun o9 x9 f9 w9 => ?_)
  rcases w9 with ⟨rfl, v, rfl, r, rfl, h1, h2⟩ | ⟨rfl, c9, rfl, hc, rfl⟩
  · exact ⟨⟨n9, r9⟩, ⟨r, rfl⟩, hend r (xo x x9) q hu (kst_rf q) (HOI_1 rfl hu h1) h2⟩
  · obtain ⟨rfl, hno⟩ := hc
    exact hxiAE hno
end
section
/-! the law: two worlds side by side -/
abbrev yLaw : gy := (yL_law, cL_law, 7, some .boolean, [])
abbrev mg (G : kG) : mG := (G.1, G.2.1, G.2.2.1, G.2.2.2, 0, 0)
section LAW
variable {p : Program} {l : Launch} {e : Env} {R : Room} {s : State} {m : MethodId} {args : Array Value} {below : List Frame} {meth : Method} {c : Code} {H : Heap} {locs : List Loc} {cells slots : Nat} {Q : State → Prop} {pc : Nat} {ls : Array Slot} {A : Nat → Prop} {D : Nat} {y z : gy} {E : gE} {x : gd} {f : gf} {ad : Nat → Nat} {restv : List Value}
/-- behind a call that answers an int -/
theorem L_out {mc ms : Nat} {stk : List Value} {r : Int32} {x1 : gd} {f1 : gf} {av : Array Value} (hrun : vx_Run p l e R s m args below meth c H locs cells slots mc ms (F0 m pc ls stk) restv (gQc E (gA f ad H.size) f ad (.inl (some (vi r))) x1 f1 av) (gXC E (gA f ad H.size) f ad (.inl (some (vi r))) x1 f1) (gA f ad H.size)) (hP : gP E x f ad A H) (hS : va_S A s.heap H locs) (hA : ∀ q : Nat, s.heap.size ≤ q → A q)
    (kk : ∀ (ad1 : Nat → Nat) (H1 : Heap) (locs1 : List Loc), gex f ad ad1 → gP E x1 f1 ad1 (gA f ad H.size) H1 → (∀ q : Nat, q < H.size → ¬ gA f ad H.size q → H1[q]? = H[q]?) → va_S A s.heap H1 locs1 → W p l e R s m args below meth c H1 locs1 (cells + mc) (slots + ms) Q (F0 m (pc + 3) ls (.int r :: restv))) :
    W p l e R s m args below meth c H locs cells slots Q (F0 m pc ls stk) := by
  intro T9 hT X
  rcases hrun T9 hT X with ⟨v', st₀, t, T', L, h0, X', hL, e1, e2, ⟨ad1, hex, ⟨v2, ev1, ev2⟩, hP1, hF⟩, stp⟩ | ⟨q, st₀, t, T', L, X0, ce, h0, X', hL, e1, e2, ⟨ad1, hex, hn, -⟩, -⟩
  · cases ev1
    cases ev2
    have hin := gA_in (sz := H.size) hP (fun q hq => hA q (Nat.le_trans hS.1 hq))
    obtain ⟨k1, k2, k3⟩ := vx_keep h0 e1 hS (fun q _ h => hin q h) hin hL hF
    obtain ⟨t2, s1, s2⟩ := kk ad1 T'.heap (locs ++ L) hex (by rw [e1]; exact hP1) k2 k3 T' rfl X'
    exact ⟨t2, stp t2 s1, s2⟩
  · cases hn
/-- an instance's method, of a world of its own -/
theorem L_V {cr ci idx n : Nat} {sl : List Bool} {QQ : gr → gd → gf → Prop} {stk : List Value} (C : gC E D y p R s m args meth c A) (hP : gP E x f ad A H) (hS : va_S A s.heap H locs) (hls : ls.size = y.2.2.1) (As : List gv) (d1 : Nat) (hstk : stk = (As.map (gcv ad)).reverse ++ Value.ref (ad cr) :: restv) (hd : decode y.2.1 pc = .ok (.invokevirtual idx, 3)) (hM : gMv y.1.cls idx z n) (hn : As.length = n) (hK : E.2.2.2.1 cr = .inl (ci, sl)) (hcl : (vwCl[ci]?).map (fun r => r.1) = some z.1.cls) (hc : cr ∈ f.2.1) (hd1 : d1 + 1 ≤ D)
    (hfit : gsz (vr cr :: As) ≤ z.2.2.1) (hcat : (restv.map fun v => v.category).sum ≤ 8) (k : T E d1 z 0 (glv 0 (vr cr :: As)) [] x f QQ) (hQ : ∀ o x1 f1, QQ o x1 f1 → ∃ r : Int32, o = .inl (some (vi r))) (hroom9 : ∀ o x1 f1, QQ o x1 f1 → gle f f1 → cells + (f1.2.2.1 - f.2.2.1) ≤ R.cells ∧ slots + (f1.2.2.2 - f.2.2.2) ≤ R.slots)
    (kk : ∀ (r : Int32) (x1 : gd) (f1 : gf) (ad1 : Nat → Nat) (H1 : Heap) (locs1 : List Loc), QQ (.inl (some (vi r))) x1 f1 → gle f f1 → gex f ad ad1 → gP E x1 f1 ad1 (gA f ad H.size) H1 → (∀ q : Nat, q < H.size → ¬ gA f ad H.size q → H1[q]? = H[q]?) → va_S A s.heap H1 locs1 → W p E.1 e R s m args below meth c H1 locs1 (cells + (f1.2.2.1 - f.2.2.1)) (slots + (f1.2.2.2 - f.2.2.2)) Q (F0 m (pc + 3) ls (.int r :: restv))) :
    W p E.1 e R s m args below meth c H locs cells slots Q (F0 m pc ls stk) := by
  obtain ⟨⟨m1, m2, m3, m4, m5⟩, m6, m7, m8⟩ := hM
  obtain ⟨o1, x1, f1, hk, hle, hw1⟩ := k
  obtain ⟨r, rfl⟩ := hQ o1 x1 f1 hk
  obtain ⟨hc1, hs1⟩ := hroom9 _ x1 f1 hk hle
  obtain ⟨i, hi0, hi⟩ := gwl_at (E := E) (x := x) (ad := ad) hc
  rw [gce_obj hK] at hi
  have hr9 : ∃ r : vw_C, vwCl[ci]? = some r ∧ r.1 = z.1.cls := by
    cases h9 : vwCl[ci]? with
    | none => rw [h9] at hcl; cases hcl
    | some r => rw [h9] at hcl; exact ⟨r, rfl, Option.some.inj hcl⟩
  obtain ⟨r9, hr1, hr2⟩ := hr9
  have hrec := va_recv C.2.2.2.1.1 hP.1.1 hr1 hi
  rw [hr2] at hrec
  have hG : GoodIn W0 (wsV y.1.cls idx z.1.cls z.1 (gws z)) := by
    intro w hw
    rcases List.mem_append.mp hw with h | h
    · refine W0_good w ?_
      simp only [List.mem_cons, List.not_mem_nil, or_false] at h
      rcases h with rfl | rfl | rfl | rfl
      · exact m1
      · exact m2
      · exact m3
      · exact m4
    · exact gwsz m5 w h
  have hroom : 8 + (z.2.2.1 + 11) + 41 * d1 ≤ R.locals := by
    have hq := C.2.2.1.2
    omega
  refine L_out (E := E) (x := x) (f := f) (ad := ad) (r := r) (x1 := x1) (f1 := f1) (mc := f1.2.2.1 - f.2.2.1) (ms := f1.2.2.2 - f.2.2.2) (av := ((vr cr :: As).map (gcv ad)).toArray) ?_ hP hS C.2.2.2.2 (fun ad1 H1 locs1 g1 g2 g3 g4 => kk r x1 f1 ad1 H1 locs1 hk hle g1 g2 g3 g4)
  cases hz : z.2.2.2.2 with
  | nil =>
    exact vx_runV (As := As.map (gcv ad)) (C := z.1.cls) (b := ad cr) (Pc := va_Pc ((vr cr :: As).map (gcv ad)) (gst E x f ad H.size)) ⟨C.1.1, C.1.2.1, C.1.2.2.1, C.1.2.2.2.1, C.1.2.2.2.2⟩ (gM_of C.2.2.2.1.2.2.2 m7 hfit hw1 ad H.size)
      (cwV (bytes := z.2.1) (maxL := z.2.2.1) (ret := z.2.2.2.1) (ws' := W0) n C.1.2.2.2.2 hG (by rw [gws, gcw, hz]) rfl rfl ⟨rfl, m6⟩ ⟨Nat.le_trans hd1 C.2.2.1.1, hroom⟩) ⟨gst_blind, hrec, fun U hU hW => ⟨rfl, gst_in C hP hS hU hW⟩⟩ rfl (by rw [List.length_map]; exact hn) hls hstk (lv_room hcat) hd ⟨hc1, hs1⟩
  | cons a9 b9 =>
    exact vx_runVX (hh := a9 :: b9) (As := As.map (gcv ad)) (C := z.1.cls) (b := ad cr) (Pc := va_Pc ((vr cr :: As).map (gcv ad)) (gst E x f ad H.size)) ⟨C.1.1, C.1.2.1, C.1.2.2.1, C.1.2.2.2.1, C.1.2.2.2.2⟩ (gM_of C.2.2.2.1.2.2.2 m7 hfit hw1 ad H.size)
      (vx_cwVW (bytes := z.2.1) (maxL := z.2.2.1) (ret := z.2.2.2.1) (hh := a9 :: b9) (ws' := W0) n C.1.2.2.2.2 hG (by rw [gws, gcw, hz]) rfl rfl ⟨rfl, m6⟩ ⟨Nat.le_trans hd1 C.2.2.1.1, hroom⟩) ⟨gst_blind, hrec, fun U hU hW => ⟨rfl, gst_in C hP hS hU hW⟩⟩ rfl (by rw [List.length_map]; exact hn) hls hstk (lv_room hcat) hd ⟨hc1, hs1⟩
/-- a helper of the law -/
theorem L_S {idx n : Nat} {QQ : gr → gd → gf → Prop} {stk : List Value} (C : gC E D y p R s m args meth c A) (hP : gP E x f ad A H) (hS : va_S A s.heap H locs) (hls : ls.size = y.2.2.1) (As : List gv) (d1 : Nat) (hstk : stk = (As.map (gcv ad)).reverse ++ restv) (hd : decode y.2.1 pc = .ok (.invokestatic idx, 3)) (hM : gMs y.1.cls idx z n) (hn : As.length = n) (hd1 : d1 + 1 ≤ D) (hz0 : z.2.2.2.2 ≠ [])
    (hfit : gsz As ≤ z.2.2.1) (hcat : (restv.map fun v => v.category).sum ≤ 8) (k : T E d1 z 0 (glv 0 As) [] x f QQ) (hQ : ∀ o x1 f1, QQ o x1 f1 → ∃ r : Int32, o = .inl (some (vi r))) (hroom9 : ∀ o x1 f1, QQ o x1 f1 → gle f f1 → cells + (f1.2.2.1 - f.2.2.1) ≤ R.cells ∧ slots + (f1.2.2.2 - f.2.2.2) ≤ R.slots)
    (kk : ∀ (r : Int32) (x1 : gd) (f1 : gf) (ad1 : Nat → Nat) (H1 : Heap) (locs1 : List Loc), QQ (.inl (some (vi r))) x1 f1 → gle f f1 → gex f ad ad1 → gP E x1 f1 ad1 (gA f ad H.size) H1 → (∀ q : Nat, q < H.size → ¬ gA f ad H.size q → H1[q]? = H[q]?) → va_S A s.heap H1 locs1 → W p E.1 e R s m args below meth c H1 locs1 (cells + (f1.2.2.1 - f.2.2.1)) (slots + (f1.2.2.2 - f.2.2.2)) Q (F0 m (pc + 3) ls (.int r :: restv))) :
    W p E.1 e R s m args below meth c H locs cells slots Q (F0 m pc ls stk) := by
  obtain ⟨⟨m1, m2, m4, m5⟩, m6, m7, m8⟩ := hM
  obtain ⟨o1, x1, f1, hk, hle, hw1⟩ := k
  obtain ⟨r, rfl⟩ := hQ o1 x1 f1 hk
  obtain ⟨hc1, hs1⟩ := hroom9 _ x1 f1 hk hle
  have hroom : 8 + (z.2.2.1 + 11) + 41 * d1 ≤ R.locals := by
    have hq := C.2.2.1.2
    omega
  refine L_out (E := E) (x := x) (f := f) (ad := ad) (r := r) (x1 := x1) (f1 := f1) (mc := f1.2.2.1 - f.2.2.1) (ms := f1.2.2.2 - f.2.2.2) (av := (As.map (gcv ad)).toArray) ?_ hP hS C.2.2.2.2 (fun ad1 H1 locs1 g1 g2 g3 g4 => kk r x1 f1 ad1 H1 locs1 hk hle g1 g2 g3 g4)
  cases hz : z.2.2.2.2 with
  | nil => exact absurd hz hz0
  | cons a9 b9 =>
    have hG : GoodIn W0 (va_wsS y.1.cls idx z.1 (gws z)) := by
      intro w hw
      rcases List.mem_append.mp hw with h | h
      · refine W0_good w ?_
        simp only [List.mem_cons, List.not_mem_nil, or_false] at h
        rcases h with rfl | rfl | rfl
        · exact m1
        · exact m2
        · exact m4
      · exact gwsz m5 w h
    exact vx_runSX (hh := a9 :: b9) (As := As.map (gcv ad)) (Pc := va_Pc (As.map (gcv ad)) (gst E x f ad H.size)) ⟨C.1.1, C.1.2.1, C.1.2.2.1, C.1.2.2.2.1, C.1.2.2.2.2⟩ (gM_of C.2.2.2.1.2.2.2 m7 hfit hw1 ad H.size)
      (vx_cwSW (bytes := z.2.1) (maxL := z.2.2.1) (ret := z.2.2.2.1) (hh := a9 :: b9) (ws' := W0) n C.1.2.2.2.2 hG (by rw [gws, gcw, hz]) rfl rfl m6 ⟨Nat.le_trans hd1 C.2.2.1.1, hroom⟩) ⟨gst_blind, fun U hU hW => ⟨rfl, gst_in C hP hS hU hW⟩⟩ rfl (by rw [List.length_map]; exact hn) hls hstk (lv_room hcat) hd ⟨hc1, hs1⟩
end LAW
/-- the two worlds, apart; where their objects lie -/
def LI (G : kG) (A : Nat → Prop) (H : Heap) (x : gd) (q : kP) (w : gd) (x0 m0 o0 : Nat) : Prop := ∃ ak am : Nat → Nat, gP (wE (kE G)) x (fo (kf q)) ak A H ∧ gP (mE (mg G)) w (mf (mg G)) am A H ∧ gdis (fo (kf q)) ak (mf (mg G)) am ∧ ak 0 = x0 ∧ ak 299 = o0 ∧ am 0 = m0
theorem gdis_s {f1 f2 : gf} {a1 a2 : Nat → Nat} (h : gdis f1 a1 f2 a2) : gdis f2 a2 f1 a1 := fun c hc c' hc' e => h c' hc' c hc e.symm
section LAX
variable {p : Program} {e : Env} {R : Room} {s : State} {m : MethodId} {args : Array Value} {below : List Frame} {meth : Method} {c : Code} {H : Heap} {locs : List Loc} {c0 s0 : Nat} {Q : State → Prop} {pc : Nat} {ls : Array Slot} {A : Nat → Prop} {G : kG} {z : gy} {x w : gd} {q : kP} {x0 m0 o0 : Nat} {restv : List Value}
/-- a helper is called -/
theorem LI_S {idx n : Nat} {P : Int32 → gd → kP → Prop} (C : gC (wE (kE G)) 1000 yLaw p R s m args meth c A) (hI : LI G A H x q w x0 m0 o0) (hu : kU q) (hS : va_S A s.heap H locs) (hls : ls.size = 7) (As : List gv) (vs : List Value) (hvs : ∀ ad : Nat → Nat, As.map (gcv ad) = vs) (hd : decode cL_law pc = .ok (.invokestatic idx, 3)) (hM : gMs RL idx z n) (hn : As.length + 2 = n) (hz0 : z.2.2.2.2 ≠ []) (hfit : gsz (vr 0 :: As ++ [vr 299]) ≤ z.2.2.1)
    (k : T (wE (kE G)) 900 z 0 (glv 0 (vr 0 :: As ++ [vr 299])) [] x (fo (kf q)) (wq q P)) (hroom : ∀ q1, kU q1 → kst q q1 → q1.ce + c0 ≤ R.cells ∧ q1.sl + s0 ≤ R.slots)
    (kk : ∀ (r : Int32) (x1 : gd) (q1 : kP) (H1 : Heap) (locs1 : List Loc), LI G A H1 x1 q1 w x0 m0 o0 → kU q1 → kst q q1 → HOI x1 q1 → P r x1 q1 → va_S A s.heap H1 locs1 → W p G.1 e R s m args below meth c H1 locs1 (q1.ce + c0) (q1.sl + s0) Q (F0 m (pc + 3) ls [.int r])) :
    W p G.1 e R s m args below meth c H locs (q.ce + c0) (q.sl + s0) Q (F0 m pc ls (.ref o0 :: (vs.reverse ++ [.ref x0]))) := by
  obtain ⟨ak, am, hP1, hP2, hdis, e0, e9, em⟩ := hI
  have l0 : 0 ∈ (fo (kf q)).2.1 := List.mem_append_left _ (kl_0 hu.1)
  have l9 : 299 ∈ (fo (kf q)).2.1 := List.mem_append_right _ (List.mem_singleton.mpr rfl)
  have hc9 : ∀ {q1 : kP}, gle (fo (kf q)) (fo (kf q1)) → q.ce + c0 + (q1.ce - q.ce) = q1.ce + c0 ∧ q.sl + s0 + (q1.sl - q.sl) = q1.sl + s0 := fun {q1} h => by
    have a1 : q.ce ≤ q1.ce := h.2.1
    have a2 : q.sl ≤ q1.sl := h.2.2
    omega
  refine L_S (E := wE (kE G)) (y := yLaw) (restv := []) (f := fo (kf q)) (ad := ak) C hP1 hS hls (vr 0 :: As ++ [vr 299]) 900 ?_ hd hM (by rw [← hn]; simp) (by omega) hz0 hfit (by decide) k (fun o x1 f1 h => by obtain ⟨r, q1, h1, -⟩ := h; exact ⟨r, h1⟩) (fun o x1 f1 h hle => ?_) (fun r x1 f1 ad1 H1 locs1 h hle hex hPn hkp hS1 => ?_)
  · rw [List.map_append, List.map_cons, hvs, ← e0, ← e9]
    simp [gcv]
  · obtain ⟨r, q1, -, rfl, hu1, hk1, -⟩ := h
    obtain ⟨a1, a2⟩ := hc9 hle
    obtain ⟨b1, b2⟩ := hroom q1 hu1 hk1
    exact ⟨by show q.ce + c0 + (q1.ce - q.ce) ≤ _; rw [a1]; exact b1, by show q.sl + s0 + (q1.sl - q.sl) ≤ _; rw [a2]; exact b2⟩
  · obtain ⟨r', q1, hr, rfl, hu1, hk1, hH1, hp1⟩ := h
    cases hr
    obtain ⟨a1, a2⟩ := hc9 hle
    obtain ⟨kp1, kp2⟩ := keep2 hP2 hdis hkp hPn
    have hin := gA_in (sz := H.size) hP1 (fun q hq => C.2.2.2.2 q (Nat.le_trans hS.1 hq))
    have hkk := kk r x1 q1 H1 locs1 ⟨ad1, am, gP_w hPn hin, kp1, kp2, (hex.1 0 l0).trans e0, (hex.1 299 l9).trans e9, em⟩ hu1 hk1 hH1 hp1 hS1
    show W p G.1 e R s m args below meth c H1 locs1 (q.ce + c0 + (q1.ce - q.ce)) (q.sl + s0 + (q1.sl - q.sl)) Q _
    rw [a1, a2]; exact hkk
/-- a method of the class is called -/
theorem LI_K {idx : Nat} {P : Int32 → gd → kP → Prop} (C : gC (wE (kE G)) 1000 yLaw p R s m args meth c A) (hI : LI G A H x q w x0 m0 o0) (hu : kU q) (hS : va_S A s.heap H locs) (hls : ls.size = 7) (hd : decode cL_law pc = .ok (.invokevirtual idx, 3)) (hM : gMv RL idx z 0) (hcl : (vwCl[11]?).map (fun r => r.1) = some z.1.cls) (hfit : gsz [vr 0] ≤ z.2.2.1) (hcat : (restv.map fun v => v.category).sum ≤ 8)
    (k : T (kE G) 900 z 0 (glv 0 [vr 0]) [] x (kf q) (fun o x1 f1 => ∃ (r : Int32) (q1 : kP), o = .inl (some (vi r)) ∧ f1 = kf q1 ∧ kU q1 ∧ kst q q1 ∧ HOI x1 q1 ∧ P r x1 q1)) (hroom : ∀ q1, kU q1 → kst q q1 → q1.ce + c0 ≤ R.cells ∧ q1.sl + s0 ≤ R.slots)
    (kk : ∀ (r : Int32) (x1 x2 : gd) (q1 : kP) (H1 : Heap) (locs1 : List Loc), LI G A H1 x1 q1 w x0 m0 o0 → kU q1 → kst q q1 → HOI x1 q1 → P r x2 q1 → x1.1 = x2.1 → va_S A s.heap H1 locs1 → W p G.1 e R s m args below meth c H1 locs1 (q1.ce + c0) (q1.sl + s0) Q (F0 m (pc + 3) ls (.int r :: restv))) :
    W p G.1 e R s m args below meth c H locs (q.ce + c0) (q.sl + s0) Q (F0 m pc ls (.ref x0 :: restv)) := by
  obtain ⟨ak, am, hP1, hP2, hdis, e0, e9, em⟩ := hI
  obtain ⟨hPk, hPO, hdO⟩ := fo_sp (n299 hu) hP1
  have l0 : 0 ∈ (kf q).2.1 := kl_0 hu.1
  have l9 : 299 ∈ (fo (kf q)).2.1 := List.mem_append_right _ (List.mem_singleton.mpr rfl)
  have hdk : gdis (kf q) ak (mf (mg G)) am := fun c hc c' hc' => hdis c (List.mem_append_left _ hc) c' hc'
  have hc9 : ∀ {q1 : kP}, gle (kf q) (kf q1) → q.ce + c0 + (q1.ce - q.ce) = q1.ce + c0 ∧ q.sl + s0 + (q1.sl - q.sl) = q1.sl + s0 := fun {q1} h => by
    have a1 : q.ce ≤ q1.ce := h.2.1
    have a2 : q.sl ≤ q1.sl := h.2.2
    omega
  have C1 : gC (kE G) 1000 yLaw p R s m args meth c A := C
  refine L_V (E := kE G) (y := yLaw) (cr := 0) (ci := 11) (f := kf q) (ad := ak) C1 hPk hS hls [] 900 (by rw [← e0]; rfl) hd hM rfl kk_0 hcl l0 (by omega) hfit hcat k (fun o x1 f1 h => by obtain ⟨r, q1, h1, -⟩ := h; exact ⟨r, h1⟩) (fun o x1 f1 h hle => ?_) (fun r x1 f1 ad1 H1 locs1 h hle hex hPn hkp hS1 => ?_)
  · obtain ⟨r, q1, -, rfl, hu1, hk1, -⟩ := h
    obtain ⟨a1, a2⟩ := hc9 hle
    obtain ⟨b1, b2⟩ := hroom q1 hu1 hk1
    exact ⟨by show q.ce + c0 + (q1.ce - q.ce) ≤ _; rw [a1]; exact b1, by show q.sl + s0 + (q1.sl - q.sl) ≤ _; rw [a2]; exact b2⟩
  · obtain ⟨r', q1, hr, rfl, hu1, hk1, hH1, hp1⟩ := h
    cases hr
    obtain ⟨a1, a2⟩ := hc9 hle
    obtain ⟨kp1, kp2⟩ := keep2 hP2 hdk hkp hPn
    obtain ⟨ko1, ko2⟩ := keep2 hPO hdO hkp hPn
    have hin := gA_in (sz := H.size) hPk (fun q hq => C.2.2.2.2 q (Nat.le_trans hS.1 hq))
    have n1 := n299 hu1
    have hPx := fo_mv n1 (kU_NR hu1 n1) hPn hin ko1 ko2
    have ne : ∀ c ∈ (kf q1).2.1, ¬ c = 299 := fun c hc e => n1 (e ▸ hc)
    have hkk := kk r (xo x x1) x1 q1 H1 locs1 ⟨ao ak ad1, am, hPx, kp1, fun c hc c' hc' => by
      rcases List.mem_append.mp hc with h | h
      · rw [show ao ak ad1 c = ad1 c from if_neg (ne c h)]; exact kp2 c h c' hc'
      · rw [List.mem_singleton.mp h, show ao ak ad1 299 = ak 299 from if_pos rfl]; exact hdis 299 l9 c' hc', by
      rw [show ao ak ad1 0 = ad1 0 from if_neg (by omega), hex.1 0 l0]; exact e0, by
      rw [show ao ak ad1 299 = ak 299 from if_pos rfl]; exact e9, em⟩ hu1 hk1 (HOI_1 rfl hu1 hH1) hp1 rfl hS1
    show W p G.1 e R s m args below meth c H1 locs1 (q.ce + c0 + (q1.ce - q.ce)) (q.sl + s0 + (q1.sl - q.sl)) Q _
    rw [a1, a2]; exact hkk
/-- a method of the model is called -/
theorem LI_M {idx n : Nat} {F : Int32 → gd → Prop} {cells slots d1 : Nat} (C : gC (wE (kE G)) 1000 yLaw p R s m args meth c A) (hI : LI G A H x q w x0 m0 o0) (hS : va_S A s.heap H locs) (hls : ls.size = 7) (As : List gv) (vs : List Value) (hvs : ∀ ad : Nat → Nat, As.map (gcv ad) = vs) (hd : decode cL_law pc = .ok (.invokevirtual idx, 3)) (hM : gMv RL idx z n) (hn : As.length = n) (hcl : (vwCl[12]?).map (fun r => r.1) = some z.1.cls) (hfit : gsz (vr 0 :: As) ≤ z.2.2.1) (hcat : (restv.map fun v => v.category).sum ≤ 8) (hd1 : d1 ≤ 900)
    (k : MT (mg G) d1 z 0 (glv 0 (vr 0 :: As)) [] w (ri F)) (hroom : cells ≤ R.cells ∧ slots ≤ R.slots)
    (kk : ∀ (r : Int32) (w1 : gd) (H1 : Heap) (locs1 : List Loc), LI G A H1 x q w1 x0 m0 o0 → F r w1 → va_S A s.heap H1 locs1 → W p G.1 e R s m args below meth c H1 locs1 cells slots Q (F0 m (pc + 3) ls (.int r :: restv))) :
    W p G.1 e R s m args below meth c H locs cells slots Q (F0 m pc ls (vs.reverse ++ .ref m0 :: restv)) := by
  obtain ⟨ak, am, hP1, hP2, hdis, e0, e9, em⟩ := hI
  have l0 : 0 ∈ (mf (mg G)).2.1 := ml_0
  have C1 : gC (mE (mg G)) 1000 yLaw p R s m args meth c A := C
  refine L_V (E := mE (mg G)) (y := yLaw) (cr := 0) (ci := 12) (f := mf (mg G)) (ad := am) C1 hP2 hS hls As d1 (by rw [← em, hvs]) hd hM hn mk_0 hcl l0 (by omega) hfit hcat k (fun o x1 f1 h => by obtain ⟨-, v, rfl, r, rfl, -⟩ := h; exact ⟨r, rfl⟩) (fun o x1 f1 h hle => ?_) (fun r x1 f1 ad1 H1 locs1 h hle hex hPn hkp hS1 => ?_)
  · obtain ⟨rfl, -⟩ := h
    exact hroom
  · obtain ⟨rfl, v, hv, r', hr, hF⟩ := h
    cases hv
    cases hr
    obtain ⟨kp1, kp2⟩ := keep2 hP1 (gdis_s hdis) hkp hPn
    have hin := gA_in (sz := H.size) hP2 (fun q hq => C.2.2.2.2 q (Nat.le_trans hS.1 hq))
    exact kk r x1 H1 locs1 ⟨ak, ad1, kp1, gP_w hPn hin, gdis_s kp2, e0, e9, (hex.1 0 l0).trans em⟩ hF hS1
/-- what a helper left is read -/
theorem LI_O {c0 s0 : Nat} {restv : List Value} (C : gC (wE (kE G)) 1000 yLaw p R s m args meth c A) (hI : LI G A H x q w x0 m0 o0) (hd : decode cL_law pc = .ok (.laload, 1)) (kk : W p G.1 e R s m args below meth c H locs c0 s0 Q (F0 m (pc + 1) ls (.long (x.2 299 (0 : Int32).toNatClampNeg) :: restv))) : W p G.1 e R s m args below meth c H locs c0 s0 Q (F0 m pc ls (.int 0 :: .ref o0 :: restv)) := by
  obtain ⟨ak, am, hP1, hP2, hdis, e0, e9, em⟩ := hI
  have l9 : 299 ∈ (fo (kf q)).2.1 := List.mem_append_right _ (List.mem_singleton.mpr rfl)
  obtain ⟨i, -, hi⟩ := gwl_at (E := wE (kE G)) (x := x) (ad := ak) l9
  rw [gce_arr wE_9] at hi
  rw [← e9]
  exact va_lald C.1.1 C.1.2.1 C.2.2.2.1.1 hP1.1.1 i 3 hi rfl (vin0 (by omega)) hd kk
theorem lg_self (a : Int64) : lg_cmp a a = 0 := by
  unfold lg_cmp
  rw [if_neg (fun h => by rw [gt_iff_lt, Int64.lt_iff_toInt_lt] at h; omega), if_pos rfl]
theorem sp_thrown {G : mG} {d : Nat} {w : gd} {F : Int32 → gd → Prop} (h : F (w.1 0 0) w) : MT G (d + 1) z_thrown 0 [(0, vr 0)] [] w (ri F) := sg_thrown_0 ⟨_, rfl, h⟩
end LAX
end
section
set_option maxRecDepth 100000 in
theorem dlw_0 : decode cL_law 0 = .ok (.new 8, 3) := by decide +kernel
set_option maxRecDepth 100000 in
theorem dlw_3 : decode cL_law 3 = .ok (.dup, 1) := by decide +kernel
set_option maxRecDepth 100000 in
theorem dlw_4 : decode cL_law 4 = .ok (.invokespecial 99, 3) := by decide +kernel
set_option maxRecDepth 100000 in
theorem dlw_7 : decode cL_law 7 = .ok (.astore_n 1, 1) := by decide +kernel
set_option maxRecDepth 100000 in
theorem dlw_8 : decode cL_law 8 = .ok (.new 100, 3) := by decide +kernel
set_option maxRecDepth 100000 in
theorem dlw_11 : decode cL_law 11 = .ok (.dup, 1) := by decide +kernel
set_option maxRecDepth 100000 in
theorem dlw_12 : decode cL_law 12 = .ok (.invokespecial 102, 3) := by decide +kernel
set_option maxRecDepth 100000 in
theorem dlw_15 : decode cL_law 15 = .ok (.astore_n 2, 1) := by decide +kernel
set_option maxRecDepth 100000 in
theorem dlw_16 : decode cL_law 16 = .ok (.iconst 1, 1) := by decide +kernel
set_option maxRecDepth 100000 in
theorem dlw_17 : decode cL_law 17 = .ok (.newarray .long, 2) := by decide +kernel
set_option maxRecDepth 100000 in
theorem dlw_19 : decode cL_law 19 = .ok (.astore_n 3, 1) := by decide +kernel
set_option maxRecDepth 100000 in
theorem dlw_20 : decode cL_law 20 = .ok (.iconst 0, 1) := by decide +kernel
set_option maxRecDepth 100000 in
theorem dlw_21 : decode cL_law 21 = .ok (.istore 4, 2) := by decide +kernel
set_option maxRecDepth 100000 in
theorem dlw_23 : decode cL_law 23 = .ok (.iload 4, 2) := by decide +kernel
set_option maxRecDepth 100000 in
theorem dlw_25 : decode cL_law 25 = .ok (.aload_n 0, 1) := by decide +kernel
set_option maxRecDepth 100000 in
theorem dlw_26 : decode cL_law 26 = .ok (.arraylength, 1) := by decide +kernel
set_option maxRecDepth 100000 in
theorem dlw_27 : decode cL_law 27 = .ok (.iconst 4, 1) := by decide +kernel
set_option maxRecDepth 100000 in
theorem dlw_28 : decode cL_law 28 = .ok (.isub, 1) := by decide +kernel
set_option maxRecDepth 100000 in
theorem dlw_29 : decode cL_law 29 = .ok (.if_icmp .gt 1164, 3) := by decide +kernel
set_option maxRecDepth 100000 in
theorem dlw_32 : decode cL_law 32 = .ok (.aload_n 0, 1) := by decide +kernel
set_option maxRecDepth 100000 in
theorem dlw_33 : decode cL_law 33 = .ok (.iload 4, 2) := by decide +kernel
set_option maxRecDepth 100000 in
theorem dlw_35 : decode cL_law 35 = .ok (.iaload, 1) := by decide +kernel
set_option maxRecDepth 100000 in
theorem dlw_36 : decode cL_law 36 = .ok (.bipush 31, 2) := by decide +kernel
set_option maxRecDepth 100000 in
theorem dlw_38 : decode cL_law 38 = .ok (.iand, 1) := by decide +kernel
set_option maxRecDepth 100000 in
theorem dlw_39 : decode cL_law 39 = .ok (.tableswitch 1148 0 28 #[129, 201, 214, 227, 255, 283, 311, 327, 367, 395, 435, 463, 491, 519, 559, 599, 639, 679, 719, 759, 799, 827, 867, 907, 987, 1027, 1067, 1107, 1135], 129) := by decide +kernel
set_option maxRecDepth 100000 in
theorem dlw_168 : decode cL_law 168 = .ok (.aload_n 1, 1) := by decide +kernel
set_option maxRecDepth 100000 in
theorem dlw_169 : decode cL_law 169 = .ok (.aload_n 0, 1) := by decide +kernel
set_option maxRecDepth 100000 in
theorem dlw_170 : decode cL_law 170 = .ok (.iload 4, 2) := by decide +kernel
set_option maxRecDepth 100000 in
theorem dlw_172 : decode cL_law 172 = .ok (.iconst 1, 1) := by decide +kernel
set_option maxRecDepth 100000 in
theorem dlw_173 : decode cL_law 173 = .ok (.iadd, 1) := by decide +kernel
set_option maxRecDepth 100000 in
theorem dlw_174 : decode cL_law 174 = .ok (.iaload, 1) := by decide +kernel
set_option maxRecDepth 100000 in
theorem dlw_175 : decode cL_law 175 = .ok (.aload_n 0, 1) := by decide +kernel
set_option maxRecDepth 100000 in
theorem dlw_176 : decode cL_law 176 = .ok (.iload 4, 2) := by decide +kernel
set_option maxRecDepth 100000 in
theorem dlw_178 : decode cL_law 178 = .ok (.iconst 2, 1) := by decide +kernel
set_option maxRecDepth 100000 in
theorem dlw_179 : decode cL_law 179 = .ok (.iadd, 1) := by decide +kernel
set_option maxRecDepth 100000 in
theorem dlw_180 : decode cL_law 180 = .ok (.iaload, 1) := by decide +kernel
set_option maxRecDepth 100000 in
theorem dlw_181 : decode cL_law 181 = .ok (.i2l, 1) := by decide +kernel
set_option maxRecDepth 100000 in
theorem dlw_182 : decode cL_law 182 = .ok (.bipush 32, 2) := by decide +kernel
set_option maxRecDepth 100000 in
theorem dlw_184 : decode cL_law 184 = .ok (.lshl, 1) := by decide +kernel
set_option maxRecDepth 100000 in
theorem dlw_185 : decode cL_law 185 = .ok (.aload_n 0, 1) := by decide +kernel
set_option maxRecDepth 100000 in
theorem dlw_186 : decode cL_law 186 = .ok (.iload 4, 2) := by decide +kernel
set_option maxRecDepth 100000 in
theorem dlw_188 : decode cL_law 188 = .ok (.iconst 3, 1) := by decide +kernel
set_option maxRecDepth 100000 in
theorem dlw_189 : decode cL_law 189 = .ok (.iadd, 1) := by decide +kernel
set_option maxRecDepth 100000 in
theorem dlw_190 : decode cL_law 190 = .ok (.iaload, 1) := by decide +kernel
set_option maxRecDepth 100000 in
theorem dlw_191 : decode cL_law 191 = .ok (.i2l, 1) := by decide +kernel
set_option maxRecDepth 100000 in
theorem dlw_192 : decode cL_law 192 = .ok (.ldc2_w 103, 3) := by decide +kernel
set_option maxRecDepth 100000 in
theorem dlw_195 : decode cL_law 195 = .ok (.land, 1) := by decide +kernel
set_option maxRecDepth 100000 in
theorem dlw_196 : decode cL_law 196 = .ok (.lor, 1) := by decide +kernel
set_option maxRecDepth 100000 in
theorem dlw_197 : decode cL_law 197 = .ok (.aload_n 3, 1) := by decide +kernel
set_option maxRecDepth 100000 in
theorem dlw_198 : decode cL_law 198 = .ok (.invokestatic 105, 3) := by decide +kernel
set_option maxRecDepth 100000 in
theorem dlw_201 : decode cL_law 201 = .ok (.istore 5, 2) := by decide +kernel
set_option maxRecDepth 100000 in
theorem dlw_203 : decode cL_law 203 = .ok (.aload_n 2, 1) := by decide +kernel
set_option maxRecDepth 100000 in
theorem dlw_204 : decode cL_law 204 = .ok (.aload_n 0, 1) := by decide +kernel
set_option maxRecDepth 100000 in
theorem dlw_205 : decode cL_law 205 = .ok (.iload 4, 2) := by decide +kernel
set_option maxRecDepth 100000 in
theorem dlw_207 : decode cL_law 207 = .ok (.iconst 1, 1) := by decide +kernel
set_option maxRecDepth 100000 in
theorem dlw_208 : decode cL_law 208 = .ok (.iadd, 1) := by decide +kernel
set_option maxRecDepth 100000 in
theorem dlw_209 : decode cL_law 209 = .ok (.iaload, 1) := by decide +kernel
set_option maxRecDepth 100000 in
theorem dlw_210 : decode cL_law 210 = .ok (.aload_n 0, 1) := by decide +kernel
set_option maxRecDepth 100000 in
theorem dlw_211 : decode cL_law 211 = .ok (.iload 4, 2) := by decide +kernel
set_option maxRecDepth 100000 in
theorem dlw_213 : decode cL_law 213 = .ok (.iconst 2, 1) := by decide +kernel
set_option maxRecDepth 100000 in
theorem dlw_214 : decode cL_law 214 = .ok (.iadd, 1) := by decide +kernel
set_option maxRecDepth 100000 in
theorem dlw_215 : decode cL_law 215 = .ok (.iaload, 1) := by decide +kernel
set_option maxRecDepth 100000 in
theorem dlw_216 : decode cL_law 216 = .ok (.i2l, 1) := by decide +kernel
set_option maxRecDepth 100000 in
theorem dlw_217 : decode cL_law 217 = .ok (.bipush 32, 2) := by decide +kernel
set_option maxRecDepth 100000 in
theorem dlw_219 : decode cL_law 219 = .ok (.lshl, 1) := by decide +kernel
set_option maxRecDepth 100000 in
theorem dlw_220 : decode cL_law 220 = .ok (.aload_n 0, 1) := by decide +kernel
set_option maxRecDepth 100000 in
theorem dlw_221 : decode cL_law 221 = .ok (.iload 4, 2) := by decide +kernel
set_option maxRecDepth 100000 in
theorem dlw_223 : decode cL_law 223 = .ok (.iconst 3, 1) := by decide +kernel
set_option maxRecDepth 100000 in
theorem dlw_224 : decode cL_law 224 = .ok (.iadd, 1) := by decide +kernel
set_option maxRecDepth 100000 in
theorem dlw_225 : decode cL_law 225 = .ok (.iaload, 1) := by decide +kernel
set_option maxRecDepth 100000 in
theorem dlw_226 : decode cL_law 226 = .ok (.i2l, 1) := by decide +kernel
set_option maxRecDepth 100000 in
theorem dlw_227 : decode cL_law 227 = .ok (.ldc2_w 103, 3) := by decide +kernel
set_option maxRecDepth 100000 in
theorem dlw_230 : decode cL_law 230 = .ok (.land, 1) := by decide +kernel
set_option maxRecDepth 100000 in
theorem dlw_231 : decode cL_law 231 = .ok (.lor, 1) := by decide +kernel
set_option maxRecDepth 100000 in
theorem dlw_232 : decode cL_law 232 = .ok (.invokevirtual 110, 3) := by decide +kernel
set_option maxRecDepth 100000 in
theorem dlw_235 : decode cL_law 235 = .ok (.istore 6, 2) := by decide +kernel
set_option maxRecDepth 100000 in
theorem dlw_237 : decode cL_law 237 = .ok (.goto 950, 3) := by decide +kernel
set_option maxRecDepth 100000 in
theorem dlw_240 : decode cL_law 240 = .ok (.aload_n 1, 1) := by decide +kernel
set_option maxRecDepth 100000 in
theorem dlw_241 : decode cL_law 241 = .ok (.invokevirtual 111, 3) := by decide +kernel
set_option maxRecDepth 100000 in
theorem dlw_244 : decode cL_law 244 = .ok (.pop, 1) := by decide +kernel
set_option maxRecDepth 100000 in
theorem dlw_245 : decode cL_law 245 = .ok (.aload_n 2, 1) := by decide +kernel
set_option maxRecDepth 100000 in
theorem dlw_246 : decode cL_law 246 = .ok (.invokevirtual 114, 3) := by decide +kernel
set_option maxRecDepth 100000 in
theorem dlw_249 : decode cL_law 249 = .ok (.pop, 1) := by decide +kernel
set_option maxRecDepth 100000 in
theorem dlw_250 : decode cL_law 250 = .ok (.goto 937, 3) := by decide +kernel
set_option maxRecDepth 100000 in
theorem dlw_253 : decode cL_law 253 = .ok (.aload_n 1, 1) := by decide +kernel
set_option maxRecDepth 100000 in
theorem dlw_254 : decode cL_law 254 = .ok (.invokevirtual 115, 3) := by decide +kernel
set_option maxRecDepth 100000 in
theorem dlw_257 : decode cL_law 257 = .ok (.pop, 1) := by decide +kernel
set_option maxRecDepth 100000 in
theorem dlw_258 : decode cL_law 258 = .ok (.aload_n 2, 1) := by decide +kernel
set_option maxRecDepth 100000 in
theorem dlw_259 : decode cL_law 259 = .ok (.invokevirtual 118, 3) := by decide +kernel
set_option maxRecDepth 100000 in
theorem dlw_262 : decode cL_law 262 = .ok (.pop, 1) := by decide +kernel
set_option maxRecDepth 100000 in
theorem dlw_263 : decode cL_law 263 = .ok (.goto 924, 3) := by decide +kernel
set_option maxRecDepth 100000 in
theorem dlw_266 : decode cL_law 266 = .ok (.aload_n 1, 1) := by decide +kernel
set_option maxRecDepth 100000 in
theorem dlw_267 : decode cL_law 267 = .ok (.aload_n 0, 1) := by decide +kernel
set_option maxRecDepth 100000 in
theorem dlw_268 : decode cL_law 268 = .ok (.iload 4, 2) := by decide +kernel
set_option maxRecDepth 100000 in
theorem dlw_270 : decode cL_law 270 = .ok (.iconst 1, 1) := by decide +kernel
set_option maxRecDepth 100000 in
theorem dlw_271 : decode cL_law 271 = .ok (.iadd, 1) := by decide +kernel
set_option maxRecDepth 100000 in
theorem dlw_272 : decode cL_law 272 = .ok (.iaload, 1) := by decide +kernel
set_option maxRecDepth 100000 in
theorem dlw_273 : decode cL_law 273 = .ok (.aload_n 3, 1) := by decide +kernel
set_option maxRecDepth 100000 in
theorem dlw_274 : decode cL_law 274 = .ok (.invokestatic 119, 3) := by decide +kernel
set_option maxRecDepth 100000 in
theorem dlw_277 : decode cL_law 277 = .ok (.istore 5, 2) := by decide +kernel
set_option maxRecDepth 100000 in
theorem dlw_279 : decode cL_law 279 = .ok (.aload_n 2, 1) := by decide +kernel
set_option maxRecDepth 100000 in
theorem dlw_280 : decode cL_law 280 = .ok (.aload_n 0, 1) := by decide +kernel
set_option maxRecDepth 100000 in
theorem dlw_281 : decode cL_law 281 = .ok (.iload 4, 2) := by decide +kernel
set_option maxRecDepth 100000 in
theorem dlw_283 : decode cL_law 283 = .ok (.iconst 1, 1) := by decide +kernel
set_option maxRecDepth 100000 in
theorem dlw_284 : decode cL_law 284 = .ok (.iadd, 1) := by decide +kernel
set_option maxRecDepth 100000 in
theorem dlw_285 : decode cL_law 285 = .ok (.iaload, 1) := by decide +kernel
set_option maxRecDepth 100000 in
theorem dlw_286 : decode cL_law 286 = .ok (.invokevirtual 122, 3) := by decide +kernel
set_option maxRecDepth 100000 in
theorem dlw_289 : decode cL_law 289 = .ok (.istore 6, 2) := by decide +kernel
set_option maxRecDepth 100000 in
theorem dlw_291 : decode cL_law 291 = .ok (.goto 896, 3) := by decide +kernel
set_option maxRecDepth 100000 in
theorem dlw_294 : decode cL_law 294 = .ok (.aload_n 1, 1) := by decide +kernel
set_option maxRecDepth 100000 in
theorem dlw_295 : decode cL_law 295 = .ok (.aload_n 0, 1) := by decide +kernel
set_option maxRecDepth 100000 in
theorem dlw_296 : decode cL_law 296 = .ok (.iload 4, 2) := by decide +kernel
set_option maxRecDepth 100000 in
theorem dlw_298 : decode cL_law 298 = .ok (.iconst 1, 1) := by decide +kernel
set_option maxRecDepth 100000 in
theorem dlw_299 : decode cL_law 299 = .ok (.iadd, 1) := by decide +kernel
set_option maxRecDepth 100000 in
theorem dlw_300 : decode cL_law 300 = .ok (.iaload, 1) := by decide +kernel
set_option maxRecDepth 100000 in
theorem dlw_301 : decode cL_law 301 = .ok (.aload_n 3, 1) := by decide +kernel
set_option maxRecDepth 100000 in
theorem dlw_302 : decode cL_law 302 = .ok (.invokestatic 123, 3) := by decide +kernel
set_option maxRecDepth 100000 in
theorem dlw_305 : decode cL_law 305 = .ok (.istore 5, 2) := by decide +kernel
set_option maxRecDepth 100000 in
theorem dlw_307 : decode cL_law 307 = .ok (.aload_n 2, 1) := by decide +kernel
set_option maxRecDepth 100000 in
theorem dlw_308 : decode cL_law 308 = .ok (.aload_n 0, 1) := by decide +kernel
set_option maxRecDepth 100000 in
theorem dlw_309 : decode cL_law 309 = .ok (.iload 4, 2) := by decide +kernel
set_option maxRecDepth 100000 in
theorem dlw_311 : decode cL_law 311 = .ok (.iconst 1, 1) := by decide +kernel
set_option maxRecDepth 100000 in
theorem dlw_312 : decode cL_law 312 = .ok (.iadd, 1) := by decide +kernel
set_option maxRecDepth 100000 in
theorem dlw_313 : decode cL_law 313 = .ok (.iaload, 1) := by decide +kernel
set_option maxRecDepth 100000 in
theorem dlw_314 : decode cL_law 314 = .ok (.invokevirtual 125, 3) := by decide +kernel
set_option maxRecDepth 100000 in
theorem dlw_317 : decode cL_law 317 = .ok (.istore 6, 2) := by decide +kernel
set_option maxRecDepth 100000 in
theorem dlw_319 : decode cL_law 319 = .ok (.goto 868, 3) := by decide +kernel
set_option maxRecDepth 100000 in
theorem dlw_322 : decode cL_law 322 = .ok (.aload_n 1, 1) := by decide +kernel
set_option maxRecDepth 100000 in
theorem dlw_323 : decode cL_law 323 = .ok (.aload_n 0, 1) := by decide +kernel
set_option maxRecDepth 100000 in
theorem dlw_324 : decode cL_law 324 = .ok (.iload 4, 2) := by decide +kernel
set_option maxRecDepth 100000 in
theorem dlw_326 : decode cL_law 326 = .ok (.iconst 1, 1) := by decide +kernel
set_option maxRecDepth 100000 in
theorem dlw_327 : decode cL_law 327 = .ok (.iadd, 1) := by decide +kernel
set_option maxRecDepth 100000 in
theorem dlw_328 : decode cL_law 328 = .ok (.iaload, 1) := by decide +kernel
set_option maxRecDepth 100000 in
theorem dlw_329 : decode cL_law 329 = .ok (.aload_n 3, 1) := by decide +kernel
set_option maxRecDepth 100000 in
theorem dlw_330 : decode cL_law 330 = .ok (.invokestatic 126, 3) := by decide +kernel
set_option maxRecDepth 100000 in
theorem dlw_333 : decode cL_law 333 = .ok (.istore 5, 2) := by decide +kernel
set_option maxRecDepth 100000 in
theorem dlw_335 : decode cL_law 335 = .ok (.aload_n 2, 1) := by decide +kernel
set_option maxRecDepth 100000 in
theorem dlw_336 : decode cL_law 336 = .ok (.aload_n 0, 1) := by decide +kernel
set_option maxRecDepth 100000 in
theorem dlw_337 : decode cL_law 337 = .ok (.iload 4, 2) := by decide +kernel
set_option maxRecDepth 100000 in
theorem dlw_339 : decode cL_law 339 = .ok (.iconst 1, 1) := by decide +kernel
set_option maxRecDepth 100000 in
theorem dlw_340 : decode cL_law 340 = .ok (.iadd, 1) := by decide +kernel
set_option maxRecDepth 100000 in
theorem dlw_341 : decode cL_law 341 = .ok (.iaload, 1) := by decide +kernel
set_option maxRecDepth 100000 in
theorem dlw_342 : decode cL_law 342 = .ok (.invokevirtual 128, 3) := by decide +kernel
set_option maxRecDepth 100000 in
theorem dlw_345 : decode cL_law 345 = .ok (.istore 6, 2) := by decide +kernel
set_option maxRecDepth 100000 in
theorem dlw_347 : decode cL_law 347 = .ok (.goto 840, 3) := by decide +kernel
set_option maxRecDepth 100000 in
theorem dlw_350 : decode cL_law 350 = .ok (.aload_n 1, 1) := by decide +kernel
set_option maxRecDepth 100000 in
theorem dlw_351 : decode cL_law 351 = .ok (.aload_n 3, 1) := by decide +kernel
set_option maxRecDepth 100000 in
theorem dlw_352 : decode cL_law 352 = .ok (.invokestatic 129, 3) := by decide +kernel
set_option maxRecDepth 100000 in
theorem dlw_355 : decode cL_law 355 = .ok (.istore 5, 2) := by decide +kernel
set_option maxRecDepth 100000 in
theorem dlw_357 : decode cL_law 357 = .ok (.aload_n 2, 1) := by decide +kernel
end
section
set_option maxRecDepth 100000 in
theorem dlw_358 : decode cL_law 358 = .ok (.invokevirtual 132, 3) := by decide +kernel
set_option maxRecDepth 100000 in
theorem dlw_361 : decode cL_law 361 = .ok (.istore 6, 2) := by decide +kernel
set_option maxRecDepth 100000 in
theorem dlw_363 : decode cL_law 363 = .ok (.goto 824, 3) := by decide +kernel
set_option maxRecDepth 100000 in
theorem dlw_366 : decode cL_law 366 = .ok (.aload_n 1, 1) := by decide +kernel
set_option maxRecDepth 100000 in
theorem dlw_367 : decode cL_law 367 = .ok (.aload_n 0, 1) := by decide +kernel
set_option maxRecDepth 100000 in
theorem dlw_368 : decode cL_law 368 = .ok (.iload 4, 2) := by decide +kernel
set_option maxRecDepth 100000 in
theorem dlw_370 : decode cL_law 370 = .ok (.iconst 1, 1) := by decide +kernel
set_option maxRecDepth 100000 in
theorem dlw_371 : decode cL_law 371 = .ok (.iadd, 1) := by decide +kernel
set_option maxRecDepth 100000 in
theorem dlw_372 : decode cL_law 372 = .ok (.iaload, 1) := by decide +kernel
set_option maxRecDepth 100000 in
theorem dlw_373 : decode cL_law 373 = .ok (.aload_n 0, 1) := by decide +kernel
set_option maxRecDepth 100000 in
theorem dlw_374 : decode cL_law 374 = .ok (.iload 4, 2) := by decide +kernel
set_option maxRecDepth 100000 in
theorem dlw_376 : decode cL_law 376 = .ok (.iconst 2, 1) := by decide +kernel
set_option maxRecDepth 100000 in
theorem dlw_377 : decode cL_law 377 = .ok (.iadd, 1) := by decide +kernel
set_option maxRecDepth 100000 in
theorem dlw_378 : decode cL_law 378 = .ok (.iaload, 1) := by decide +kernel
set_option maxRecDepth 100000 in
theorem dlw_379 : decode cL_law 379 = .ok (.aload_n 3, 1) := by decide +kernel
set_option maxRecDepth 100000 in
theorem dlw_380 : decode cL_law 380 = .ok (.invokestatic 133, 3) := by decide +kernel
set_option maxRecDepth 100000 in
theorem dlw_383 : decode cL_law 383 = .ok (.istore 5, 2) := by decide +kernel
set_option maxRecDepth 100000 in
theorem dlw_385 : decode cL_law 385 = .ok (.aload_n 2, 1) := by decide +kernel
set_option maxRecDepth 100000 in
theorem dlw_386 : decode cL_law 386 = .ok (.aload_n 0, 1) := by decide +kernel
set_option maxRecDepth 100000 in
theorem dlw_387 : decode cL_law 387 = .ok (.iload 4, 2) := by decide +kernel
set_option maxRecDepth 100000 in
theorem dlw_389 : decode cL_law 389 = .ok (.iconst 1, 1) := by decide +kernel
set_option maxRecDepth 100000 in
theorem dlw_390 : decode cL_law 390 = .ok (.iadd, 1) := by decide +kernel
set_option maxRecDepth 100000 in
theorem dlw_391 : decode cL_law 391 = .ok (.iaload, 1) := by decide +kernel
set_option maxRecDepth 100000 in
theorem dlw_392 : decode cL_law 392 = .ok (.aload_n 0, 1) := by decide +kernel
set_option maxRecDepth 100000 in
theorem dlw_393 : decode cL_law 393 = .ok (.iload 4, 2) := by decide +kernel
set_option maxRecDepth 100000 in
theorem dlw_395 : decode cL_law 395 = .ok (.iconst 2, 1) := by decide +kernel
set_option maxRecDepth 100000 in
theorem dlw_396 : decode cL_law 396 = .ok (.iadd, 1) := by decide +kernel
set_option maxRecDepth 100000 in
theorem dlw_397 : decode cL_law 397 = .ok (.iaload, 1) := by decide +kernel
set_option maxRecDepth 100000 in
theorem dlw_398 : decode cL_law 398 = .ok (.invokevirtual 136, 3) := by decide +kernel
set_option maxRecDepth 100000 in
theorem dlw_401 : decode cL_law 401 = .ok (.istore 6, 2) := by decide +kernel
set_option maxRecDepth 100000 in
theorem dlw_403 : decode cL_law 403 = .ok (.goto 784, 3) := by decide +kernel
set_option maxRecDepth 100000 in
theorem dlw_406 : decode cL_law 406 = .ok (.aload_n 1, 1) := by decide +kernel
set_option maxRecDepth 100000 in
theorem dlw_407 : decode cL_law 407 = .ok (.aload_n 0, 1) := by decide +kernel
set_option maxRecDepth 100000 in
theorem dlw_408 : decode cL_law 408 = .ok (.iload 4, 2) := by decide +kernel
set_option maxRecDepth 100000 in
theorem dlw_410 : decode cL_law 410 = .ok (.iconst 1, 1) := by decide +kernel
set_option maxRecDepth 100000 in
theorem dlw_411 : decode cL_law 411 = .ok (.iadd, 1) := by decide +kernel
set_option maxRecDepth 100000 in
theorem dlw_412 : decode cL_law 412 = .ok (.iaload, 1) := by decide +kernel
set_option maxRecDepth 100000 in
theorem dlw_413 : decode cL_law 413 = .ok (.aload_n 3, 1) := by decide +kernel
set_option maxRecDepth 100000 in
theorem dlw_414 : decode cL_law 414 = .ok (.invokestatic 137, 3) := by decide +kernel
set_option maxRecDepth 100000 in
theorem dlw_417 : decode cL_law 417 = .ok (.istore 5, 2) := by decide +kernel
set_option maxRecDepth 100000 in
theorem dlw_419 : decode cL_law 419 = .ok (.aload_n 2, 1) := by decide +kernel
set_option maxRecDepth 100000 in
theorem dlw_420 : decode cL_law 420 = .ok (.aload_n 0, 1) := by decide +kernel
set_option maxRecDepth 100000 in
theorem dlw_421 : decode cL_law 421 = .ok (.iload 4, 2) := by decide +kernel
set_option maxRecDepth 100000 in
theorem dlw_423 : decode cL_law 423 = .ok (.iconst 1, 1) := by decide +kernel
set_option maxRecDepth 100000 in
theorem dlw_424 : decode cL_law 424 = .ok (.iadd, 1) := by decide +kernel
set_option maxRecDepth 100000 in
theorem dlw_425 : decode cL_law 425 = .ok (.iaload, 1) := by decide +kernel
set_option maxRecDepth 100000 in
theorem dlw_426 : decode cL_law 426 = .ok (.invokevirtual 139, 3) := by decide +kernel
set_option maxRecDepth 100000 in
theorem dlw_429 : decode cL_law 429 = .ok (.istore 6, 2) := by decide +kernel
set_option maxRecDepth 100000 in
theorem dlw_431 : decode cL_law 431 = .ok (.goto 756, 3) := by decide +kernel
set_option maxRecDepth 100000 in
theorem dlw_434 : decode cL_law 434 = .ok (.aload_n 1, 1) := by decide +kernel
set_option maxRecDepth 100000 in
theorem dlw_435 : decode cL_law 435 = .ok (.aload_n 0, 1) := by decide +kernel
set_option maxRecDepth 100000 in
theorem dlw_436 : decode cL_law 436 = .ok (.iload 4, 2) := by decide +kernel
set_option maxRecDepth 100000 in
theorem dlw_438 : decode cL_law 438 = .ok (.iconst 1, 1) := by decide +kernel
set_option maxRecDepth 100000 in
theorem dlw_439 : decode cL_law 439 = .ok (.iadd, 1) := by decide +kernel
set_option maxRecDepth 100000 in
theorem dlw_440 : decode cL_law 440 = .ok (.iaload, 1) := by decide +kernel
set_option maxRecDepth 100000 in
theorem dlw_441 : decode cL_law 441 = .ok (.aload_n 0, 1) := by decide +kernel
set_option maxRecDepth 100000 in
theorem dlw_442 : decode cL_law 442 = .ok (.iload 4, 2) := by decide +kernel
set_option maxRecDepth 100000 in
theorem dlw_444 : decode cL_law 444 = .ok (.iconst 2, 1) := by decide +kernel
set_option maxRecDepth 100000 in
theorem dlw_445 : decode cL_law 445 = .ok (.iadd, 1) := by decide +kernel
set_option maxRecDepth 100000 in
theorem dlw_446 : decode cL_law 446 = .ok (.iaload, 1) := by decide +kernel
set_option maxRecDepth 100000 in
theorem dlw_447 : decode cL_law 447 = .ok (.aload_n 3, 1) := by decide +kernel
set_option maxRecDepth 100000 in
theorem dlw_448 : decode cL_law 448 = .ok (.invokestatic 140, 3) := by decide +kernel
set_option maxRecDepth 100000 in
theorem dlw_451 : decode cL_law 451 = .ok (.istore 5, 2) := by decide +kernel
set_option maxRecDepth 100000 in
theorem dlw_453 : decode cL_law 453 = .ok (.aload_n 2, 1) := by decide +kernel
set_option maxRecDepth 100000 in
theorem dlw_454 : decode cL_law 454 = .ok (.aload_n 0, 1) := by decide +kernel
set_option maxRecDepth 100000 in
theorem dlw_455 : decode cL_law 455 = .ok (.iload 4, 2) := by decide +kernel
set_option maxRecDepth 100000 in
theorem dlw_457 : decode cL_law 457 = .ok (.iconst 1, 1) := by decide +kernel
set_option maxRecDepth 100000 in
theorem dlw_458 : decode cL_law 458 = .ok (.iadd, 1) := by decide +kernel
set_option maxRecDepth 100000 in
theorem dlw_459 : decode cL_law 459 = .ok (.iaload, 1) := by decide +kernel
set_option maxRecDepth 100000 in
theorem dlw_460 : decode cL_law 460 = .ok (.aload_n 0, 1) := by decide +kernel
set_option maxRecDepth 100000 in
theorem dlw_461 : decode cL_law 461 = .ok (.iload 4, 2) := by decide +kernel
set_option maxRecDepth 100000 in
theorem dlw_463 : decode cL_law 463 = .ok (.iconst 2, 1) := by decide +kernel
set_option maxRecDepth 100000 in
theorem dlw_464 : decode cL_law 464 = .ok (.iadd, 1) := by decide +kernel
set_option maxRecDepth 100000 in
theorem dlw_465 : decode cL_law 465 = .ok (.iaload, 1) := by decide +kernel
set_option maxRecDepth 100000 in
theorem dlw_466 : decode cL_law 466 = .ok (.invokevirtual 142, 3) := by decide +kernel
set_option maxRecDepth 100000 in
theorem dlw_469 : decode cL_law 469 = .ok (.istore 6, 2) := by decide +kernel
set_option maxRecDepth 100000 in
theorem dlw_471 : decode cL_law 471 = .ok (.goto 716, 3) := by decide +kernel
set_option maxRecDepth 100000 in
theorem dlw_474 : decode cL_law 474 = .ok (.aload_n 1, 1) := by decide +kernel
set_option maxRecDepth 100000 in
theorem dlw_475 : decode cL_law 475 = .ok (.aload_n 0, 1) := by decide +kernel
set_option maxRecDepth 100000 in
theorem dlw_476 : decode cL_law 476 = .ok (.iload 4, 2) := by decide +kernel
set_option maxRecDepth 100000 in
theorem dlw_478 : decode cL_law 478 = .ok (.iconst 1, 1) := by decide +kernel
set_option maxRecDepth 100000 in
theorem dlw_479 : decode cL_law 479 = .ok (.iadd, 1) := by decide +kernel
set_option maxRecDepth 100000 in
theorem dlw_480 : decode cL_law 480 = .ok (.iaload, 1) := by decide +kernel
set_option maxRecDepth 100000 in
theorem dlw_481 : decode cL_law 481 = .ok (.aload_n 3, 1) := by decide +kernel
set_option maxRecDepth 100000 in
theorem dlw_482 : decode cL_law 482 = .ok (.invokestatic 143, 3) := by decide +kernel
set_option maxRecDepth 100000 in
theorem dlw_485 : decode cL_law 485 = .ok (.istore 5, 2) := by decide +kernel
set_option maxRecDepth 100000 in
theorem dlw_487 : decode cL_law 487 = .ok (.aload_n 2, 1) := by decide +kernel
set_option maxRecDepth 100000 in
theorem dlw_488 : decode cL_law 488 = .ok (.aload_n 0, 1) := by decide +kernel
set_option maxRecDepth 100000 in
theorem dlw_489 : decode cL_law 489 = .ok (.iload 4, 2) := by decide +kernel
set_option maxRecDepth 100000 in
theorem dlw_491 : decode cL_law 491 = .ok (.iconst 1, 1) := by decide +kernel
set_option maxRecDepth 100000 in
theorem dlw_492 : decode cL_law 492 = .ok (.iadd, 1) := by decide +kernel
set_option maxRecDepth 100000 in
theorem dlw_493 : decode cL_law 493 = .ok (.iaload, 1) := by decide +kernel
set_option maxRecDepth 100000 in
theorem dlw_494 : decode cL_law 494 = .ok (.invokevirtual 145, 3) := by decide +kernel
set_option maxRecDepth 100000 in
theorem dlw_497 : decode cL_law 497 = .ok (.istore 6, 2) := by decide +kernel
set_option maxRecDepth 100000 in
theorem dlw_499 : decode cL_law 499 = .ok (.goto 688, 3) := by decide +kernel
set_option maxRecDepth 100000 in
theorem dlw_502 : decode cL_law 502 = .ok (.aload_n 1, 1) := by decide +kernel
set_option maxRecDepth 100000 in
theorem dlw_503 : decode cL_law 503 = .ok (.aload_n 0, 1) := by decide +kernel
set_option maxRecDepth 100000 in
theorem dlw_504 : decode cL_law 504 = .ok (.iload 4, 2) := by decide +kernel
set_option maxRecDepth 100000 in
theorem dlw_506 : decode cL_law 506 = .ok (.iconst 1, 1) := by decide +kernel
set_option maxRecDepth 100000 in
theorem dlw_507 : decode cL_law 507 = .ok (.iadd, 1) := by decide +kernel
set_option maxRecDepth 100000 in
theorem dlw_508 : decode cL_law 508 = .ok (.iaload, 1) := by decide +kernel
set_option maxRecDepth 100000 in
theorem dlw_509 : decode cL_law 509 = .ok (.aload_n 3, 1) := by decide +kernel
set_option maxRecDepth 100000 in
theorem dlw_510 : decode cL_law 510 = .ok (.invokestatic 146, 3) := by decide +kernel
set_option maxRecDepth 100000 in
theorem dlw_513 : decode cL_law 513 = .ok (.istore 5, 2) := by decide +kernel
set_option maxRecDepth 100000 in
theorem dlw_515 : decode cL_law 515 = .ok (.aload_n 2, 1) := by decide +kernel
set_option maxRecDepth 100000 in
theorem dlw_516 : decode cL_law 516 = .ok (.aload_n 0, 1) := by decide +kernel
set_option maxRecDepth 100000 in
theorem dlw_517 : decode cL_law 517 = .ok (.iload 4, 2) := by decide +kernel
set_option maxRecDepth 100000 in
theorem dlw_519 : decode cL_law 519 = .ok (.iconst 1, 1) := by decide +kernel
set_option maxRecDepth 100000 in
theorem dlw_520 : decode cL_law 520 = .ok (.iadd, 1) := by decide +kernel
set_option maxRecDepth 100000 in
theorem dlw_521 : decode cL_law 521 = .ok (.iaload, 1) := by decide +kernel
set_option maxRecDepth 100000 in
theorem dlw_522 : decode cL_law 522 = .ok (.invokevirtual 148, 3) := by decide +kernel
set_option maxRecDepth 100000 in
theorem dlw_525 : decode cL_law 525 = .ok (.istore 6, 2) := by decide +kernel
set_option maxRecDepth 100000 in
theorem dlw_527 : decode cL_law 527 = .ok (.goto 660, 3) := by decide +kernel
set_option maxRecDepth 100000 in
theorem dlw_530 : decode cL_law 530 = .ok (.aload_n 1, 1) := by decide +kernel
set_option maxRecDepth 100000 in
theorem dlw_531 : decode cL_law 531 = .ok (.aload_n 0, 1) := by decide +kernel
set_option maxRecDepth 100000 in
theorem dlw_532 : decode cL_law 532 = .ok (.iload 4, 2) := by decide +kernel
set_option maxRecDepth 100000 in
theorem dlw_534 : decode cL_law 534 = .ok (.iconst 1, 1) := by decide +kernel
set_option maxRecDepth 100000 in
theorem dlw_535 : decode cL_law 535 = .ok (.iadd, 1) := by decide +kernel
set_option maxRecDepth 100000 in
theorem dlw_536 : decode cL_law 536 = .ok (.iaload, 1) := by decide +kernel
set_option maxRecDepth 100000 in
theorem dlw_537 : decode cL_law 537 = .ok (.aload_n 3, 1) := by decide +kernel
set_option maxRecDepth 100000 in
theorem dlw_538 : decode cL_law 538 = .ok (.invokestatic 149, 3) := by decide +kernel
set_option maxRecDepth 100000 in
theorem dlw_541 : decode cL_law 541 = .ok (.istore 5, 2) := by decide +kernel
set_option maxRecDepth 100000 in
theorem dlw_543 : decode cL_law 543 = .ok (.aload_n 2, 1) := by decide +kernel
set_option maxRecDepth 100000 in
theorem dlw_544 : decode cL_law 544 = .ok (.aload_n 0, 1) := by decide +kernel
set_option maxRecDepth 100000 in
theorem dlw_545 : decode cL_law 545 = .ok (.iload 4, 2) := by decide +kernel
set_option maxRecDepth 100000 in
theorem dlw_547 : decode cL_law 547 = .ok (.iconst 1, 1) := by decide +kernel
set_option maxRecDepth 100000 in
theorem dlw_548 : decode cL_law 548 = .ok (.iadd, 1) := by decide +kernel
set_option maxRecDepth 100000 in
theorem dlw_549 : decode cL_law 549 = .ok (.iaload, 1) := by decide +kernel
set_option maxRecDepth 100000 in
theorem dlw_550 : decode cL_law 550 = .ok (.invokevirtual 151, 3) := by decide +kernel
set_option maxRecDepth 100000 in
theorem dlw_553 : decode cL_law 553 = .ok (.istore 6, 2) := by decide +kernel
set_option maxRecDepth 100000 in
theorem dlw_555 : decode cL_law 555 = .ok (.goto 632, 3) := by decide +kernel
set_option maxRecDepth 100000 in
theorem dlw_558 : decode cL_law 558 = .ok (.aload_n 1, 1) := by decide +kernel
set_option maxRecDepth 100000 in
theorem dlw_559 : decode cL_law 559 = .ok (.aload_n 0, 1) := by decide +kernel
set_option maxRecDepth 100000 in
theorem dlw_560 : decode cL_law 560 = .ok (.iload 4, 2) := by decide +kernel
set_option maxRecDepth 100000 in
theorem dlw_562 : decode cL_law 562 = .ok (.iconst 1, 1) := by decide +kernel
set_option maxRecDepth 100000 in
theorem dlw_563 : decode cL_law 563 = .ok (.iadd, 1) := by decide +kernel
set_option maxRecDepth 100000 in
theorem dlw_564 : decode cL_law 564 = .ok (.iaload, 1) := by decide +kernel
set_option maxRecDepth 100000 in
theorem dlw_565 : decode cL_law 565 = .ok (.aload_n 0, 1) := by decide +kernel
set_option maxRecDepth 100000 in
theorem dlw_566 : decode cL_law 566 = .ok (.iload 4, 2) := by decide +kernel
set_option maxRecDepth 100000 in
theorem dlw_568 : decode cL_law 568 = .ok (.iconst 2, 1) := by decide +kernel
set_option maxRecDepth 100000 in
theorem dlw_569 : decode cL_law 569 = .ok (.iadd, 1) := by decide +kernel
set_option maxRecDepth 100000 in
theorem dlw_570 : decode cL_law 570 = .ok (.iaload, 1) := by decide +kernel
set_option maxRecDepth 100000 in
theorem dlw_571 : decode cL_law 571 = .ok (.aload_n 3, 1) := by decide +kernel
set_option maxRecDepth 100000 in
theorem dlw_572 : decode cL_law 572 = .ok (.invokestatic 152, 3) := by decide +kernel
set_option maxRecDepth 100000 in
theorem dlw_575 : decode cL_law 575 = .ok (.istore 5, 2) := by decide +kernel
set_option maxRecDepth 100000 in
theorem dlw_577 : decode cL_law 577 = .ok (.aload_n 2, 1) := by decide +kernel
set_option maxRecDepth 100000 in
theorem dlw_578 : decode cL_law 578 = .ok (.aload_n 0, 1) := by decide +kernel
set_option maxRecDepth 100000 in
theorem dlw_579 : decode cL_law 579 = .ok (.iload 4, 2) := by decide +kernel
set_option maxRecDepth 100000 in
theorem dlw_581 : decode cL_law 581 = .ok (.iconst 1, 1) := by decide +kernel
set_option maxRecDepth 100000 in
theorem dlw_582 : decode cL_law 582 = .ok (.iadd, 1) := by decide +kernel
end
section
set_option maxRecDepth 100000 in
theorem dlw_583 : decode cL_law 583 = .ok (.iaload, 1) := by decide +kernel
set_option maxRecDepth 100000 in
theorem dlw_584 : decode cL_law 584 = .ok (.aload_n 0, 1) := by decide +kernel
set_option maxRecDepth 100000 in
theorem dlw_585 : decode cL_law 585 = .ok (.iload 4, 2) := by decide +kernel
set_option maxRecDepth 100000 in
theorem dlw_587 : decode cL_law 587 = .ok (.iconst 2, 1) := by decide +kernel
set_option maxRecDepth 100000 in
theorem dlw_588 : decode cL_law 588 = .ok (.iadd, 1) := by decide +kernel
set_option maxRecDepth 100000 in
theorem dlw_589 : decode cL_law 589 = .ok (.iaload, 1) := by decide +kernel
set_option maxRecDepth 100000 in
theorem dlw_590 : decode cL_law 590 = .ok (.invokevirtual 154, 3) := by decide +kernel
set_option maxRecDepth 100000 in
theorem dlw_593 : decode cL_law 593 = .ok (.istore 6, 2) := by decide +kernel
set_option maxRecDepth 100000 in
theorem dlw_595 : decode cL_law 595 = .ok (.goto 592, 3) := by decide +kernel
set_option maxRecDepth 100000 in
theorem dlw_598 : decode cL_law 598 = .ok (.aload_n 1, 1) := by decide +kernel
set_option maxRecDepth 100000 in
theorem dlw_599 : decode cL_law 599 = .ok (.aload_n 0, 1) := by decide +kernel
set_option maxRecDepth 100000 in
theorem dlw_600 : decode cL_law 600 = .ok (.iload 4, 2) := by decide +kernel
set_option maxRecDepth 100000 in
theorem dlw_602 : decode cL_law 602 = .ok (.iconst 1, 1) := by decide +kernel
set_option maxRecDepth 100000 in
theorem dlw_603 : decode cL_law 603 = .ok (.iadd, 1) := by decide +kernel
set_option maxRecDepth 100000 in
theorem dlw_604 : decode cL_law 604 = .ok (.iaload, 1) := by decide +kernel
set_option maxRecDepth 100000 in
theorem dlw_605 : decode cL_law 605 = .ok (.aload_n 0, 1) := by decide +kernel
set_option maxRecDepth 100000 in
theorem dlw_606 : decode cL_law 606 = .ok (.iload 4, 2) := by decide +kernel
set_option maxRecDepth 100000 in
theorem dlw_608 : decode cL_law 608 = .ok (.iconst 2, 1) := by decide +kernel
set_option maxRecDepth 100000 in
theorem dlw_609 : decode cL_law 609 = .ok (.iadd, 1) := by decide +kernel
set_option maxRecDepth 100000 in
theorem dlw_610 : decode cL_law 610 = .ok (.iaload, 1) := by decide +kernel
set_option maxRecDepth 100000 in
theorem dlw_611 : decode cL_law 611 = .ok (.aload_n 3, 1) := by decide +kernel
set_option maxRecDepth 100000 in
theorem dlw_612 : decode cL_law 612 = .ok (.invokestatic 155, 3) := by decide +kernel
set_option maxRecDepth 100000 in
theorem dlw_615 : decode cL_law 615 = .ok (.istore 5, 2) := by decide +kernel
set_option maxRecDepth 100000 in
theorem dlw_617 : decode cL_law 617 = .ok (.aload_n 2, 1) := by decide +kernel
set_option maxRecDepth 100000 in
theorem dlw_618 : decode cL_law 618 = .ok (.aload_n 0, 1) := by decide +kernel
set_option maxRecDepth 100000 in
theorem dlw_619 : decode cL_law 619 = .ok (.iload 4, 2) := by decide +kernel
set_option maxRecDepth 100000 in
theorem dlw_621 : decode cL_law 621 = .ok (.iconst 1, 1) := by decide +kernel
set_option maxRecDepth 100000 in
theorem dlw_622 : decode cL_law 622 = .ok (.iadd, 1) := by decide +kernel
set_option maxRecDepth 100000 in
theorem dlw_623 : decode cL_law 623 = .ok (.iaload, 1) := by decide +kernel
set_option maxRecDepth 100000 in
theorem dlw_624 : decode cL_law 624 = .ok (.aload_n 0, 1) := by decide +kernel
set_option maxRecDepth 100000 in
theorem dlw_625 : decode cL_law 625 = .ok (.iload 4, 2) := by decide +kernel
set_option maxRecDepth 100000 in
theorem dlw_627 : decode cL_law 627 = .ok (.iconst 2, 1) := by decide +kernel
set_option maxRecDepth 100000 in
theorem dlw_628 : decode cL_law 628 = .ok (.iadd, 1) := by decide +kernel
set_option maxRecDepth 100000 in
theorem dlw_629 : decode cL_law 629 = .ok (.iaload, 1) := by decide +kernel
set_option maxRecDepth 100000 in
theorem dlw_630 : decode cL_law 630 = .ok (.invokevirtual 157, 3) := by decide +kernel
set_option maxRecDepth 100000 in
theorem dlw_633 : decode cL_law 633 = .ok (.istore 6, 2) := by decide +kernel
set_option maxRecDepth 100000 in
theorem dlw_635 : decode cL_law 635 = .ok (.goto 552, 3) := by decide +kernel
set_option maxRecDepth 100000 in
theorem dlw_638 : decode cL_law 638 = .ok (.aload_n 1, 1) := by decide +kernel
set_option maxRecDepth 100000 in
theorem dlw_639 : decode cL_law 639 = .ok (.aload_n 0, 1) := by decide +kernel
set_option maxRecDepth 100000 in
theorem dlw_640 : decode cL_law 640 = .ok (.iload 4, 2) := by decide +kernel
set_option maxRecDepth 100000 in
theorem dlw_642 : decode cL_law 642 = .ok (.iconst 1, 1) := by decide +kernel
set_option maxRecDepth 100000 in
theorem dlw_643 : decode cL_law 643 = .ok (.iadd, 1) := by decide +kernel
set_option maxRecDepth 100000 in
theorem dlw_644 : decode cL_law 644 = .ok (.iaload, 1) := by decide +kernel
set_option maxRecDepth 100000 in
theorem dlw_645 : decode cL_law 645 = .ok (.aload_n 0, 1) := by decide +kernel
set_option maxRecDepth 100000 in
theorem dlw_646 : decode cL_law 646 = .ok (.iload 4, 2) := by decide +kernel
set_option maxRecDepth 100000 in
theorem dlw_648 : decode cL_law 648 = .ok (.iconst 2, 1) := by decide +kernel
set_option maxRecDepth 100000 in
theorem dlw_649 : decode cL_law 649 = .ok (.iadd, 1) := by decide +kernel
set_option maxRecDepth 100000 in
theorem dlw_650 : decode cL_law 650 = .ok (.iaload, 1) := by decide +kernel
set_option maxRecDepth 100000 in
theorem dlw_651 : decode cL_law 651 = .ok (.aload_n 3, 1) := by decide +kernel
set_option maxRecDepth 100000 in
theorem dlw_652 : decode cL_law 652 = .ok (.invokestatic 158, 3) := by decide +kernel
set_option maxRecDepth 100000 in
theorem dlw_655 : decode cL_law 655 = .ok (.istore 5, 2) := by decide +kernel
set_option maxRecDepth 100000 in
theorem dlw_657 : decode cL_law 657 = .ok (.aload_n 2, 1) := by decide +kernel
set_option maxRecDepth 100000 in
theorem dlw_658 : decode cL_law 658 = .ok (.aload_n 0, 1) := by decide +kernel
set_option maxRecDepth 100000 in
theorem dlw_659 : decode cL_law 659 = .ok (.iload 4, 2) := by decide +kernel
set_option maxRecDepth 100000 in
theorem dlw_661 : decode cL_law 661 = .ok (.iconst 1, 1) := by decide +kernel
set_option maxRecDepth 100000 in
theorem dlw_662 : decode cL_law 662 = .ok (.iadd, 1) := by decide +kernel
set_option maxRecDepth 100000 in
theorem dlw_663 : decode cL_law 663 = .ok (.iaload, 1) := by decide +kernel
set_option maxRecDepth 100000 in
theorem dlw_664 : decode cL_law 664 = .ok (.aload_n 0, 1) := by decide +kernel
set_option maxRecDepth 100000 in
theorem dlw_665 : decode cL_law 665 = .ok (.iload 4, 2) := by decide +kernel
set_option maxRecDepth 100000 in
theorem dlw_667 : decode cL_law 667 = .ok (.iconst 2, 1) := by decide +kernel
set_option maxRecDepth 100000 in
theorem dlw_668 : decode cL_law 668 = .ok (.iadd, 1) := by decide +kernel
set_option maxRecDepth 100000 in
theorem dlw_669 : decode cL_law 669 = .ok (.iaload, 1) := by decide +kernel
set_option maxRecDepth 100000 in
theorem dlw_670 : decode cL_law 670 = .ok (.invokevirtual 160, 3) := by decide +kernel
set_option maxRecDepth 100000 in
theorem dlw_673 : decode cL_law 673 = .ok (.istore 6, 2) := by decide +kernel
set_option maxRecDepth 100000 in
theorem dlw_675 : decode cL_law 675 = .ok (.goto 512, 3) := by decide +kernel
set_option maxRecDepth 100000 in
theorem dlw_678 : decode cL_law 678 = .ok (.aload_n 1, 1) := by decide +kernel
set_option maxRecDepth 100000 in
theorem dlw_679 : decode cL_law 679 = .ok (.aload_n 0, 1) := by decide +kernel
set_option maxRecDepth 100000 in
theorem dlw_680 : decode cL_law 680 = .ok (.iload 4, 2) := by decide +kernel
set_option maxRecDepth 100000 in
theorem dlw_682 : decode cL_law 682 = .ok (.iconst 1, 1) := by decide +kernel
set_option maxRecDepth 100000 in
theorem dlw_683 : decode cL_law 683 = .ok (.iadd, 1) := by decide +kernel
set_option maxRecDepth 100000 in
theorem dlw_684 : decode cL_law 684 = .ok (.iaload, 1) := by decide +kernel
set_option maxRecDepth 100000 in
theorem dlw_685 : decode cL_law 685 = .ok (.aload_n 0, 1) := by decide +kernel
set_option maxRecDepth 100000 in
theorem dlw_686 : decode cL_law 686 = .ok (.iload 4, 2) := by decide +kernel
set_option maxRecDepth 100000 in
theorem dlw_688 : decode cL_law 688 = .ok (.iconst 2, 1) := by decide +kernel
set_option maxRecDepth 100000 in
theorem dlw_689 : decode cL_law 689 = .ok (.iadd, 1) := by decide +kernel
set_option maxRecDepth 100000 in
theorem dlw_690 : decode cL_law 690 = .ok (.iaload, 1) := by decide +kernel
set_option maxRecDepth 100000 in
theorem dlw_691 : decode cL_law 691 = .ok (.aload_n 3, 1) := by decide +kernel
set_option maxRecDepth 100000 in
theorem dlw_692 : decode cL_law 692 = .ok (.invokestatic 161, 3) := by decide +kernel
set_option maxRecDepth 100000 in
theorem dlw_695 : decode cL_law 695 = .ok (.istore 5, 2) := by decide +kernel
set_option maxRecDepth 100000 in
theorem dlw_697 : decode cL_law 697 = .ok (.aload_n 2, 1) := by decide +kernel
set_option maxRecDepth 100000 in
theorem dlw_698 : decode cL_law 698 = .ok (.aload_n 0, 1) := by decide +kernel
set_option maxRecDepth 100000 in
theorem dlw_699 : decode cL_law 699 = .ok (.iload 4, 2) := by decide +kernel
set_option maxRecDepth 100000 in
theorem dlw_701 : decode cL_law 701 = .ok (.iconst 1, 1) := by decide +kernel
set_option maxRecDepth 100000 in
theorem dlw_702 : decode cL_law 702 = .ok (.iadd, 1) := by decide +kernel
set_option maxRecDepth 100000 in
theorem dlw_703 : decode cL_law 703 = .ok (.iaload, 1) := by decide +kernel
set_option maxRecDepth 100000 in
theorem dlw_704 : decode cL_law 704 = .ok (.aload_n 0, 1) := by decide +kernel
set_option maxRecDepth 100000 in
theorem dlw_705 : decode cL_law 705 = .ok (.iload 4, 2) := by decide +kernel
set_option maxRecDepth 100000 in
theorem dlw_707 : decode cL_law 707 = .ok (.iconst 2, 1) := by decide +kernel
set_option maxRecDepth 100000 in
theorem dlw_708 : decode cL_law 708 = .ok (.iadd, 1) := by decide +kernel
set_option maxRecDepth 100000 in
theorem dlw_709 : decode cL_law 709 = .ok (.iaload, 1) := by decide +kernel
set_option maxRecDepth 100000 in
theorem dlw_710 : decode cL_law 710 = .ok (.invokevirtual 163, 3) := by decide +kernel
set_option maxRecDepth 100000 in
theorem dlw_713 : decode cL_law 713 = .ok (.istore 6, 2) := by decide +kernel
set_option maxRecDepth 100000 in
theorem dlw_715 : decode cL_law 715 = .ok (.goto 472, 3) := by decide +kernel
set_option maxRecDepth 100000 in
theorem dlw_718 : decode cL_law 718 = .ok (.aload_n 1, 1) := by decide +kernel
set_option maxRecDepth 100000 in
theorem dlw_719 : decode cL_law 719 = .ok (.aload_n 0, 1) := by decide +kernel
set_option maxRecDepth 100000 in
theorem dlw_720 : decode cL_law 720 = .ok (.iload 4, 2) := by decide +kernel
set_option maxRecDepth 100000 in
theorem dlw_722 : decode cL_law 722 = .ok (.iconst 1, 1) := by decide +kernel
set_option maxRecDepth 100000 in
theorem dlw_723 : decode cL_law 723 = .ok (.iadd, 1) := by decide +kernel
set_option maxRecDepth 100000 in
theorem dlw_724 : decode cL_law 724 = .ok (.iaload, 1) := by decide +kernel
set_option maxRecDepth 100000 in
theorem dlw_725 : decode cL_law 725 = .ok (.aload_n 0, 1) := by decide +kernel
set_option maxRecDepth 100000 in
theorem dlw_726 : decode cL_law 726 = .ok (.iload 4, 2) := by decide +kernel
set_option maxRecDepth 100000 in
theorem dlw_728 : decode cL_law 728 = .ok (.iconst 2, 1) := by decide +kernel
set_option maxRecDepth 100000 in
theorem dlw_729 : decode cL_law 729 = .ok (.iadd, 1) := by decide +kernel
set_option maxRecDepth 100000 in
theorem dlw_730 : decode cL_law 730 = .ok (.iaload, 1) := by decide +kernel
set_option maxRecDepth 100000 in
theorem dlw_731 : decode cL_law 731 = .ok (.aload_n 3, 1) := by decide +kernel
set_option maxRecDepth 100000 in
theorem dlw_732 : decode cL_law 732 = .ok (.invokestatic 164, 3) := by decide +kernel
set_option maxRecDepth 100000 in
theorem dlw_735 : decode cL_law 735 = .ok (.istore 5, 2) := by decide +kernel
set_option maxRecDepth 100000 in
theorem dlw_737 : decode cL_law 737 = .ok (.aload_n 2, 1) := by decide +kernel
set_option maxRecDepth 100000 in
theorem dlw_738 : decode cL_law 738 = .ok (.aload_n 0, 1) := by decide +kernel
set_option maxRecDepth 100000 in
theorem dlw_739 : decode cL_law 739 = .ok (.iload 4, 2) := by decide +kernel
set_option maxRecDepth 100000 in
theorem dlw_741 : decode cL_law 741 = .ok (.iconst 1, 1) := by decide +kernel
set_option maxRecDepth 100000 in
theorem dlw_742 : decode cL_law 742 = .ok (.iadd, 1) := by decide +kernel
set_option maxRecDepth 100000 in
theorem dlw_743 : decode cL_law 743 = .ok (.iaload, 1) := by decide +kernel
set_option maxRecDepth 100000 in
theorem dlw_744 : decode cL_law 744 = .ok (.aload_n 0, 1) := by decide +kernel
set_option maxRecDepth 100000 in
theorem dlw_745 : decode cL_law 745 = .ok (.iload 4, 2) := by decide +kernel
set_option maxRecDepth 100000 in
theorem dlw_747 : decode cL_law 747 = .ok (.iconst 2, 1) := by decide +kernel
set_option maxRecDepth 100000 in
theorem dlw_748 : decode cL_law 748 = .ok (.iadd, 1) := by decide +kernel
set_option maxRecDepth 100000 in
theorem dlw_749 : decode cL_law 749 = .ok (.iaload, 1) := by decide +kernel
set_option maxRecDepth 100000 in
theorem dlw_750 : decode cL_law 750 = .ok (.invokevirtual 166, 3) := by decide +kernel
set_option maxRecDepth 100000 in
theorem dlw_753 : decode cL_law 753 = .ok (.istore 6, 2) := by decide +kernel
set_option maxRecDepth 100000 in
theorem dlw_755 : decode cL_law 755 = .ok (.goto 432, 3) := by decide +kernel
set_option maxRecDepth 100000 in
theorem dlw_758 : decode cL_law 758 = .ok (.aload_n 1, 1) := by decide +kernel
set_option maxRecDepth 100000 in
theorem dlw_759 : decode cL_law 759 = .ok (.aload_n 0, 1) := by decide +kernel
set_option maxRecDepth 100000 in
theorem dlw_760 : decode cL_law 760 = .ok (.iload 4, 2) := by decide +kernel
set_option maxRecDepth 100000 in
theorem dlw_762 : decode cL_law 762 = .ok (.iconst 1, 1) := by decide +kernel
set_option maxRecDepth 100000 in
theorem dlw_763 : decode cL_law 763 = .ok (.iadd, 1) := by decide +kernel
set_option maxRecDepth 100000 in
theorem dlw_764 : decode cL_law 764 = .ok (.iaload, 1) := by decide +kernel
set_option maxRecDepth 100000 in
theorem dlw_765 : decode cL_law 765 = .ok (.aload_n 0, 1) := by decide +kernel
set_option maxRecDepth 100000 in
theorem dlw_766 : decode cL_law 766 = .ok (.iload 4, 2) := by decide +kernel
set_option maxRecDepth 100000 in
theorem dlw_768 : decode cL_law 768 = .ok (.iconst 2, 1) := by decide +kernel
set_option maxRecDepth 100000 in
theorem dlw_769 : decode cL_law 769 = .ok (.iadd, 1) := by decide +kernel
set_option maxRecDepth 100000 in
theorem dlw_770 : decode cL_law 770 = .ok (.iaload, 1) := by decide +kernel
set_option maxRecDepth 100000 in
theorem dlw_771 : decode cL_law 771 = .ok (.aload_n 3, 1) := by decide +kernel
set_option maxRecDepth 100000 in
theorem dlw_772 : decode cL_law 772 = .ok (.invokestatic 167, 3) := by decide +kernel
set_option maxRecDepth 100000 in
theorem dlw_775 : decode cL_law 775 = .ok (.istore 5, 2) := by decide +kernel
set_option maxRecDepth 100000 in
theorem dlw_777 : decode cL_law 777 = .ok (.aload_n 2, 1) := by decide +kernel
set_option maxRecDepth 100000 in
theorem dlw_778 : decode cL_law 778 = .ok (.aload_n 0, 1) := by decide +kernel
set_option maxRecDepth 100000 in
theorem dlw_779 : decode cL_law 779 = .ok (.iload 4, 2) := by decide +kernel
set_option maxRecDepth 100000 in
theorem dlw_781 : decode cL_law 781 = .ok (.iconst 1, 1) := by decide +kernel
set_option maxRecDepth 100000 in
theorem dlw_782 : decode cL_law 782 = .ok (.iadd, 1) := by decide +kernel
set_option maxRecDepth 100000 in
theorem dlw_783 : decode cL_law 783 = .ok (.iaload, 1) := by decide +kernel
set_option maxRecDepth 100000 in
theorem dlw_784 : decode cL_law 784 = .ok (.aload_n 0, 1) := by decide +kernel
set_option maxRecDepth 100000 in
theorem dlw_785 : decode cL_law 785 = .ok (.iload 4, 2) := by decide +kernel
set_option maxRecDepth 100000 in
theorem dlw_787 : decode cL_law 787 = .ok (.iconst 2, 1) := by decide +kernel
set_option maxRecDepth 100000 in
theorem dlw_788 : decode cL_law 788 = .ok (.iadd, 1) := by decide +kernel
set_option maxRecDepth 100000 in
theorem dlw_789 : decode cL_law 789 = .ok (.iaload, 1) := by decide +kernel
set_option maxRecDepth 100000 in
theorem dlw_790 : decode cL_law 790 = .ok (.invokevirtual 169, 3) := by decide +kernel
set_option maxRecDepth 100000 in
theorem dlw_793 : decode cL_law 793 = .ok (.istore 6, 2) := by decide +kernel
set_option maxRecDepth 100000 in
theorem dlw_795 : decode cL_law 795 = .ok (.goto 392, 3) := by decide +kernel
set_option maxRecDepth 100000 in
theorem dlw_798 : decode cL_law 798 = .ok (.aload_n 1, 1) := by decide +kernel
end
section
set_option maxRecDepth 100000 in
theorem dlw_799 : decode cL_law 799 = .ok (.aload_n 0, 1) := by decide +kernel
set_option maxRecDepth 100000 in
theorem dlw_800 : decode cL_law 800 = .ok (.iload 4, 2) := by decide +kernel
set_option maxRecDepth 100000 in
theorem dlw_802 : decode cL_law 802 = .ok (.iconst 1, 1) := by decide +kernel
set_option maxRecDepth 100000 in
theorem dlw_803 : decode cL_law 803 = .ok (.iadd, 1) := by decide +kernel
set_option maxRecDepth 100000 in
theorem dlw_804 : decode cL_law 804 = .ok (.iaload, 1) := by decide +kernel
set_option maxRecDepth 100000 in
theorem dlw_805 : decode cL_law 805 = .ok (.aload_n 0, 1) := by decide +kernel
set_option maxRecDepth 100000 in
theorem dlw_806 : decode cL_law 806 = .ok (.iload 4, 2) := by decide +kernel
set_option maxRecDepth 100000 in
theorem dlw_808 : decode cL_law 808 = .ok (.iconst 2, 1) := by decide +kernel
set_option maxRecDepth 100000 in
theorem dlw_809 : decode cL_law 809 = .ok (.iadd, 1) := by decide +kernel
set_option maxRecDepth 100000 in
theorem dlw_810 : decode cL_law 810 = .ok (.iaload, 1) := by decide +kernel
set_option maxRecDepth 100000 in
theorem dlw_811 : decode cL_law 811 = .ok (.aload_n 3, 1) := by decide +kernel
set_option maxRecDepth 100000 in
theorem dlw_812 : decode cL_law 812 = .ok (.invokestatic 170, 3) := by decide +kernel
set_option maxRecDepth 100000 in
theorem dlw_815 : decode cL_law 815 = .ok (.istore 5, 2) := by decide +kernel
set_option maxRecDepth 100000 in
theorem dlw_817 : decode cL_law 817 = .ok (.aload_n 2, 1) := by decide +kernel
set_option maxRecDepth 100000 in
theorem dlw_818 : decode cL_law 818 = .ok (.aload_n 0, 1) := by decide +kernel
set_option maxRecDepth 100000 in
theorem dlw_819 : decode cL_law 819 = .ok (.iload 4, 2) := by decide +kernel
set_option maxRecDepth 100000 in
theorem dlw_821 : decode cL_law 821 = .ok (.iconst 1, 1) := by decide +kernel
set_option maxRecDepth 100000 in
theorem dlw_822 : decode cL_law 822 = .ok (.iadd, 1) := by decide +kernel
set_option maxRecDepth 100000 in
theorem dlw_823 : decode cL_law 823 = .ok (.iaload, 1) := by decide +kernel
set_option maxRecDepth 100000 in
theorem dlw_824 : decode cL_law 824 = .ok (.aload_n 0, 1) := by decide +kernel
set_option maxRecDepth 100000 in
theorem dlw_825 : decode cL_law 825 = .ok (.iload 4, 2) := by decide +kernel
set_option maxRecDepth 100000 in
theorem dlw_827 : decode cL_law 827 = .ok (.iconst 2, 1) := by decide +kernel
set_option maxRecDepth 100000 in
theorem dlw_828 : decode cL_law 828 = .ok (.iadd, 1) := by decide +kernel
set_option maxRecDepth 100000 in
theorem dlw_829 : decode cL_law 829 = .ok (.iaload, 1) := by decide +kernel
set_option maxRecDepth 100000 in
theorem dlw_830 : decode cL_law 830 = .ok (.invokevirtual 172, 3) := by decide +kernel
set_option maxRecDepth 100000 in
theorem dlw_833 : decode cL_law 833 = .ok (.istore 6, 2) := by decide +kernel
set_option maxRecDepth 100000 in
theorem dlw_835 : decode cL_law 835 = .ok (.goto 352, 3) := by decide +kernel
set_option maxRecDepth 100000 in
theorem dlw_838 : decode cL_law 838 = .ok (.aload_n 1, 1) := by decide +kernel
set_option maxRecDepth 100000 in
theorem dlw_839 : decode cL_law 839 = .ok (.aload_n 0, 1) := by decide +kernel
set_option maxRecDepth 100000 in
theorem dlw_840 : decode cL_law 840 = .ok (.iload 4, 2) := by decide +kernel
set_option maxRecDepth 100000 in
theorem dlw_842 : decode cL_law 842 = .ok (.iconst 1, 1) := by decide +kernel
set_option maxRecDepth 100000 in
theorem dlw_843 : decode cL_law 843 = .ok (.iadd, 1) := by decide +kernel
set_option maxRecDepth 100000 in
theorem dlw_844 : decode cL_law 844 = .ok (.iaload, 1) := by decide +kernel
set_option maxRecDepth 100000 in
theorem dlw_845 : decode cL_law 845 = .ok (.aload_n 3, 1) := by decide +kernel
set_option maxRecDepth 100000 in
theorem dlw_846 : decode cL_law 846 = .ok (.invokestatic 173, 3) := by decide +kernel
set_option maxRecDepth 100000 in
theorem dlw_849 : decode cL_law 849 = .ok (.istore 5, 2) := by decide +kernel
set_option maxRecDepth 100000 in
theorem dlw_851 : decode cL_law 851 = .ok (.aload_n 2, 1) := by decide +kernel
set_option maxRecDepth 100000 in
theorem dlw_852 : decode cL_law 852 = .ok (.aload_n 0, 1) := by decide +kernel
set_option maxRecDepth 100000 in
theorem dlw_853 : decode cL_law 853 = .ok (.iload 4, 2) := by decide +kernel
set_option maxRecDepth 100000 in
theorem dlw_855 : decode cL_law 855 = .ok (.iconst 1, 1) := by decide +kernel
set_option maxRecDepth 100000 in
theorem dlw_856 : decode cL_law 856 = .ok (.iadd, 1) := by decide +kernel
set_option maxRecDepth 100000 in
theorem dlw_857 : decode cL_law 857 = .ok (.iaload, 1) := by decide +kernel
set_option maxRecDepth 100000 in
theorem dlw_858 : decode cL_law 858 = .ok (.invokevirtual 175, 3) := by decide +kernel
set_option maxRecDepth 100000 in
theorem dlw_861 : decode cL_law 861 = .ok (.istore 6, 2) := by decide +kernel
set_option maxRecDepth 100000 in
theorem dlw_863 : decode cL_law 863 = .ok (.goto 324, 3) := by decide +kernel
set_option maxRecDepth 100000 in
theorem dlw_866 : decode cL_law 866 = .ok (.aload_n 1, 1) := by decide +kernel
set_option maxRecDepth 100000 in
theorem dlw_867 : decode cL_law 867 = .ok (.aload_n 0, 1) := by decide +kernel
set_option maxRecDepth 100000 in
theorem dlw_868 : decode cL_law 868 = .ok (.iload 4, 2) := by decide +kernel
set_option maxRecDepth 100000 in
theorem dlw_870 : decode cL_law 870 = .ok (.iconst 1, 1) := by decide +kernel
set_option maxRecDepth 100000 in
theorem dlw_871 : decode cL_law 871 = .ok (.iadd, 1) := by decide +kernel
set_option maxRecDepth 100000 in
theorem dlw_872 : decode cL_law 872 = .ok (.iaload, 1) := by decide +kernel
set_option maxRecDepth 100000 in
theorem dlw_873 : decode cL_law 873 = .ok (.aload_n 0, 1) := by decide +kernel
set_option maxRecDepth 100000 in
theorem dlw_874 : decode cL_law 874 = .ok (.iload 4, 2) := by decide +kernel
set_option maxRecDepth 100000 in
theorem dlw_876 : decode cL_law 876 = .ok (.iconst 2, 1) := by decide +kernel
set_option maxRecDepth 100000 in
theorem dlw_877 : decode cL_law 877 = .ok (.iadd, 1) := by decide +kernel
set_option maxRecDepth 100000 in
theorem dlw_878 : decode cL_law 878 = .ok (.iaload, 1) := by decide +kernel
set_option maxRecDepth 100000 in
theorem dlw_879 : decode cL_law 879 = .ok (.aload_n 3, 1) := by decide +kernel
set_option maxRecDepth 100000 in
theorem dlw_880 : decode cL_law 880 = .ok (.invokestatic 176, 3) := by decide +kernel
set_option maxRecDepth 100000 in
theorem dlw_883 : decode cL_law 883 = .ok (.istore 5, 2) := by decide +kernel
set_option maxRecDepth 100000 in
theorem dlw_885 : decode cL_law 885 = .ok (.aload_n 2, 1) := by decide +kernel
set_option maxRecDepth 100000 in
theorem dlw_886 : decode cL_law 886 = .ok (.aload_n 0, 1) := by decide +kernel
set_option maxRecDepth 100000 in
theorem dlw_887 : decode cL_law 887 = .ok (.iload 4, 2) := by decide +kernel
set_option maxRecDepth 100000 in
theorem dlw_889 : decode cL_law 889 = .ok (.iconst 1, 1) := by decide +kernel
set_option maxRecDepth 100000 in
theorem dlw_890 : decode cL_law 890 = .ok (.iadd, 1) := by decide +kernel
set_option maxRecDepth 100000 in
theorem dlw_891 : decode cL_law 891 = .ok (.iaload, 1) := by decide +kernel
set_option maxRecDepth 100000 in
theorem dlw_892 : decode cL_law 892 = .ok (.aload_n 0, 1) := by decide +kernel
set_option maxRecDepth 100000 in
theorem dlw_893 : decode cL_law 893 = .ok (.iload 4, 2) := by decide +kernel
set_option maxRecDepth 100000 in
theorem dlw_895 : decode cL_law 895 = .ok (.iconst 2, 1) := by decide +kernel
set_option maxRecDepth 100000 in
theorem dlw_896 : decode cL_law 896 = .ok (.iadd, 1) := by decide +kernel
set_option maxRecDepth 100000 in
theorem dlw_897 : decode cL_law 897 = .ok (.iaload, 1) := by decide +kernel
set_option maxRecDepth 100000 in
theorem dlw_898 : decode cL_law 898 = .ok (.invokevirtual 178, 3) := by decide +kernel
set_option maxRecDepth 100000 in
theorem dlw_901 : decode cL_law 901 = .ok (.istore 6, 2) := by decide +kernel
set_option maxRecDepth 100000 in
theorem dlw_903 : decode cL_law 903 = .ok (.goto 284, 3) := by decide +kernel
set_option maxRecDepth 100000 in
theorem dlw_906 : decode cL_law 906 = .ok (.aload_n 1, 1) := by decide +kernel
set_option maxRecDepth 100000 in
theorem dlw_907 : decode cL_law 907 = .ok (.aload_n 0, 1) := by decide +kernel
set_option maxRecDepth 100000 in
theorem dlw_908 : decode cL_law 908 = .ok (.iload 4, 2) := by decide +kernel
set_option maxRecDepth 100000 in
theorem dlw_910 : decode cL_law 910 = .ok (.iconst 1, 1) := by decide +kernel
set_option maxRecDepth 100000 in
theorem dlw_911 : decode cL_law 911 = .ok (.iadd, 1) := by decide +kernel
set_option maxRecDepth 100000 in
theorem dlw_912 : decode cL_law 912 = .ok (.iaload, 1) := by decide +kernel
set_option maxRecDepth 100000 in
theorem dlw_913 : decode cL_law 913 = .ok (.aload_n 0, 1) := by decide +kernel
set_option maxRecDepth 100000 in
theorem dlw_914 : decode cL_law 914 = .ok (.iload 4, 2) := by decide +kernel
set_option maxRecDepth 100000 in
theorem dlw_916 : decode cL_law 916 = .ok (.iconst 2, 1) := by decide +kernel
set_option maxRecDepth 100000 in
theorem dlw_917 : decode cL_law 917 = .ok (.iadd, 1) := by decide +kernel
set_option maxRecDepth 100000 in
theorem dlw_918 : decode cL_law 918 = .ok (.iaload, 1) := by decide +kernel
set_option maxRecDepth 100000 in
theorem dlw_919 : decode cL_law 919 = .ok (.aload_n 3, 1) := by decide +kernel
set_option maxRecDepth 100000 in
theorem dlw_920 : decode cL_law 920 = .ok (.invokestatic 179, 3) := by decide +kernel
set_option maxRecDepth 100000 in
theorem dlw_923 : decode cL_law 923 = .ok (.istore 5, 2) := by decide +kernel
set_option maxRecDepth 100000 in
theorem dlw_925 : decode cL_law 925 = .ok (.aload_n 2, 1) := by decide +kernel
set_option maxRecDepth 100000 in
theorem dlw_926 : decode cL_law 926 = .ok (.aload_n 0, 1) := by decide +kernel
set_option maxRecDepth 100000 in
theorem dlw_927 : decode cL_law 927 = .ok (.iload 4, 2) := by decide +kernel
set_option maxRecDepth 100000 in
theorem dlw_929 : decode cL_law 929 = .ok (.iconst 1, 1) := by decide +kernel
set_option maxRecDepth 100000 in
theorem dlw_930 : decode cL_law 930 = .ok (.iadd, 1) := by decide +kernel
set_option maxRecDepth 100000 in
theorem dlw_931 : decode cL_law 931 = .ok (.iaload, 1) := by decide +kernel
set_option maxRecDepth 100000 in
theorem dlw_932 : decode cL_law 932 = .ok (.aload_n 0, 1) := by decide +kernel
set_option maxRecDepth 100000 in
theorem dlw_933 : decode cL_law 933 = .ok (.iload 4, 2) := by decide +kernel
set_option maxRecDepth 100000 in
theorem dlw_935 : decode cL_law 935 = .ok (.iconst 2, 1) := by decide +kernel
set_option maxRecDepth 100000 in
theorem dlw_936 : decode cL_law 936 = .ok (.iadd, 1) := by decide +kernel
set_option maxRecDepth 100000 in
theorem dlw_937 : decode cL_law 937 = .ok (.iaload, 1) := by decide +kernel
set_option maxRecDepth 100000 in
theorem dlw_938 : decode cL_law 938 = .ok (.invokevirtual 181, 3) := by decide +kernel
set_option maxRecDepth 100000 in
theorem dlw_941 : decode cL_law 941 = .ok (.istore 6, 2) := by decide +kernel
set_option maxRecDepth 100000 in
theorem dlw_943 : decode cL_law 943 = .ok (.goto 244, 3) := by decide +kernel
set_option maxRecDepth 100000 in
theorem dlw_946 : decode cL_law 946 = .ok (.aload_n 1, 1) := by decide +kernel
set_option maxRecDepth 100000 in
theorem dlw_947 : decode cL_law 947 = .ok (.aload_n 0, 1) := by decide +kernel
set_option maxRecDepth 100000 in
theorem dlw_948 : decode cL_law 948 = .ok (.iload 4, 2) := by decide +kernel
set_option maxRecDepth 100000 in
theorem dlw_950 : decode cL_law 950 = .ok (.iconst 1, 1) := by decide +kernel
set_option maxRecDepth 100000 in
theorem dlw_951 : decode cL_law 951 = .ok (.iadd, 1) := by decide +kernel
set_option maxRecDepth 100000 in
theorem dlw_952 : decode cL_law 952 = .ok (.iaload, 1) := by decide +kernel
set_option maxRecDepth 100000 in
theorem dlw_953 : decode cL_law 953 = .ok (.aload_n 0, 1) := by decide +kernel
set_option maxRecDepth 100000 in
theorem dlw_954 : decode cL_law 954 = .ok (.iload 4, 2) := by decide +kernel
set_option maxRecDepth 100000 in
theorem dlw_956 : decode cL_law 956 = .ok (.iconst 2, 1) := by decide +kernel
set_option maxRecDepth 100000 in
theorem dlw_957 : decode cL_law 957 = .ok (.iadd, 1) := by decide +kernel
set_option maxRecDepth 100000 in
theorem dlw_958 : decode cL_law 958 = .ok (.iaload, 1) := by decide +kernel
set_option maxRecDepth 100000 in
theorem dlw_959 : decode cL_law 959 = .ok (.aload_n 0, 1) := by decide +kernel
set_option maxRecDepth 100000 in
theorem dlw_960 : decode cL_law 960 = .ok (.iload 4, 2) := by decide +kernel
set_option maxRecDepth 100000 in
theorem dlw_962 : decode cL_law 962 = .ok (.iconst 3, 1) := by decide +kernel
set_option maxRecDepth 100000 in
theorem dlw_963 : decode cL_law 963 = .ok (.iadd, 1) := by decide +kernel
set_option maxRecDepth 100000 in
theorem dlw_964 : decode cL_law 964 = .ok (.iaload, 1) := by decide +kernel
set_option maxRecDepth 100000 in
theorem dlw_965 : decode cL_law 965 = .ok (.aload_n 3, 1) := by decide +kernel
set_option maxRecDepth 100000 in
theorem dlw_966 : decode cL_law 966 = .ok (.invokestatic 182, 3) := by decide +kernel
set_option maxRecDepth 100000 in
theorem dlw_969 : decode cL_law 969 = .ok (.istore 5, 2) := by decide +kernel
set_option maxRecDepth 100000 in
theorem dlw_971 : decode cL_law 971 = .ok (.aload_n 2, 1) := by decide +kernel
set_option maxRecDepth 100000 in
theorem dlw_972 : decode cL_law 972 = .ok (.aload_n 0, 1) := by decide +kernel
set_option maxRecDepth 100000 in
theorem dlw_973 : decode cL_law 973 = .ok (.iload 4, 2) := by decide +kernel
set_option maxRecDepth 100000 in
theorem dlw_975 : decode cL_law 975 = .ok (.iconst 1, 1) := by decide +kernel
set_option maxRecDepth 100000 in
theorem dlw_976 : decode cL_law 976 = .ok (.iadd, 1) := by decide +kernel
set_option maxRecDepth 100000 in
theorem dlw_977 : decode cL_law 977 = .ok (.iaload, 1) := by decide +kernel
set_option maxRecDepth 100000 in
theorem dlw_978 : decode cL_law 978 = .ok (.aload_n 0, 1) := by decide +kernel
set_option maxRecDepth 100000 in
theorem dlw_979 : decode cL_law 979 = .ok (.iload 4, 2) := by decide +kernel
set_option maxRecDepth 100000 in
theorem dlw_981 : decode cL_law 981 = .ok (.iconst 2, 1) := by decide +kernel
set_option maxRecDepth 100000 in
theorem dlw_982 : decode cL_law 982 = .ok (.iadd, 1) := by decide +kernel
set_option maxRecDepth 100000 in
theorem dlw_983 : decode cL_law 983 = .ok (.iaload, 1) := by decide +kernel
set_option maxRecDepth 100000 in
theorem dlw_984 : decode cL_law 984 = .ok (.aload_n 0, 1) := by decide +kernel
set_option maxRecDepth 100000 in
theorem dlw_985 : decode cL_law 985 = .ok (.iload 4, 2) := by decide +kernel
set_option maxRecDepth 100000 in
theorem dlw_987 : decode cL_law 987 = .ok (.iconst 3, 1) := by decide +kernel
set_option maxRecDepth 100000 in
theorem dlw_988 : decode cL_law 988 = .ok (.iadd, 1) := by decide +kernel
set_option maxRecDepth 100000 in
theorem dlw_989 : decode cL_law 989 = .ok (.iaload, 1) := by decide +kernel
set_option maxRecDepth 100000 in
theorem dlw_990 : decode cL_law 990 = .ok (.invokevirtual 185, 3) := by decide +kernel
set_option maxRecDepth 100000 in
theorem dlw_993 : decode cL_law 993 = .ok (.istore 6, 2) := by decide +kernel
set_option maxRecDepth 100000 in
theorem dlw_995 : decode cL_law 995 = .ok (.aload_n 2, 1) := by decide +kernel
set_option maxRecDepth 100000 in
theorem dlw_996 : decode cL_law 996 = .ok (.invokevirtual 186, 3) := by decide +kernel
set_option maxRecDepth 100000 in
theorem dlw_999 : decode cL_law 999 = .ok (.iload 5, 2) := by decide +kernel
set_option maxRecDepth 100000 in
theorem dlw_1001 : decode cL_law 1001 = .ok (.if_icmp .eq 5, 3) := by decide +kernel
set_option maxRecDepth 100000 in
theorem dlw_1006 : decode cL_law 1006 = .ok (.iload 5, 2) := by decide +kernel
set_option maxRecDepth 100000 in
theorem dlw_1008 : decode cL_law 1008 = .ok (.ifCond .ne 15, 3) := by decide +kernel
set_option maxRecDepth 100000 in
theorem dlw_1011 : decode cL_law 1011 = .ok (.aload_n 3, 1) := by decide +kernel
set_option maxRecDepth 100000 in
theorem dlw_1012 : decode cL_law 1012 = .ok (.iconst 0, 1) := by decide +kernel
set_option maxRecDepth 100000 in
theorem dlw_1013 : decode cL_law 1013 = .ok (.laload, 1) := by decide +kernel
set_option maxRecDepth 100000 in
theorem dlw_1014 : decode cL_law 1014 = .ok (.iload 6, 2) := by decide +kernel
end
section
set_option maxRecDepth 100000 in
theorem dlw_1016 : decode cL_law 1016 = .ok (.i2l, 1) := by decide +kernel
set_option maxRecDepth 100000 in
theorem dlw_1017 : decode cL_law 1017 = .ok (.lcmp, 1) := by decide +kernel
set_option maxRecDepth 100000 in
theorem dlw_1018 : decode cL_law 1018 = .ok (.ifCond .eq 5, 3) := by decide +kernel
set_option maxRecDepth 100000 in
theorem dlw_1023 : decode cL_law 1023 = .ok (.goto 164, 3) := by decide +kernel
set_option maxRecDepth 100000 in
theorem dlw_1026 : decode cL_law 1026 = .ok (.aload_n 1, 1) := by decide +kernel
set_option maxRecDepth 100000 in
theorem dlw_1027 : decode cL_law 1027 = .ok (.aload_n 0, 1) := by decide +kernel
set_option maxRecDepth 100000 in
theorem dlw_1028 : decode cL_law 1028 = .ok (.iload 4, 2) := by decide +kernel
set_option maxRecDepth 100000 in
theorem dlw_1030 : decode cL_law 1030 = .ok (.iconst 1, 1) := by decide +kernel
set_option maxRecDepth 100000 in
theorem dlw_1031 : decode cL_law 1031 = .ok (.iadd, 1) := by decide +kernel
set_option maxRecDepth 100000 in
theorem dlw_1032 : decode cL_law 1032 = .ok (.iaload, 1) := by decide +kernel
set_option maxRecDepth 100000 in
theorem dlw_1033 : decode cL_law 1033 = .ok (.aload_n 0, 1) := by decide +kernel
set_option maxRecDepth 100000 in
theorem dlw_1034 : decode cL_law 1034 = .ok (.iload 4, 2) := by decide +kernel
set_option maxRecDepth 100000 in
theorem dlw_1036 : decode cL_law 1036 = .ok (.iconst 2, 1) := by decide +kernel
set_option maxRecDepth 100000 in
theorem dlw_1037 : decode cL_law 1037 = .ok (.iadd, 1) := by decide +kernel
set_option maxRecDepth 100000 in
theorem dlw_1038 : decode cL_law 1038 = .ok (.iaload, 1) := by decide +kernel
set_option maxRecDepth 100000 in
theorem dlw_1039 : decode cL_law 1039 = .ok (.aload_n 3, 1) := by decide +kernel
set_option maxRecDepth 100000 in
theorem dlw_1040 : decode cL_law 1040 = .ok (.invokestatic 189, 3) := by decide +kernel
set_option maxRecDepth 100000 in
theorem dlw_1043 : decode cL_law 1043 = .ok (.istore 5, 2) := by decide +kernel
set_option maxRecDepth 100000 in
theorem dlw_1045 : decode cL_law 1045 = .ok (.aload_n 2, 1) := by decide +kernel
set_option maxRecDepth 100000 in
theorem dlw_1046 : decode cL_law 1046 = .ok (.aload_n 0, 1) := by decide +kernel
set_option maxRecDepth 100000 in
theorem dlw_1047 : decode cL_law 1047 = .ok (.iload 4, 2) := by decide +kernel
set_option maxRecDepth 100000 in
theorem dlw_1049 : decode cL_law 1049 = .ok (.iconst 1, 1) := by decide +kernel
set_option maxRecDepth 100000 in
theorem dlw_1050 : decode cL_law 1050 = .ok (.iadd, 1) := by decide +kernel
set_option maxRecDepth 100000 in
theorem dlw_1051 : decode cL_law 1051 = .ok (.iaload, 1) := by decide +kernel
set_option maxRecDepth 100000 in
theorem dlw_1052 : decode cL_law 1052 = .ok (.aload_n 0, 1) := by decide +kernel
set_option maxRecDepth 100000 in
theorem dlw_1053 : decode cL_law 1053 = .ok (.iload 4, 2) := by decide +kernel
set_option maxRecDepth 100000 in
theorem dlw_1055 : decode cL_law 1055 = .ok (.iconst 2, 1) := by decide +kernel
set_option maxRecDepth 100000 in
theorem dlw_1056 : decode cL_law 1056 = .ok (.iadd, 1) := by decide +kernel
set_option maxRecDepth 100000 in
theorem dlw_1057 : decode cL_law 1057 = .ok (.iaload, 1) := by decide +kernel
set_option maxRecDepth 100000 in
theorem dlw_1058 : decode cL_law 1058 = .ok (.invokevirtual 191, 3) := by decide +kernel
set_option maxRecDepth 100000 in
theorem dlw_1061 : decode cL_law 1061 = .ok (.istore 6, 2) := by decide +kernel
set_option maxRecDepth 100000 in
theorem dlw_1063 : decode cL_law 1063 = .ok (.goto 124, 3) := by decide +kernel
set_option maxRecDepth 100000 in
theorem dlw_1066 : decode cL_law 1066 = .ok (.aload_n 1, 1) := by decide +kernel
set_option maxRecDepth 100000 in
theorem dlw_1067 : decode cL_law 1067 = .ok (.aload_n 0, 1) := by decide +kernel
set_option maxRecDepth 100000 in
theorem dlw_1068 : decode cL_law 1068 = .ok (.iload 4, 2) := by decide +kernel
set_option maxRecDepth 100000 in
theorem dlw_1070 : decode cL_law 1070 = .ok (.iconst 1, 1) := by decide +kernel
set_option maxRecDepth 100000 in
theorem dlw_1071 : decode cL_law 1071 = .ok (.iadd, 1) := by decide +kernel
set_option maxRecDepth 100000 in
theorem dlw_1072 : decode cL_law 1072 = .ok (.iaload, 1) := by decide +kernel
set_option maxRecDepth 100000 in
theorem dlw_1073 : decode cL_law 1073 = .ok (.aload_n 0, 1) := by decide +kernel
set_option maxRecDepth 100000 in
theorem dlw_1074 : decode cL_law 1074 = .ok (.iload 4, 2) := by decide +kernel
set_option maxRecDepth 100000 in
theorem dlw_1076 : decode cL_law 1076 = .ok (.iconst 2, 1) := by decide +kernel
set_option maxRecDepth 100000 in
theorem dlw_1077 : decode cL_law 1077 = .ok (.iadd, 1) := by decide +kernel
set_option maxRecDepth 100000 in
theorem dlw_1078 : decode cL_law 1078 = .ok (.iaload, 1) := by decide +kernel
set_option maxRecDepth 100000 in
theorem dlw_1079 : decode cL_law 1079 = .ok (.aload_n 3, 1) := by decide +kernel
set_option maxRecDepth 100000 in
theorem dlw_1080 : decode cL_law 1080 = .ok (.invokestatic 192, 3) := by decide +kernel
set_option maxRecDepth 100000 in
theorem dlw_1083 : decode cL_law 1083 = .ok (.istore 5, 2) := by decide +kernel
set_option maxRecDepth 100000 in
theorem dlw_1085 : decode cL_law 1085 = .ok (.aload_n 2, 1) := by decide +kernel
set_option maxRecDepth 100000 in
theorem dlw_1086 : decode cL_law 1086 = .ok (.aload_n 0, 1) := by decide +kernel
set_option maxRecDepth 100000 in
theorem dlw_1087 : decode cL_law 1087 = .ok (.iload 4, 2) := by decide +kernel
set_option maxRecDepth 100000 in
theorem dlw_1089 : decode cL_law 1089 = .ok (.iconst 1, 1) := by decide +kernel
set_option maxRecDepth 100000 in
theorem dlw_1090 : decode cL_law 1090 = .ok (.iadd, 1) := by decide +kernel
set_option maxRecDepth 100000 in
theorem dlw_1091 : decode cL_law 1091 = .ok (.iaload, 1) := by decide +kernel
set_option maxRecDepth 100000 in
theorem dlw_1092 : decode cL_law 1092 = .ok (.aload_n 0, 1) := by decide +kernel
set_option maxRecDepth 100000 in
theorem dlw_1093 : decode cL_law 1093 = .ok (.iload 4, 2) := by decide +kernel
set_option maxRecDepth 100000 in
theorem dlw_1095 : decode cL_law 1095 = .ok (.iconst 2, 1) := by decide +kernel
set_option maxRecDepth 100000 in
theorem dlw_1096 : decode cL_law 1096 = .ok (.iadd, 1) := by decide +kernel
set_option maxRecDepth 100000 in
theorem dlw_1097 : decode cL_law 1097 = .ok (.iaload, 1) := by decide +kernel
set_option maxRecDepth 100000 in
theorem dlw_1098 : decode cL_law 1098 = .ok (.invokevirtual 194, 3) := by decide +kernel
set_option maxRecDepth 100000 in
theorem dlw_1101 : decode cL_law 1101 = .ok (.istore 6, 2) := by decide +kernel
set_option maxRecDepth 100000 in
theorem dlw_1103 : decode cL_law 1103 = .ok (.goto 84, 3) := by decide +kernel
set_option maxRecDepth 100000 in
theorem dlw_1106 : decode cL_law 1106 = .ok (.aload_n 1, 1) := by decide +kernel
set_option maxRecDepth 100000 in
theorem dlw_1107 : decode cL_law 1107 = .ok (.aload_n 0, 1) := by decide +kernel
set_option maxRecDepth 100000 in
theorem dlw_1108 : decode cL_law 1108 = .ok (.iload 4, 2) := by decide +kernel
set_option maxRecDepth 100000 in
theorem dlw_1110 : decode cL_law 1110 = .ok (.iconst 1, 1) := by decide +kernel
set_option maxRecDepth 100000 in
theorem dlw_1111 : decode cL_law 1111 = .ok (.iadd, 1) := by decide +kernel
set_option maxRecDepth 100000 in
theorem dlw_1112 : decode cL_law 1112 = .ok (.iaload, 1) := by decide +kernel
set_option maxRecDepth 100000 in
theorem dlw_1113 : decode cL_law 1113 = .ok (.aload_n 0, 1) := by decide +kernel
set_option maxRecDepth 100000 in
theorem dlw_1114 : decode cL_law 1114 = .ok (.iload 4, 2) := by decide +kernel
set_option maxRecDepth 100000 in
theorem dlw_1116 : decode cL_law 1116 = .ok (.iconst 2, 1) := by decide +kernel
set_option maxRecDepth 100000 in
theorem dlw_1117 : decode cL_law 1117 = .ok (.iadd, 1) := by decide +kernel
set_option maxRecDepth 100000 in
theorem dlw_1118 : decode cL_law 1118 = .ok (.iaload, 1) := by decide +kernel
set_option maxRecDepth 100000 in
theorem dlw_1119 : decode cL_law 1119 = .ok (.aload_n 3, 1) := by decide +kernel
set_option maxRecDepth 100000 in
theorem dlw_1120 : decode cL_law 1120 = .ok (.invokestatic 195, 3) := by decide +kernel
set_option maxRecDepth 100000 in
theorem dlw_1123 : decode cL_law 1123 = .ok (.istore 5, 2) := by decide +kernel
set_option maxRecDepth 100000 in
theorem dlw_1125 : decode cL_law 1125 = .ok (.aload_n 2, 1) := by decide +kernel
set_option maxRecDepth 100000 in
theorem dlw_1126 : decode cL_law 1126 = .ok (.aload_n 0, 1) := by decide +kernel
set_option maxRecDepth 100000 in
theorem dlw_1127 : decode cL_law 1127 = .ok (.iload 4, 2) := by decide +kernel
set_option maxRecDepth 100000 in
theorem dlw_1129 : decode cL_law 1129 = .ok (.iconst 1, 1) := by decide +kernel
set_option maxRecDepth 100000 in
theorem dlw_1130 : decode cL_law 1130 = .ok (.iadd, 1) := by decide +kernel
set_option maxRecDepth 100000 in
theorem dlw_1131 : decode cL_law 1131 = .ok (.iaload, 1) := by decide +kernel
set_option maxRecDepth 100000 in
theorem dlw_1132 : decode cL_law 1132 = .ok (.aload_n 0, 1) := by decide +kernel
set_option maxRecDepth 100000 in
theorem dlw_1133 : decode cL_law 1133 = .ok (.iload 4, 2) := by decide +kernel
set_option maxRecDepth 100000 in
theorem dlw_1135 : decode cL_law 1135 = .ok (.iconst 2, 1) := by decide +kernel
set_option maxRecDepth 100000 in
theorem dlw_1136 : decode cL_law 1136 = .ok (.iadd, 1) := by decide +kernel
set_option maxRecDepth 100000 in
theorem dlw_1137 : decode cL_law 1137 = .ok (.iaload, 1) := by decide +kernel
set_option maxRecDepth 100000 in
theorem dlw_1138 : decode cL_law 1138 = .ok (.invokevirtual 197, 3) := by decide +kernel
set_option maxRecDepth 100000 in
theorem dlw_1141 : decode cL_law 1141 = .ok (.istore 6, 2) := by decide +kernel
set_option maxRecDepth 100000 in
theorem dlw_1143 : decode cL_law 1143 = .ok (.goto 44, 3) := by decide +kernel
set_option maxRecDepth 100000 in
theorem dlw_1146 : decode cL_law 1146 = .ok (.aload_n 1, 1) := by decide +kernel
set_option maxRecDepth 100000 in
theorem dlw_1147 : decode cL_law 1147 = .ok (.aload_n 0, 1) := by decide +kernel
set_option maxRecDepth 100000 in
theorem dlw_1148 : decode cL_law 1148 = .ok (.iload 4, 2) := by decide +kernel
set_option maxRecDepth 100000 in
theorem dlw_1150 : decode cL_law 1150 = .ok (.iconst 1, 1) := by decide +kernel
set_option maxRecDepth 100000 in
theorem dlw_1151 : decode cL_law 1151 = .ok (.iadd, 1) := by decide +kernel
set_option maxRecDepth 100000 in
theorem dlw_1152 : decode cL_law 1152 = .ok (.iaload, 1) := by decide +kernel
set_option maxRecDepth 100000 in
theorem dlw_1153 : decode cL_law 1153 = .ok (.aload_n 3, 1) := by decide +kernel
set_option maxRecDepth 100000 in
theorem dlw_1154 : decode cL_law 1154 = .ok (.invokestatic 198, 3) := by decide +kernel
set_option maxRecDepth 100000 in
theorem dlw_1157 : decode cL_law 1157 = .ok (.istore 5, 2) := by decide +kernel
set_option maxRecDepth 100000 in
theorem dlw_1159 : decode cL_law 1159 = .ok (.aload_n 2, 1) := by decide +kernel
set_option maxRecDepth 100000 in
theorem dlw_1160 : decode cL_law 1160 = .ok (.aload_n 0, 1) := by decide +kernel
set_option maxRecDepth 100000 in
theorem dlw_1161 : decode cL_law 1161 = .ok (.iload 4, 2) := by decide +kernel
set_option maxRecDepth 100000 in
theorem dlw_1163 : decode cL_law 1163 = .ok (.iconst 1, 1) := by decide +kernel
set_option maxRecDepth 100000 in
theorem dlw_1164 : decode cL_law 1164 = .ok (.iadd, 1) := by decide +kernel
set_option maxRecDepth 100000 in
theorem dlw_1165 : decode cL_law 1165 = .ok (.iaload, 1) := by decide +kernel
set_option maxRecDepth 100000 in
theorem dlw_1166 : decode cL_law 1166 = .ok (.invokevirtual 200, 3) := by decide +kernel
set_option maxRecDepth 100000 in
theorem dlw_1169 : decode cL_law 1169 = .ok (.istore 6, 2) := by decide +kernel
set_option maxRecDepth 100000 in
theorem dlw_1171 : decode cL_law 1171 = .ok (.goto 16, 3) := by decide +kernel
set_option maxRecDepth 100000 in
theorem dlw_1174 : decode cL_law 1174 = .ok (.aload_n 1, 1) := by decide +kernel
set_option maxRecDepth 100000 in
theorem dlw_1175 : decode cL_law 1175 = .ok (.invokevirtual 201, 3) := by decide +kernel
set_option maxRecDepth 100000 in
theorem dlw_1178 : decode cL_law 1178 = .ok (.pop, 1) := by decide +kernel
set_option maxRecDepth 100000 in
theorem dlw_1179 : decode cL_law 1179 = .ok (.aload_n 2, 1) := by decide +kernel
set_option maxRecDepth 100000 in
theorem dlw_1180 : decode cL_law 1180 = .ok (.invokevirtual 204, 3) := by decide +kernel
set_option maxRecDepth 100000 in
theorem dlw_1183 : decode cL_law 1183 = .ok (.pop, 1) := by decide +kernel
set_option maxRecDepth 100000 in
theorem dlw_1184 : decode cL_law 1184 = .ok (.goto 3, 3) := by decide +kernel
set_option maxRecDepth 100000 in
theorem dlw_1187 : decode cL_law 1187 = .ok (.iinc 4 4, 3) := by decide +kernel
set_option maxRecDepth 100000 in
theorem dlw_1190 : decode cL_law 1190 = .ok (.goto (-1167), 3) := by decide +kernel
set_option maxRecDepth 100000 in
theorem dlw_1193 : decode cL_law 1193 = .ok (.iconst 1, 1) := by decide +kernel
set_option maxRecDepth 100000 in
theorem dlw_1194 : decode cL_law 1194 = .ok (.ireturn, 1) := by decide +kernel
end
section
/-! what stands in the law's loop: the class, the model, the text's length alike; how much was made in k calls -/
def LJ (k : Nat) (x : gd) (q : kP) (w : gd) : Prop := kU q ∧ HOI x q ∧ MI w ∧ JR3 x w ∧ q.ce ≤ 100 + wC q + k ∧ q.sl ≤ 20000 + wS q + 6 * k
theorem wC_b {q : kP} (hu : kU q) : wC q ≤ 9120 := by
  have b := hu.2.2.2.2
  have h : ∀ t : Bool, cond t 30 0 ≤ 30 := fun t => by cases t <;> decide
  have h1 := h q.hi
  have h2 := h q.ex
  have h3 := h q.t0
  have h4 := h q.t1
  unfold wC
  omega
theorem wS_b {q : kP} (hu : kU q) : wS q ≤ 900000 := by
  have b := hu.2.2.2.2
  have g : ∀ t : Bool, cond t 400 0 ≤ 400 := fun t => by cases t <;> decide
  have h : ∀ t : Bool, cond t 20000 0 ≤ 20000 := fun t => by cases t <;> decide
  have h1 := g q.hi
  have h2 := h q.ex
  have h3 := h q.t0
  have h4 := h q.t1
  unfold wS
  omega
theorem LJ_room {k : Nat} {x w : gd} {q : kP} (hJ : LJ k x q w) (hk : k < 64) : ∀ q1, kU q1 → kst q q1 → q1.ce + 200 ≤ room_1.cells ∧ q1.sl + 960000 ≤ room_1.slots := fun q1 hu1 hk1 => by
  obtain ⟨-, -, -, -, b1, b2⟩ := hJ
  have a1 := wC_b hu1
  have a2 := wS_b hu1
  have c1 := hk1.1
  have c2 := hk1.2
  exact ⟨by show q1.ce + 200 ≤ 600128; omega, by show q1.sl + 960000 ≤ 7301098; omega⟩
theorem LJ_next {k : Nat} {x w x1 w1 : gd} {q q1 : kP} (hJ : LJ k x q w) (hu1 : kU q1) (hk1 : kst q q1) (hH1 : HOI x1 q1) (hm : MI w1) (el : JR3 x1 w1) : LJ (k + 1) x1 q1 w1 := by
  obtain ⟨-, -, -, -, b1, b2⟩ := hJ
  have c1 := hk1.1
  have c2 := hk1.2
  exact ⟨hu1, hH1, hm, el, by omega, by omega⟩
theorem lv_tl {ls : Array Slot} {n : Nat} {a : Nat × Value} {t : List (Nat × Value)} (h : lv_has ls n (a :: t)) : lv_has ls n t := ⟨h.1, h.2.1, fun z hz => h.2.2 z (List.mem_cons_of_mem _ hz)⟩
theorem kc_long : Cond.constantLong RL 103 4294967295 ∈ W0 := W0_in (tp_12 (List.mem_of_getElem? (i := 163) (by decide +kernel))) rfl
theorem wcs_105 : gMs RL 105 zw_feed 4 := ⟨⟨W0_in (tp_5 (List.mem_of_getElem? (i := 41) (by decide +kernel))) rfl, W0_in (tp_5 (List.mem_of_getElem? (i := 42) (by decide +kernel))) rfl, W0_in (tp_1 (List.mem_of_getElem? (i := 0) (by decide +kernel))) rfl, wcw_feed⟩, ⟨by decide, by decide, by decide +kernel⟩, by decide, by decide⟩
theorem wcm_110 : gMv RL 110 z_feed 2 := ⟨⟨W0_in (tp_10 (List.mem_of_getElem? (i := 129) (by decide +kernel))) rfl, W0_in (tp_10 (List.mem_of_getElem? (i := 130) (by decide +kernel))) rfl, W0_in (tp_10 (List.mem_of_getElem? (i := 131) (by decide +kernel))) rfl, W0_in (tp_1 (List.mem_of_getElem? (i := 10) (by decide +kernel))) rfl, cw_feed⟩, ⟨by decide, by decide, by decide +kernel⟩, by decide, by decide⟩
theorem wcv_111 : gMv RL 111 zk_X11_wipe 0 := ⟨⟨W0_in (tp_3 (List.mem_of_getElem? (i := 92) (by decide +kernel))) rfl, W0_in (tp_3 (List.mem_of_getElem? (i := 93) (by decide +kernel))) rfl, W0_in (tp_3 (List.mem_of_getElem? (i := 94) (by decide +kernel))) rfl, W0_in (tp_1 (List.mem_of_getElem? (i := 1) (by decide +kernel))) rfl, kcw_X11_wipe⟩, ⟨by decide, by decide, by decide +kernel⟩, by decide, by decide⟩
theorem wcm_114 : gMv RL 114 z_wipe 0 := ⟨⟨W0_in (tp_10 (List.mem_of_getElem? (i := 144) (by decide +kernel))) rfl, W0_in (tp_10 (List.mem_of_getElem? (i := 145) (by decide +kernel))) rfl, W0_in (tp_10 (List.mem_of_getElem? (i := 146) (by decide +kernel))) rfl, W0_in (tp_1 (List.mem_of_getElem? (i := 10) (by decide +kernel))) rfl, cw_wipe⟩, ⟨by decide, by decide, by decide +kernel⟩, by decide, by decide⟩
theorem wcv_115 : gMv RL 115 zk_X11_compile 0 := ⟨⟨W0_in (tp_3 (List.mem_of_getElem? (i := 100) (by decide +kernel))) rfl, W0_in (tp_3 (List.mem_of_getElem? (i := 101) (by decide +kernel))) rfl, W0_in (tp_3 (List.mem_of_getElem? (i := 102) (by decide +kernel))) rfl, W0_in (tp_1 (List.mem_of_getElem? (i := 1) (by decide +kernel))) rfl, kcw_X11_compile⟩, ⟨by decide, by decide, by decide +kernel⟩, by decide, by decide⟩
theorem wcm_118 : gMv RL 118 z_compile 0 := ⟨⟨W0_in (tp_10 (List.mem_of_getElem? (i := 148) (by decide +kernel))) rfl, W0_in (tp_10 (List.mem_of_getElem? (i := 149) (by decide +kernel))) rfl, W0_in (tp_10 (List.mem_of_getElem? (i := 150) (by decide +kernel))) rfl, W0_in (tp_1 (List.mem_of_getElem? (i := 10) (by decide +kernel))) rfl, cw_compile⟩, ⟨by decide, by decide, by decide +kernel⟩, by decide, by decide⟩
theorem wcs_119 : gMs RL 119 zw_fault 3 := ⟨⟨W0_in (tp_5 (List.mem_of_getElem? (i := 70) (by decide +kernel))) rfl, W0_in (tp_5 (List.mem_of_getElem? (i := 71) (by decide +kernel))) rfl, W0_in (tp_1 (List.mem_of_getElem? (i := 0) (by decide +kernel))) rfl, wcw_fault⟩, ⟨by decide, by decide, by decide +kernel⟩, by decide, by decide⟩
theorem wcm_122 : gMv RL 122 z_fault_ 1 := ⟨⟨W0_in (tp_11 (List.mem_of_getElem? (i := 123) (by decide +kernel))) rfl, W0_in (tp_11 (List.mem_of_getElem? (i := 124) (by decide +kernel))) rfl, W0_in (tp_11 (List.mem_of_getElem? (i := 125) (by decide +kernel))) rfl, W0_in (tp_1 (List.mem_of_getElem? (i := 10) (by decide +kernel))) rfl, cw_fault_⟩, ⟨by decide, by decide, by decide +kernel⟩, by decide, by decide⟩
theorem wcs_123 : gMs RL 123 zw_count 3 := ⟨⟨W0_in (tp_5 (List.mem_of_getElem? (i := 94) (by decide +kernel))) rfl, W0_in (tp_5 (List.mem_of_getElem? (i := 95) (by decide +kernel))) rfl, W0_in (tp_1 (List.mem_of_getElem? (i := 0) (by decide +kernel))) rfl, wcw_count⟩, ⟨by decide, by decide, by decide +kernel⟩, by decide, by decide⟩
theorem wcm_125 : gMv RL 125 z_count 1 := ⟨⟨W0_in (tp_11 (List.mem_of_getElem? (i := 127) (by decide +kernel))) rfl, W0_in (tp_11 (List.mem_of_getElem? (i := 128) (by decide +kernel))) rfl, W0_in (tp_11 (List.mem_of_getElem? (i := 129) (by decide +kernel))) rfl, W0_in (tp_1 (List.mem_of_getElem? (i := 10) (by decide +kernel))) rfl, cw_count⟩, ⟨by decide, by decide, by decide +kernel⟩, by decide, by decide⟩
theorem wcs_126 : gMs RL 126 zw_begin 3 := ⟨⟨W0_in (tp_5 (List.mem_of_getElem? (i := 104) (by decide +kernel))) rfl, W0_in (tp_5 (List.mem_of_getElem? (i := 105) (by decide +kernel))) rfl, W0_in (tp_1 (List.mem_of_getElem? (i := 0) (by decide +kernel))) rfl, wcw_begin⟩, ⟨by decide, by decide, by decide +kernel⟩, by decide, by decide⟩
theorem wcm_128 : gMv RL 128 z_begin 1 := ⟨⟨W0_in (tp_11 (List.mem_of_getElem? (i := 131) (by decide +kernel))) rfl, W0_in (tp_11 (List.mem_of_getElem? (i := 132) (by decide +kernel))) rfl, W0_in (tp_11 (List.mem_of_getElem? (i := 133) (by decide +kernel))) rfl, W0_in (tp_1 (List.mem_of_getElem? (i := 10) (by decide +kernel))) rfl, cw_begin⟩, ⟨by decide, by decide, by decide +kernel⟩, by decide, by decide⟩
theorem wcs_129 : gMs RL 129 zw_choices 2 := ⟨⟨W0_in (tp_5 (List.mem_of_getElem? (i := 225) (by decide +kernel))) rfl, W0_in (tp_5 (List.mem_of_getElem? (i := 226) (by decide +kernel))) rfl, W0_in (tp_1 (List.mem_of_getElem? (i := 0) (by decide +kernel))) rfl, wcw_choices⟩, ⟨by decide, by decide, by decide +kernel⟩, by decide, by decide⟩
theorem wcm_132 : gMv RL 132 z_choices 0 := ⟨⟨W0_in (tp_11 (List.mem_of_getElem? (i := 186) (by decide +kernel))) rfl, W0_in (tp_11 (List.mem_of_getElem? (i := 187) (by decide +kernel))) rfl, W0_in (tp_11 (List.mem_of_getElem? (i := 188) (by decide +kernel))) rfl, W0_in (tp_1 (List.mem_of_getElem? (i := 10) (by decide +kernel))) rfl, cw_choices⟩, ⟨by decide, by decide, by decide +kernel⟩, by decide, by decide⟩
theorem wcs_133 : gMs RL 133 zw_choice 4 := ⟨⟨W0_in (tp_5 (List.mem_of_getElem? (i := 237) (by decide +kernel))) rfl, W0_in (tp_5 (List.mem_of_getElem? (i := 238) (by decide +kernel))) rfl, W0_in (tp_1 (List.mem_of_getElem? (i := 0) (by decide +kernel))) rfl, wcw_choice⟩, ⟨by decide, by decide, by decide +kernel⟩, by decide, by decide⟩
theorem wcm_136 : gMv RL 136 z_choice 2 := ⟨⟨W0_in (tp_11 (List.mem_of_getElem? (i := 194) (by decide +kernel))) rfl, W0_in (tp_11 (List.mem_of_getElem? (i := 195) (by decide +kernel))) rfl, W0_in (tp_11 (List.mem_of_getElem? (i := 196) (by decide +kernel))) rfl, W0_in (tp_1 (List.mem_of_getElem? (i := 10) (by decide +kernel))) rfl, cw_choice⟩, ⟨by decide, by decide, by decide +kernel⟩, by decide, by decide⟩
theorem wcs_137 : gMs RL 137 zw_go 3 := ⟨⟨W0_in (tp_6 (List.mem_of_getElem? (i := 18) (by decide +kernel))) rfl, W0_in (tp_6 (List.mem_of_getElem? (i := 19) (by decide +kernel))) rfl, W0_in (tp_1 (List.mem_of_getElem? (i := 0) (by decide +kernel))) rfl, wcw_go⟩, ⟨by decide, by decide, by decide +kernel⟩, by decide, by decide⟩
theorem wcm_139 : gMv RL 139 z_go 1 := ⟨⟨W0_in (tp_11 (List.mem_of_getElem? (i := 202) (by decide +kernel))) rfl, W0_in (tp_11 (List.mem_of_getElem? (i := 203) (by decide +kernel))) rfl, W0_in (tp_11 (List.mem_of_getElem? (i := 204) (by decide +kernel))) rfl, W0_in (tp_1 (List.mem_of_getElem? (i := 10) (by decide +kernel))) rfl, cw_go⟩, ⟨by decide, by decide, by decide +kernel⟩, by decide, by decide⟩
theorem wcs_140 : gMs RL 140 zw_draw 4 := ⟨⟨W0_in (tp_6 (List.mem_of_getElem? (i := 137) (by decide +kernel))) rfl, W0_in (tp_6 (List.mem_of_getElem? (i := 138) (by decide +kernel))) rfl, W0_in (tp_1 (List.mem_of_getElem? (i := 0) (by decide +kernel))) rfl, wcw_draw⟩, ⟨by decide, by decide, by decide +kernel⟩, by decide, by decide⟩
theorem wcm_142 : gMv RL 142 z_draw 2 := ⟨⟨W0_in (tp_11 (List.mem_of_getElem? (i := 230) (by decide +kernel))) rfl, W0_in (tp_11 (List.mem_of_getElem? (i := 231) (by decide +kernel))) rfl, W0_in (tp_11 (List.mem_of_getElem? (i := 232) (by decide +kernel))) rfl, W0_in (tp_1 (List.mem_of_getElem? (i := 10) (by decide +kernel))) rfl, cw_draw⟩, ⟨by decide, by decide, by decide +kernel⟩, by decide, by decide⟩
theorem wcs_143 : gMs RL 143 zw_again 3 := ⟨⟨W0_in (tp_6 (List.mem_of_getElem? (i := 146) (by decide +kernel))) rfl, W0_in (tp_6 (List.mem_of_getElem? (i := 147) (by decide +kernel))) rfl, W0_in (tp_1 (List.mem_of_getElem? (i := 0) (by decide +kernel))) rfl, wcw_again⟩, ⟨by decide, by decide, by decide +kernel⟩, by decide, by decide⟩
theorem wcm_145 : gMv RL 145 z_again 1 := ⟨⟨W0_in (tp_11 (List.mem_of_getElem? (i := 235) (by decide +kernel))) rfl, W0_in (tp_11 (List.mem_of_getElem? (i := 236) (by decide +kernel))) rfl, W0_in (tp_11 (List.mem_of_getElem? (i := 237) (by decide +kernel))) rfl, W0_in (tp_1 (List.mem_of_getElem? (i := 10) (by decide +kernel))) rfl, cw_again⟩, ⟨by decide, by decide, by decide +kernel⟩, by decide, by decide⟩
theorem wcs_146 : gMs RL 146 zw_run 3 := ⟨⟨W0_in (tp_6 (List.mem_of_getElem? (i := 154) (by decide +kernel))) rfl, W0_in (tp_6 (List.mem_of_getElem? (i := 155) (by decide +kernel))) rfl, W0_in (tp_1 (List.mem_of_getElem? (i := 0) (by decide +kernel))) rfl, wcw_run⟩, ⟨by decide, by decide, by decide +kernel⟩, by decide, by decide⟩
theorem wcm_148 : gMv RL 148 z_run 1 := ⟨⟨W0_in (tp_11 (List.mem_of_getElem? (i := 239) (by decide +kernel))) rfl, W0_in (tp_12 (List.mem_of_getElem? (i := 0) (by decide +kernel))) rfl, W0_in (tp_12 (List.mem_of_getElem? (i := 1) (by decide +kernel))) rfl, W0_in (tp_1 (List.mem_of_getElem? (i := 10) (by decide +kernel))) rfl, cw_run⟩, ⟨by decide, by decide, by decide +kernel⟩, by decide, by decide⟩
theorem wcs_149 : gMs RL 149 zw_cell 3 := ⟨⟨W0_in (tp_6 (List.mem_of_getElem? (i := 177) (by decide +kernel))) rfl, W0_in (tp_6 (List.mem_of_getElem? (i := 178) (by decide +kernel))) rfl, W0_in (tp_1 (List.mem_of_getElem? (i := 0) (by decide +kernel))) rfl, wcw_cell⟩, ⟨by decide, by decide, by decide +kernel⟩, by decide, by decide⟩
theorem wcm_151 : gMv RL 151 z_cell 1 := ⟨⟨W0_in (tp_12 (List.mem_of_getElem? (i := 23) (by decide +kernel))) rfl, W0_in (tp_12 (List.mem_of_getElem? (i := 24) (by decide +kernel))) rfl, W0_in (tp_12 (List.mem_of_getElem? (i := 25) (by decide +kernel))) rfl, W0_in (tp_1 (List.mem_of_getElem? (i := 10) (by decide +kernel))) rfl, cw_cell⟩, ⟨by decide, by decide, by decide +kernel⟩, by decide, by decide⟩
theorem wcs_152 : gMs RL 152 zw_seen 4 := ⟨⟨W0_in (tp_6 (List.mem_of_getElem? (i := 184) (by decide +kernel))) rfl, W0_in (tp_6 (List.mem_of_getElem? (i := 185) (by decide +kernel))) rfl, W0_in (tp_1 (List.mem_of_getElem? (i := 0) (by decide +kernel))) rfl, wcw_seen⟩, ⟨by decide, by decide, by decide +kernel⟩, by decide, by decide⟩
theorem wcm_154 : gMv RL 154 z_seen 2 := ⟨⟨W0_in (tp_12 (List.mem_of_getElem? (i := 27) (by decide +kernel))) rfl, W0_in (tp_12 (List.mem_of_getElem? (i := 28) (by decide +kernel))) rfl, W0_in (tp_12 (List.mem_of_getElem? (i := 29) (by decide +kernel))) rfl, W0_in (tp_1 (List.mem_of_getElem? (i := 10) (by decide +kernel))) rfl, cw_seen⟩, ⟨by decide, by decide, by decide +kernel⟩, by decide, by decide⟩
theorem wcs_155 : gMs RL 155 zw_lock 4 := ⟨⟨W0_in (tp_6 (List.mem_of_getElem? (i := 192) (by decide +kernel))) rfl, W0_in (tp_6 (List.mem_of_getElem? (i := 193) (by decide +kernel))) rfl, W0_in (tp_1 (List.mem_of_getElem? (i := 0) (by decide +kernel))) rfl, wcw_lock⟩, ⟨by decide, by decide, by decide +kernel⟩, by decide, by decide⟩
theorem wcm_157 : gMv RL 157 z_lock 2 := ⟨⟨W0_in (tp_12 (List.mem_of_getElem? (i := 31) (by decide +kernel))) rfl, W0_in (tp_12 (List.mem_of_getElem? (i := 32) (by decide +kernel))) rfl, W0_in (tp_12 (List.mem_of_getElem? (i := 33) (by decide +kernel))) rfl, W0_in (tp_1 (List.mem_of_getElem? (i := 10) (by decide +kernel))) rfl, cw_lock⟩, ⟨by decide, by decide, by decide +kernel⟩, by decide, by decide⟩
theorem wcs_158 : gMs RL 158 zw_thread 4 := ⟨⟨W0_in (tp_6 (List.mem_of_getElem? (i := 208) (by decide +kernel))) rfl, W0_in (tp_6 (List.mem_of_getElem? (i := 209) (by decide +kernel))) rfl, W0_in (tp_1 (List.mem_of_getElem? (i := 0) (by decide +kernel))) rfl, wcw_thread⟩, ⟨by decide, by decide, by decide +kernel⟩, by decide, by decide⟩
theorem wcm_160 : gMv RL 160 z_thread 2 := ⟨⟨W0_in (tp_12 (List.mem_of_getElem? (i := 35) (by decide +kernel))) rfl, W0_in (tp_12 (List.mem_of_getElem? (i := 36) (by decide +kernel))) rfl, W0_in (tp_12 (List.mem_of_getElem? (i := 37) (by decide +kernel))) rfl, W0_in (tp_1 (List.mem_of_getElem? (i := 10) (by decide +kernel))) rfl, cw_thread⟩, ⟨by decide, by decide, by decide +kernel⟩, by decide, by decide⟩
theorem wcs_161 : gMs RL 161 zw_local 4 := ⟨⟨W0_in (tp_6 (List.mem_of_getElem? (i := 221) (by decide +kernel))) rfl, W0_in (tp_6 (List.mem_of_getElem? (i := 222) (by decide +kernel))) rfl, W0_in (tp_1 (List.mem_of_getElem? (i := 0) (by decide +kernel))) rfl, wcw_local⟩, ⟨by decide, by decide, by decide +kernel⟩, by decide, by decide⟩
theorem wcm_163 : gMv RL 163 z_local 2 := ⟨⟨W0_in (tp_12 (List.mem_of_getElem? (i := 46) (by decide +kernel))) rfl, W0_in (tp_12 (List.mem_of_getElem? (i := 47) (by decide +kernel))) rfl, W0_in (tp_12 (List.mem_of_getElem? (i := 48) (by decide +kernel))) rfl, W0_in (tp_1 (List.mem_of_getElem? (i := 10) (by decide +kernel))) rfl, cw_local⟩, ⟨by decide, by decide, by decide +kernel⟩, by decide, by decide⟩
theorem wcs_164 : gMs RL 164 zw_act 4 := ⟨⟨W0_in (tp_6 (List.mem_of_getElem? (i := 228) (by decide +kernel))) rfl, W0_in (tp_6 (List.mem_of_getElem? (i := 229) (by decide +kernel))) rfl, W0_in (tp_1 (List.mem_of_getElem? (i := 0) (by decide +kernel))) rfl, wcw_act⟩, ⟨by decide, by decide, by decide +kernel⟩, by decide, by decide⟩
theorem wcm_166 : gMv RL 166 z_act 2 := ⟨⟨W0_in (tp_12 (List.mem_of_getElem? (i := 50) (by decide +kernel))) rfl, W0_in (tp_12 (List.mem_of_getElem? (i := 51) (by decide +kernel))) rfl, W0_in (tp_12 (List.mem_of_getElem? (i := 52) (by decide +kernel))) rfl, W0_in (tp_1 (List.mem_of_getElem? (i := 10) (by decide +kernel))) rfl, cw_act⟩, ⟨by decide, by decide, by decide +kernel⟩, by decide, by decide⟩
theorem wcs_167 : gMs RL 167 zw_before 4 := ⟨⟨W0_in (tp_6 (List.mem_of_getElem? (i := 235) (by decide +kernel))) rfl, W0_in (tp_6 (List.mem_of_getElem? (i := 236) (by decide +kernel))) rfl, W0_in (tp_1 (List.mem_of_getElem? (i := 0) (by decide +kernel))) rfl, wcw_before⟩, ⟨by decide, by decide, by decide +kernel⟩, by decide, by decide⟩
theorem wcm_169 : gMv RL 169 z_before 2 := ⟨⟨W0_in (tp_12 (List.mem_of_getElem? (i := 54) (by decide +kernel))) rfl, W0_in (tp_12 (List.mem_of_getElem? (i := 55) (by decide +kernel))) rfl, W0_in (tp_12 (List.mem_of_getElem? (i := 56) (by decide +kernel))) rfl, W0_in (tp_1 (List.mem_of_getElem? (i := 10) (by decide +kernel))) rfl, cw_before⟩, ⟨by decide, by decide, by decide +kernel⟩, by decide, by decide⟩
theorem wcs_170 : gMs RL 170 zw_race 4 := ⟨⟨W0_in (tp_7 (List.mem_of_getElem? (i := 3) (by decide +kernel))) rfl, W0_in (tp_7 (List.mem_of_getElem? (i := 4) (by decide +kernel))) rfl, W0_in (tp_1 (List.mem_of_getElem? (i := 0) (by decide +kernel))) rfl, wcw_race⟩, ⟨by decide, by decide, by decide +kernel⟩, by decide, by decide⟩
theorem wcm_172 : gMv RL 172 z_race 2 := ⟨⟨W0_in (tp_12 (List.mem_of_getElem? (i := 58) (by decide +kernel))) rfl, W0_in (tp_12 (List.mem_of_getElem? (i := 59) (by decide +kernel))) rfl, W0_in (tp_12 (List.mem_of_getElem? (i := 60) (by decide +kernel))) rfl, W0_in (tp_1 (List.mem_of_getElem? (i := 10) (by decide +kernel))) rfl, cw_race⟩, ⟨by decide, by decide, by decide +kernel⟩, by decide, by decide⟩
theorem wcs_173 : gMs RL 173 zw_linear 3 := ⟨⟨W0_in (tp_7 (List.mem_of_getElem? (i := 18) (by decide +kernel))) rfl, W0_in (tp_7 (List.mem_of_getElem? (i := 19) (by decide +kernel))) rfl, W0_in (tp_1 (List.mem_of_getElem? (i := 0) (by decide +kernel))) rfl, wcw_linear⟩, ⟨by decide, by decide, by decide +kernel⟩, by decide, by decide⟩
theorem wcm_175 : gMv RL 175 z_linear 1 := ⟨⟨W0_in (tp_12 (List.mem_of_getElem? (i := 62) (by decide +kernel))) rfl, W0_in (tp_12 (List.mem_of_getElem? (i := 63) (by decide +kernel))) rfl, W0_in (tp_12 (List.mem_of_getElem? (i := 64) (by decide +kernel))) rfl, W0_in (tp_1 (List.mem_of_getElem? (i := 10) (by decide +kernel))) rfl, cw_linear⟩, ⟨by decide, by decide, by decide +kernel⟩, by decide, by decide⟩
theorem wcs_176 : gMs RL 176 zw_attempt 4 := ⟨⟨W0_in (tp_7 (List.mem_of_getElem? (i := 126) (by decide +kernel))) rfl, W0_in (tp_7 (List.mem_of_getElem? (i := 127) (by decide +kernel))) rfl, W0_in (tp_1 (List.mem_of_getElem? (i := 0) (by decide +kernel))) rfl, wcw_attempt⟩, ⟨by decide, by decide, by decide +kernel⟩, by decide, by decide⟩
theorem wcm_178 : gMv RL 178 z_attempt 2 := ⟨⟨W0_in (tp_12 (List.mem_of_getElem? (i := 86) (by decide +kernel))) rfl, W0_in (tp_12 (List.mem_of_getElem? (i := 87) (by decide +kernel))) rfl, W0_in (tp_12 (List.mem_of_getElem? (i := 88) (by decide +kernel))) rfl, W0_in (tp_1 (List.mem_of_getElem? (i := 10) (by decide +kernel))) rfl, cw_attempt⟩, ⟨by decide, by decide, by decide +kernel⟩, by decide, by decide⟩
theorem wcs_179 : gMs RL 179 zw_tried 4 := ⟨⟨W0_in (tp_8 (List.mem_of_getElem? (i := 112) (by decide +kernel))) rfl, W0_in (tp_8 (List.mem_of_getElem? (i := 113) (by decide +kernel))) rfl, W0_in (tp_1 (List.mem_of_getElem? (i := 0) (by decide +kernel))) rfl, wcw_tried⟩, ⟨by decide, by decide, by decide +kernel⟩, by decide, by decide⟩
theorem wcm_181 : gMv RL 181 z_tried 2 := ⟨⟨W0_in (tp_12 (List.mem_of_getElem? (i := 135) (by decide +kernel))) rfl, W0_in (tp_12 (List.mem_of_getElem? (i := 136) (by decide +kernel))) rfl, W0_in (tp_12 (List.mem_of_getElem? (i := 137) (by decide +kernel))) rfl, W0_in (tp_1 (List.mem_of_getElem? (i := 10) (by decide +kernel))) rfl, cw_tried⟩, ⟨by decide, by decide, by decide +kernel⟩, by decide, by decide⟩
theorem wcs_182 : gMs RL 182 zw_outcome 5 := ⟨⟨W0_in (tp_8 (List.mem_of_getElem? (i := 119) (by decide +kernel))) rfl, W0_in (tp_8 (List.mem_of_getElem? (i := 120) (by decide +kernel))) rfl, W0_in (tp_1 (List.mem_of_getElem? (i := 0) (by decide +kernel))) rfl, wcw_outcome⟩, ⟨by decide, by decide, by decide +kernel⟩, by decide, by decide⟩
theorem wcm_185 : gMv RL 185 z_outcome 3 := ⟨⟨W0_in (tp_12 (List.mem_of_getElem? (i := 139) (by decide +kernel))) rfl, W0_in (tp_12 (List.mem_of_getElem? (i := 140) (by decide +kernel))) rfl, W0_in (tp_12 (List.mem_of_getElem? (i := 141) (by decide +kernel))) rfl, W0_in (tp_1 (List.mem_of_getElem? (i := 10) (by decide +kernel))) rfl, cw_outcome⟩, ⟨by decide, by decide, by decide +kernel⟩, by decide, by decide⟩
theorem wcm_186 : gMv RL 186 z_thrown 0 := ⟨⟨W0_in (tp_10 (List.mem_of_getElem? (i := 125) (by decide +kernel))) rfl, W0_in (tp_10 (List.mem_of_getElem? (i := 126) (by decide +kernel))) rfl, W0_in (tp_10 (List.mem_of_getElem? (i := 127) (by decide +kernel))) rfl, W0_in (tp_1 (List.mem_of_getElem? (i := 10) (by decide +kernel))) rfl, cw_thrown⟩, ⟨by decide, by decide, by decide +kernel⟩, by decide, by decide⟩
theorem wcs_189 : gMs RL 189 zw_finding 4 := ⟨⟨W0_in (tp_8 (List.mem_of_getElem? (i := 130) (by decide +kernel))) rfl, W0_in (tp_8 (List.mem_of_getElem? (i := 131) (by decide +kernel))) rfl, W0_in (tp_1 (List.mem_of_getElem? (i := 0) (by decide +kernel))) rfl, wcw_finding⟩, ⟨by decide, by decide, by decide +kernel⟩, by decide, by decide⟩
theorem wcm_191 : gMv RL 191 z_finding 2 := ⟨⟨W0_in (tp_12 (List.mem_of_getElem? (i := 143) (by decide +kernel))) rfl, W0_in (tp_12 (List.mem_of_getElem? (i := 144) (by decide +kernel))) rfl, W0_in (tp_12 (List.mem_of_getElem? (i := 145) (by decide +kernel))) rfl, W0_in (tp_1 (List.mem_of_getElem? (i := 10) (by decide +kernel))) rfl, cw_finding⟩, ⟨by decide, by decide, by decide +kernel⟩, by decide, by decide⟩
theorem wcs_192 : gMs RL 192 zw_show 4 := ⟨⟨W0_in (tp_8 (List.mem_of_getElem? (i := 145) (by decide +kernel))) rfl, W0_in (tp_8 (List.mem_of_getElem? (i := 146) (by decide +kernel))) rfl, W0_in (tp_1 (List.mem_of_getElem? (i := 0) (by decide +kernel))) rfl, wcw_show⟩, ⟨by decide, by decide, by decide +kernel⟩, by decide, by decide⟩
theorem wcm_194 : gMv RL 194 z_show 2 := ⟨⟨W0_in (tp_12 (List.mem_of_getElem? (i := 147) (by decide +kernel))) rfl, W0_in (tp_12 (List.mem_of_getElem? (i := 148) (by decide +kernel))) rfl, W0_in (tp_12 (List.mem_of_getElem? (i := 149) (by decide +kernel))) rfl, W0_in (tp_1 (List.mem_of_getElem? (i := 10) (by decide +kernel))) rfl, cw_show⟩, ⟨by decide, by decide, by decide +kernel⟩, by decide, by decide⟩
theorem wcs_195 : gMs RL 195 zw_common 4 := ⟨⟨W0_in (tp_8 (List.mem_of_getElem? (i := 157) (by decide +kernel))) rfl, W0_in (tp_8 (List.mem_of_getElem? (i := 158) (by decide +kernel))) rfl, W0_in (tp_1 (List.mem_of_getElem? (i := 0) (by decide +kernel))) rfl, wcw_common⟩, ⟨by decide, by decide, by decide +kernel⟩, by decide, by decide⟩
theorem wcm_197 : gMv RL 197 z_common 2 := ⟨⟨W0_in (tp_12 (List.mem_of_getElem? (i := 151) (by decide +kernel))) rfl, W0_in (tp_12 (List.mem_of_getElem? (i := 152) (by decide +kernel))) rfl, W0_in (tp_12 (List.mem_of_getElem? (i := 153) (by decide +kernel))) rfl, W0_in (tp_1 (List.mem_of_getElem? (i := 10) (by decide +kernel))) rfl, cw_common⟩, ⟨by decide, by decide, by decide +kernel⟩, by decide, by decide⟩
theorem wcs_198 : gMs RL 198 zw_ring 3 := ⟨⟨W0_in (tp_8 (List.mem_of_getElem? (i := 164) (by decide +kernel))) rfl, W0_in (tp_8 (List.mem_of_getElem? (i := 165) (by decide +kernel))) rfl, W0_in (tp_1 (List.mem_of_getElem? (i := 0) (by decide +kernel))) rfl, wcw_ring⟩, ⟨by decide, by decide, by decide +kernel⟩, by decide, by decide⟩
theorem wcm_200 : gMv RL 200 z_ring 1 := ⟨⟨W0_in (tp_12 (List.mem_of_getElem? (i := 155) (by decide +kernel))) rfl, W0_in (tp_12 (List.mem_of_getElem? (i := 156) (by decide +kernel))) rfl, W0_in (tp_12 (List.mem_of_getElem? (i := 157) (by decide +kernel))) rfl, W0_in (tp_1 (List.mem_of_getElem? (i := 10) (by decide +kernel))) rfl, cw_ring⟩, ⟨by decide, by decide, by decide +kernel⟩, by decide, by decide⟩
theorem wcv_201 : gMv RL 201 zk_X11_alike 0 := ⟨⟨W0_in (tp_5 (List.mem_of_getElem? (i := 26) (by decide +kernel))) rfl, W0_in (tp_5 (List.mem_of_getElem? (i := 27) (by decide +kernel))) rfl, W0_in (tp_5 (List.mem_of_getElem? (i := 28) (by decide +kernel))) rfl, W0_in (tp_1 (List.mem_of_getElem? (i := 1) (by decide +kernel))) rfl, kcw_X11_alike⟩, ⟨by decide, by decide, by decide +kernel⟩, by decide, by decide⟩
theorem wcm_204 : gMv RL 204 z_alike 0 := ⟨⟨W0_in (tp_12 (List.mem_of_getElem? (i := 159) (by decide +kernel))) rfl, W0_in (tp_12 (List.mem_of_getElem? (i := 160) (by decide +kernel))) rfl, W0_in (tp_12 (List.mem_of_getElem? (i := 161) (by decide +kernel))) rfl, W0_in (tp_1 (List.mem_of_getElem? (i := 10) (by decide +kernel))) rfl, cw_alike⟩, ⟨by decide, by decide, by decide +kernel⟩, by decide, by decide⟩
end
section
set_option maxRecDepth 100000 in
set_option maxHeartbeats 4000000 in
theorem lc_0 {p : Program} {e : Env} {s : State} {m : MethodId} {args : Array Value} {below : List Frame} {meth : Method} {c : Code} {H : Heap} {locs : List Loc} {Q : State → Prop} {ls : Array Slot} {A : Nat → Prop} {G : kG} {x w : gd} {q : kP} {x0 m0 o0 b L k : Nat} {xs : Nat → Int32} {i : Int32} (C : gC (wE (kE G)) 1000 yLaw p room_1 s m args meth c A) (hX : va_X b L xs s s.heap) (hbl : b < s.heap.size) (hbA : ¬ A b) (hI : LI G A H x q w x0 m0 o0) (hJ : LJ k x q w) (hk : k < 64) (hS : va_S A s.heap H locs) (v1 : vp_in (i + 1) L) (v2 : vp_in (i + 2) L) (v3 : vp_in (i + 3) L) (hl : lv_has ls 7 [(4, .int i), (3, .ref o0), (2, .ref m0), (1, .ref x0), (0, .ref b)]) (kk : ∀ (x1 : gd) (q1 : kP) (w1 : gd) (H1 : Heap) (locs1 : List Loc) (ls1 : Array Slot), LI G A H1 x1 q1 w1 x0 m0 o0 → LJ (k + 1) x1 q1 w1 → va_S A s.heap H1 locs1 → lv_has ls1 7 [(4, .int i), (3, .ref o0), (2, .ref m0), (1, .ref x0), (0, .ref b)] → W p G.1 e room_1 s m args below meth c H1 locs1 (q1.ce + 200) (q1.sl + 960000) Q (F0 m 1187 ls1 [])) : W p G.1 e room_1 s m args below meth c H locs (q.ce + 200) (q.sl + 960000) Q (F0 m 168 ls []) := by
  have hx := C.1.1
  have hb : c.code = cL_law := C.1.2.1
  obtain ⟨hu, hH, hm, el, b1, b2⟩ := id hJ
  obtain ⟨C9, wr, n9, lm, hj⟩ := el
  have el := JH_J hj
  refine lv_aload_n hx hb dlw_168 rfl (lv_at hl 3 rfl) ?_
  refine lv_aload_n hx hb dlw_169 rfl (lv_at hl 4 rfl) ?_
  refine lv_iload hx hb dlw_170 (lv_at hl 0 rfl) ?_
  refine lv_iconst (v := 1) hx hb dlw_172 (by decide +kernel) ?_
  refine lv_iadd hx hb dlw_173 ?_
  refine va_sld hx hb hX hbl hbA hS (i := i + 1) v1 dlw_174 ?_
  refine lv_aload_n hx hb dlw_175 rfl (lv_at hl 4 rfl) ?_
  refine lv_iload hx hb dlw_176 (lv_at hl 0 rfl) ?_
  refine lv_iconst (v := 2) hx hb dlw_178 (by decide +kernel) ?_
  refine lv_iadd hx hb dlw_179 ?_
  refine va_sld hx hb hX hbl hbA hS (i := i + 2) v2 dlw_180 ?_
  refine lv_i2l (v := (xs (i + 2).toNatClampNeg).toInt64) hx hb dlw_181 rfl ?_
  refine lv_bipush (v := 32) hx hb dlw_182 (by decide +kernel) ?_
  refine lv_lshl (v := (xs (i + 2).toNatClampNeg).toInt64 <<< ((32 : Int32).toInt64 &&& 63)) hx hb dlw_184 rfl ?_
  refine lv_aload_n hx hb dlw_185 rfl (lv_at hl 4 rfl) ?_
  refine lv_iload hx hb dlw_186 (lv_at hl 0 rfl) ?_
  refine lv_iconst (v := 3) hx hb dlw_188 (by decide +kernel) ?_
  refine lv_iadd hx hb dlw_189 ?_
  refine va_sld hx hb hX hbl hbA hS (i := i + 3) v3 dlw_190 ?_
  refine lv_i2l (v := (xs (i + 3).toNatClampNeg).toInt64) hx hb dlw_191 rfl ?_
  refine lv_ldc2 (v := 4294967295) hx hb C.1.2.2.2.1 (C.1.2.2.2.2 _ kc_long) dlw_192 ?_
  refine lv_land hx hb dlw_195 ?_
  refine lv_lor hx hb dlw_196 ?_
  refine lv_aload_n hx hb dlw_197 rfl (lv_at hl 1 rfl) ?_
  refine LI_S C hI hu hS hl.1 [vi (xs (i + 1).toNatClampNeg), vl ((((xs (i + 2).toNatClampNeg).toInt64 <<< ((32 : Int32).toInt64 &&& 63)) ||| ((xs (i + 3).toNatClampNeg).toInt64 &&& 4294967295)))] [.int (xs (i + 1).toNatClampNeg), .long ((((xs (i + 2).toNatClampNeg).toInt64 <<< ((32 : Int32).toInt64 &&& 63)) ||| ((xs (i + 3).toNatClampNeg).toInt64 &&& 4294967295)))] (fun _ => rfl) dlw_198 wcs_105 rfl (by intro h; cases h) (Nat.le_of_ble_eq_true rfl) (kw_feed (d := 870) hu hH (xs (i + 1).toNatClampNeg) ((((xs (i + 2).toNatClampNeg).toInt64 <<< ((32 : Int32).toInt64 &&& 63)) ||| ((xs (i + 3).toNatClampNeg).toInt64 &&& 4294967295)))) (LJ_room hJ hk) (fun r1 x1 q1 H1 locs1 hI hu1 hk1 hH1 hp1 hS => ?_)
  refine lv_istore (lv' := (5, .int r1) :: [(4, .int i), (3, .ref o0), (2, .ref m0), (1, .ref x0), (0, .ref b)]) hx hb dlw_201 hl (by decide) rfl (fun ls hl => ?_)
  refine lv_aload_n hx hb dlw_203 rfl (lv_at hl 3 rfl) ?_
  refine lv_aload_n hx hb dlw_204 rfl (lv_at hl 5 rfl) ?_
  refine lv_iload hx hb dlw_205 (lv_at hl 1 rfl) ?_
  refine lv_iconst (v := 1) hx hb dlw_207 (by decide +kernel) ?_
  refine lv_iadd hx hb dlw_208 ?_
  refine va_sld hx hb hX hbl hbA hS (i := i + 1) v1 dlw_209 ?_
  refine lv_aload_n hx hb dlw_210 rfl (lv_at hl 5 rfl) ?_
  refine lv_iload hx hb dlw_211 (lv_at hl 1 rfl) ?_
  refine lv_iconst (v := 2) hx hb dlw_213 (by decide +kernel) ?_
  refine lv_iadd hx hb dlw_214 ?_
  refine va_sld hx hb hX hbl hbA hS (i := i + 2) v2 dlw_215 ?_
  refine lv_i2l (v := (xs (i + 2).toNatClampNeg).toInt64) hx hb dlw_216 rfl ?_
  refine lv_bipush (v := 32) hx hb dlw_217 (by decide +kernel) ?_
  refine lv_lshl (v := (xs (i + 2).toNatClampNeg).toInt64 <<< ((32 : Int32).toInt64 &&& 63)) hx hb dlw_219 rfl ?_
  refine lv_aload_n hx hb dlw_220 rfl (lv_at hl 5 rfl) ?_
  refine lv_iload hx hb dlw_221 (lv_at hl 1 rfl) ?_
  refine lv_iconst (v := 3) hx hb dlw_223 (by decide +kernel) ?_
  refine lv_iadd hx hb dlw_224 ?_
  refine va_sld hx hb hX hbl hbA hS (i := i + 3) v3 dlw_225 ?_
  refine lv_i2l (v := (xs (i + 3).toNatClampNeg).toInt64) hx hb dlw_226 rfl ?_
  refine lv_ldc2 (v := 4294967295) hx hb C.1.2.2.2.1 (C.1.2.2.2.2 _ kc_long) dlw_227 ?_
  refine lv_land hx hb dlw_230 ?_
  refine lv_lor hx hb dlw_231 ?_
  refine LI_M C hI hS hl.1 (restv := []) (d1 := 900) (F := fun _ w1 => MI w1 ∧ (okF w (xs (i + 1).toNatClampNeg) → ((w1.1 0 2 = w.1 0 2 + xs (i + 1).toNatClampNeg ∧ FBm w ((((xs (i + 2).toNatClampNeg).toInt64 <<< ((32 : Int32).toInt64 &&& 63)) ||| ((xs (i + 3).toNatClampNeg).toInt64 &&& 4294967295))) (xs (i + 1).toNatClampNeg).toNatClampNeg w1) ∧ w1.1 0 66 = 0 ∧ z5 w1) ∧ ZM w1) ∧ (¬ okF w (xs (i + 1).toNatClampNeg) → rdM C9 wr w w1)) [vi (xs (i + 1).toNatClampNeg), vl ((((xs (i + 2).toNatClampNeg).toInt64 <<< ((32 : Int32).toInt64 &&& 63)) ||| ((xs (i + 3).toNatClampNeg).toInt64 &&& 4294967295)))] [.int (xs (i + 1).toNatClampNeg), .long ((((xs (i + 2).toNatClampNeg).toInt64 <<< ((32 : Int32).toInt64 &&& 63)) ||| ((xs (i + 3).toNatClampNeg).toInt64 &&& 4294967295)))] (fun _ => rfl) dlw_232 wcm_110 rfl rfl (Nat.le_of_ble_eq_true rfl) (by decide) (by omega) (sp_feed (d := 899) (xs (i + 1).toNatClampNeg) ((((xs (i + 2).toNatClampNeg).toInt64 <<< ((32 : Int32).toInt64 &&& 63)) ||| ((xs (i + 3).toNatClampNeg).toInt64 &&& 4294967295))) hm.1 (fun hn w1 hmd _ => ⟨(MI_0 (mi_of hmd) hm).1, fun e9 => absurd e9 hn, fun _ => rd_0 (mi_of hmd) hm⟩) (fun hy w1 hg _ e9 => ⟨MI_wG hg, fun _ => ⟨⟨e9, hg.2.1, hg.2.2.2.2.2⟩, hg.2.2.1, hg.2.2.2.1, hg.2.2.2.2.1⟩, fun e8 => absurd hy e8⟩)) ⟨(LJ_room hJ hk q1 hu1 hk1).1, (LJ_room hJ hk q1 hu1 hk1).2⟩ (fun r2 w1 H1 locs1 hI hpm hS => ?_)
  refine lv_istore (lv' := (6, .int r2) :: (5, .int r1) :: [(4, .int i), (3, .ref o0), (2, .ref m0), (1, .ref x0), (0, .ref b)]) hx hb dlw_235 hl (by decide) rfl (fun ls hl => ?_)
  refine lv_goto (tgt := 1187) hx hb dlw_237 (by decide) ?_
  refine kk x1 q1 w1 H1 locs1 ls hI (LJ_next hJ hu1 hk1 hH1 hpm.1 ?_) hS (lv_tl (lv_tl hl))
  by_cases ho : okk x (xs (i + 1).toNatClampNeg)
  · have hoF : okF w (xs (i + 1).toNatClampNeg) := by
      unfold okk at ho; unfold okF; rw [← el.1.1]; exact ho
    obtain ⟨⟨a1, a2, a3⟩, a4⟩ := hp1.1 ho
    obtain ⟨⟨⟨c1, c2⟩, c3, c4⟩, c5⟩ := hpm.2.1 hoF
    have hL := hH.1
    unfold kL at hL
    unfold okk at ho
    exact JR3_z (JR_feed el ho hL.1 a1 a2 a3 c1 c2 c3 c4) a4 c5
  · have hoF : ¬ okF w (xs (i + 1).toNatClampNeg) := fun h => ho (by unfold okF at h; unfold okk; rw [el.1.1]; exact h)
    exact JQ_rd hj hH1 (hp1.2 ho) (hpm.2.2 hoF)
set_option maxRecDepth 100000 in
set_option maxHeartbeats 4000000 in
theorem lc_1 {p : Program} {e : Env} {s : State} {m : MethodId} {args : Array Value} {below : List Frame} {meth : Method} {c : Code} {H : Heap} {locs : List Loc} {Q : State → Prop} {ls : Array Slot} {A : Nat → Prop} {G : kG} {x w : gd} {q : kP} {x0 m0 o0 b L k : Nat} {xs : Nat → Int32} {i : Int32} (C : gC (wE (kE G)) 1000 yLaw p room_1 s m args meth c A) (hX : va_X b L xs s s.heap) (hbl : b < s.heap.size) (hbA : ¬ A b) (hI : LI G A H x q w x0 m0 o0) (hJ : LJ k x q w) (hk : k < 64) (hS : va_S A s.heap H locs) (v1 : vp_in (i + 1) L) (v2 : vp_in (i + 2) L) (v3 : vp_in (i + 3) L) (hl : lv_has ls 7 [(4, .int i), (3, .ref o0), (2, .ref m0), (1, .ref x0), (0, .ref b)]) (kk : ∀ (x1 : gd) (q1 : kP) (w1 : gd) (H1 : Heap) (locs1 : List Loc) (ls1 : Array Slot), LI G A H1 x1 q1 w1 x0 m0 o0 → LJ (k + 1) x1 q1 w1 → va_S A s.heap H1 locs1 → lv_has ls1 7 [(4, .int i), (3, .ref o0), (2, .ref m0), (1, .ref x0), (0, .ref b)] → W p G.1 e room_1 s m args below meth c H1 locs1 (q1.ce + 200) (q1.sl + 960000) Q (F0 m 1187 ls1 [])) : W p G.1 e room_1 s m args below meth c H locs (q.ce + 200) (q.sl + 960000) Q (F0 m 240 ls []) := by
  have hx := C.1.1
  have hb : c.code = cL_law := C.1.2.1
  obtain ⟨hu, hH, hm, el, b1, b2⟩ := id hJ
  obtain ⟨C9, wr, n9, lm, hj⟩ := el
  have el := JH_J hj
  refine lv_aload_n hx hb dlw_240 rfl (lv_at hl 3 rfl) ?_
  refine LI_K C hI hu hS hl.1 (restv := []) (P := fun r9 y9 _ => r9 = x.1 20 1 ∧ ((y9.1 20 1 = 0 ∧ y9.1 0 9 = 0) ∧ ZR y9)) dlw_241 wcv_111 rfl (Nat.le_of_ble_eq_true rfl) (by decide) (T_mono (kr_wipe (d := 899) hu.1 hH (P := fun v9 y9 => v9 = some (vi (x.1 20 1)) ∧ HOI y9 q ∧ ((y9.1 20 1 = 0 ∧ y9.1 0 9 = 0) ∧ ZR y9)) (fun y9 h1 h2 => ⟨rfl, h1, h2⟩)) (fun o9 x9 f9 w9 => by obtain ⟨rfl, v, rfl, rfl, h1, h2⟩ := w9; exact ⟨_, q, rfl, rfl, hu, kst_rf q, h1, rfl, h2⟩)) (LJ_room hJ hk) (fun r1 x1 x2 q1 H1 locs1 hI hu1 hk1 hH1 hp1 ex hS => ?_)
  refine lv_pop hx hb dlw_244 rfl ?_
  refine lv_aload_n hx hb dlw_245 rfl (lv_at hl 2 rfl) ?_
  refine LI_M C hI hS hl.1 (restv := []) (d1 := 900) (F := fun r9 w1 => r9 = w.1 0 2 ∧ MI w1 ∧ ((w1.1 0 2 = 0 ∧ w1.1 0 66 = 0 ∧ z5 w1) ∧ ZM w1)) [] [] (fun _ => rfl) dlw_246 wcm_114 rfl rfl (Nat.le_of_ble_eq_true rfl) (by decide) (by omega) (sp_wipe (d := 899) hm.1 (fun w1 hg e9 => ⟨rfl, MI_wG hg, ⟨e9, hg.2.1, hg.2.2.2.2.2⟩, hg.2.2.1, hg.2.2.2.1, hg.2.2.2.2.1⟩)) ⟨(LJ_room hJ hk q1 hu1 hk1).1, (LJ_room hJ hk q1 hu1 hk1).2⟩ (fun r2 w1 H1 locs1 hI hpm hS => ?_)
  refine lv_pop hx hb dlw_249 rfl ?_
  refine lv_goto (tgt := 1187) hx hb dlw_250 (by decide) ?_
  exact kk x1 q1 w1 H1 locs1 ls hI (LJ_next hJ hu1 hk1 hH1 hpm.2.1 (JR3_x ex (JR3_z (JR_wipe hp1.2.1.1 hp1.2.1.2 hpm.2.2.1.1 hpm.2.2.1.2.1 hpm.2.2.1.2.2) hp1.2.2 hpm.2.2.2))) hS hl
set_option maxRecDepth 100000 in
set_option maxHeartbeats 4000000 in
theorem lc_2 {p : Program} {e : Env} {s : State} {m : MethodId} {args : Array Value} {below : List Frame} {meth : Method} {c : Code} {H : Heap} {locs : List Loc} {Q : State → Prop} {ls : Array Slot} {A : Nat → Prop} {G : kG} {x w : gd} {q : kP} {x0 m0 o0 b L k : Nat} {xs : Nat → Int32} {i : Int32} (C : gC (wE (kE G)) 1000 yLaw p room_1 s m args meth c A) (hX : va_X b L xs s s.heap) (hbl : b < s.heap.size) (hbA : ¬ A b) (hI : LI G A H x q w x0 m0 o0) (hJ : LJ k x q w) (hk : k < 64) (hS : va_S A s.heap H locs) (v1 : vp_in (i + 1) L) (v2 : vp_in (i + 2) L) (v3 : vp_in (i + 3) L) (hl : lv_has ls 7 [(4, .int i), (3, .ref o0), (2, .ref m0), (1, .ref x0), (0, .ref b)]) (kk : ∀ (x1 : gd) (q1 : kP) (w1 : gd) (H1 : Heap) (locs1 : List Loc) (ls1 : Array Slot), LI G A H1 x1 q1 w1 x0 m0 o0 → LJ (k + 1) x1 q1 w1 → va_S A s.heap H1 locs1 → lv_has ls1 7 [(4, .int i), (3, .ref o0), (2, .ref m0), (1, .ref x0), (0, .ref b)] → W p G.1 e room_1 s m args below meth c H1 locs1 (q1.ce + 200) (q1.sl + 960000) Q (F0 m 1187 ls1 [])) : W p G.1 e room_1 s m args below meth c H locs (q.ce + 200) (q.sl + 960000) Q (F0 m 253 ls []) := by
  have hx := C.1.1
  have hb : c.code = cL_law := C.1.2.1
  obtain ⟨hu, hH, hm, el, b1, b2⟩ := id hJ
  obtain ⟨C9, wr, n9, lm, hj⟩ := el
  have el := JH_J hj
  refine lv_aload_n hx hb dlw_253 rfl (lv_at hl 3 rfl) ?_
  refine LI_K C hI hu hS hl.1 (restv := []) (P := fun _ y9 _ => y9.1 20 1 = x.1 20 1 ∧ CCf x y9 ∧ ZR y9) dlw_254 wcv_115 rfl (Nat.le_of_ble_eq_true rfl) (by decide) (T_mono (kr_compile (d := 886) hu hH (P := fun v9 y9 q9 => ∃ r, v9 = some (vi r) ∧ kU q9 ∧ kst q q9 ∧ HOI y9 q9 ∧ (y9.1 20 1 = x.1 20 1 ∧ CCf x y9 ∧ ZR y9)) (X := fun _ _ _ => False) (fun r y9 q9 hq9 g1 g2 g3 g4 g5 => ⟨r, rfl, g1, by rcases hq9 with e9 | e9 <;> rw [e9] <;> first | exact kst_rf q | exact kst_th q, g2, g3, g4, g5⟩)) (fun o9 x9 f9 w9 => by
    obtain ⟨q9, ⟨rfl, v, rfl, r, rfl, g1, g2, g3, g4⟩ | ⟨-, c9, -, hf⟩⟩ := w9
    · exact ⟨r, q9, rfl, rfl, g1, g2, g3, g4⟩
    · exact hf.elim)) (LJ_room hJ hk) (fun r1 x1 x2 q1 H1 locs1 hI hu1 hk1 hH1 hp1 ex hS => ?_)
  refine lv_pop hx hb dlw_257 rfl ?_
  refine lv_aload_n hx hb dlw_258 rfl (lv_at hl 2 rfl) ?_
  refine LI_M C hI hS hl.1 (restv := []) (d1 := 900) (F := fun _ w1 => ((MI w1 ∧ w1.1 0 2 = w.1 0 2) ∧ ZM w1) ∧ MCf w w1) [] [] (fun _ => rfl) dlw_259 wcm_118 rfl rfl (Nat.le_of_ble_eq_true rfl) (by decide) (by omega) (sf_compile (by omega) hm.1 (fun _ _ h h2 => ⟨⟨MI_cG h, h.2.2.2.1, h.2.2.2.2.1, h.2.2.2.2.2⟩, h2⟩)) ⟨(LJ_room hJ hk q1 hu1 hk1).1, (LJ_room hJ hk q1 hu1 hk1).2⟩ (fun r2 w1 H1 locs1 hI hpm hS => ?_)
  refine lv_pop hx hb dlw_262 rfl ?_
  refine lv_goto (tgt := 1187) hx hb dlw_263 (by decide) ?_
  exact kk x1 q1 w1 H1 locs1 ls hI (LJ_next hJ hu1 hk1 hH1 hpm.1.1.1 (JR3_x ex (JR3_z (JR_comp el.1 hp1.2.1 hp1.1 hpm.2 hpm.1.1.2 hpm.1.1.1.2.1) hp1.2.2 hpm.1.2))) hS hl
set_option maxRecDepth 100000 in
set_option maxHeartbeats 4000000 in
theorem lc_3 {p : Program} {e : Env} {s : State} {m : MethodId} {args : Array Value} {below : List Frame} {meth : Method} {c : Code} {H : Heap} {locs : List Loc} {Q : State → Prop} {ls : Array Slot} {A : Nat → Prop} {G : kG} {x w : gd} {q : kP} {x0 m0 o0 b L k : Nat} {xs : Nat → Int32} {i : Int32} (C : gC (wE (kE G)) 1000 yLaw p room_1 s m args meth c A) (hX : va_X b L xs s s.heap) (hbl : b < s.heap.size) (hbA : ¬ A b) (hI : LI G A H x q w x0 m0 o0) (hJ : LJ k x q w) (hk : k < 64) (hS : va_S A s.heap H locs) (v1 : vp_in (i + 1) L) (v2 : vp_in (i + 2) L) (v3 : vp_in (i + 3) L) (hl : lv_has ls 7 [(4, .int i), (3, .ref o0), (2, .ref m0), (1, .ref x0), (0, .ref b)]) (kk : ∀ (x1 : gd) (q1 : kP) (w1 : gd) (H1 : Heap) (locs1 : List Loc) (ls1 : Array Slot), LI G A H1 x1 q1 w1 x0 m0 o0 → LJ (k + 1) x1 q1 w1 → va_S A s.heap H1 locs1 → lv_has ls1 7 [(4, .int i), (3, .ref o0), (2, .ref m0), (1, .ref x0), (0, .ref b)] → W p G.1 e room_1 s m args below meth c H1 locs1 (q1.ce + 200) (q1.sl + 960000) Q (F0 m 1187 ls1 [])) : W p G.1 e room_1 s m args below meth c H locs (q.ce + 200) (q.sl + 960000) Q (F0 m 266 ls []) := by
  have hx := C.1.1
  have hb : c.code = cL_law := C.1.2.1
  obtain ⟨hu, hH, hm, el, b1, b2⟩ := id hJ
  obtain ⟨C9, wr, n9, lm, hj⟩ := el
  have el := JH_J hj
  refine lv_aload_n hx hb dlw_266 rfl (lv_at hl 3 rfl) ?_
  refine lv_aload_n hx hb dlw_267 rfl (lv_at hl 4 rfl) ?_
  refine lv_iload hx hb dlw_268 (lv_at hl 0 rfl) ?_
  refine lv_iconst (v := 1) hx hb dlw_270 (by decide +kernel) ?_
  refine lv_iadd hx hb dlw_271 ?_
  refine va_sld hx hb hX hbl hbA hS (i := i + 1) v1 dlw_272 ?_
  refine lv_aload_n hx hb dlw_273 rfl (lv_at hl 1 rfl) ?_
  refine LI_S C hI hu hS hl.1 [vi (xs (i + 1).toNatClampNeg)] [.int (xs (i + 1).toNatClampNeg)] (fun _ => rfl) dlw_274 wcs_119 rfl (by intro h; cases h) (Nat.le_of_ble_eq_true rfl) (kw_fault (d := 870) hu hH (xs (i + 1).toNatClampNeg)) (LJ_room hJ hk) (fun r1 x1 q1 H1 locs1 hI hu1 hk1 hH1 hp1 hS => ?_)
  refine lv_istore (lv' := (5, .int r1) :: [(4, .int i), (3, .ref o0), (2, .ref m0), (1, .ref x0), (0, .ref b)]) hx hb dlw_277 hl (by decide) rfl (fun ls hl => ?_)
  refine lv_aload_n hx hb dlw_279 rfl (lv_at hl 3 rfl) ?_
  refine lv_aload_n hx hb dlw_280 rfl (lv_at hl 5 rfl) ?_
  refine lv_iload hx hb dlw_281 (lv_at hl 1 rfl) ?_
  refine lv_iconst (v := 1) hx hb dlw_283 (by decide +kernel) ?_
  refine lv_iadd hx hb dlw_284 ?_
  refine va_sld hx hb hX hbl hbA hS (i := i + 1) v1 dlw_285 ?_
  refine LI_M C hI hS hl.1 (restv := []) (d1 := 900) (F := fun _ w1 => rdM C9 wr w w1) [vi (xs (i + 1).toNatClampNeg)] [.int (xs (i + 1).toNatClampNeg)] (fun _ => rfl) dlw_286 wcm_122 rfl rfl (Nat.le_of_ble_eq_true rfl) (by decide) (by omega) (sr_fault2 (D := 899) hm (xs (i + 1).toNatClampNeg) (fun _ _ h => h)) ⟨(LJ_room hJ hk q1 hu1 hk1).1, (LJ_room hJ hk q1 hu1 hk1).2⟩ (fun r2 w1 H1 locs1 hI hpm hS => ?_)
  refine lv_istore (lv' := (6, .int r2) :: (5, .int r1) :: [(4, .int i), (3, .ref o0), (2, .ref m0), (1, .ref x0), (0, .ref b)]) hx hb dlw_289 hl (by decide) rfl (fun ls hl => ?_)
  refine lv_goto (tgt := 1187) hx hb dlw_291 (by decide) ?_
  exact kk x1 q1 w1 H1 locs1 ls hI (LJ_next hJ hu1 hk1 hH1 hpm.1.1 (JQ_rd hj hH1 hp1 hpm)) hS (lv_tl (lv_tl hl))
set_option maxRecDepth 100000 in
set_option maxHeartbeats 4000000 in
theorem lc_4 {p : Program} {e : Env} {s : State} {m : MethodId} {args : Array Value} {below : List Frame} {meth : Method} {c : Code} {H : Heap} {locs : List Loc} {Q : State → Prop} {ls : Array Slot} {A : Nat → Prop} {G : kG} {x w : gd} {q : kP} {x0 m0 o0 b L k : Nat} {xs : Nat → Int32} {i : Int32} (C : gC (wE (kE G)) 1000 yLaw p room_1 s m args meth c A) (hX : va_X b L xs s s.heap) (hbl : b < s.heap.size) (hbA : ¬ A b) (hI : LI G A H x q w x0 m0 o0) (hJ : LJ k x q w) (hk : k < 64) (hS : va_S A s.heap H locs) (v1 : vp_in (i + 1) L) (v2 : vp_in (i + 2) L) (v3 : vp_in (i + 3) L) (hl : lv_has ls 7 [(4, .int i), (3, .ref o0), (2, .ref m0), (1, .ref x0), (0, .ref b)]) (kk : ∀ (x1 : gd) (q1 : kP) (w1 : gd) (H1 : Heap) (locs1 : List Loc) (ls1 : Array Slot), LI G A H1 x1 q1 w1 x0 m0 o0 → LJ (k + 1) x1 q1 w1 → va_S A s.heap H1 locs1 → lv_has ls1 7 [(4, .int i), (3, .ref o0), (2, .ref m0), (1, .ref x0), (0, .ref b)] → W p G.1 e room_1 s m args below meth c H1 locs1 (q1.ce + 200) (q1.sl + 960000) Q (F0 m 1187 ls1 [])) : W p G.1 e room_1 s m args below meth c H locs (q.ce + 200) (q.sl + 960000) Q (F0 m 294 ls []) := by
  have hx := C.1.1
  have hb : c.code = cL_law := C.1.2.1
  obtain ⟨hu, hH, hm, el, b1, b2⟩ := id hJ
  obtain ⟨C9, wr, n9, lm, hj⟩ := el
  have el := JH_J hj
  refine lv_aload_n hx hb dlw_294 rfl (lv_at hl 3 rfl) ?_
  refine lv_aload_n hx hb dlw_295 rfl (lv_at hl 4 rfl) ?_
  refine lv_iload hx hb dlw_296 (lv_at hl 0 rfl) ?_
  refine lv_iconst (v := 1) hx hb dlw_298 (by decide +kernel) ?_
  refine lv_iadd hx hb dlw_299 ?_
  refine va_sld hx hb hX hbl hbA hS (i := i + 1) v1 dlw_300 ?_
  refine lv_aload_n hx hb dlw_301 rfl (lv_at hl 1 rfl) ?_
  refine LI_S C hI hu hS hl.1 [vi (xs (i + 1).toNatClampNeg)] [.int (xs (i + 1).toNatClampNeg)] (fun _ => rfl) dlw_302 wcs_123 rfl (by intro h; cases h) (Nat.le_of_ble_eq_true rfl) (kw_count (d := 870) hu hH (xs (i + 1).toNatClampNeg)) (LJ_room hJ hk) (fun r1 x1 q1 H1 locs1 hI hu1 hk1 hH1 hp1 hS => ?_)
  refine lv_istore (lv' := (5, .int r1) :: [(4, .int i), (3, .ref o0), (2, .ref m0), (1, .ref x0), (0, .ref b)]) hx hb dlw_305 hl (by decide) rfl (fun ls hl => ?_)
  refine lv_aload_n hx hb dlw_307 rfl (lv_at hl 3 rfl) ?_
  refine lv_aload_n hx hb dlw_308 rfl (lv_at hl 5 rfl) ?_
  refine lv_iload hx hb dlw_309 (lv_at hl 1 rfl) ?_
  refine lv_iconst (v := 1) hx hb dlw_311 (by decide +kernel) ?_
  refine lv_iadd hx hb dlw_312 ?_
  refine va_sld hx hb hX hbl hbA hS (i := i + 1) v1 dlw_313 ?_
  refine LI_M C hI hS hl.1 (restv := []) (d1 := 900) (F := fun _ w1 => rdM C9 wr w w1) [vi (xs (i + 1).toNatClampNeg)] [.int (xs (i + 1).toNatClampNeg)] (fun _ => rfl) dlw_314 wcm_125 rfl rfl (Nat.le_of_ble_eq_true rfl) (by decide) (by omega) (sr_count (D := 899) hm (xs (i + 1).toNatClampNeg) (fun _ _ h _ => h)) ⟨(LJ_room hJ hk q1 hu1 hk1).1, (LJ_room hJ hk q1 hu1 hk1).2⟩ (fun r2 w1 H1 locs1 hI hpm hS => ?_)
  refine lv_istore (lv' := (6, .int r2) :: (5, .int r1) :: [(4, .int i), (3, .ref o0), (2, .ref m0), (1, .ref x0), (0, .ref b)]) hx hb dlw_317 hl (by decide) rfl (fun ls hl => ?_)
  refine lv_goto (tgt := 1187) hx hb dlw_319 (by decide) ?_
  exact kk x1 q1 w1 H1 locs1 ls hI (LJ_next hJ hu1 hk1 hH1 hpm.1.1 (JQ_rd hj hH1 hp1 hpm)) hS (lv_tl (lv_tl hl))
set_option maxRecDepth 100000 in
set_option maxHeartbeats 4000000 in
theorem lc_5 {p : Program} {e : Env} {s : State} {m : MethodId} {args : Array Value} {below : List Frame} {meth : Method} {c : Code} {H : Heap} {locs : List Loc} {Q : State → Prop} {ls : Array Slot} {A : Nat → Prop} {G : kG} {x w : gd} {q : kP} {x0 m0 o0 b L k : Nat} {xs : Nat → Int32} {i : Int32} (C : gC (wE (kE G)) 1000 yLaw p room_1 s m args meth c A) (hX : va_X b L xs s s.heap) (hbl : b < s.heap.size) (hbA : ¬ A b) (hI : LI G A H x q w x0 m0 o0) (hJ : LJ k x q w) (hk : k < 64) (hS : va_S A s.heap H locs) (v1 : vp_in (i + 1) L) (v2 : vp_in (i + 2) L) (v3 : vp_in (i + 3) L) (hl : lv_has ls 7 [(4, .int i), (3, .ref o0), (2, .ref m0), (1, .ref x0), (0, .ref b)]) (kk : ∀ (x1 : gd) (q1 : kP) (w1 : gd) (H1 : Heap) (locs1 : List Loc) (ls1 : Array Slot), LI G A H1 x1 q1 w1 x0 m0 o0 → LJ (k + 1) x1 q1 w1 → va_S A s.heap H1 locs1 → lv_has ls1 7 [(4, .int i), (3, .ref o0), (2, .ref m0), (1, .ref x0), (0, .ref b)] → W p G.1 e room_1 s m args below meth c H1 locs1 (q1.ce + 200) (q1.sl + 960000) Q (F0 m 1187 ls1 [])) : W p G.1 e room_1 s m args below meth c H locs (q.ce + 200) (q.sl + 960000) Q (F0 m 322 ls []) := by
  have hx := C.1.1
  have hb : c.code = cL_law := C.1.2.1
  obtain ⟨hu, hH, hm, el, b1, b2⟩ := id hJ
  obtain ⟨C9, wr, n9, lm, hj⟩ := el
  have el := JH_J hj
  refine lv_aload_n hx hb dlw_322 rfl (lv_at hl 3 rfl) ?_
  refine lv_aload_n hx hb dlw_323 rfl (lv_at hl 4 rfl) ?_
  refine lv_iload hx hb dlw_324 (lv_at hl 0 rfl) ?_
  refine lv_iconst (v := 1) hx hb dlw_326 (by decide +kernel) ?_
  refine lv_iadd hx hb dlw_327 ?_
  refine va_sld hx hb hX hbl hbA hS (i := i + 1) v1 dlw_328 ?_
  refine lv_aload_n hx hb dlw_329 rfl (lv_at hl 1 rfl) ?_
  refine LI_S C hI hu hS hl.1 [vi (xs (i + 1).toNatClampNeg)] [.int (xs (i + 1).toNatClampNeg)] (fun _ => rfl) dlw_330 wcs_126 rfl (by intro h; cases h) (Nat.le_of_ble_eq_true rfl) (kw_begin (d := 870) hj hu hH (xs (i + 1).toNatClampNeg)) (LJ_room hJ hk) (fun r1 x1 q1 H1 locs1 hI hu1 hk1 hH1 hp1 hS => ?_)
  refine lv_istore (lv' := (5, .int r1) :: [(4, .int i), (3, .ref o0), (2, .ref m0), (1, .ref x0), (0, .ref b)]) hx hb dlw_333 hl (by decide) rfl (fun ls hl => ?_)
  refine lv_aload_n hx hb dlw_335 rfl (lv_at hl 3 rfl) ?_
  refine lv_aload_n hx hb dlw_336 rfl (lv_at hl 5 rfl) ?_
  refine lv_iload hx hb dlw_337 (lv_at hl 1 rfl) ?_
  refine lv_iconst (v := 1) hx hb dlw_339 (by decide +kernel) ?_
  refine lv_iadd hx hb dlw_340 ?_
  refine va_sld hx hb hX hbl hbA hS (i := i + 1) v1 dlw_341 ?_
  refine LI_M C hI hS hl.1 (restv := []) (d1 := 900) (F := fun r9 w1 => ansM C9 wr (f1Bg w) (f2Bg w (xs (i + 1).toNatClampNeg)) (tBg C9 w (xs (i + 1).toNatClampNeg)) w r9 w1) [vi (xs (i + 1).toNatClampNeg)] [.int (xs (i + 1).toNatClampNeg)] (fun _ => rfl) dlw_342 wcm_128 rfl rfl (Nat.le_of_ble_eq_true rfl) (by decide) (by omega) (ma_begin hj hH hm (xs (i + 1).toNatClampNeg) (by omega) (fun _ _ h1 => h1)) ⟨(LJ_room hJ hk q1 hu1 hk1).1, (LJ_room hJ hk q1 hu1 hk1).2⟩ (fun r2 w1 H1 locs1 hI hpm hS => ?_)
  have hj2 := ja_begin hj hH1 hp1 hpm
  refine lv_istore (lv' := (6, .int r2) :: (5, .int r1) :: [(4, .int i), (3, .ref o0), (2, .ref m0), (1, .ref x0), (0, .ref b)]) hx hb dlw_345 hl (by decide) rfl (fun ls hl => ?_)
  refine lv_goto (tgt := 1187) hx hb dlw_347 (by decide) ?_
  exact kk x1 q1 w1 H1 locs1 ls hI (LJ_next hJ hu1 hk1 hH1 hpm.1 hj2.1) hS (lv_tl (lv_tl hl))
set_option maxRecDepth 100000 in
set_option maxHeartbeats 4000000 in
theorem lc_6 {p : Program} {e : Env} {s : State} {m : MethodId} {args : Array Value} {below : List Frame} {meth : Method} {c : Code} {H : Heap} {locs : List Loc} {Q : State → Prop} {ls : Array Slot} {A : Nat → Prop} {G : kG} {x w : gd} {q : kP} {x0 m0 o0 b L k : Nat} {xs : Nat → Int32} {i : Int32} (C : gC (wE (kE G)) 1000 yLaw p room_1 s m args meth c A) (hX : va_X b L xs s s.heap) (hbl : b < s.heap.size) (hbA : ¬ A b) (hI : LI G A H x q w x0 m0 o0) (hJ : LJ k x q w) (hk : k < 64) (hS : va_S A s.heap H locs) (v1 : vp_in (i + 1) L) (v2 : vp_in (i + 2) L) (v3 : vp_in (i + 3) L) (hl : lv_has ls 7 [(4, .int i), (3, .ref o0), (2, .ref m0), (1, .ref x0), (0, .ref b)]) (kk : ∀ (x1 : gd) (q1 : kP) (w1 : gd) (H1 : Heap) (locs1 : List Loc) (ls1 : Array Slot), LI G A H1 x1 q1 w1 x0 m0 o0 → LJ (k + 1) x1 q1 w1 → va_S A s.heap H1 locs1 → lv_has ls1 7 [(4, .int i), (3, .ref o0), (2, .ref m0), (1, .ref x0), (0, .ref b)] → W p G.1 e room_1 s m args below meth c H1 locs1 (q1.ce + 200) (q1.sl + 960000) Q (F0 m 1187 ls1 [])) : W p G.1 e room_1 s m args below meth c H locs (q.ce + 200) (q.sl + 960000) Q (F0 m 350 ls []) := by
  have hx := C.1.1
  have hb : c.code = cL_law := C.1.2.1
  obtain ⟨hu, hH, hm, el, b1, b2⟩ := id hJ
  obtain ⟨C9, wr, n9, lm, hj⟩ := el
  have el := JH_J hj
  refine lv_aload_n hx hb dlw_350 rfl (lv_at hl 3 rfl) ?_
  refine lv_aload_n hx hb dlw_351 rfl (lv_at hl 1 rfl) ?_
  refine LI_S C hI hu hS hl.1 [] [] (fun _ => rfl) dlw_352 wcs_129 rfl (by intro h; cases h) (Nat.le_of_ble_eq_true rfl) (kw_choices (d := 870) hu hH ) (LJ_room hJ hk) (fun r1 x1 q1 H1 locs1 hI hu1 hk1 hH1 hp1 hS => ?_)
  refine lv_istore (lv' := (5, .int r1) :: [(4, .int i), (3, .ref o0), (2, .ref m0), (1, .ref x0), (0, .ref b)]) hx hb dlw_355 hl (by decide) rfl (fun ls hl => ?_)
  refine lv_aload_n hx hb dlw_357 rfl (lv_at hl 3 rfl) ?_
  refine LI_M C hI hS hl.1 (restv := []) (d1 := 900) (F := fun r9 w1 => ansM C9 wr (f1Ch w) (False) (tCh C9 wr w) w r9 w1) [] [] (fun _ => rfl) dlw_358 wcm_132 rfl rfl (Nat.le_of_ble_eq_true rfl) (by decide) (by omega) (ma_choices hm  (by omega) (fun _ _ h1 => h1)) ⟨(LJ_room hJ hk q1 hu1 hk1).1, (LJ_room hJ hk q1 hu1 hk1).2⟩ (fun r2 w1 H1 locs1 hI hpm hS => ?_)
  have hj2 := ja_choices hj hH1 hp1 hpm
  refine lv_istore (lv' := (6, .int r2) :: (5, .int r1) :: [(4, .int i), (3, .ref o0), (2, .ref m0), (1, .ref x0), (0, .ref b)]) hx hb dlw_361 hl (by decide) rfl (fun ls hl => ?_)
  refine lv_goto (tgt := 1187) hx hb dlw_363 (by decide) ?_
  exact kk x1 q1 w1 H1 locs1 ls hI (LJ_next hJ hu1 hk1 hH1 hpm.1 hj2.1) hS (lv_tl (lv_tl hl))
set_option maxRecDepth 100000 in
set_option maxHeartbeats 4000000 in
theorem lc_7 {p : Program} {e : Env} {s : State} {m : MethodId} {args : Array Value} {below : List Frame} {meth : Method} {c : Code} {H : Heap} {locs : List Loc} {Q : State → Prop} {ls : Array Slot} {A : Nat → Prop} {G : kG} {x w : gd} {q : kP} {x0 m0 o0 b L k : Nat} {xs : Nat → Int32} {i : Int32} (C : gC (wE (kE G)) 1000 yLaw p room_1 s m args meth c A) (hX : va_X b L xs s s.heap) (hbl : b < s.heap.size) (hbA : ¬ A b) (hI : LI G A H x q w x0 m0 o0) (hJ : LJ k x q w) (hk : k < 64) (hS : va_S A s.heap H locs) (v1 : vp_in (i + 1) L) (v2 : vp_in (i + 2) L) (v3 : vp_in (i + 3) L) (hl : lv_has ls 7 [(4, .int i), (3, .ref o0), (2, .ref m0), (1, .ref x0), (0, .ref b)]) (kk : ∀ (x1 : gd) (q1 : kP) (w1 : gd) (H1 : Heap) (locs1 : List Loc) (ls1 : Array Slot), LI G A H1 x1 q1 w1 x0 m0 o0 → LJ (k + 1) x1 q1 w1 → va_S A s.heap H1 locs1 → lv_has ls1 7 [(4, .int i), (3, .ref o0), (2, .ref m0), (1, .ref x0), (0, .ref b)] → W p G.1 e room_1 s m args below meth c H1 locs1 (q1.ce + 200) (q1.sl + 960000) Q (F0 m 1187 ls1 [])) : W p G.1 e room_1 s m args below meth c H locs (q.ce + 200) (q.sl + 960000) Q (F0 m 366 ls []) := by
  have hx := C.1.1
  have hb : c.code = cL_law := C.1.2.1
  obtain ⟨hu, hH, hm, el, b1, b2⟩ := id hJ
  obtain ⟨C9, wr, n9, lm, hj⟩ := el
  have el := JH_J hj
  refine lv_aload_n hx hb dlw_366 rfl (lv_at hl 3 rfl) ?_
  refine lv_aload_n hx hb dlw_367 rfl (lv_at hl 4 rfl) ?_
  refine lv_iload hx hb dlw_368 (lv_at hl 0 rfl) ?_
  refine lv_iconst (v := 1) hx hb dlw_370 (by decide +kernel) ?_
  refine lv_iadd hx hb dlw_371 ?_
  refine va_sld hx hb hX hbl hbA hS (i := i + 1) v1 dlw_372 ?_
  refine lv_aload_n hx hb dlw_373 rfl (lv_at hl 4 rfl) ?_
  refine lv_iload hx hb dlw_374 (lv_at hl 0 rfl) ?_
  refine lv_iconst (v := 2) hx hb dlw_376 (by decide +kernel) ?_
  refine lv_iadd hx hb dlw_377 ?_
  refine va_sld hx hb hX hbl hbA hS (i := i + 2) v2 dlw_378 ?_
  refine lv_aload_n hx hb dlw_379 rfl (lv_at hl 1 rfl) ?_
  refine LI_S C hI hu hS hl.1 [vi (xs (i + 1).toNatClampNeg), vi (xs (i + 2).toNatClampNeg)] [.int (xs (i + 1).toNatClampNeg), .int (xs (i + 2).toNatClampNeg)] (fun _ => rfl) dlw_380 wcs_133 rfl (by intro h; cases h) (Nat.le_of_ble_eq_true rfl) (kw_choice (d := 870) hj hu hH (xs (i + 1).toNatClampNeg) (xs (i + 2).toNatClampNeg)) (LJ_room hJ hk) (fun r1 x1 q1 H1 locs1 hI hu1 hk1 hH1 hp1 hS => ?_)
  refine lv_istore (lv' := (5, .int r1) :: [(4, .int i), (3, .ref o0), (2, .ref m0), (1, .ref x0), (0, .ref b)]) hx hb dlw_383 hl (by decide) rfl (fun ls hl => ?_)
  refine lv_aload_n hx hb dlw_385 rfl (lv_at hl 3 rfl) ?_
  refine lv_aload_n hx hb dlw_386 rfl (lv_at hl 5 rfl) ?_
  refine lv_iload hx hb dlw_387 (lv_at hl 1 rfl) ?_
  refine lv_iconst (v := 1) hx hb dlw_389 (by decide +kernel) ?_
  refine lv_iadd hx hb dlw_390 ?_
  refine va_sld hx hb hX hbl hbA hS (i := i + 1) v1 dlw_391 ?_
  refine lv_aload_n hx hb dlw_392 rfl (lv_at hl 5 rfl) ?_
  refine lv_iload hx hb dlw_393 (lv_at hl 1 rfl) ?_
  refine lv_iconst (v := 2) hx hb dlw_395 (by decide +kernel) ?_
  refine lv_iadd hx hb dlw_396 ?_
  refine va_sld hx hb hX hbl hbA hS (i := i + 2) v2 dlw_397 ?_
  refine LI_M C hI hS hl.1 (restv := []) (d1 := 900) (F := fun r9 w1 => ansM C9 wr (f1Ch w) (f2Ci w (xs (i + 1).toNatClampNeg) (xs (i + 2).toNatClampNeg)) (tCi C9 wr n9 w (xs (i + 1).toNatClampNeg) (xs (i + 2).toNatClampNeg)) w r9 w1) [vi (xs (i + 1).toNatClampNeg), vi (xs (i + 2).toNatClampNeg)] [.int (xs (i + 1).toNatClampNeg), .int (xs (i + 2).toNatClampNeg)] (fun _ => rfl) dlw_398 wcm_136 rfl rfl (Nat.le_of_ble_eq_true rfl) (by decide) (by omega) (ma_choice hj hH hm (xs (i + 1).toNatClampNeg) (xs (i + 2).toNatClampNeg) (by omega) (fun _ _ h1 => h1)) ⟨(LJ_room hJ hk q1 hu1 hk1).1, (LJ_room hJ hk q1 hu1 hk1).2⟩ (fun r2 w1 H1 locs1 hI hpm hS => ?_)
  have hj2 := ja_choice hj hH1 hp1 hpm
  refine lv_istore (lv' := (6, .int r2) :: (5, .int r1) :: [(4, .int i), (3, .ref o0), (2, .ref m0), (1, .ref x0), (0, .ref b)]) hx hb dlw_401 hl (by decide) rfl (fun ls hl => ?_)
  refine lv_goto (tgt := 1187) hx hb dlw_403 (by decide) ?_
  exact kk x1 q1 w1 H1 locs1 ls hI (LJ_next hJ hu1 hk1 hH1 hpm.1 hj2.1) hS (lv_tl (lv_tl hl))
set_option maxRecDepth 100000 in
set_option maxHeartbeats 4000000 in
theorem lc_8 {p : Program} {e : Env} {s : State} {m : MethodId} {args : Array Value} {below : List Frame} {meth : Method} {c : Code} {H : Heap} {locs : List Loc} {Q : State → Prop} {ls : Array Slot} {A : Nat → Prop} {G : kG} {x w : gd} {q : kP} {x0 m0 o0 b L k : Nat} {xs : Nat → Int32} {i : Int32} (C : gC (wE (kE G)) 1000 yLaw p room_1 s m args meth c A) (hX : va_X b L xs s s.heap) (hbl : b < s.heap.size) (hbA : ¬ A b) (hI : LI G A H x q w x0 m0 o0) (hJ : LJ k x q w) (hk : k < 64) (hS : va_S A s.heap H locs) (v1 : vp_in (i + 1) L) (v2 : vp_in (i + 2) L) (v3 : vp_in (i + 3) L) (hl : lv_has ls 7 [(4, .int i), (3, .ref o0), (2, .ref m0), (1, .ref x0), (0, .ref b)]) (kk : ∀ (x1 : gd) (q1 : kP) (w1 : gd) (H1 : Heap) (locs1 : List Loc) (ls1 : Array Slot), LI G A H1 x1 q1 w1 x0 m0 o0 → LJ (k + 1) x1 q1 w1 → va_S A s.heap H1 locs1 → lv_has ls1 7 [(4, .int i), (3, .ref o0), (2, .ref m0), (1, .ref x0), (0, .ref b)] → W p G.1 e room_1 s m args below meth c H1 locs1 (q1.ce + 200) (q1.sl + 960000) Q (F0 m 1187 ls1 [])) : W p G.1 e room_1 s m args below meth c H locs (q.ce + 200) (q.sl + 960000) Q (F0 m 406 ls []) := by
  have hx := C.1.1
  have hb : c.code = cL_law := C.1.2.1
  obtain ⟨hu, hH, hm, el, b1, b2⟩ := id hJ
  obtain ⟨C9, wr, n9, lm, hj⟩ := el
  have el := JH_J hj
  refine lv_aload_n hx hb dlw_406 rfl (lv_at hl 3 rfl) ?_
  refine lv_aload_n hx hb dlw_407 rfl (lv_at hl 4 rfl) ?_
  refine lv_iload hx hb dlw_408 (lv_at hl 0 rfl) ?_
  refine lv_iconst (v := 1) hx hb dlw_410 (by decide +kernel) ?_
  refine lv_iadd hx hb dlw_411 ?_
  refine va_sld hx hb hX hbl hbA hS (i := i + 1) v1 dlw_412 ?_
  refine lv_aload_n hx hb dlw_413 rfl (lv_at hl 1 rfl) ?_
  refine LI_S C hI hu hS hl.1 [vi (xs (i + 1).toNatClampNeg)] [.int (xs (i + 1).toNatClampNeg)] (fun _ => rfl) dlw_414 wcs_137 rfl (by intro h; cases h) (Nat.le_of_ble_eq_true rfl) (kw_go (d := 870) hj hu hH (xs (i + 1).toNatClampNeg)) (LJ_room hJ hk) (fun r1 x1 q1 H1 locs1 hI hu1 hk1 hH1 hp1 hS => ?_)
  refine lv_istore (lv' := (5, .int r1) :: [(4, .int i), (3, .ref o0), (2, .ref m0), (1, .ref x0), (0, .ref b)]) hx hb dlw_417 hl (by decide) rfl (fun ls hl => ?_)
  refine lv_aload_n hx hb dlw_419 rfl (lv_at hl 3 rfl) ?_
  refine lv_aload_n hx hb dlw_420 rfl (lv_at hl 5 rfl) ?_
  refine lv_iload hx hb dlw_421 (lv_at hl 1 rfl) ?_
  refine lv_iconst (v := 1) hx hb dlw_423 (by decide +kernel) ?_
  refine lv_iadd hx hb dlw_424 ?_
  refine va_sld hx hb hX hbl hbA hS (i := i + 1) v1 dlw_425 ?_
  refine LI_M C hI hS hl.1 (restv := []) (d1 := 900) (F := fun r9 w1 => ansM C9 wr (f1Go w) (f2Go w (xs (i + 1).toNatClampNeg)) (tGo C9 wr n9 w (xs (i + 1).toNatClampNeg)) w r9 w1) [vi (xs (i + 1).toNatClampNeg)] [.int (xs (i + 1).toNatClampNeg)] (fun _ => rfl) dlw_426 wcm_139 rfl rfl (Nat.le_of_ble_eq_true rfl) (by decide) (by omega) (ma_go hj hH hm (xs (i + 1).toNatClampNeg) (by omega) (fun _ _ h1 => h1)) ⟨(LJ_room hJ hk q1 hu1 hk1).1, (LJ_room hJ hk q1 hu1 hk1).2⟩ (fun r2 w1 H1 locs1 hI hpm hS => ?_)
  have hj2 := ja_go hj hH1 hp1 hpm
  refine lv_istore (lv' := (6, .int r2) :: (5, .int r1) :: [(4, .int i), (3, .ref o0), (2, .ref m0), (1, .ref x0), (0, .ref b)]) hx hb dlw_429 hl (by decide) rfl (fun ls hl => ?_)
  refine lv_goto (tgt := 1187) hx hb dlw_431 (by decide) ?_
  exact kk x1 q1 w1 H1 locs1 ls hI (LJ_next hJ hu1 hk1 hH1 hpm.1 hj2.1) hS (lv_tl (lv_tl hl))
set_option maxRecDepth 100000 in
set_option maxHeartbeats 4000000 in
theorem lc_9 {p : Program} {e : Env} {s : State} {m : MethodId} {args : Array Value} {below : List Frame} {meth : Method} {c : Code} {H : Heap} {locs : List Loc} {Q : State → Prop} {ls : Array Slot} {A : Nat → Prop} {G : kG} {x w : gd} {q : kP} {x0 m0 o0 b L k : Nat} {xs : Nat → Int32} {i : Int32} (C : gC (wE (kE G)) 1000 yLaw p room_1 s m args meth c A) (hX : va_X b L xs s s.heap) (hbl : b < s.heap.size) (hbA : ¬ A b) (hI : LI G A H x q w x0 m0 o0) (hJ : LJ k x q w) (hk : k < 64) (hS : va_S A s.heap H locs) (v1 : vp_in (i + 1) L) (v2 : vp_in (i + 2) L) (v3 : vp_in (i + 3) L) (hl : lv_has ls 7 [(4, .int i), (3, .ref o0), (2, .ref m0), (1, .ref x0), (0, .ref b)]) (kk : ∀ (x1 : gd) (q1 : kP) (w1 : gd) (H1 : Heap) (locs1 : List Loc) (ls1 : Array Slot), LI G A H1 x1 q1 w1 x0 m0 o0 → LJ (k + 1) x1 q1 w1 → va_S A s.heap H1 locs1 → lv_has ls1 7 [(4, .int i), (3, .ref o0), (2, .ref m0), (1, .ref x0), (0, .ref b)] → W p G.1 e room_1 s m args below meth c H1 locs1 (q1.ce + 200) (q1.sl + 960000) Q (F0 m 1187 ls1 [])) : W p G.1 e room_1 s m args below meth c H locs (q.ce + 200) (q.sl + 960000) Q (F0 m 434 ls []) := by
  have hx := C.1.1
  have hb : c.code = cL_law := C.1.2.1
  obtain ⟨hu, hH, hm, el, b1, b2⟩ := id hJ
  obtain ⟨C9, wr, n9, lm, hj⟩ := el
  have el := JH_J hj
  refine lv_aload_n hx hb dlw_434 rfl (lv_at hl 3 rfl) ?_
  refine lv_aload_n hx hb dlw_435 rfl (lv_at hl 4 rfl) ?_
  refine lv_iload hx hb dlw_436 (lv_at hl 0 rfl) ?_
  refine lv_iconst (v := 1) hx hb dlw_438 (by decide +kernel) ?_
  refine lv_iadd hx hb dlw_439 ?_
  refine va_sld hx hb hX hbl hbA hS (i := i + 1) v1 dlw_440 ?_
  refine lv_aload_n hx hb dlw_441 rfl (lv_at hl 4 rfl) ?_
  refine lv_iload hx hb dlw_442 (lv_at hl 0 rfl) ?_
  refine lv_iconst (v := 2) hx hb dlw_444 (by decide +kernel) ?_
  refine lv_iadd hx hb dlw_445 ?_
  refine va_sld hx hb hX hbl hbA hS (i := i + 2) v2 dlw_446 ?_
  refine lv_aload_n hx hb dlw_447 rfl (lv_at hl 1 rfl) ?_
  refine LI_S C hI hu hS hl.1 [vi (xs (i + 1).toNatClampNeg), vi (xs (i + 2).toNatClampNeg)] [.int (xs (i + 1).toNatClampNeg), .int (xs (i + 2).toNatClampNeg)] (fun _ => rfl) dlw_448 wcs_140 rfl (by intro h; cases h) (Nat.le_of_ble_eq_true rfl) (kw_draw (d := 870) hj hu hH (xs (i + 1).toNatClampNeg) (xs (i + 2).toNatClampNeg)) (LJ_room hJ hk) (fun r1 x1 q1 H1 locs1 hI hu1 hk1 hH1 hp1 hS => ?_)
  refine lv_istore (lv' := (5, .int r1) :: [(4, .int i), (3, .ref o0), (2, .ref m0), (1, .ref x0), (0, .ref b)]) hx hb dlw_451 hl (by decide) rfl (fun ls hl => ?_)
  refine lv_aload_n hx hb dlw_453 rfl (lv_at hl 3 rfl) ?_
  refine lv_aload_n hx hb dlw_454 rfl (lv_at hl 5 rfl) ?_
  refine lv_iload hx hb dlw_455 (lv_at hl 1 rfl) ?_
  refine lv_iconst (v := 1) hx hb dlw_457 (by decide +kernel) ?_
  refine lv_iadd hx hb dlw_458 ?_
  refine va_sld hx hb hX hbl hbA hS (i := i + 1) v1 dlw_459 ?_
  refine lv_aload_n hx hb dlw_460 rfl (lv_at hl 5 rfl) ?_
  refine lv_iload hx hb dlw_461 (lv_at hl 1 rfl) ?_
  refine lv_iconst (v := 2) hx hb dlw_463 (by decide +kernel) ?_
  refine lv_iadd hx hb dlw_464 ?_
  refine va_sld hx hb hX hbl hbA hS (i := i + 2) v2 dlw_465 ?_
  refine LI_M C hI hS hl.1 (restv := []) (d1 := 900) (F := fun r9 w1 => ansM C9 wr (f1Ch w) (f2Dr w (xs (i + 2).toNatClampNeg)) (tDr C9 wr n9 w (xs (i + 1).toNatClampNeg) (xs (i + 2).toNatClampNeg)) w r9 w1) [vi (xs (i + 1).toNatClampNeg), vi (xs (i + 2).toNatClampNeg)] [.int (xs (i + 1).toNatClampNeg), .int (xs (i + 2).toNatClampNeg)] (fun _ => rfl) dlw_466 wcm_142 rfl rfl (Nat.le_of_ble_eq_true rfl) (by decide) (by omega) (ma_draw hj hH hm (xs (i + 1).toNatClampNeg) (xs (i + 2).toNatClampNeg) (by omega) (fun _ _ h1 => h1)) ⟨(LJ_room hJ hk q1 hu1 hk1).1, (LJ_room hJ hk q1 hu1 hk1).2⟩ (fun r2 w1 H1 locs1 hI hpm hS => ?_)
  have hj2 := ja_draw hj hH1 hp1 hpm
  refine lv_istore (lv' := (6, .int r2) :: (5, .int r1) :: [(4, .int i), (3, .ref o0), (2, .ref m0), (1, .ref x0), (0, .ref b)]) hx hb dlw_469 hl (by decide) rfl (fun ls hl => ?_)
  refine lv_goto (tgt := 1187) hx hb dlw_471 (by decide) ?_
  exact kk x1 q1 w1 H1 locs1 ls hI (LJ_next hJ hu1 hk1 hH1 hpm.1 hj2.1) hS (lv_tl (lv_tl hl))
end
section
set_option maxRecDepth 100000 in
set_option maxHeartbeats 4000000 in
theorem lc_10 {p : Program} {e : Env} {s : State} {m : MethodId} {args : Array Value} {below : List Frame} {meth : Method} {c : Code} {H : Heap} {locs : List Loc} {Q : State → Prop} {ls : Array Slot} {A : Nat → Prop} {G : kG} {x w : gd} {q : kP} {x0 m0 o0 b L k : Nat} {xs : Nat → Int32} {i : Int32} (C : gC (wE (kE G)) 1000 yLaw p room_1 s m args meth c A) (hX : va_X b L xs s s.heap) (hbl : b < s.heap.size) (hbA : ¬ A b) (hI : LI G A H x q w x0 m0 o0) (hJ : LJ k x q w) (hk : k < 64) (hS : va_S A s.heap H locs) (v1 : vp_in (i + 1) L) (v2 : vp_in (i + 2) L) (v3 : vp_in (i + 3) L) (hl : lv_has ls 7 [(4, .int i), (3, .ref o0), (2, .ref m0), (1, .ref x0), (0, .ref b)]) (kk : ∀ (x1 : gd) (q1 : kP) (w1 : gd) (H1 : Heap) (locs1 : List Loc) (ls1 : Array Slot), LI G A H1 x1 q1 w1 x0 m0 o0 → LJ (k + 1) x1 q1 w1 → va_S A s.heap H1 locs1 → lv_has ls1 7 [(4, .int i), (3, .ref o0), (2, .ref m0), (1, .ref x0), (0, .ref b)] → W p G.1 e room_1 s m args below meth c H1 locs1 (q1.ce + 200) (q1.sl + 960000) Q (F0 m 1187 ls1 [])) : W p G.1 e room_1 s m args below meth c H locs (q.ce + 200) (q.sl + 960000) Q (F0 m 474 ls []) := by
  have hx := C.1.1
  have hb : c.code = cL_law := C.1.2.1
  obtain ⟨hu, hH, hm, el, b1, b2⟩ := id hJ
  obtain ⟨C9, wr, n9, lm, hj⟩ := el
  have el := JH_J hj
  refine lv_aload_n hx hb dlw_474 rfl (lv_at hl 3 rfl) ?_
  refine lv_aload_n hx hb dlw_475 rfl (lv_at hl 4 rfl) ?_
  refine lv_iload hx hb dlw_476 (lv_at hl 0 rfl) ?_
  refine lv_iconst (v := 1) hx hb dlw_478 (by decide +kernel) ?_
  refine lv_iadd hx hb dlw_479 ?_
  refine va_sld hx hb hX hbl hbA hS (i := i + 1) v1 dlw_480 ?_
  refine lv_aload_n hx hb dlw_481 rfl (lv_at hl 1 rfl) ?_
  refine LI_S C hI hu hS hl.1 [vi (xs (i + 1).toNatClampNeg)] [.int (xs (i + 1).toNatClampNeg)] (fun _ => rfl) dlw_482 wcs_143 rfl (by intro h; cases h) (Nat.le_of_ble_eq_true rfl) (kw_again (d := 870) hj hu hH (xs (i + 1).toNatClampNeg)) (LJ_room hJ hk) (fun r1 x1 q1 H1 locs1 hI hu1 hk1 hH1 hp1 hS => ?_)
  refine lv_istore (lv' := (5, .int r1) :: [(4, .int i), (3, .ref o0), (2, .ref m0), (1, .ref x0), (0, .ref b)]) hx hb dlw_485 hl (by decide) rfl (fun ls hl => ?_)
  refine lv_aload_n hx hb dlw_487 rfl (lv_at hl 3 rfl) ?_
  refine lv_aload_n hx hb dlw_488 rfl (lv_at hl 5 rfl) ?_
  refine lv_iload hx hb dlw_489 (lv_at hl 1 rfl) ?_
  refine lv_iconst (v := 1) hx hb dlw_491 (by decide +kernel) ?_
  refine lv_iadd hx hb dlw_492 ?_
  refine va_sld hx hb hX hbl hbA hS (i := i + 1) v1 dlw_493 ?_
  refine LI_M C hI hS hl.1 (restv := []) (d1 := 900) (F := fun r9 w1 => ansM C9 wr (f1Ch w) (f2Ag w (xs (i + 1).toNatClampNeg)) (tAg C9 wr w (xs (i + 1).toNatClampNeg)) w r9 w1) [vi (xs (i + 1).toNatClampNeg)] [.int (xs (i + 1).toNatClampNeg)] (fun _ => rfl) dlw_494 wcm_145 rfl rfl (Nat.le_of_ble_eq_true rfl) (by decide) (by omega) (ma_again hj hm (xs (i + 1).toNatClampNeg) (by omega) (fun _ _ h1 => h1)) ⟨(LJ_room hJ hk q1 hu1 hk1).1, (LJ_room hJ hk q1 hu1 hk1).2⟩ (fun r2 w1 H1 locs1 hI hpm hS => ?_)
  have hj2 := ja_again hj hH1 hp1 hpm
  refine lv_istore (lv' := (6, .int r2) :: (5, .int r1) :: [(4, .int i), (3, .ref o0), (2, .ref m0), (1, .ref x0), (0, .ref b)]) hx hb dlw_497 hl (by decide) rfl (fun ls hl => ?_)
  refine lv_goto (tgt := 1187) hx hb dlw_499 (by decide) ?_
  exact kk x1 q1 w1 H1 locs1 ls hI (LJ_next hJ hu1 hk1 hH1 hpm.1 hj2.1) hS (lv_tl (lv_tl hl))
set_option maxRecDepth 100000 in
set_option maxHeartbeats 4000000 in
theorem lc_11 {p : Program} {e : Env} {s : State} {m : MethodId} {args : Array Value} {below : List Frame} {meth : Method} {c : Code} {H : Heap} {locs : List Loc} {Q : State → Prop} {ls : Array Slot} {A : Nat → Prop} {G : kG} {x w : gd} {q : kP} {x0 m0 o0 b L k : Nat} {xs : Nat → Int32} {i : Int32} (C : gC (wE (kE G)) 1000 yLaw p room_1 s m args meth c A) (hX : va_X b L xs s s.heap) (hbl : b < s.heap.size) (hbA : ¬ A b) (hI : LI G A H x q w x0 m0 o0) (hJ : LJ k x q w) (hk : k < 64) (hS : va_S A s.heap H locs) (v1 : vp_in (i + 1) L) (v2 : vp_in (i + 2) L) (v3 : vp_in (i + 3) L) (hl : lv_has ls 7 [(4, .int i), (3, .ref o0), (2, .ref m0), (1, .ref x0), (0, .ref b)]) (kk : ∀ (x1 : gd) (q1 : kP) (w1 : gd) (H1 : Heap) (locs1 : List Loc) (ls1 : Array Slot), LI G A H1 x1 q1 w1 x0 m0 o0 → LJ (k + 1) x1 q1 w1 → va_S A s.heap H1 locs1 → lv_has ls1 7 [(4, .int i), (3, .ref o0), (2, .ref m0), (1, .ref x0), (0, .ref b)] → W p G.1 e room_1 s m args below meth c H1 locs1 (q1.ce + 200) (q1.sl + 960000) Q (F0 m 1187 ls1 [])) : W p G.1 e room_1 s m args below meth c H locs (q.ce + 200) (q.sl + 960000) Q (F0 m 502 ls []) := by
  have hx := C.1.1
  have hb : c.code = cL_law := C.1.2.1
  obtain ⟨hu, hH, hm, el, b1, b2⟩ := id hJ
  obtain ⟨C9, wr, n9, lm, hj⟩ := el
  have el := JH_J hj
  refine lv_aload_n hx hb dlw_502 rfl (lv_at hl 3 rfl) ?_
  refine lv_aload_n hx hb dlw_503 rfl (lv_at hl 4 rfl) ?_
  refine lv_iload hx hb dlw_504 (lv_at hl 0 rfl) ?_
  refine lv_iconst (v := 1) hx hb dlw_506 (by decide +kernel) ?_
  refine lv_iadd hx hb dlw_507 ?_
  refine va_sld hx hb hX hbl hbA hS (i := i + 1) v1 dlw_508 ?_
  refine lv_aload_n hx hb dlw_509 rfl (lv_at hl 1 rfl) ?_
  refine LI_S C hI hu hS hl.1 [vi (xs (i + 1).toNatClampNeg)] [.int (xs (i + 1).toNatClampNeg)] (fun _ => rfl) dlw_510 wcs_146 rfl (by intro h; cases h) (Nat.le_of_ble_eq_true rfl) (kw_run (d := 870) hu hH (xs (i + 1).toNatClampNeg)) (LJ_room hJ hk) (fun r1 x1 q1 H1 locs1 hI hu1 hk1 hH1 hp1 hS => ?_)
  refine lv_istore (lv' := (5, .int r1) :: [(4, .int i), (3, .ref o0), (2, .ref m0), (1, .ref x0), (0, .ref b)]) hx hb dlw_513 hl (by decide) rfl (fun ls hl => ?_)
  refine lv_aload_n hx hb dlw_515 rfl (lv_at hl 3 rfl) ?_
  refine lv_aload_n hx hb dlw_516 rfl (lv_at hl 5 rfl) ?_
  refine lv_iload hx hb dlw_517 (lv_at hl 1 rfl) ?_
  refine lv_iconst (v := 1) hx hb dlw_519 (by decide +kernel) ?_
  refine lv_iadd hx hb dlw_520 ?_
  refine va_sld hx hb hX hbl hbA hS (i := i + 1) v1 dlw_521 ?_
  refine LI_M C hI hS hl.1 (restv := []) (d1 := 900) (F := fun _ w1 => rdM C9 wr w w1) [vi (xs (i + 1).toNatClampNeg)] [.int (xs (i + 1).toNatClampNeg)] (fun _ => rfl) dlw_522 wcm_148 rfl rfl (Nat.le_of_ble_eq_true rfl) (by decide) (by omega) (sr_run hm (xs (i + 1).toNatClampNeg) (by omega) (fun _ _ h => h)) ⟨(LJ_room hJ hk q1 hu1 hk1).1, (LJ_room hJ hk q1 hu1 hk1).2⟩ (fun r2 w1 H1 locs1 hI hpm hS => ?_)
  refine lv_istore (lv' := (6, .int r2) :: (5, .int r1) :: [(4, .int i), (3, .ref o0), (2, .ref m0), (1, .ref x0), (0, .ref b)]) hx hb dlw_525 hl (by decide) rfl (fun ls hl => ?_)
  refine lv_goto (tgt := 1187) hx hb dlw_527 (by decide) ?_
  exact kk x1 q1 w1 H1 locs1 ls hI (LJ_next hJ hu1 hk1 hH1 hpm.1.1 (JQ_rd hj hH1 hp1 hpm)) hS (lv_tl (lv_tl hl))
set_option maxRecDepth 100000 in
set_option maxHeartbeats 4000000 in
theorem lc_12 {p : Program} {e : Env} {s : State} {m : MethodId} {args : Array Value} {below : List Frame} {meth : Method} {c : Code} {H : Heap} {locs : List Loc} {Q : State → Prop} {ls : Array Slot} {A : Nat → Prop} {G : kG} {x w : gd} {q : kP} {x0 m0 o0 b L k : Nat} {xs : Nat → Int32} {i : Int32} (C : gC (wE (kE G)) 1000 yLaw p room_1 s m args meth c A) (hX : va_X b L xs s s.heap) (hbl : b < s.heap.size) (hbA : ¬ A b) (hI : LI G A H x q w x0 m0 o0) (hJ : LJ k x q w) (hk : k < 64) (hS : va_S A s.heap H locs) (v1 : vp_in (i + 1) L) (v2 : vp_in (i + 2) L) (v3 : vp_in (i + 3) L) (hl : lv_has ls 7 [(4, .int i), (3, .ref o0), (2, .ref m0), (1, .ref x0), (0, .ref b)]) (kk : ∀ (x1 : gd) (q1 : kP) (w1 : gd) (H1 : Heap) (locs1 : List Loc) (ls1 : Array Slot), LI G A H1 x1 q1 w1 x0 m0 o0 → LJ (k + 1) x1 q1 w1 → va_S A s.heap H1 locs1 → lv_has ls1 7 [(4, .int i), (3, .ref o0), (2, .ref m0), (1, .ref x0), (0, .ref b)] → W p G.1 e room_1 s m args below meth c H1 locs1 (q1.ce + 200) (q1.sl + 960000) Q (F0 m 1187 ls1 [])) : W p G.1 e room_1 s m args below meth c H locs (q.ce + 200) (q.sl + 960000) Q (F0 m 530 ls []) := by
  have hx := C.1.1
  have hb : c.code = cL_law := C.1.2.1
  obtain ⟨hu, hH, hm, el, b1, b2⟩ := id hJ
  obtain ⟨C9, wr, n9, lm, hj⟩ := el
  have el := JH_J hj
  refine lv_aload_n hx hb dlw_530 rfl (lv_at hl 3 rfl) ?_
  refine lv_aload_n hx hb dlw_531 rfl (lv_at hl 4 rfl) ?_
  refine lv_iload hx hb dlw_532 (lv_at hl 0 rfl) ?_
  refine lv_iconst (v := 1) hx hb dlw_534 (by decide +kernel) ?_
  refine lv_iadd hx hb dlw_535 ?_
  refine va_sld hx hb hX hbl hbA hS (i := i + 1) v1 dlw_536 ?_
  refine lv_aload_n hx hb dlw_537 rfl (lv_at hl 1 rfl) ?_
  refine LI_S C hI hu hS hl.1 [vi (xs (i + 1).toNatClampNeg)] [.int (xs (i + 1).toNatClampNeg)] (fun _ => rfl) dlw_538 wcs_149 rfl (by intro h; cases h) (Nat.le_of_ble_eq_true rfl) (kw_cell (d := 870) hj hu hH (xs (i + 1).toNatClampNeg)) (LJ_room hJ hk) (fun r1 x1 q1 H1 locs1 hI hu1 hk1 hH1 hp1 hS => ?_)
  refine lv_istore (lv' := (5, .int r1) :: [(4, .int i), (3, .ref o0), (2, .ref m0), (1, .ref x0), (0, .ref b)]) hx hb dlw_541 hl (by decide) rfl (fun ls hl => ?_)
  refine lv_aload_n hx hb dlw_543 rfl (lv_at hl 3 rfl) ?_
  refine lv_aload_n hx hb dlw_544 rfl (lv_at hl 5 rfl) ?_
  refine lv_iload hx hb dlw_545 (lv_at hl 1 rfl) ?_
  refine lv_iconst (v := 1) hx hb dlw_547 (by decide +kernel) ?_
  refine lv_iadd hx hb dlw_548 ?_
  refine va_sld hx hb hX hbl hbA hS (i := i + 1) v1 dlw_549 ?_
  refine LI_M C hI hS hl.1 (restv := []) (d1 := 900) (F := fun r9 w1 => ansM C9 wr (f1Ch w) (f2Ce w (xs (i + 1).toNatClampNeg)) (tCe C9 wr n9 w (xs (i + 1).toNatClampNeg)) w r9 w1) [vi (xs (i + 1).toNatClampNeg)] [.int (xs (i + 1).toNatClampNeg)] (fun _ => rfl) dlw_550 wcm_151 rfl rfl (Nat.le_of_ble_eq_true rfl) (by decide) (by omega) (ma_cell hj hH hm (xs (i + 1).toNatClampNeg) (by omega) (fun _ _ h1 => h1)) ⟨(LJ_room hJ hk q1 hu1 hk1).1, (LJ_room hJ hk q1 hu1 hk1).2⟩ (fun r2 w1 H1 locs1 hI hpm hS => ?_)
  have hj2 := ja_cell hj hH1 hp1 hpm
  refine lv_istore (lv' := (6, .int r2) :: (5, .int r1) :: [(4, .int i), (3, .ref o0), (2, .ref m0), (1, .ref x0), (0, .ref b)]) hx hb dlw_553 hl (by decide) rfl (fun ls hl => ?_)
  refine lv_goto (tgt := 1187) hx hb dlw_555 (by decide) ?_
  exact kk x1 q1 w1 H1 locs1 ls hI (LJ_next hJ hu1 hk1 hH1 hpm.1 hj2.1) hS (lv_tl (lv_tl hl))
set_option maxRecDepth 100000 in
set_option maxHeartbeats 4000000 in
theorem lc_13 {p : Program} {e : Env} {s : State} {m : MethodId} {args : Array Value} {below : List Frame} {meth : Method} {c : Code} {H : Heap} {locs : List Loc} {Q : State → Prop} {ls : Array Slot} {A : Nat → Prop} {G : kG} {x w : gd} {q : kP} {x0 m0 o0 b L k : Nat} {xs : Nat → Int32} {i : Int32} (C : gC (wE (kE G)) 1000 yLaw p room_1 s m args meth c A) (hX : va_X b L xs s s.heap) (hbl : b < s.heap.size) (hbA : ¬ A b) (hI : LI G A H x q w x0 m0 o0) (hJ : LJ k x q w) (hk : k < 64) (hS : va_S A s.heap H locs) (v1 : vp_in (i + 1) L) (v2 : vp_in (i + 2) L) (v3 : vp_in (i + 3) L) (hl : lv_has ls 7 [(4, .int i), (3, .ref o0), (2, .ref m0), (1, .ref x0), (0, .ref b)]) (kk : ∀ (x1 : gd) (q1 : kP) (w1 : gd) (H1 : Heap) (locs1 : List Loc) (ls1 : Array Slot), LI G A H1 x1 q1 w1 x0 m0 o0 → LJ (k + 1) x1 q1 w1 → va_S A s.heap H1 locs1 → lv_has ls1 7 [(4, .int i), (3, .ref o0), (2, .ref m0), (1, .ref x0), (0, .ref b)] → W p G.1 e room_1 s m args below meth c H1 locs1 (q1.ce + 200) (q1.sl + 960000) Q (F0 m 1187 ls1 [])) : W p G.1 e room_1 s m args below meth c H locs (q.ce + 200) (q.sl + 960000) Q (F0 m 558 ls []) := by
  have hx := C.1.1
  have hb : c.code = cL_law := C.1.2.1
  obtain ⟨hu, hH, hm, el, b1, b2⟩ := id hJ
  obtain ⟨C9, wr, n9, lm, hj⟩ := el
  have el := JH_J hj
  refine lv_aload_n hx hb dlw_558 rfl (lv_at hl 3 rfl) ?_
  refine lv_aload_n hx hb dlw_559 rfl (lv_at hl 4 rfl) ?_
  refine lv_iload hx hb dlw_560 (lv_at hl 0 rfl) ?_
  refine lv_iconst (v := 1) hx hb dlw_562 (by decide +kernel) ?_
  refine lv_iadd hx hb dlw_563 ?_
  refine va_sld hx hb hX hbl hbA hS (i := i + 1) v1 dlw_564 ?_
  refine lv_aload_n hx hb dlw_565 rfl (lv_at hl 4 rfl) ?_
  refine lv_iload hx hb dlw_566 (lv_at hl 0 rfl) ?_
  refine lv_iconst (v := 2) hx hb dlw_568 (by decide +kernel) ?_
  refine lv_iadd hx hb dlw_569 ?_
  refine va_sld hx hb hX hbl hbA hS (i := i + 2) v2 dlw_570 ?_
  refine lv_aload_n hx hb dlw_571 rfl (lv_at hl 1 rfl) ?_
  refine LI_S C hI hu hS hl.1 [vi (xs (i + 1).toNatClampNeg), vi (xs (i + 2).toNatClampNeg)] [.int (xs (i + 1).toNatClampNeg), .int (xs (i + 2).toNatClampNeg)] (fun _ => rfl) dlw_572 wcs_152 rfl (by intro h; cases h) (Nat.le_of_ble_eq_true rfl) (kw_seen (d := 870) hj hu hH (xs (i + 1).toNatClampNeg) (xs (i + 2).toNatClampNeg)) (LJ_room hJ hk) (fun r1 x1 q1 H1 locs1 hI hu1 hk1 hH1 hp1 hS => ?_)
  refine lv_istore (lv' := (5, .int r1) :: [(4, .int i), (3, .ref o0), (2, .ref m0), (1, .ref x0), (0, .ref b)]) hx hb dlw_575 hl (by decide) rfl (fun ls hl => ?_)
  refine lv_aload_n hx hb dlw_577 rfl (lv_at hl 3 rfl) ?_
  refine lv_aload_n hx hb dlw_578 rfl (lv_at hl 5 rfl) ?_
  refine lv_iload hx hb dlw_579 (lv_at hl 1 rfl) ?_
  refine lv_iconst (v := 1) hx hb dlw_581 (by decide +kernel) ?_
  refine lv_iadd hx hb dlw_582 ?_
  refine va_sld hx hb hX hbl hbA hS (i := i + 1) v1 dlw_583 ?_
  refine lv_aload_n hx hb dlw_584 rfl (lv_at hl 5 rfl) ?_
  refine lv_iload hx hb dlw_585 (lv_at hl 1 rfl) ?_
  refine lv_iconst (v := 2) hx hb dlw_587 (by decide +kernel) ?_
  refine lv_iadd hx hb dlw_588 ?_
  refine va_sld hx hb hX hbl hbA hS (i := i + 2) v2 dlw_589 ?_
  refine LI_M C hI hS hl.1 (restv := []) (d1 := 900) (F := fun r9 w1 => ansM C9 wr (f1Ch w) (f2Se w (xs (i + 1).toNatClampNeg) (xs (i + 2).toNatClampNeg)) (tSe C9 wr n9 w (xs (i + 1).toNatClampNeg) (xs (i + 2).toNatClampNeg)) w r9 w1) [vi (xs (i + 1).toNatClampNeg), vi (xs (i + 2).toNatClampNeg)] [.int (xs (i + 1).toNatClampNeg), .int (xs (i + 2).toNatClampNeg)] (fun _ => rfl) dlw_590 wcm_154 rfl rfl (Nat.le_of_ble_eq_true rfl) (by decide) (by omega) (ma_seen hj hH hm (xs (i + 1).toNatClampNeg) (xs (i + 2).toNatClampNeg) (by omega) (fun _ _ h1 => h1)) ⟨(LJ_room hJ hk q1 hu1 hk1).1, (LJ_room hJ hk q1 hu1 hk1).2⟩ (fun r2 w1 H1 locs1 hI hpm hS => ?_)
  have hj2 := ja_seen hj hH1 hp1 hpm
  refine lv_istore (lv' := (6, .int r2) :: (5, .int r1) :: [(4, .int i), (3, .ref o0), (2, .ref m0), (1, .ref x0), (0, .ref b)]) hx hb dlw_593 hl (by decide) rfl (fun ls hl => ?_)
  refine lv_goto (tgt := 1187) hx hb dlw_595 (by decide) ?_
  exact kk x1 q1 w1 H1 locs1 ls hI (LJ_next hJ hu1 hk1 hH1 hpm.1 hj2.1) hS (lv_tl (lv_tl hl))
set_option maxRecDepth 100000 in
set_option maxHeartbeats 4000000 in
theorem lc_14 {p : Program} {e : Env} {s : State} {m : MethodId} {args : Array Value} {below : List Frame} {meth : Method} {c : Code} {H : Heap} {locs : List Loc} {Q : State → Prop} {ls : Array Slot} {A : Nat → Prop} {G : kG} {x w : gd} {q : kP} {x0 m0 o0 b L k : Nat} {xs : Nat → Int32} {i : Int32} (C : gC (wE (kE G)) 1000 yLaw p room_1 s m args meth c A) (hX : va_X b L xs s s.heap) (hbl : b < s.heap.size) (hbA : ¬ A b) (hI : LI G A H x q w x0 m0 o0) (hJ : LJ k x q w) (hk : k < 64) (hS : va_S A s.heap H locs) (v1 : vp_in (i + 1) L) (v2 : vp_in (i + 2) L) (v3 : vp_in (i + 3) L) (hl : lv_has ls 7 [(4, .int i), (3, .ref o0), (2, .ref m0), (1, .ref x0), (0, .ref b)]) (kk : ∀ (x1 : gd) (q1 : kP) (w1 : gd) (H1 : Heap) (locs1 : List Loc) (ls1 : Array Slot), LI G A H1 x1 q1 w1 x0 m0 o0 → LJ (k + 1) x1 q1 w1 → va_S A s.heap H1 locs1 → lv_has ls1 7 [(4, .int i), (3, .ref o0), (2, .ref m0), (1, .ref x0), (0, .ref b)] → W p G.1 e room_1 s m args below meth c H1 locs1 (q1.ce + 200) (q1.sl + 960000) Q (F0 m 1187 ls1 [])) : W p G.1 e room_1 s m args below meth c H locs (q.ce + 200) (q.sl + 960000) Q (F0 m 598 ls []) := by
  have hx := C.1.1
  have hb : c.code = cL_law := C.1.2.1
  obtain ⟨hu, hH, hm, el, b1, b2⟩ := id hJ
  obtain ⟨C9, wr, n9, lm, hj⟩ := el
  have el := JH_J hj
  refine lv_aload_n hx hb dlw_598 rfl (lv_at hl 3 rfl) ?_
  refine lv_aload_n hx hb dlw_599 rfl (lv_at hl 4 rfl) ?_
  refine lv_iload hx hb dlw_600 (lv_at hl 0 rfl) ?_
  refine lv_iconst (v := 1) hx hb dlw_602 (by decide +kernel) ?_
  refine lv_iadd hx hb dlw_603 ?_
  refine va_sld hx hb hX hbl hbA hS (i := i + 1) v1 dlw_604 ?_
  refine lv_aload_n hx hb dlw_605 rfl (lv_at hl 4 rfl) ?_
  refine lv_iload hx hb dlw_606 (lv_at hl 0 rfl) ?_
  refine lv_iconst (v := 2) hx hb dlw_608 (by decide +kernel) ?_
  refine lv_iadd hx hb dlw_609 ?_
  refine va_sld hx hb hX hbl hbA hS (i := i + 2) v2 dlw_610 ?_
  refine lv_aload_n hx hb dlw_611 rfl (lv_at hl 1 rfl) ?_
  refine LI_S C hI hu hS hl.1 [vi (xs (i + 1).toNatClampNeg), vi (xs (i + 2).toNatClampNeg)] [.int (xs (i + 1).toNatClampNeg), .int (xs (i + 2).toNatClampNeg)] (fun _ => rfl) dlw_612 wcs_155 rfl (by intro h; cases h) (Nat.le_of_ble_eq_true rfl) (kw_lock (d := 870) hu hH (xs (i + 1).toNatClampNeg) (xs (i + 2).toNatClampNeg)) (LJ_room hJ hk) (fun r1 x1 q1 H1 locs1 hI hu1 hk1 hH1 hp1 hS => ?_)
  refine lv_istore (lv' := (5, .int r1) :: [(4, .int i), (3, .ref o0), (2, .ref m0), (1, .ref x0), (0, .ref b)]) hx hb dlw_615 hl (by decide) rfl (fun ls hl => ?_)
  refine lv_aload_n hx hb dlw_617 rfl (lv_at hl 3 rfl) ?_
  refine lv_aload_n hx hb dlw_618 rfl (lv_at hl 5 rfl) ?_
  refine lv_iload hx hb dlw_619 (lv_at hl 1 rfl) ?_
  refine lv_iconst (v := 1) hx hb dlw_621 (by decide +kernel) ?_
  refine lv_iadd hx hb dlw_622 ?_
  refine va_sld hx hb hX hbl hbA hS (i := i + 1) v1 dlw_623 ?_
  refine lv_aload_n hx hb dlw_624 rfl (lv_at hl 5 rfl) ?_
  refine lv_iload hx hb dlw_625 (lv_at hl 1 rfl) ?_
  refine lv_iconst (v := 2) hx hb dlw_627 (by decide +kernel) ?_
  refine lv_iadd hx hb dlw_628 ?_
  refine va_sld hx hb hX hbl hbA hS (i := i + 2) v2 dlw_629 ?_
  refine LI_M C hI hS hl.1 (restv := []) (d1 := 900) (F := fun _ w1 => rdM C9 wr w w1) [vi (xs (i + 1).toNatClampNeg), vi (xs (i + 2).toNatClampNeg)] [.int (xs (i + 1).toNatClampNeg), .int (xs (i + 2).toNatClampNeg)] (fun _ => rfl) dlw_630 wcm_157 rfl rfl (Nat.le_of_ble_eq_true rfl) (by decide) (by omega) (sr_lock hm (xs (i + 1).toNatClampNeg) (xs (i + 2).toNatClampNeg) (by omega) (fun _ _ h => h)) ⟨(LJ_room hJ hk q1 hu1 hk1).1, (LJ_room hJ hk q1 hu1 hk1).2⟩ (fun r2 w1 H1 locs1 hI hpm hS => ?_)
  refine lv_istore (lv' := (6, .int r2) :: (5, .int r1) :: [(4, .int i), (3, .ref o0), (2, .ref m0), (1, .ref x0), (0, .ref b)]) hx hb dlw_633 hl (by decide) rfl (fun ls hl => ?_)
  refine lv_goto (tgt := 1187) hx hb dlw_635 (by decide) ?_
  exact kk x1 q1 w1 H1 locs1 ls hI (LJ_next hJ hu1 hk1 hH1 hpm.1.1 (JQ_rd hj hH1 hp1 hpm)) hS (lv_tl (lv_tl hl))
set_option maxRecDepth 100000 in
set_option maxHeartbeats 4000000 in
theorem lc_15 {p : Program} {e : Env} {s : State} {m : MethodId} {args : Array Value} {below : List Frame} {meth : Method} {c : Code} {H : Heap} {locs : List Loc} {Q : State → Prop} {ls : Array Slot} {A : Nat → Prop} {G : kG} {x w : gd} {q : kP} {x0 m0 o0 b L k : Nat} {xs : Nat → Int32} {i : Int32} (C : gC (wE (kE G)) 1000 yLaw p room_1 s m args meth c A) (hX : va_X b L xs s s.heap) (hbl : b < s.heap.size) (hbA : ¬ A b) (hI : LI G A H x q w x0 m0 o0) (hJ : LJ k x q w) (hk : k < 64) (hS : va_S A s.heap H locs) (v1 : vp_in (i + 1) L) (v2 : vp_in (i + 2) L) (v3 : vp_in (i + 3) L) (hl : lv_has ls 7 [(4, .int i), (3, .ref o0), (2, .ref m0), (1, .ref x0), (0, .ref b)]) (kk : ∀ (x1 : gd) (q1 : kP) (w1 : gd) (H1 : Heap) (locs1 : List Loc) (ls1 : Array Slot), LI G A H1 x1 q1 w1 x0 m0 o0 → LJ (k + 1) x1 q1 w1 → va_S A s.heap H1 locs1 → lv_has ls1 7 [(4, .int i), (3, .ref o0), (2, .ref m0), (1, .ref x0), (0, .ref b)] → W p G.1 e room_1 s m args below meth c H1 locs1 (q1.ce + 200) (q1.sl + 960000) Q (F0 m 1187 ls1 [])) : W p G.1 e room_1 s m args below meth c H locs (q.ce + 200) (q.sl + 960000) Q (F0 m 638 ls []) := by
  have hx := C.1.1
  have hb : c.code = cL_law := C.1.2.1
  obtain ⟨hu, hH, hm, el, b1, b2⟩ := id hJ
  obtain ⟨C9, wr, n9, lm, hj⟩ := el
  have el := JH_J hj
  refine lv_aload_n hx hb dlw_638 rfl (lv_at hl 3 rfl) ?_
  refine lv_aload_n hx hb dlw_639 rfl (lv_at hl 4 rfl) ?_
  refine lv_iload hx hb dlw_640 (lv_at hl 0 rfl) ?_
  refine lv_iconst (v := 1) hx hb dlw_642 (by decide +kernel) ?_
  refine lv_iadd hx hb dlw_643 ?_
  refine va_sld hx hb hX hbl hbA hS (i := i + 1) v1 dlw_644 ?_
  refine lv_aload_n hx hb dlw_645 rfl (lv_at hl 4 rfl) ?_
  refine lv_iload hx hb dlw_646 (lv_at hl 0 rfl) ?_
  refine lv_iconst (v := 2) hx hb dlw_648 (by decide +kernel) ?_
  refine lv_iadd hx hb dlw_649 ?_
  refine va_sld hx hb hX hbl hbA hS (i := i + 2) v2 dlw_650 ?_
  refine lv_aload_n hx hb dlw_651 rfl (lv_at hl 1 rfl) ?_
  refine LI_S C hI hu hS hl.1 [vi (xs (i + 1).toNatClampNeg), vi (xs (i + 2).toNatClampNeg)] [.int (xs (i + 1).toNatClampNeg), .int (xs (i + 2).toNatClampNeg)] (fun _ => rfl) dlw_652 wcs_158 rfl (by intro h; cases h) (Nat.le_of_ble_eq_true rfl) (kw_thread (d := 870) hu hH (xs (i + 1).toNatClampNeg) (xs (i + 2).toNatClampNeg)) (LJ_room hJ hk) (fun r1 x1 q1 H1 locs1 hI hu1 hk1 hH1 hp1 hS => ?_)
  refine lv_istore (lv' := (5, .int r1) :: [(4, .int i), (3, .ref o0), (2, .ref m0), (1, .ref x0), (0, .ref b)]) hx hb dlw_655 hl (by decide) rfl (fun ls hl => ?_)
  refine lv_aload_n hx hb dlw_657 rfl (lv_at hl 3 rfl) ?_
  refine lv_aload_n hx hb dlw_658 rfl (lv_at hl 5 rfl) ?_
  refine lv_iload hx hb dlw_659 (lv_at hl 1 rfl) ?_
  refine lv_iconst (v := 1) hx hb dlw_661 (by decide +kernel) ?_
  refine lv_iadd hx hb dlw_662 ?_
  refine va_sld hx hb hX hbl hbA hS (i := i + 1) v1 dlw_663 ?_
  refine lv_aload_n hx hb dlw_664 rfl (lv_at hl 5 rfl) ?_
  refine lv_iload hx hb dlw_665 (lv_at hl 1 rfl) ?_
  refine lv_iconst (v := 2) hx hb dlw_667 (by decide +kernel) ?_
  refine lv_iadd hx hb dlw_668 ?_
  refine va_sld hx hb hX hbl hbA hS (i := i + 2) v2 dlw_669 ?_
  refine LI_M C hI hS hl.1 (restv := []) (d1 := 900) (F := fun _ w1 => rdM C9 wr w w1) [vi (xs (i + 1).toNatClampNeg), vi (xs (i + 2).toNatClampNeg)] [.int (xs (i + 1).toNatClampNeg), .int (xs (i + 2).toNatClampNeg)] (fun _ => rfl) dlw_670 wcm_160 rfl rfl (Nat.le_of_ble_eq_true rfl) (by decide) (by omega) (sr_thread hm (xs (i + 1).toNatClampNeg) (xs (i + 2).toNatClampNeg) (by omega) (fun _ _ h => h)) ⟨(LJ_room hJ hk q1 hu1 hk1).1, (LJ_room hJ hk q1 hu1 hk1).2⟩ (fun r2 w1 H1 locs1 hI hpm hS => ?_)
  refine lv_istore (lv' := (6, .int r2) :: (5, .int r1) :: [(4, .int i), (3, .ref o0), (2, .ref m0), (1, .ref x0), (0, .ref b)]) hx hb dlw_673 hl (by decide) rfl (fun ls hl => ?_)
  refine lv_goto (tgt := 1187) hx hb dlw_675 (by decide) ?_
  exact kk x1 q1 w1 H1 locs1 ls hI (LJ_next hJ hu1 hk1 hH1 hpm.1.1 (JQ_rd hj hH1 hp1 hpm)) hS (lv_tl (lv_tl hl))
set_option maxRecDepth 100000 in
set_option maxHeartbeats 4000000 in
theorem lc_16 {p : Program} {e : Env} {s : State} {m : MethodId} {args : Array Value} {below : List Frame} {meth : Method} {c : Code} {H : Heap} {locs : List Loc} {Q : State → Prop} {ls : Array Slot} {A : Nat → Prop} {G : kG} {x w : gd} {q : kP} {x0 m0 o0 b L k : Nat} {xs : Nat → Int32} {i : Int32} (C : gC (wE (kE G)) 1000 yLaw p room_1 s m args meth c A) (hX : va_X b L xs s s.heap) (hbl : b < s.heap.size) (hbA : ¬ A b) (hI : LI G A H x q w x0 m0 o0) (hJ : LJ k x q w) (hk : k < 64) (hS : va_S A s.heap H locs) (v1 : vp_in (i + 1) L) (v2 : vp_in (i + 2) L) (v3 : vp_in (i + 3) L) (hl : lv_has ls 7 [(4, .int i), (3, .ref o0), (2, .ref m0), (1, .ref x0), (0, .ref b)]) (kk : ∀ (x1 : gd) (q1 : kP) (w1 : gd) (H1 : Heap) (locs1 : List Loc) (ls1 : Array Slot), LI G A H1 x1 q1 w1 x0 m0 o0 → LJ (k + 1) x1 q1 w1 → va_S A s.heap H1 locs1 → lv_has ls1 7 [(4, .int i), (3, .ref o0), (2, .ref m0), (1, .ref x0), (0, .ref b)] → W p G.1 e room_1 s m args below meth c H1 locs1 (q1.ce + 200) (q1.sl + 960000) Q (F0 m 1187 ls1 [])) : W p G.1 e room_1 s m args below meth c H locs (q.ce + 200) (q.sl + 960000) Q (F0 m 678 ls []) := by
  have hx := C.1.1
  have hb : c.code = cL_law := C.1.2.1
  obtain ⟨hu, hH, hm, el, b1, b2⟩ := id hJ
  obtain ⟨C9, wr, n9, lm, hj⟩ := el
  have el := JH_J hj
  refine lv_aload_n hx hb dlw_678 rfl (lv_at hl 3 rfl) ?_
  refine lv_aload_n hx hb dlw_679 rfl (lv_at hl 4 rfl) ?_
  refine lv_iload hx hb dlw_680 (lv_at hl 0 rfl) ?_
  refine lv_iconst (v := 1) hx hb dlw_682 (by decide +kernel) ?_
  refine lv_iadd hx hb dlw_683 ?_
  refine va_sld hx hb hX hbl hbA hS (i := i + 1) v1 dlw_684 ?_
  refine lv_aload_n hx hb dlw_685 rfl (lv_at hl 4 rfl) ?_
  refine lv_iload hx hb dlw_686 (lv_at hl 0 rfl) ?_
  refine lv_iconst (v := 2) hx hb dlw_688 (by decide +kernel) ?_
  refine lv_iadd hx hb dlw_689 ?_
  refine va_sld hx hb hX hbl hbA hS (i := i + 2) v2 dlw_690 ?_
  refine lv_aload_n hx hb dlw_691 rfl (lv_at hl 1 rfl) ?_
  refine LI_S C hI hu hS hl.1 [vi (xs (i + 1).toNatClampNeg), vi (xs (i + 2).toNatClampNeg)] [.int (xs (i + 1).toNatClampNeg), .int (xs (i + 2).toNatClampNeg)] (fun _ => rfl) dlw_692 wcs_161 rfl (by intro h; cases h) (Nat.le_of_ble_eq_true rfl) (kw_local (d := 870) hj hu hH (xs (i + 1).toNatClampNeg) (xs (i + 2).toNatClampNeg)) (LJ_room hJ hk) (fun r1 x1 q1 H1 locs1 hI hu1 hk1 hH1 hp1 hS => ?_)
  refine lv_istore (lv' := (5, .int r1) :: [(4, .int i), (3, .ref o0), (2, .ref m0), (1, .ref x0), (0, .ref b)]) hx hb dlw_695 hl (by decide) rfl (fun ls hl => ?_)
  refine lv_aload_n hx hb dlw_697 rfl (lv_at hl 3 rfl) ?_
  refine lv_aload_n hx hb dlw_698 rfl (lv_at hl 5 rfl) ?_
  refine lv_iload hx hb dlw_699 (lv_at hl 1 rfl) ?_
  refine lv_iconst (v := 1) hx hb dlw_701 (by decide +kernel) ?_
  refine lv_iadd hx hb dlw_702 ?_
  refine va_sld hx hb hX hbl hbA hS (i := i + 1) v1 dlw_703 ?_
  refine lv_aload_n hx hb dlw_704 rfl (lv_at hl 5 rfl) ?_
  refine lv_iload hx hb dlw_705 (lv_at hl 1 rfl) ?_
  refine lv_iconst (v := 2) hx hb dlw_707 (by decide +kernel) ?_
  refine lv_iadd hx hb dlw_708 ?_
  refine va_sld hx hb hX hbl hbA hS (i := i + 2) v2 dlw_709 ?_
  refine LI_M C hI hS hl.1 (restv := []) (d1 := 900) (F := fun r9 w1 => ansM C9 wr (f1Ch w) (f2Lo C9 wr n9 w (xs (i + 1).toNatClampNeg) (xs (i + 2).toNatClampNeg)) (tLo C9 wr n9 w (xs (i + 1).toNatClampNeg) (xs (i + 2).toNatClampNeg)) w r9 w1) [vi (xs (i + 1).toNatClampNeg), vi (xs (i + 2).toNatClampNeg)] [.int (xs (i + 1).toNatClampNeg), .int (xs (i + 2).toNatClampNeg)] (fun _ => rfl) dlw_710 wcm_163 rfl rfl (Nat.le_of_ble_eq_true rfl) (by decide) (by omega) (ma_local hj hH hm (xs (i + 1).toNatClampNeg) (xs (i + 2).toNatClampNeg) (by omega) (fun _ _ h1 => h1)) ⟨(LJ_room hJ hk q1 hu1 hk1).1, (LJ_room hJ hk q1 hu1 hk1).2⟩ (fun r2 w1 H1 locs1 hI hpm hS => ?_)
  have hj2 := ja_local hj hH1 hp1 hpm
  refine lv_istore (lv' := (6, .int r2) :: (5, .int r1) :: [(4, .int i), (3, .ref o0), (2, .ref m0), (1, .ref x0), (0, .ref b)]) hx hb dlw_713 hl (by decide) rfl (fun ls hl => ?_)
  refine lv_goto (tgt := 1187) hx hb dlw_715 (by decide) ?_
  exact kk x1 q1 w1 H1 locs1 ls hI (LJ_next hJ hu1 hk1 hH1 hpm.1 hj2.1) hS (lv_tl (lv_tl hl))
set_option maxRecDepth 100000 in
set_option maxHeartbeats 4000000 in
theorem lc_17 {p : Program} {e : Env} {s : State} {m : MethodId} {args : Array Value} {below : List Frame} {meth : Method} {c : Code} {H : Heap} {locs : List Loc} {Q : State → Prop} {ls : Array Slot} {A : Nat → Prop} {G : kG} {x w : gd} {q : kP} {x0 m0 o0 b L k : Nat} {xs : Nat → Int32} {i : Int32} (C : gC (wE (kE G)) 1000 yLaw p room_1 s m args meth c A) (hX : va_X b L xs s s.heap) (hbl : b < s.heap.size) (hbA : ¬ A b) (hI : LI G A H x q w x0 m0 o0) (hJ : LJ k x q w) (hk : k < 64) (hS : va_S A s.heap H locs) (v1 : vp_in (i + 1) L) (v2 : vp_in (i + 2) L) (v3 : vp_in (i + 3) L) (hl : lv_has ls 7 [(4, .int i), (3, .ref o0), (2, .ref m0), (1, .ref x0), (0, .ref b)]) (kk : ∀ (x1 : gd) (q1 : kP) (w1 : gd) (H1 : Heap) (locs1 : List Loc) (ls1 : Array Slot), LI G A H1 x1 q1 w1 x0 m0 o0 → LJ (k + 1) x1 q1 w1 → va_S A s.heap H1 locs1 → lv_has ls1 7 [(4, .int i), (3, .ref o0), (2, .ref m0), (1, .ref x0), (0, .ref b)] → W p G.1 e room_1 s m args below meth c H1 locs1 (q1.ce + 200) (q1.sl + 960000) Q (F0 m 1187 ls1 [])) : W p G.1 e room_1 s m args below meth c H locs (q.ce + 200) (q.sl + 960000) Q (F0 m 718 ls []) := by
  have hx := C.1.1
  have hb : c.code = cL_law := C.1.2.1
  obtain ⟨hu, hH, hm, el, b1, b2⟩ := id hJ
  obtain ⟨C9, wr, n9, lm, hj⟩ := el
  have el := JH_J hj
  refine lv_aload_n hx hb dlw_718 rfl (lv_at hl 3 rfl) ?_
  refine lv_aload_n hx hb dlw_719 rfl (lv_at hl 4 rfl) ?_
  refine lv_iload hx hb dlw_720 (lv_at hl 0 rfl) ?_
  refine lv_iconst (v := 1) hx hb dlw_722 (by decide +kernel) ?_
  refine lv_iadd hx hb dlw_723 ?_
  refine va_sld hx hb hX hbl hbA hS (i := i + 1) v1 dlw_724 ?_
  refine lv_aload_n hx hb dlw_725 rfl (lv_at hl 4 rfl) ?_
  refine lv_iload hx hb dlw_726 (lv_at hl 0 rfl) ?_
  refine lv_iconst (v := 2) hx hb dlw_728 (by decide +kernel) ?_
  refine lv_iadd hx hb dlw_729 ?_
  refine va_sld hx hb hX hbl hbA hS (i := i + 2) v2 dlw_730 ?_
  refine lv_aload_n hx hb dlw_731 rfl (lv_at hl 1 rfl) ?_
  refine LI_S C hI hu hS hl.1 [vi (xs (i + 1).toNatClampNeg), vi (xs (i + 2).toNatClampNeg)] [.int (xs (i + 1).toNatClampNeg), .int (xs (i + 2).toNatClampNeg)] (fun _ => rfl) dlw_732 wcs_164 rfl (by intro h; cases h) (Nat.le_of_ble_eq_true rfl) (kw_act (d := 870) hu hH (xs (i + 1).toNatClampNeg) (xs (i + 2).toNatClampNeg)) (LJ_room hJ hk) (fun r1 x1 q1 H1 locs1 hI hu1 hk1 hH1 hp1 hS => ?_)
  refine lv_istore (lv' := (5, .int r1) :: [(4, .int i), (3, .ref o0), (2, .ref m0), (1, .ref x0), (0, .ref b)]) hx hb dlw_735 hl (by decide) rfl (fun ls hl => ?_)
  refine lv_aload_n hx hb dlw_737 rfl (lv_at hl 3 rfl) ?_
  refine lv_aload_n hx hb dlw_738 rfl (lv_at hl 5 rfl) ?_
  refine lv_iload hx hb dlw_739 (lv_at hl 1 rfl) ?_
  refine lv_iconst (v := 1) hx hb dlw_741 (by decide +kernel) ?_
  refine lv_iadd hx hb dlw_742 ?_
  refine va_sld hx hb hX hbl hbA hS (i := i + 1) v1 dlw_743 ?_
  refine lv_aload_n hx hb dlw_744 rfl (lv_at hl 5 rfl) ?_
  refine lv_iload hx hb dlw_745 (lv_at hl 1 rfl) ?_
  refine lv_iconst (v := 2) hx hb dlw_747 (by decide +kernel) ?_
  refine lv_iadd hx hb dlw_748 ?_
  refine va_sld hx hb hX hbl hbA hS (i := i + 2) v2 dlw_749 ?_
  refine LI_M C hI hS hl.1 (restv := []) (d1 := 900) (F := fun _ w1 => rdM C9 wr w w1) [vi (xs (i + 1).toNatClampNeg), vi (xs (i + 2).toNatClampNeg)] [.int (xs (i + 1).toNatClampNeg), .int (xs (i + 2).toNatClampNeg)] (fun _ => rfl) dlw_750 wcm_166 rfl rfl (Nat.le_of_ble_eq_true rfl) (by decide) (by omega) (sr_act hm (xs (i + 1).toNatClampNeg) (xs (i + 2).toNatClampNeg) (by omega) (fun _ _ h => h)) ⟨(LJ_room hJ hk q1 hu1 hk1).1, (LJ_room hJ hk q1 hu1 hk1).2⟩ (fun r2 w1 H1 locs1 hI hpm hS => ?_)
  refine lv_istore (lv' := (6, .int r2) :: (5, .int r1) :: [(4, .int i), (3, .ref o0), (2, .ref m0), (1, .ref x0), (0, .ref b)]) hx hb dlw_753 hl (by decide) rfl (fun ls hl => ?_)
  refine lv_goto (tgt := 1187) hx hb dlw_755 (by decide) ?_
  exact kk x1 q1 w1 H1 locs1 ls hI (LJ_next hJ hu1 hk1 hH1 hpm.1.1 (JQ_rd hj hH1 hp1 hpm)) hS (lv_tl (lv_tl hl))
set_option maxRecDepth 100000 in
set_option maxHeartbeats 4000000 in
theorem lc_18 {p : Program} {e : Env} {s : State} {m : MethodId} {args : Array Value} {below : List Frame} {meth : Method} {c : Code} {H : Heap} {locs : List Loc} {Q : State → Prop} {ls : Array Slot} {A : Nat → Prop} {G : kG} {x w : gd} {q : kP} {x0 m0 o0 b L k : Nat} {xs : Nat → Int32} {i : Int32} (C : gC (wE (kE G)) 1000 yLaw p room_1 s m args meth c A) (hX : va_X b L xs s s.heap) (hbl : b < s.heap.size) (hbA : ¬ A b) (hI : LI G A H x q w x0 m0 o0) (hJ : LJ k x q w) (hk : k < 64) (hS : va_S A s.heap H locs) (v1 : vp_in (i + 1) L) (v2 : vp_in (i + 2) L) (v3 : vp_in (i + 3) L) (hl : lv_has ls 7 [(4, .int i), (3, .ref o0), (2, .ref m0), (1, .ref x0), (0, .ref b)]) (kk : ∀ (x1 : gd) (q1 : kP) (w1 : gd) (H1 : Heap) (locs1 : List Loc) (ls1 : Array Slot), LI G A H1 x1 q1 w1 x0 m0 o0 → LJ (k + 1) x1 q1 w1 → va_S A s.heap H1 locs1 → lv_has ls1 7 [(4, .int i), (3, .ref o0), (2, .ref m0), (1, .ref x0), (0, .ref b)] → W p G.1 e room_1 s m args below meth c H1 locs1 (q1.ce + 200) (q1.sl + 960000) Q (F0 m 1187 ls1 [])) : W p G.1 e room_1 s m args below meth c H locs (q.ce + 200) (q.sl + 960000) Q (F0 m 758 ls []) := by
  have hx := C.1.1
  have hb : c.code = cL_law := C.1.2.1
  obtain ⟨hu, hH, hm, el, b1, b2⟩ := id hJ
  obtain ⟨C9, wr, n9, lm, hj⟩ := el
  have el := JH_J hj
  refine lv_aload_n hx hb dlw_758 rfl (lv_at hl 3 rfl) ?_
  refine lv_aload_n hx hb dlw_759 rfl (lv_at hl 4 rfl) ?_
  refine lv_iload hx hb dlw_760 (lv_at hl 0 rfl) ?_
  refine lv_iconst (v := 1) hx hb dlw_762 (by decide +kernel) ?_
  refine lv_iadd hx hb dlw_763 ?_
  refine va_sld hx hb hX hbl hbA hS (i := i + 1) v1 dlw_764 ?_
  refine lv_aload_n hx hb dlw_765 rfl (lv_at hl 4 rfl) ?_
  refine lv_iload hx hb dlw_766 (lv_at hl 0 rfl) ?_
  refine lv_iconst (v := 2) hx hb dlw_768 (by decide +kernel) ?_
  refine lv_iadd hx hb dlw_769 ?_
  refine va_sld hx hb hX hbl hbA hS (i := i + 2) v2 dlw_770 ?_
  refine lv_aload_n hx hb dlw_771 rfl (lv_at hl 1 rfl) ?_
  refine LI_S C hI hu hS hl.1 [vi (xs (i + 1).toNatClampNeg), vi (xs (i + 2).toNatClampNeg)] [.int (xs (i + 1).toNatClampNeg), .int (xs (i + 2).toNatClampNeg)] (fun _ => rfl) dlw_772 wcs_167 rfl (by intro h; cases h) (Nat.le_of_ble_eq_true rfl) (kw_before (d := 870) hu hH (xs (i + 1).toNatClampNeg) (xs (i + 2).toNatClampNeg)) (LJ_room hJ hk) (fun r1 x1 q1 H1 locs1 hI hu1 hk1 hH1 hp1 hS => ?_)
  refine lv_istore (lv' := (5, .int r1) :: [(4, .int i), (3, .ref o0), (2, .ref m0), (1, .ref x0), (0, .ref b)]) hx hb dlw_775 hl (by decide) rfl (fun ls hl => ?_)
  refine lv_aload_n hx hb dlw_777 rfl (lv_at hl 3 rfl) ?_
  refine lv_aload_n hx hb dlw_778 rfl (lv_at hl 5 rfl) ?_
  refine lv_iload hx hb dlw_779 (lv_at hl 1 rfl) ?_
  refine lv_iconst (v := 1) hx hb dlw_781 (by decide +kernel) ?_
  refine lv_iadd hx hb dlw_782 ?_
  refine va_sld hx hb hX hbl hbA hS (i := i + 1) v1 dlw_783 ?_
  refine lv_aload_n hx hb dlw_784 rfl (lv_at hl 5 rfl) ?_
  refine lv_iload hx hb dlw_785 (lv_at hl 1 rfl) ?_
  refine lv_iconst (v := 2) hx hb dlw_787 (by decide +kernel) ?_
  refine lv_iadd hx hb dlw_788 ?_
  refine va_sld hx hb hX hbl hbA hS (i := i + 2) v2 dlw_789 ?_
  refine LI_M C hI hS hl.1 (restv := []) (d1 := 900) (F := fun _ w1 => rdM C9 wr w w1) [vi (xs (i + 1).toNatClampNeg), vi (xs (i + 2).toNatClampNeg)] [.int (xs (i + 1).toNatClampNeg), .int (xs (i + 2).toNatClampNeg)] (fun _ => rfl) dlw_790 wcm_169 rfl rfl (Nat.le_of_ble_eq_true rfl) (by decide) (by omega) (sr_before hm (xs (i + 1).toNatClampNeg) (xs (i + 2).toNatClampNeg) (by omega) (fun _ _ h => h)) ⟨(LJ_room hJ hk q1 hu1 hk1).1, (LJ_room hJ hk q1 hu1 hk1).2⟩ (fun r2 w1 H1 locs1 hI hpm hS => ?_)
  refine lv_istore (lv' := (6, .int r2) :: (5, .int r1) :: [(4, .int i), (3, .ref o0), (2, .ref m0), (1, .ref x0), (0, .ref b)]) hx hb dlw_793 hl (by decide) rfl (fun ls hl => ?_)
  refine lv_goto (tgt := 1187) hx hb dlw_795 (by decide) ?_
  exact kk x1 q1 w1 H1 locs1 ls hI (LJ_next hJ hu1 hk1 hH1 hpm.1.1 (JQ_rd hj hH1 hp1 hpm)) hS (lv_tl (lv_tl hl))
set_option maxRecDepth 100000 in
set_option maxHeartbeats 4000000 in
theorem lc_19 {p : Program} {e : Env} {s : State} {m : MethodId} {args : Array Value} {below : List Frame} {meth : Method} {c : Code} {H : Heap} {locs : List Loc} {Q : State → Prop} {ls : Array Slot} {A : Nat → Prop} {G : kG} {x w : gd} {q : kP} {x0 m0 o0 b L k : Nat} {xs : Nat → Int32} {i : Int32} (C : gC (wE (kE G)) 1000 yLaw p room_1 s m args meth c A) (hX : va_X b L xs s s.heap) (hbl : b < s.heap.size) (hbA : ¬ A b) (hI : LI G A H x q w x0 m0 o0) (hJ : LJ k x q w) (hk : k < 64) (hS : va_S A s.heap H locs) (v1 : vp_in (i + 1) L) (v2 : vp_in (i + 2) L) (v3 : vp_in (i + 3) L) (hl : lv_has ls 7 [(4, .int i), (3, .ref o0), (2, .ref m0), (1, .ref x0), (0, .ref b)]) (kk : ∀ (x1 : gd) (q1 : kP) (w1 : gd) (H1 : Heap) (locs1 : List Loc) (ls1 : Array Slot), LI G A H1 x1 q1 w1 x0 m0 o0 → LJ (k + 1) x1 q1 w1 → va_S A s.heap H1 locs1 → lv_has ls1 7 [(4, .int i), (3, .ref o0), (2, .ref m0), (1, .ref x0), (0, .ref b)] → W p G.1 e room_1 s m args below meth c H1 locs1 (q1.ce + 200) (q1.sl + 960000) Q (F0 m 1187 ls1 [])) : W p G.1 e room_1 s m args below meth c H locs (q.ce + 200) (q.sl + 960000) Q (F0 m 798 ls []) := by
  have hx := C.1.1
  have hb : c.code = cL_law := C.1.2.1
  obtain ⟨hu, hH, hm, el, b1, b2⟩ := id hJ
  obtain ⟨C9, wr, n9, lm, hj⟩ := el
  have el := JH_J hj
  refine lv_aload_n hx hb dlw_798 rfl (lv_at hl 3 rfl) ?_
  refine lv_aload_n hx hb dlw_799 rfl (lv_at hl 4 rfl) ?_
  refine lv_iload hx hb dlw_800 (lv_at hl 0 rfl) ?_
  refine lv_iconst (v := 1) hx hb dlw_802 (by decide +kernel) ?_
  refine lv_iadd hx hb dlw_803 ?_
  refine va_sld hx hb hX hbl hbA hS (i := i + 1) v1 dlw_804 ?_
  refine lv_aload_n hx hb dlw_805 rfl (lv_at hl 4 rfl) ?_
  refine lv_iload hx hb dlw_806 (lv_at hl 0 rfl) ?_
  refine lv_iconst (v := 2) hx hb dlw_808 (by decide +kernel) ?_
  refine lv_iadd hx hb dlw_809 ?_
  refine va_sld hx hb hX hbl hbA hS (i := i + 2) v2 dlw_810 ?_
  refine lv_aload_n hx hb dlw_811 rfl (lv_at hl 1 rfl) ?_
  refine LI_S C hI hu hS hl.1 [vi (xs (i + 1).toNatClampNeg), vi (xs (i + 2).toNatClampNeg)] [.int (xs (i + 1).toNatClampNeg), .int (xs (i + 2).toNatClampNeg)] (fun _ => rfl) dlw_812 wcs_170 rfl (by intro h; cases h) (Nat.le_of_ble_eq_true rfl) (kw_race (d := 870) hu hH (xs (i + 1).toNatClampNeg) (xs (i + 2).toNatClampNeg)) (LJ_room hJ hk) (fun r1 x1 q1 H1 locs1 hI hu1 hk1 hH1 hp1 hS => ?_)
  refine lv_istore (lv' := (5, .int r1) :: [(4, .int i), (3, .ref o0), (2, .ref m0), (1, .ref x0), (0, .ref b)]) hx hb dlw_815 hl (by decide) rfl (fun ls hl => ?_)
  refine lv_aload_n hx hb dlw_817 rfl (lv_at hl 3 rfl) ?_
  refine lv_aload_n hx hb dlw_818 rfl (lv_at hl 5 rfl) ?_
  refine lv_iload hx hb dlw_819 (lv_at hl 1 rfl) ?_
  refine lv_iconst (v := 1) hx hb dlw_821 (by decide +kernel) ?_
  refine lv_iadd hx hb dlw_822 ?_
  refine va_sld hx hb hX hbl hbA hS (i := i + 1) v1 dlw_823 ?_
  refine lv_aload_n hx hb dlw_824 rfl (lv_at hl 5 rfl) ?_
  refine lv_iload hx hb dlw_825 (lv_at hl 1 rfl) ?_
  refine lv_iconst (v := 2) hx hb dlw_827 (by decide +kernel) ?_
  refine lv_iadd hx hb dlw_828 ?_
  refine va_sld hx hb hX hbl hbA hS (i := i + 2) v2 dlw_829 ?_
  refine LI_M C hI hS hl.1 (restv := []) (d1 := 900) (F := fun _ w1 => rdM C9 wr w w1) [vi (xs (i + 1).toNatClampNeg), vi (xs (i + 2).toNatClampNeg)] [.int (xs (i + 1).toNatClampNeg), .int (xs (i + 2).toNatClampNeg)] (fun _ => rfl) dlw_830 wcm_172 rfl rfl (Nat.le_of_ble_eq_true rfl) (by decide) (by omega) (sr_race hm (xs (i + 1).toNatClampNeg) (xs (i + 2).toNatClampNeg) (by omega) (fun _ _ h => h)) ⟨(LJ_room hJ hk q1 hu1 hk1).1, (LJ_room hJ hk q1 hu1 hk1).2⟩ (fun r2 w1 H1 locs1 hI hpm hS => ?_)
  refine lv_istore (lv' := (6, .int r2) :: (5, .int r1) :: [(4, .int i), (3, .ref o0), (2, .ref m0), (1, .ref x0), (0, .ref b)]) hx hb dlw_833 hl (by decide) rfl (fun ls hl => ?_)
  refine lv_goto (tgt := 1187) hx hb dlw_835 (by decide) ?_
  exact kk x1 q1 w1 H1 locs1 ls hI (LJ_next hJ hu1 hk1 hH1 hpm.1.1 (JQ_rd hj hH1 hp1 hpm)) hS (lv_tl (lv_tl hl))
end
section
set_option maxRecDepth 100000 in
set_option maxHeartbeats 4000000 in
theorem lc_20 {p : Program} {e : Env} {s : State} {m : MethodId} {args : Array Value} {below : List Frame} {meth : Method} {c : Code} {H : Heap} {locs : List Loc} {Q : State → Prop} {ls : Array Slot} {A : Nat → Prop} {G : kG} {x w : gd} {q : kP} {x0 m0 o0 b L k : Nat} {xs : Nat → Int32} {i : Int32} (C : gC (wE (kE G)) 1000 yLaw p room_1 s m args meth c A) (hX : va_X b L xs s s.heap) (hbl : b < s.heap.size) (hbA : ¬ A b) (hI : LI G A H x q w x0 m0 o0) (hJ : LJ k x q w) (hk : k < 64) (hS : va_S A s.heap H locs) (v1 : vp_in (i + 1) L) (v2 : vp_in (i + 2) L) (v3 : vp_in (i + 3) L) (hl : lv_has ls 7 [(4, .int i), (3, .ref o0), (2, .ref m0), (1, .ref x0), (0, .ref b)]) (kk : ∀ (x1 : gd) (q1 : kP) (w1 : gd) (H1 : Heap) (locs1 : List Loc) (ls1 : Array Slot), LI G A H1 x1 q1 w1 x0 m0 o0 → LJ (k + 1) x1 q1 w1 → va_S A s.heap H1 locs1 → lv_has ls1 7 [(4, .int i), (3, .ref o0), (2, .ref m0), (1, .ref x0), (0, .ref b)] → W p G.1 e room_1 s m args below meth c H1 locs1 (q1.ce + 200) (q1.sl + 960000) Q (F0 m 1187 ls1 [])) : W p G.1 e room_1 s m args below meth c H locs (q.ce + 200) (q.sl + 960000) Q (F0 m 838 ls []) := by
  have hx := C.1.1
  have hb : c.code = cL_law := C.1.2.1
  obtain ⟨hu, hH, hm, el, b1, b2⟩ := id hJ
  obtain ⟨C9, wr, n9, lm, hj⟩ := el
  have el := JH_J hj
  refine lv_aload_n hx hb dlw_838 rfl (lv_at hl 3 rfl) ?_
  refine lv_aload_n hx hb dlw_839 rfl (lv_at hl 4 rfl) ?_
  refine lv_iload hx hb dlw_840 (lv_at hl 0 rfl) ?_
  refine lv_iconst (v := 1) hx hb dlw_842 (by decide +kernel) ?_
  refine lv_iadd hx hb dlw_843 ?_
  refine va_sld hx hb hX hbl hbA hS (i := i + 1) v1 dlw_844 ?_
  refine lv_aload_n hx hb dlw_845 rfl (lv_at hl 1 rfl) ?_
  refine LI_S C hI hu hS hl.1 [vi (xs (i + 1).toNatClampNeg)] [.int (xs (i + 1).toNatClampNeg)] (fun _ => rfl) dlw_846 wcs_173 rfl (by intro h; cases h) (Nat.le_of_ble_eq_true rfl) (kw_linear (d := 870) hu hH (xs (i + 1).toNatClampNeg)) (LJ_room hJ hk) (fun r1 x1 q1 H1 locs1 hI hu1 hk1 hH1 hp1 hS => ?_)
  refine lv_istore (lv' := (5, .int r1) :: [(4, .int i), (3, .ref o0), (2, .ref m0), (1, .ref x0), (0, .ref b)]) hx hb dlw_849 hl (by decide) rfl (fun ls hl => ?_)
  refine lv_aload_n hx hb dlw_851 rfl (lv_at hl 3 rfl) ?_
  refine lv_aload_n hx hb dlw_852 rfl (lv_at hl 5 rfl) ?_
  refine lv_iload hx hb dlw_853 (lv_at hl 1 rfl) ?_
  refine lv_iconst (v := 1) hx hb dlw_855 (by decide +kernel) ?_
  refine lv_iadd hx hb dlw_856 ?_
  refine va_sld hx hb hX hbl hbA hS (i := i + 1) v1 dlw_857 ?_
  refine LI_M C hI hS hl.1 (restv := []) (d1 := 900) (F := fun _ w1 => rdM C9 wr w w1) [vi (xs (i + 1).toNatClampNeg)] [.int (xs (i + 1).toNatClampNeg)] (fun _ => rfl) dlw_858 wcm_175 rfl rfl (Nat.le_of_ble_eq_true rfl) (by decide) (by omega) (sr_linear hm (xs (i + 1).toNatClampNeg) (by omega) (fun _ _ h => h)) ⟨(LJ_room hJ hk q1 hu1 hk1).1, (LJ_room hJ hk q1 hu1 hk1).2⟩ (fun r2 w1 H1 locs1 hI hpm hS => ?_)
  refine lv_istore (lv' := (6, .int r2) :: (5, .int r1) :: [(4, .int i), (3, .ref o0), (2, .ref m0), (1, .ref x0), (0, .ref b)]) hx hb dlw_861 hl (by decide) rfl (fun ls hl => ?_)
  refine lv_goto (tgt := 1187) hx hb dlw_863 (by decide) ?_
  exact kk x1 q1 w1 H1 locs1 ls hI (LJ_next hJ hu1 hk1 hH1 hpm.1.1 (JQ_rd hj hH1 hp1 hpm)) hS (lv_tl (lv_tl hl))
set_option maxRecDepth 100000 in
set_option maxHeartbeats 4000000 in
theorem lc_21 {p : Program} {e : Env} {s : State} {m : MethodId} {args : Array Value} {below : List Frame} {meth : Method} {c : Code} {H : Heap} {locs : List Loc} {Q : State → Prop} {ls : Array Slot} {A : Nat → Prop} {G : kG} {x w : gd} {q : kP} {x0 m0 o0 b L k : Nat} {xs : Nat → Int32} {i : Int32} (C : gC (wE (kE G)) 1000 yLaw p room_1 s m args meth c A) (hX : va_X b L xs s s.heap) (hbl : b < s.heap.size) (hbA : ¬ A b) (hI : LI G A H x q w x0 m0 o0) (hJ : LJ k x q w) (hk : k < 64) (hS : va_S A s.heap H locs) (v1 : vp_in (i + 1) L) (v2 : vp_in (i + 2) L) (v3 : vp_in (i + 3) L) (hl : lv_has ls 7 [(4, .int i), (3, .ref o0), (2, .ref m0), (1, .ref x0), (0, .ref b)]) (kk : ∀ (x1 : gd) (q1 : kP) (w1 : gd) (H1 : Heap) (locs1 : List Loc) (ls1 : Array Slot), LI G A H1 x1 q1 w1 x0 m0 o0 → LJ (k + 1) x1 q1 w1 → va_S A s.heap H1 locs1 → lv_has ls1 7 [(4, .int i), (3, .ref o0), (2, .ref m0), (1, .ref x0), (0, .ref b)] → W p G.1 e room_1 s m args below meth c H1 locs1 (q1.ce + 200) (q1.sl + 960000) Q (F0 m 1187 ls1 [])) : W p G.1 e room_1 s m args below meth c H locs (q.ce + 200) (q.sl + 960000) Q (F0 m 866 ls []) := by
  have hx := C.1.1
  have hb : c.code = cL_law := C.1.2.1
  obtain ⟨hu, hH, hm, el, b1, b2⟩ := id hJ
  obtain ⟨C9, wr, n9, lm, hj⟩ := el
  have el := JH_J hj
  refine lv_aload_n hx hb dlw_866 rfl (lv_at hl 3 rfl) ?_
  refine lv_aload_n hx hb dlw_867 rfl (lv_at hl 4 rfl) ?_
  refine lv_iload hx hb dlw_868 (lv_at hl 0 rfl) ?_
  refine lv_iconst (v := 1) hx hb dlw_870 (by decide +kernel) ?_
  refine lv_iadd hx hb dlw_871 ?_
  refine va_sld hx hb hX hbl hbA hS (i := i + 1) v1 dlw_872 ?_
  refine lv_aload_n hx hb dlw_873 rfl (lv_at hl 4 rfl) ?_
  refine lv_iload hx hb dlw_874 (lv_at hl 0 rfl) ?_
  refine lv_iconst (v := 2) hx hb dlw_876 (by decide +kernel) ?_
  refine lv_iadd hx hb dlw_877 ?_
  refine va_sld hx hb hX hbl hbA hS (i := i + 2) v2 dlw_878 ?_
  refine lv_aload_n hx hb dlw_879 rfl (lv_at hl 1 rfl) ?_
  refine LI_S C hI hu hS hl.1 [vi (xs (i + 1).toNatClampNeg), vi (xs (i + 2).toNatClampNeg)] [.int (xs (i + 1).toNatClampNeg), .int (xs (i + 2).toNatClampNeg)] (fun _ => rfl) dlw_880 wcs_176 rfl (by intro h; cases h) (Nat.le_of_ble_eq_true rfl) (kw_attempt (d := 870) hj hu hH (xs (i + 1).toNatClampNeg) (xs (i + 2).toNatClampNeg)) (LJ_room hJ hk) (fun r1 x1 q1 H1 locs1 hI hu1 hk1 hH1 hp1 hS => ?_)
  refine lv_istore (lv' := (5, .int r1) :: [(4, .int i), (3, .ref o0), (2, .ref m0), (1, .ref x0), (0, .ref b)]) hx hb dlw_883 hl (by decide) rfl (fun ls hl => ?_)
  refine lv_aload_n hx hb dlw_885 rfl (lv_at hl 3 rfl) ?_
  refine lv_aload_n hx hb dlw_886 rfl (lv_at hl 5 rfl) ?_
  refine lv_iload hx hb dlw_887 (lv_at hl 1 rfl) ?_
  refine lv_iconst (v := 1) hx hb dlw_889 (by decide +kernel) ?_
  refine lv_iadd hx hb dlw_890 ?_
  refine va_sld hx hb hX hbl hbA hS (i := i + 1) v1 dlw_891 ?_
  refine lv_aload_n hx hb dlw_892 rfl (lv_at hl 5 rfl) ?_
  refine lv_iload hx hb dlw_893 (lv_at hl 1 rfl) ?_
  refine lv_iconst (v := 2) hx hb dlw_895 (by decide +kernel) ?_
  refine lv_iadd hx hb dlw_896 ?_
  refine va_sld hx hb hX hbl hbA hS (i := i + 2) v2 dlw_897 ?_
  refine LI_M C hI hS hl.1 (restv := []) (d1 := 900) (F := fun r9 w1 => ansM C9 wr (f1Bg w) (f2At w (xs (i + 1).toNatClampNeg) (xs (i + 2).toNatClampNeg)) (tAq C9 wr w (xs (i + 1).toNatClampNeg) (xs (i + 2).toNatClampNeg)) w r9 w1) [vi (xs (i + 1).toNatClampNeg), vi (xs (i + 2).toNatClampNeg)] [.int (xs (i + 1).toNatClampNeg), .int (xs (i + 2).toNatClampNeg)] (fun _ => rfl) dlw_898 wcm_178 rfl rfl (Nat.le_of_ble_eq_true rfl) (by decide) (by omega) (ma_attempt hj hH hm (xs (i + 1).toNatClampNeg) (xs (i + 2).toNatClampNeg) (by omega) (fun _ _ h1 => h1)) ⟨(LJ_room hJ hk q1 hu1 hk1).1, (LJ_room hJ hk q1 hu1 hk1).2⟩ (fun r2 w1 H1 locs1 hI hpm hS => ?_)
  have hj2 := ja_attempt hj hH1 hp1 hpm
  refine lv_istore (lv' := (6, .int r2) :: (5, .int r1) :: [(4, .int i), (3, .ref o0), (2, .ref m0), (1, .ref x0), (0, .ref b)]) hx hb dlw_901 hl (by decide) rfl (fun ls hl => ?_)
  refine lv_goto (tgt := 1187) hx hb dlw_903 (by decide) ?_
  exact kk x1 q1 w1 H1 locs1 ls hI (LJ_next hJ hu1 hk1 hH1 hpm.1 hj2.1) hS (lv_tl (lv_tl hl))
set_option maxRecDepth 100000 in
set_option maxHeartbeats 4000000 in
theorem lc_22 {p : Program} {e : Env} {s : State} {m : MethodId} {args : Array Value} {below : List Frame} {meth : Method} {c : Code} {H : Heap} {locs : List Loc} {Q : State → Prop} {ls : Array Slot} {A : Nat → Prop} {G : kG} {x w : gd} {q : kP} {x0 m0 o0 b L k : Nat} {xs : Nat → Int32} {i : Int32} (C : gC (wE (kE G)) 1000 yLaw p room_1 s m args meth c A) (hX : va_X b L xs s s.heap) (hbl : b < s.heap.size) (hbA : ¬ A b) (hI : LI G A H x q w x0 m0 o0) (hJ : LJ k x q w) (hk : k < 64) (hS : va_S A s.heap H locs) (v1 : vp_in (i + 1) L) (v2 : vp_in (i + 2) L) (v3 : vp_in (i + 3) L) (hl : lv_has ls 7 [(4, .int i), (3, .ref o0), (2, .ref m0), (1, .ref x0), (0, .ref b)]) (kk : ∀ (x1 : gd) (q1 : kP) (w1 : gd) (H1 : Heap) (locs1 : List Loc) (ls1 : Array Slot), LI G A H1 x1 q1 w1 x0 m0 o0 → LJ (k + 1) x1 q1 w1 → va_S A s.heap H1 locs1 → lv_has ls1 7 [(4, .int i), (3, .ref o0), (2, .ref m0), (1, .ref x0), (0, .ref b)] → W p G.1 e room_1 s m args below meth c H1 locs1 (q1.ce + 200) (q1.sl + 960000) Q (F0 m 1187 ls1 [])) : W p G.1 e room_1 s m args below meth c H locs (q.ce + 200) (q.sl + 960000) Q (F0 m 906 ls []) := by
  have hx := C.1.1
  have hb : c.code = cL_law := C.1.2.1
  obtain ⟨hu, hH, hm, el, b1, b2⟩ := id hJ
  obtain ⟨C9, wr, n9, lm, hj⟩ := el
  have el := JH_J hj
  refine lv_aload_n hx hb dlw_906 rfl (lv_at hl 3 rfl) ?_
  refine lv_aload_n hx hb dlw_907 rfl (lv_at hl 4 rfl) ?_
  refine lv_iload hx hb dlw_908 (lv_at hl 0 rfl) ?_
  refine lv_iconst (v := 1) hx hb dlw_910 (by decide +kernel) ?_
  refine lv_iadd hx hb dlw_911 ?_
  refine va_sld hx hb hX hbl hbA hS (i := i + 1) v1 dlw_912 ?_
  refine lv_aload_n hx hb dlw_913 rfl (lv_at hl 4 rfl) ?_
  refine lv_iload hx hb dlw_914 (lv_at hl 0 rfl) ?_
  refine lv_iconst (v := 2) hx hb dlw_916 (by decide +kernel) ?_
  refine lv_iadd hx hb dlw_917 ?_
  refine va_sld hx hb hX hbl hbA hS (i := i + 2) v2 dlw_918 ?_
  refine lv_aload_n hx hb dlw_919 rfl (lv_at hl 1 rfl) ?_
  refine LI_S C hI hu hS hl.1 [vi (xs (i + 1).toNatClampNeg), vi (xs (i + 2).toNatClampNeg)] [.int (xs (i + 1).toNatClampNeg), .int (xs (i + 2).toNatClampNeg)] (fun _ => rfl) dlw_920 wcs_179 rfl (by intro h; cases h) (Nat.le_of_ble_eq_true rfl) (kw_tried (d := 870) hj hu hH (xs (i + 1).toNatClampNeg) (xs (i + 2).toNatClampNeg)) (LJ_room hJ hk) (fun r1 x1 q1 H1 locs1 hI hu1 hk1 hH1 hp1 hS => ?_)
  refine lv_istore (lv' := (5, .int r1) :: [(4, .int i), (3, .ref o0), (2, .ref m0), (1, .ref x0), (0, .ref b)]) hx hb dlw_923 hl (by decide) rfl (fun ls hl => ?_)
  refine lv_aload_n hx hb dlw_925 rfl (lv_at hl 3 rfl) ?_
  refine lv_aload_n hx hb dlw_926 rfl (lv_at hl 5 rfl) ?_
  refine lv_iload hx hb dlw_927 (lv_at hl 1 rfl) ?_
  refine lv_iconst (v := 1) hx hb dlw_929 (by decide +kernel) ?_
  refine lv_iadd hx hb dlw_930 ?_
  refine va_sld hx hb hX hbl hbA hS (i := i + 1) v1 dlw_931 ?_
  refine lv_aload_n hx hb dlw_932 rfl (lv_at hl 5 rfl) ?_
  refine lv_iload hx hb dlw_933 (lv_at hl 1 rfl) ?_
  refine lv_iconst (v := 2) hx hb dlw_935 (by decide +kernel) ?_
  refine lv_iadd hx hb dlw_936 ?_
  refine va_sld hx hb hX hbl hbA hS (i := i + 2) v2 dlw_937 ?_
  refine LI_M C hI hS hl.1 (restv := []) (d1 := 900) (F := fun r9 w1 => ansM C9 wr (e1Tr (xs (i + 1).toNatClampNeg) (xs (i + 2).toNatClampNeg)) (e2Tr (xs (i + 1).toNatClampNeg) (xs (i + 2).toNatClampNeg)) (tTd C9 lm wr w (xs (i + 1).toNatClampNeg) (xs (i + 2).toNatClampNeg)) w r9 w1) [vi (xs (i + 1).toNatClampNeg), vi (xs (i + 2).toNatClampNeg)] [.int (xs (i + 1).toNatClampNeg), .int (xs (i + 2).toNatClampNeg)] (fun _ => rfl) dlw_938 wcm_181 rfl rfl (Nat.le_of_ble_eq_true rfl) (by decide) (by omega) (ma_tried hj hH hm (xs (i + 1).toNatClampNeg) (xs (i + 2).toNatClampNeg) (by omega) (fun _ _ h1 => h1)) ⟨(LJ_room hJ hk q1 hu1 hk1).1, (LJ_room hJ hk q1 hu1 hk1).2⟩ (fun r2 w1 H1 locs1 hI hpm hS => ?_)
  have hj2 := ja_tried hj hH1 hp1 hpm
  refine lv_istore (lv' := (6, .int r2) :: (5, .int r1) :: [(4, .int i), (3, .ref o0), (2, .ref m0), (1, .ref x0), (0, .ref b)]) hx hb dlw_941 hl (by decide) rfl (fun ls hl => ?_)
  refine lv_goto (tgt := 1187) hx hb dlw_943 (by decide) ?_
  exact kk x1 q1 w1 H1 locs1 ls hI (LJ_next hJ hu1 hk1 hH1 hpm.1 hj2.1) hS (lv_tl (lv_tl hl))
set_option maxRecDepth 100000 in
set_option maxHeartbeats 4000000 in
theorem lc_23 {p : Program} {e : Env} {s : State} {m : MethodId} {args : Array Value} {below : List Frame} {meth : Method} {c : Code} {H : Heap} {locs : List Loc} {Q : State → Prop} {ls : Array Slot} {A : Nat → Prop} {G : kG} {x w : gd} {q : kP} {x0 m0 o0 b L k : Nat} {xs : Nat → Int32} {i : Int32} (C : gC (wE (kE G)) 1000 yLaw p room_1 s m args meth c A) (hX : va_X b L xs s s.heap) (hbl : b < s.heap.size) (hbA : ¬ A b) (hI : LI G A H x q w x0 m0 o0) (hJ : LJ k x q w) (hk : k < 64) (hS : va_S A s.heap H locs) (v1 : vp_in (i + 1) L) (v2 : vp_in (i + 2) L) (v3 : vp_in (i + 3) L) (hl : lv_has ls 7 [(4, .int i), (3, .ref o0), (2, .ref m0), (1, .ref x0), (0, .ref b)]) (kk : ∀ (x1 : gd) (q1 : kP) (w1 : gd) (H1 : Heap) (locs1 : List Loc) (ls1 : Array Slot), LI G A H1 x1 q1 w1 x0 m0 o0 → LJ (k + 1) x1 q1 w1 → va_S A s.heap H1 locs1 → lv_has ls1 7 [(4, .int i), (3, .ref o0), (2, .ref m0), (1, .ref x0), (0, .ref b)] → W p G.1 e room_1 s m args below meth c H1 locs1 (q1.ce + 200) (q1.sl + 960000) Q (F0 m 1187 ls1 [])) : W p G.1 e room_1 s m args below meth c H locs (q.ce + 200) (q.sl + 960000) Q (F0 m 946 ls []) := by
  have hx := C.1.1
  have hb : c.code = cL_law := C.1.2.1
  obtain ⟨hu, hH, hm, el, b1, b2⟩ := id hJ
  obtain ⟨C9, wr, n9, lm, hj⟩ := el
  have el := JH_J hj
  refine lv_aload_n hx hb dlw_946 rfl (lv_at hl 3 rfl) ?_
  refine lv_aload_n hx hb dlw_947 rfl (lv_at hl 4 rfl) ?_
  refine lv_iload hx hb dlw_948 (lv_at hl 0 rfl) ?_
  refine lv_iconst (v := 1) hx hb dlw_950 (by decide +kernel) ?_
  refine lv_iadd hx hb dlw_951 ?_
  refine va_sld hx hb hX hbl hbA hS (i := i + 1) v1 dlw_952 ?_
  refine lv_aload_n hx hb dlw_953 rfl (lv_at hl 4 rfl) ?_
  refine lv_iload hx hb dlw_954 (lv_at hl 0 rfl) ?_
  refine lv_iconst (v := 2) hx hb dlw_956 (by decide +kernel) ?_
  refine lv_iadd hx hb dlw_957 ?_
  refine va_sld hx hb hX hbl hbA hS (i := i + 2) v2 dlw_958 ?_
  refine lv_aload_n hx hb dlw_959 rfl (lv_at hl 4 rfl) ?_
  refine lv_iload hx hb dlw_960 (lv_at hl 0 rfl) ?_
  refine lv_iconst (v := 3) hx hb dlw_962 (by decide +kernel) ?_
  refine lv_iadd hx hb dlw_963 ?_
  refine va_sld hx hb hX hbl hbA hS (i := i + 3) v3 dlw_964 ?_
  refine lv_aload_n hx hb dlw_965 rfl (lv_at hl 1 rfl) ?_
  refine LI_S C hI hu hS hl.1 [vi (xs (i + 1).toNatClampNeg), vi (xs (i + 2).toNatClampNeg), vi (xs (i + 3).toNatClampNeg)] [.int (xs (i + 1).toNatClampNeg), .int (xs (i + 2).toNatClampNeg), .int (xs (i + 3).toNatClampNeg)] (fun _ => rfl) dlw_966 wcs_182 rfl (by intro h; cases h) (Nat.le_of_ble_eq_true rfl) (kw_outcome (d := 870) hj hu hH (xs (i + 1).toNatClampNeg) (xs (i + 2).toNatClampNeg) (xs (i + 3).toNatClampNeg)) (LJ_room hJ hk) (fun r1 x1 q1 H1 locs1 hI hu1 hk1 hH1 hp1 hS => ?_)
  refine lv_istore (lv' := (5, .int r1) :: [(4, .int i), (3, .ref o0), (2, .ref m0), (1, .ref x0), (0, .ref b)]) hx hb dlw_969 hl (by decide) rfl (fun ls hl => ?_)
  refine lv_aload_n hx hb dlw_971 rfl (lv_at hl 3 rfl) ?_
  refine lv_aload_n hx hb dlw_972 rfl (lv_at hl 5 rfl) ?_
  refine lv_iload hx hb dlw_973 (lv_at hl 1 rfl) ?_
  refine lv_iconst (v := 1) hx hb dlw_975 (by decide +kernel) ?_
  refine lv_iadd hx hb dlw_976 ?_
  refine va_sld hx hb hX hbl hbA hS (i := i + 1) v1 dlw_977 ?_
  refine lv_aload_n hx hb dlw_978 rfl (lv_at hl 5 rfl) ?_
  refine lv_iload hx hb dlw_979 (lv_at hl 1 rfl) ?_
  refine lv_iconst (v := 2) hx hb dlw_981 (by decide +kernel) ?_
  refine lv_iadd hx hb dlw_982 ?_
  refine va_sld hx hb hX hbl hbA hS (i := i + 2) v2 dlw_983 ?_
  refine lv_aload_n hx hb dlw_984 rfl (lv_at hl 5 rfl) ?_
  refine lv_iload hx hb dlw_985 (lv_at hl 1 rfl) ?_
  refine lv_iconst (v := 3) hx hb dlw_987 (by decide +kernel) ?_
  refine lv_iadd hx hb dlw_988 ?_
  refine va_sld hx hb hX hbl hbA hS (i := i + 3) v3 dlw_989 ?_
  refine LI_M C hI hS hl.1 (restv := []) (d1 := 900) (F := fun r9 w1 => ansM C9 wr (e1Ou (xs (i + 1).toNatClampNeg)) (f2Ou C9 lm w (xs (i + 1).toNatClampNeg) (xs (i + 2).toNatClampNeg) (xs (i + 3).toNatClampNeg)) (tOc C9 lm wr w (xs (i + 1).toNatClampNeg) (xs (i + 2).toNatClampNeg) (xs (i + 3).toNatClampNeg)) w r9 w1) [vi (xs (i + 1).toNatClampNeg), vi (xs (i + 2).toNatClampNeg), vi (xs (i + 3).toNatClampNeg)] [.int (xs (i + 1).toNatClampNeg), .int (xs (i + 2).toNatClampNeg), .int (xs (i + 3).toNatClampNeg)] (fun _ => rfl) dlw_990 wcm_185 rfl rfl (Nat.le_of_ble_eq_true rfl) (by decide) (by omega) (ma_outcome hj hH hm (xs (i + 1).toNatClampNeg) (xs (i + 2).toNatClampNeg) (xs (i + 3).toNatClampNeg) (by omega) (fun _ _ h1 => h1)) ⟨(LJ_room hJ hk q1 hu1 hk1).1, (LJ_room hJ hk q1 hu1 hk1).2⟩ (fun r2 w1 H1 locs1 hI hpm hS => ?_)
  have hj2 := ja_outcome hj hH1 hp1 hpm
  refine lv_istore (lv' := (6, .int r2) :: (5, .int r1) :: [(4, .int i), (3, .ref o0), (2, .ref m0), (1, .ref x0), (0, .ref b)]) hx hb dlw_993 hl (by decide) rfl (fun ls hl => ?_)
  refine lv_aload_n hx hb dlw_995 rfl (lv_at hl 4 rfl) ?_
  refine LI_M C hI hS hl.1 (restv := []) (d1 := 900) (F := fun r3 w2 => r3 = w1.1 0 0 ∧ w2 = w1) [] [] (fun _ => rfl) dlw_996 wcm_186 rfl rfl (Nat.le_of_ble_eq_true rfl) (by decide) (by omega) (sp_thrown (d := 899) ⟨rfl, rfl⟩) ⟨(LJ_room hJ hk q1 hu1 hk1).1, (LJ_room hJ hk q1 hu1 hk1).2⟩ (fun r3 w2 H2 locs2 hI2 hp3 hS2 => ?_)
  obtain ⟨h3, e2⟩ := hp3
  rw [e2] at hI2
  have hag : (r1 = 0 ∧ r3 = 0 ∧ x1.2 299 (0 : Int32).toNatClampNeg = r2.toInt64) ∨ (¬ r1 = 0 ∧ r3 = r1) := by
    rcases hj2.2 with ⟨z1, z2, z3⟩ | ⟨z1, z2⟩
    · exact Or.inl ⟨z1, h3.trans z2, z3⟩
    · exact Or.inr ⟨z1, h3.trans z2⟩
  refine lv_iload hx hb dlw_999 (lv_at hl 1 rfl) ?_
  refine lv_icmp_eq (tgt := 1006) hx hb dlw_1001 (by decide) (fun _ => ?_) (fun c9 => absurd (show r3 = r1 by rcases hag with h | h; exact h.2.1.trans h.1.symm; exact h.2) c9)
  refine lv_iload hx hb dlw_1006 (lv_at hl 1 rfl) ?_
  refine lv_if_ne (tgt := 1023) hx hb dlw_1008 (by decide) (fun _ => ?_) (fun c0 => ?_)
  · skip
    refine lv_goto (tgt := 1187) hx hb dlw_1023 (by decide) ?_
    exact kk x1 q1 w1 H2 locs2 ls hI2 (LJ_next hJ hu1 hk1 hH1 hpm.1 hj2.1) hS2 (lv_tl (lv_tl hl))
  · have hok := hag.resolve_right (fun h => absurd c0 h.1)
    refine lv_aload_n hx hb dlw_1011 rfl (lv_at hl 3 rfl) ?_
    refine lv_iconst (v := 0) hx hb dlw_1012 (by decide +kernel) ?_
    refine LI_O C hI2 dlw_1013 ?_
    refine lv_iload hx hb dlw_1014 (lv_at hl 0 rfl) ?_
    refine lv_i2l (v := r2.toInt64) hx hb dlw_1016 rfl ?_
    refine W.lcmp hx hb dlw_1017 ?_
    refine lv_if_eq (tgt := 1023) hx hb dlw_1018 (by decide) (fun _ => ?_) (fun c9 => absurd (by rw [hok.2.2]; exact lg_self _) c9)
    refine lv_goto (tgt := 1187) hx hb dlw_1023 (by decide) ?_
    exact kk x1 q1 w1 H2 locs2 ls hI2 (LJ_next hJ hu1 hk1 hH1 hpm.1 hj2.1) hS2 (lv_tl (lv_tl hl))
set_option maxRecDepth 100000 in
set_option maxHeartbeats 4000000 in
theorem lc_24 {p : Program} {e : Env} {s : State} {m : MethodId} {args : Array Value} {below : List Frame} {meth : Method} {c : Code} {H : Heap} {locs : List Loc} {Q : State → Prop} {ls : Array Slot} {A : Nat → Prop} {G : kG} {x w : gd} {q : kP} {x0 m0 o0 b L k : Nat} {xs : Nat → Int32} {i : Int32} (C : gC (wE (kE G)) 1000 yLaw p room_1 s m args meth c A) (hX : va_X b L xs s s.heap) (hbl : b < s.heap.size) (hbA : ¬ A b) (hI : LI G A H x q w x0 m0 o0) (hJ : LJ k x q w) (hk : k < 64) (hS : va_S A s.heap H locs) (v1 : vp_in (i + 1) L) (v2 : vp_in (i + 2) L) (v3 : vp_in (i + 3) L) (hl : lv_has ls 7 [(4, .int i), (3, .ref o0), (2, .ref m0), (1, .ref x0), (0, .ref b)]) (kk : ∀ (x1 : gd) (q1 : kP) (w1 : gd) (H1 : Heap) (locs1 : List Loc) (ls1 : Array Slot), LI G A H1 x1 q1 w1 x0 m0 o0 → LJ (k + 1) x1 q1 w1 → va_S A s.heap H1 locs1 → lv_has ls1 7 [(4, .int i), (3, .ref o0), (2, .ref m0), (1, .ref x0), (0, .ref b)] → W p G.1 e room_1 s m args below meth c H1 locs1 (q1.ce + 200) (q1.sl + 960000) Q (F0 m 1187 ls1 [])) : W p G.1 e room_1 s m args below meth c H locs (q.ce + 200) (q.sl + 960000) Q (F0 m 1026 ls []) := by
  have hx := C.1.1
  have hb : c.code = cL_law := C.1.2.1
  obtain ⟨hu, hH, hm, el, b1, b2⟩ := id hJ
  obtain ⟨C9, wr, n9, lm, hj⟩ := el
  have el := JH_J hj
  refine lv_aload_n hx hb dlw_1026 rfl (lv_at hl 3 rfl) ?_
  refine lv_aload_n hx hb dlw_1027 rfl (lv_at hl 4 rfl) ?_
  refine lv_iload hx hb dlw_1028 (lv_at hl 0 rfl) ?_
  refine lv_iconst (v := 1) hx hb dlw_1030 (by decide +kernel) ?_
  refine lv_iadd hx hb dlw_1031 ?_
  refine va_sld hx hb hX hbl hbA hS (i := i + 1) v1 dlw_1032 ?_
  refine lv_aload_n hx hb dlw_1033 rfl (lv_at hl 4 rfl) ?_
  refine lv_iload hx hb dlw_1034 (lv_at hl 0 rfl) ?_
  refine lv_iconst (v := 2) hx hb dlw_1036 (by decide +kernel) ?_
  refine lv_iadd hx hb dlw_1037 ?_
  refine va_sld hx hb hX hbl hbA hS (i := i + 2) v2 dlw_1038 ?_
  refine lv_aload_n hx hb dlw_1039 rfl (lv_at hl 1 rfl) ?_
  refine LI_S C hI hu hS hl.1 [vi (xs (i + 1).toNatClampNeg), vi (xs (i + 2).toNatClampNeg)] [.int (xs (i + 1).toNatClampNeg), .int (xs (i + 2).toNatClampNeg)] (fun _ => rfl) dlw_1040 wcs_189 rfl (by intro h; cases h) (Nat.le_of_ble_eq_true rfl) (kw_finding (d := 870) hj hu hH (xs (i + 1).toNatClampNeg) (xs (i + 2).toNatClampNeg)) (LJ_room hJ hk) (fun r1 x1 q1 H1 locs1 hI hu1 hk1 hH1 hp1 hS => ?_)
  refine lv_istore (lv' := (5, .int r1) :: [(4, .int i), (3, .ref o0), (2, .ref m0), (1, .ref x0), (0, .ref b)]) hx hb dlw_1043 hl (by decide) rfl (fun ls hl => ?_)
  refine lv_aload_n hx hb dlw_1045 rfl (lv_at hl 3 rfl) ?_
  refine lv_aload_n hx hb dlw_1046 rfl (lv_at hl 5 rfl) ?_
  refine lv_iload hx hb dlw_1047 (lv_at hl 1 rfl) ?_
  refine lv_iconst (v := 1) hx hb dlw_1049 (by decide +kernel) ?_
  refine lv_iadd hx hb dlw_1050 ?_
  refine va_sld hx hb hX hbl hbA hS (i := i + 1) v1 dlw_1051 ?_
  refine lv_aload_n hx hb dlw_1052 rfl (lv_at hl 5 rfl) ?_
  refine lv_iload hx hb dlw_1053 (lv_at hl 1 rfl) ?_
  refine lv_iconst (v := 2) hx hb dlw_1055 (by decide +kernel) ?_
  refine lv_iadd hx hb dlw_1056 ?_
  refine va_sld hx hb hX hbl hbA hS (i := i + 2) v2 dlw_1057 ?_
  refine LI_M C hI hS hl.1 (restv := []) (d1 := 900) (F := fun r9 w1 => ansM C9 wr (e1Sh (xs (i + 1).toNatClampNeg) (xs (i + 2).toNatClampNeg)) (False) (tFi C9 lm wr w (xs (i + 1).toNatClampNeg) (xs (i + 2).toNatClampNeg)) w r9 w1) [vi (xs (i + 1).toNatClampNeg), vi (xs (i + 2).toNatClampNeg)] [.int (xs (i + 1).toNatClampNeg), .int (xs (i + 2).toNatClampNeg)] (fun _ => rfl) dlw_1058 wcm_191 rfl rfl (Nat.le_of_ble_eq_true rfl) (by decide) (by omega) (ma_finding hj hH hm (xs (i + 1).toNatClampNeg) (xs (i + 2).toNatClampNeg) (by omega) (fun _ _ h1 => h1)) ⟨(LJ_room hJ hk q1 hu1 hk1).1, (LJ_room hJ hk q1 hu1 hk1).2⟩ (fun r2 w1 H1 locs1 hI hpm hS => ?_)
  have hj2 := ja_finding hj hH1 hp1 hpm
  refine lv_istore (lv' := (6, .int r2) :: (5, .int r1) :: [(4, .int i), (3, .ref o0), (2, .ref m0), (1, .ref x0), (0, .ref b)]) hx hb dlw_1061 hl (by decide) rfl (fun ls hl => ?_)
  refine lv_goto (tgt := 1187) hx hb dlw_1063 (by decide) ?_
  exact kk x1 q1 w1 H1 locs1 ls hI (LJ_next hJ hu1 hk1 hH1 hpm.1 hj2.1) hS (lv_tl (lv_tl hl))
set_option maxRecDepth 100000 in
set_option maxHeartbeats 4000000 in
theorem lc_25 {p : Program} {e : Env} {s : State} {m : MethodId} {args : Array Value} {below : List Frame} {meth : Method} {c : Code} {H : Heap} {locs : List Loc} {Q : State → Prop} {ls : Array Slot} {A : Nat → Prop} {G : kG} {x w : gd} {q : kP} {x0 m0 o0 b L k : Nat} {xs : Nat → Int32} {i : Int32} (C : gC (wE (kE G)) 1000 yLaw p room_1 s m args meth c A) (hX : va_X b L xs s s.heap) (hbl : b < s.heap.size) (hbA : ¬ A b) (hI : LI G A H x q w x0 m0 o0) (hJ : LJ k x q w) (hk : k < 64) (hS : va_S A s.heap H locs) (v1 : vp_in (i + 1) L) (v2 : vp_in (i + 2) L) (v3 : vp_in (i + 3) L) (hl : lv_has ls 7 [(4, .int i), (3, .ref o0), (2, .ref m0), (1, .ref x0), (0, .ref b)]) (kk : ∀ (x1 : gd) (q1 : kP) (w1 : gd) (H1 : Heap) (locs1 : List Loc) (ls1 : Array Slot), LI G A H1 x1 q1 w1 x0 m0 o0 → LJ (k + 1) x1 q1 w1 → va_S A s.heap H1 locs1 → lv_has ls1 7 [(4, .int i), (3, .ref o0), (2, .ref m0), (1, .ref x0), (0, .ref b)] → W p G.1 e room_1 s m args below meth c H1 locs1 (q1.ce + 200) (q1.sl + 960000) Q (F0 m 1187 ls1 [])) : W p G.1 e room_1 s m args below meth c H locs (q.ce + 200) (q.sl + 960000) Q (F0 m 1066 ls []) := by
  have hx := C.1.1
  have hb : c.code = cL_law := C.1.2.1
  obtain ⟨hu, hH, hm, el, b1, b2⟩ := id hJ
  obtain ⟨C9, wr, n9, lm, hj⟩ := el
  have el := JH_J hj
  refine lv_aload_n hx hb dlw_1066 rfl (lv_at hl 3 rfl) ?_
  refine lv_aload_n hx hb dlw_1067 rfl (lv_at hl 4 rfl) ?_
  refine lv_iload hx hb dlw_1068 (lv_at hl 0 rfl) ?_
  refine lv_iconst (v := 1) hx hb dlw_1070 (by decide +kernel) ?_
  refine lv_iadd hx hb dlw_1071 ?_
  refine va_sld hx hb hX hbl hbA hS (i := i + 1) v1 dlw_1072 ?_
  refine lv_aload_n hx hb dlw_1073 rfl (lv_at hl 4 rfl) ?_
  refine lv_iload hx hb dlw_1074 (lv_at hl 0 rfl) ?_
  refine lv_iconst (v := 2) hx hb dlw_1076 (by decide +kernel) ?_
  refine lv_iadd hx hb dlw_1077 ?_
  refine va_sld hx hb hX hbl hbA hS (i := i + 2) v2 dlw_1078 ?_
  refine lv_aload_n hx hb dlw_1079 rfl (lv_at hl 1 rfl) ?_
  refine LI_S C hI hu hS hl.1 [vi (xs (i + 1).toNatClampNeg), vi (xs (i + 2).toNatClampNeg)] [.int (xs (i + 1).toNatClampNeg), .int (xs (i + 2).toNatClampNeg)] (fun _ => rfl) dlw_1080 wcs_192 rfl (by intro h; cases h) (Nat.le_of_ble_eq_true rfl) (kw_show (d := 870) hj hu hH (xs (i + 1).toNatClampNeg) (xs (i + 2).toNatClampNeg)) (LJ_room hJ hk) (fun r1 x1 q1 H1 locs1 hI hu1 hk1 hH1 hp1 hS => ?_)
  refine lv_istore (lv' := (5, .int r1) :: [(4, .int i), (3, .ref o0), (2, .ref m0), (1, .ref x0), (0, .ref b)]) hx hb dlw_1083 hl (by decide) rfl (fun ls hl => ?_)
  refine lv_aload_n hx hb dlw_1085 rfl (lv_at hl 3 rfl) ?_
  refine lv_aload_n hx hb dlw_1086 rfl (lv_at hl 5 rfl) ?_
  refine lv_iload hx hb dlw_1087 (lv_at hl 1 rfl) ?_
  refine lv_iconst (v := 1) hx hb dlw_1089 (by decide +kernel) ?_
  refine lv_iadd hx hb dlw_1090 ?_
  refine va_sld hx hb hX hbl hbA hS (i := i + 1) v1 dlw_1091 ?_
  refine lv_aload_n hx hb dlw_1092 rfl (lv_at hl 5 rfl) ?_
  refine lv_iload hx hb dlw_1093 (lv_at hl 1 rfl) ?_
  refine lv_iconst (v := 2) hx hb dlw_1095 (by decide +kernel) ?_
  refine lv_iadd hx hb dlw_1096 ?_
  refine va_sld hx hb hX hbl hbA hS (i := i + 2) v2 dlw_1097 ?_
  refine LI_M C hI hS hl.1 (restv := []) (d1 := 900) (F := fun r9 w1 => ansM C9 wr (e1Sh (xs (i + 1).toNatClampNeg) (xs (i + 2).toNatClampNeg)) (f2Sh C9 lm w (xs (i + 1).toNatClampNeg) (xs (i + 2).toNatClampNeg)) (tSh C9 lm w (xs (i + 1).toNatClampNeg) (xs (i + 2).toNatClampNeg)) w r9 w1) [vi (xs (i + 1).toNatClampNeg), vi (xs (i + 2).toNatClampNeg)] [.int (xs (i + 1).toNatClampNeg), .int (xs (i + 2).toNatClampNeg)] (fun _ => rfl) dlw_1098 wcm_194 rfl rfl (Nat.le_of_ble_eq_true rfl) (by decide) (by omega) (ma_show hj hH hm (xs (i + 1).toNatClampNeg) (xs (i + 2).toNatClampNeg) (by omega) (fun _ _ h1 => h1)) ⟨(LJ_room hJ hk q1 hu1 hk1).1, (LJ_room hJ hk q1 hu1 hk1).2⟩ (fun r2 w1 H1 locs1 hI hpm hS => ?_)
  have hj2 := ja_show hj hH1 hp1 hpm
  refine lv_istore (lv' := (6, .int r2) :: (5, .int r1) :: [(4, .int i), (3, .ref o0), (2, .ref m0), (1, .ref x0), (0, .ref b)]) hx hb dlw_1101 hl (by decide) rfl (fun ls hl => ?_)
  refine lv_goto (tgt := 1187) hx hb dlw_1103 (by decide) ?_
  exact kk x1 q1 w1 H1 locs1 ls hI (LJ_next hJ hu1 hk1 hH1 hpm.1 hj2.1) hS (lv_tl (lv_tl hl))
set_option maxRecDepth 100000 in
set_option maxHeartbeats 4000000 in
theorem lc_26 {p : Program} {e : Env} {s : State} {m : MethodId} {args : Array Value} {below : List Frame} {meth : Method} {c : Code} {H : Heap} {locs : List Loc} {Q : State → Prop} {ls : Array Slot} {A : Nat → Prop} {G : kG} {x w : gd} {q : kP} {x0 m0 o0 b L k : Nat} {xs : Nat → Int32} {i : Int32} (C : gC (wE (kE G)) 1000 yLaw p room_1 s m args meth c A) (hX : va_X b L xs s s.heap) (hbl : b < s.heap.size) (hbA : ¬ A b) (hI : LI G A H x q w x0 m0 o0) (hJ : LJ k x q w) (hk : k < 64) (hS : va_S A s.heap H locs) (v1 : vp_in (i + 1) L) (v2 : vp_in (i + 2) L) (v3 : vp_in (i + 3) L) (hl : lv_has ls 7 [(4, .int i), (3, .ref o0), (2, .ref m0), (1, .ref x0), (0, .ref b)]) (kk : ∀ (x1 : gd) (q1 : kP) (w1 : gd) (H1 : Heap) (locs1 : List Loc) (ls1 : Array Slot), LI G A H1 x1 q1 w1 x0 m0 o0 → LJ (k + 1) x1 q1 w1 → va_S A s.heap H1 locs1 → lv_has ls1 7 [(4, .int i), (3, .ref o0), (2, .ref m0), (1, .ref x0), (0, .ref b)] → W p G.1 e room_1 s m args below meth c H1 locs1 (q1.ce + 200) (q1.sl + 960000) Q (F0 m 1187 ls1 [])) : W p G.1 e room_1 s m args below meth c H locs (q.ce + 200) (q.sl + 960000) Q (F0 m 1106 ls []) := by
  have hx := C.1.1
  have hb : c.code = cL_law := C.1.2.1
  obtain ⟨hu, hH, hm, el, b1, b2⟩ := id hJ
  obtain ⟨C9, wr, n9, lm, hj⟩ := el
  have el := JH_J hj
  refine lv_aload_n hx hb dlw_1106 rfl (lv_at hl 3 rfl) ?_
  refine lv_aload_n hx hb dlw_1107 rfl (lv_at hl 4 rfl) ?_
  refine lv_iload hx hb dlw_1108 (lv_at hl 0 rfl) ?_
  refine lv_iconst (v := 1) hx hb dlw_1110 (by decide +kernel) ?_
  refine lv_iadd hx hb dlw_1111 ?_
  refine va_sld hx hb hX hbl hbA hS (i := i + 1) v1 dlw_1112 ?_
  refine lv_aload_n hx hb dlw_1113 rfl (lv_at hl 4 rfl) ?_
  refine lv_iload hx hb dlw_1114 (lv_at hl 0 rfl) ?_
  refine lv_iconst (v := 2) hx hb dlw_1116 (by decide +kernel) ?_
  refine lv_iadd hx hb dlw_1117 ?_
  refine va_sld hx hb hX hbl hbA hS (i := i + 2) v2 dlw_1118 ?_
  refine lv_aload_n hx hb dlw_1119 rfl (lv_at hl 1 rfl) ?_
  refine LI_S C hI hu hS hl.1 [vi (xs (i + 1).toNatClampNeg), vi (xs (i + 2).toNatClampNeg)] [.int (xs (i + 1).toNatClampNeg), .int (xs (i + 2).toNatClampNeg)] (fun _ => rfl) dlw_1120 wcs_195 rfl (by intro h; cases h) (Nat.le_of_ble_eq_true rfl) (kw_common (d := 870) hj hu hH (xs (i + 1).toNatClampNeg) (xs (i + 2).toNatClampNeg)) (LJ_room hJ hk) (fun r1 x1 q1 H1 locs1 hI hu1 hk1 hH1 hp1 hS => ?_)
  refine lv_istore (lv' := (5, .int r1) :: [(4, .int i), (3, .ref o0), (2, .ref m0), (1, .ref x0), (0, .ref b)]) hx hb dlw_1123 hl (by decide) rfl (fun ls hl => ?_)
  refine lv_aload_n hx hb dlw_1125 rfl (lv_at hl 3 rfl) ?_
  refine lv_aload_n hx hb dlw_1126 rfl (lv_at hl 5 rfl) ?_
  refine lv_iload hx hb dlw_1127 (lv_at hl 1 rfl) ?_
  refine lv_iconst (v := 1) hx hb dlw_1129 (by decide +kernel) ?_
  refine lv_iadd hx hb dlw_1130 ?_
  refine va_sld hx hb hX hbl hbA hS (i := i + 1) v1 dlw_1131 ?_
  refine lv_aload_n hx hb dlw_1132 rfl (lv_at hl 5 rfl) ?_
  refine lv_iload hx hb dlw_1133 (lv_at hl 1 rfl) ?_
  refine lv_iconst (v := 2) hx hb dlw_1135 (by decide +kernel) ?_
  refine lv_iadd hx hb dlw_1136 ?_
  refine va_sld hx hb hX hbl hbA hS (i := i + 2) v2 dlw_1137 ?_
  refine LI_M C hI hS hl.1 (restv := []) (d1 := 900) (F := fun r9 w1 => ansM C9 wr (e1Tr (xs (i + 1).toNatClampNeg) (xs (i + 2).toNatClampNeg)) (f2Co w (xs (i + 1).toNatClampNeg) (xs (i + 2).toNatClampNeg)) (tCo C9 lm wr w (xs (i + 1).toNatClampNeg) (xs (i + 2).toNatClampNeg)) w r9 w1) [vi (xs (i + 1).toNatClampNeg), vi (xs (i + 2).toNatClampNeg)] [.int (xs (i + 1).toNatClampNeg), .int (xs (i + 2).toNatClampNeg)] (fun _ => rfl) dlw_1138 wcm_197 rfl rfl (Nat.le_of_ble_eq_true rfl) (by decide) (by omega) (ma_common hj hH hm (xs (i + 1).toNatClampNeg) (xs (i + 2).toNatClampNeg) (by omega) (fun _ _ h1 => h1)) ⟨(LJ_room hJ hk q1 hu1 hk1).1, (LJ_room hJ hk q1 hu1 hk1).2⟩ (fun r2 w1 H1 locs1 hI hpm hS => ?_)
  have hj2 := ja_common hj hH1 hp1 hpm
  refine lv_istore (lv' := (6, .int r2) :: (5, .int r1) :: [(4, .int i), (3, .ref o0), (2, .ref m0), (1, .ref x0), (0, .ref b)]) hx hb dlw_1141 hl (by decide) rfl (fun ls hl => ?_)
  refine lv_goto (tgt := 1187) hx hb dlw_1143 (by decide) ?_
  exact kk x1 q1 w1 H1 locs1 ls hI (LJ_next hJ hu1 hk1 hH1 hpm.1 hj2.1) hS (lv_tl (lv_tl hl))
set_option maxRecDepth 100000 in
set_option maxHeartbeats 4000000 in
theorem lc_27 {p : Program} {e : Env} {s : State} {m : MethodId} {args : Array Value} {below : List Frame} {meth : Method} {c : Code} {H : Heap} {locs : List Loc} {Q : State → Prop} {ls : Array Slot} {A : Nat → Prop} {G : kG} {x w : gd} {q : kP} {x0 m0 o0 b L k : Nat} {xs : Nat → Int32} {i : Int32} (C : gC (wE (kE G)) 1000 yLaw p room_1 s m args meth c A) (hX : va_X b L xs s s.heap) (hbl : b < s.heap.size) (hbA : ¬ A b) (hI : LI G A H x q w x0 m0 o0) (hJ : LJ k x q w) (hk : k < 64) (hS : va_S A s.heap H locs) (v1 : vp_in (i + 1) L) (v2 : vp_in (i + 2) L) (v3 : vp_in (i + 3) L) (hl : lv_has ls 7 [(4, .int i), (3, .ref o0), (2, .ref m0), (1, .ref x0), (0, .ref b)]) (kk : ∀ (x1 : gd) (q1 : kP) (w1 : gd) (H1 : Heap) (locs1 : List Loc) (ls1 : Array Slot), LI G A H1 x1 q1 w1 x0 m0 o0 → LJ (k + 1) x1 q1 w1 → va_S A s.heap H1 locs1 → lv_has ls1 7 [(4, .int i), (3, .ref o0), (2, .ref m0), (1, .ref x0), (0, .ref b)] → W p G.1 e room_1 s m args below meth c H1 locs1 (q1.ce + 200) (q1.sl + 960000) Q (F0 m 1187 ls1 [])) : W p G.1 e room_1 s m args below meth c H locs (q.ce + 200) (q.sl + 960000) Q (F0 m 1146 ls []) := by
  have hx := C.1.1
  have hb : c.code = cL_law := C.1.2.1
  obtain ⟨hu, hH, hm, el, b1, b2⟩ := id hJ
  obtain ⟨C9, wr, n9, lm, hj⟩ := el
  have el := JH_J hj
  refine lv_aload_n hx hb dlw_1146 rfl (lv_at hl 3 rfl) ?_
  refine lv_aload_n hx hb dlw_1147 rfl (lv_at hl 4 rfl) ?_
  refine lv_iload hx hb dlw_1148 (lv_at hl 0 rfl) ?_
  refine lv_iconst (v := 1) hx hb dlw_1150 (by decide +kernel) ?_
  refine lv_iadd hx hb dlw_1151 ?_
  refine va_sld hx hb hX hbl hbA hS (i := i + 1) v1 dlw_1152 ?_
  refine lv_aload_n hx hb dlw_1153 rfl (lv_at hl 1 rfl) ?_
  refine LI_S C hI hu hS hl.1 [vi (xs (i + 1).toNatClampNeg)] [.int (xs (i + 1).toNatClampNeg)] (fun _ => rfl) dlw_1154 wcs_198 rfl (by intro h; cases h) (Nat.le_of_ble_eq_true rfl) (kw_ring (d := 870) hj hu hH (xs (i + 1).toNatClampNeg)) (LJ_room hJ hk) (fun r1 x1 q1 H1 locs1 hI hu1 hk1 hH1 hp1 hS => ?_)
  refine lv_istore (lv' := (5, .int r1) :: [(4, .int i), (3, .ref o0), (2, .ref m0), (1, .ref x0), (0, .ref b)]) hx hb dlw_1157 hl (by decide) rfl (fun ls hl => ?_)
  refine lv_aload_n hx hb dlw_1159 rfl (lv_at hl 3 rfl) ?_
  refine lv_aload_n hx hb dlw_1160 rfl (lv_at hl 5 rfl) ?_
  refine lv_iload hx hb dlw_1161 (lv_at hl 1 rfl) ?_
  refine lv_iconst (v := 1) hx hb dlw_1163 (by decide +kernel) ?_
  refine lv_iadd hx hb dlw_1164 ?_
  refine va_sld hx hb hX hbl hbA hS (i := i + 1) v1 dlw_1165 ?_
  refine LI_M C hI hS hl.1 (restv := []) (d1 := 900) (F := fun r9 w1 => ansM C9 wr (e1Rg (xs (i + 1).toNatClampNeg)) (False) (tRg C9 lm wr w (xs (i + 1).toNatClampNeg)) w r9 w1) [vi (xs (i + 1).toNatClampNeg)] [.int (xs (i + 1).toNatClampNeg)] (fun _ => rfl) dlw_1166 wcm_200 rfl rfl (Nat.le_of_ble_eq_true rfl) (by decide) (by omega) (ma_ring hj hH hm (xs (i + 1).toNatClampNeg) (by omega) (fun _ _ h1 => h1)) ⟨(LJ_room hJ hk q1 hu1 hk1).1, (LJ_room hJ hk q1 hu1 hk1).2⟩ (fun r2 w1 H1 locs1 hI hpm hS => ?_)
  have hj2 := ja_ring hj hH1 hp1 hpm
  refine lv_istore (lv' := (6, .int r2) :: (5, .int r1) :: [(4, .int i), (3, .ref o0), (2, .ref m0), (1, .ref x0), (0, .ref b)]) hx hb dlw_1169 hl (by decide) rfl (fun ls hl => ?_)
  refine lv_goto (tgt := 1187) hx hb dlw_1171 (by decide) ?_
  exact kk x1 q1 w1 H1 locs1 ls hI (LJ_next hJ hu1 hk1 hH1 hpm.1 hj2.1) hS (lv_tl (lv_tl hl))
set_option maxRecDepth 100000 in
set_option maxHeartbeats 4000000 in
theorem lc_28 {p : Program} {e : Env} {s : State} {m : MethodId} {args : Array Value} {below : List Frame} {meth : Method} {c : Code} {H : Heap} {locs : List Loc} {Q : State → Prop} {ls : Array Slot} {A : Nat → Prop} {G : kG} {x w : gd} {q : kP} {x0 m0 o0 b L k : Nat} {xs : Nat → Int32} {i : Int32} (C : gC (wE (kE G)) 1000 yLaw p room_1 s m args meth c A) (hX : va_X b L xs s s.heap) (hbl : b < s.heap.size) (hbA : ¬ A b) (hI : LI G A H x q w x0 m0 o0) (hJ : LJ k x q w) (hk : k < 64) (hS : va_S A s.heap H locs) (v1 : vp_in (i + 1) L) (v2 : vp_in (i + 2) L) (v3 : vp_in (i + 3) L) (hl : lv_has ls 7 [(4, .int i), (3, .ref o0), (2, .ref m0), (1, .ref x0), (0, .ref b)]) (kk : ∀ (x1 : gd) (q1 : kP) (w1 : gd) (H1 : Heap) (locs1 : List Loc) (ls1 : Array Slot), LI G A H1 x1 q1 w1 x0 m0 o0 → LJ (k + 1) x1 q1 w1 → va_S A s.heap H1 locs1 → lv_has ls1 7 [(4, .int i), (3, .ref o0), (2, .ref m0), (1, .ref x0), (0, .ref b)] → W p G.1 e room_1 s m args below meth c H1 locs1 (q1.ce + 200) (q1.sl + 960000) Q (F0 m 1187 ls1 [])) : W p G.1 e room_1 s m args below meth c H locs (q.ce + 200) (q.sl + 960000) Q (F0 m 1174 ls []) := by
  have hx := C.1.1
  have hb : c.code = cL_law := C.1.2.1
  obtain ⟨hu, hH, hm, el, b1, b2⟩ := id hJ
  obtain ⟨C9, wr, n9, lm, hj⟩ := el
  have el := JH_J hj
  refine lv_aload_n hx hb dlw_1174 rfl (lv_at hl 3 rfl) ?_
  refine LI_K C hI hu hS hl.1 (restv := []) (P := fun _ y9 _ => KRd x y9) dlw_1175 wcv_201 rfl (Nat.le_of_ble_eq_true rfl) (by decide) (T_mono (kr_alike (d := 898) hu.1 hH (P := fun v9 y9 => ∃ r, v9 = some (vi r) ∧ HOI y9 q ∧ KRd x y9) (fun r y9 h1 h2 => ⟨r, rfl, h1, h2⟩)) (fun o9 x9 f9 w9 => by obtain ⟨rfl, v, rfl, r, rfl, h1, h2⟩ := w9; exact ⟨r, q, rfl, rfl, hu, kst_rf q, h1, h2⟩)) (LJ_room hJ hk) (fun r1 x1 x2 q1 H1 locs1 hI hu1 hk1 hH1 hp1 ex hS => ?_)
  refine lv_pop hx hb dlw_1178 rfl ?_
  refine lv_aload_n hx hb dlw_1179 rfl (lv_at hl 2 rfl) ?_
  refine LI_M C hI hS hl.1 (restv := []) (d1 := 900) (F := fun _ w1 => rdM C9 wr w w1) [] [] (fun _ => rfl) dlw_1180 wcm_204 rfl rfl (Nat.le_of_ble_eq_true rfl) (by decide) (by omega) (sr_alike hm (fun _ _ h => h)) ⟨(LJ_room hJ hk q1 hu1 hk1).1, (LJ_room hJ hk q1 hu1 hk1).2⟩ (fun r2 w1 H1 locs1 hI hpm hS => ?_)
  refine lv_pop hx hb dlw_1183 rfl ?_
  refine lv_goto (tgt := 1187) hx hb dlw_1184 (by decide) ?_
  exact kk x1 q1 w1 H1 locs1 ls hI (LJ_next hJ hu1 hk1 hH1 hpm.1.1 (JR3_x ex (JQ_rd hj (HOI_1 ex.symm hu1 hH1) hp1 hpm))) hS hl
end
section
/-! THE CLAIM OUT OF ONE WALK OF THE LAW'S BODY. Your part is whole_start (and what it stands on); all else here is the same for every law, but numbers. -/
def R_law : String := "ScheduleHouseLaw"
def lw_P (b : Addr) (xs : List Int32) (args : Array Value) (s : State) : Prop := args = #[.ref b] ∧ s.IntsAt b xs ∧ xs.length ≤ 256 ∧ (Jvm.Cond.and given_1 narrow_1).before args s = true
def lw_Q (_ : Array Value) (s : State) (o : Outcome) (t : State) : Prop := o = .returned (some (.int 1)) ∧ Framed s o t [] 600128 7301098
def lw_Z (below : List Frame) (a : Array Value) (s : State) : State → Prop := fun t => ∃ o, t.status = .running ∧ Ended t below o ∧ lw_Q a s o t
/-- the law's own end, with 1 on the stack, nothing written that was there before, its room as the claim has it -/
theorem lw_ret {p : Program} {l : Launch} {e : Env} {s : State} {m : MethodId} {below : List Frame} {meth : Method} {c : Code} {b : Nat} (hx : p.tables.exec = Jvm.exec) (hb : c.code = code) (hr : meth.sig.returnType = ret) (hlocks : meth.locks = false) {pc : Nat} {H : Heap} {ls : Array Slot} (hdg : decode code pc = .ok (.ireturn, 1)) : W p l e room_1 s m #[Value.ref b] below meth c H [] 600128 7301098 (lw_Z below #[Value.ref b] s) (F0 m pc ls [.int 1]) := by
  intro T hT X
  obtain ⟨fs, hret, hrun, hended, hW, hframe⟩ := X.leave (v := some (.int 1)) (hlocks := hlocks) (fun h => by rw [hr] at h; cases h)
  have hmeth' : T.vm.method? m = some meth := X.method'
  refine ⟨T.setFrames fs, ?_, .returned (some (.int 1)), hrun, hended, rfl, ⟨_, rfl⟩, hW, hframe⟩
  jvm_step X.here [X.here.top, hx, hb, hdg, hmeth', hr, ret, narrow_b1]
  (try refine ⟨rfl, ?_⟩); (try refine ⟨rfl, ?_⟩)
  first | (intro acts; rw [hret _ acts rfl rfl rfl]) | rw [hret _ _ rfl rfl rfl]
  exact Steps.refl _
/-- what holds at the law's entry: the machine, the code, the tables' words (any of lw_tbl by 'hts w (by decide +kernel)'), the script of L ints xs at the cell b, what the Statement gives of the start (any of its parts by flat_of_before) -/
def lw_At (p : Program) (s : State) (m : MethodId) (meth : Method) (c : Code) (b L : Nat) (xs : Nat → Int32) : Prop :=
  p.tables.exec = Jvm.exec ∧ c.code = code ∧ meth.sig.returnType = ret ∧ c.maxLocals = 7 ∧ s.vm.findClass R_law = some m.cls ∧ (∀ w ∈ lw_tbl, w.before #[Value.ref b] s = true) ∧ va_X b L xs s s.heap ∧ b < s.heap.size ∧ meth.locks = false ∧ (Jvm.Cond.and given_1 narrow_1).before #[Value.ref b] s = true
theorem t_and31 (a : Int32) : 0 ≤ (a &&& 31).toInt ∧ (a &&& 31).toInt < 32 := by
  have h : (a &&& 31).toBitVec.toNat ≤ 31 := by
    rw [Int32.toBitVec_and, BitVec.toNat_and]
    exact Nat.and_le_right
  have e : (a &&& 31).toInt = ((a &&& 31).toBitVec.toNat : Int) := by
    show (a &&& 31).toBitVec.toInt = _
    exact BitVec.toInt_eq_toNat_of_lt (by omega)
  omega
theorem LJ_up {k : Nat} {x w : gd} {q : kP} (hJ : LJ k x q w) : LJ (k + 1) x q w := LJ_next hJ hJ.1 (kst_rf q) hJ.2.1 hJ.2.2.1 hJ.2.2.2.1
theorem LJ_rE {k : Nat} {x w : gd} {q : kP} (hJ : LJ k x q w) (hk : k ≤ 64) : q.ce + 200 ≤ 600128 ∧ q.sl + 960000 ≤ 7301098 := by
  have a1 := wC_b hJ.1
  have a2 := wS_b hJ.1
  have b1 := hJ.2.2.2.2.1
  have b2 := hJ.2.2.2.2.2
  omega
set_option maxRecDepth 100000 in
set_option maxHeartbeats 4000000 in
theorem law_loop {p : Program} {e : Env} {s : State} {m : MethodId} {below : List Frame} {meth : Method} {c : Code} {A : Nat → Prop} {G : kG} {x0 m0 o0 b L : Nat} {xs : Nat → Int32} (C : gC (wE (kE G)) 1000 yLaw p room_1 s m #[Value.ref b] meth c A) (hA : A = fun q : Nat => s.heap.size ≤ q) (hX : va_X b L xs s s.heap) (hbl : b < s.heap.size) (hbA : ¬ A b) (hL : L ≤ 256) :
    ∀ (n k : Nat) (i : Int32) (x : gd) (q : kP) (w : gd) (H : Heap) (locs : List Loc) (ls : Array Slot), k + n = 64 → i.toInt = 4 * k → LI G A H x q w x0 m0 o0 → LJ k x q w → va_S A s.heap H locs → lv_has ls 7 [(4, .int i), (3, .ref o0), (2, .ref m0), (1, .ref x0), (0, .ref b)] → W p G.1 e room_1 s m #[Value.ref b] below meth c H locs (q.ce + 200) (q.sl + 960000) (lw_Z below #[Value.ref b] s) (F0 m 23 ls []) := by
  have hx := C.1.1
  have hb : c.code = cL_law := C.1.2.1
  have k4 : (4 : Int32).toInt = 4 := rfl
  have eL : (Int32.ofNat L).toInt = L := by
    rw [Int32.toInt_ofNat_of_lt (by omega)]
  have e4 : (Int32.ofNat L - 4).toInt = L - 4 := by rw [t_sub (by rw [eL, k4]; omega) (by rw [eL, k4]; omega), eL, k4]
  intro n
  induction n with
  | zero =>
    intro k i x q w H locs ls hkn ei hI hJ hS hl
    refine lv_iload hx hb dlw_23 (lv_at hl 0 rfl) ?_
    refine lv_aload_n hx hb dlw_25 rfl (lv_at hl 4 rfl) ?_
    refine va_slen hx hb hX hbl hbA hS dlw_26 ?_
    refine lv_iconst (v := 4) hx hb dlw_27 (by decide +kernel) ?_
    refine lv_isub hx hb dlw_28 ?_
    refine lv_icmp_gt (tgt := 1193) hx hb dlw_29 (by decide) (fun _ => ?_) (fun c9 => absurd (show Int32.ofNat L - 4 < i by rw [t_lt, e4, ei]; omega) c9)
    refine lv_iconst (v := 1) hx hb dlw_1193 (by decide +kernel) ?_
    subst hA
    refine va_forget (fun q hq => hS.2.2 q hq) ?_
    have hr := LJ_rE hJ (by omega)
    refine W.widen (k := 600128) (n := 7301098) hr.1 hr.2 ?_
    exact lw_ret hx hb C.2.1.1 C.2.1.2.1 dlw_1194
  | succ n ih =>
    intro k i x q w H locs ls hkn ei hI hJ hS hl
    have hk : k < 64 := by omega
    refine lv_iload hx hb dlw_23 (lv_at hl 0 rfl) ?_
    refine lv_aload_n hx hb dlw_25 rfl (lv_at hl 4 rfl) ?_
    refine va_slen hx hb hX hbl hbA hS dlw_26 ?_
    refine lv_iconst (v := 4) hx hb dlw_27 (by decide +kernel) ?_
    refine lv_isub hx hb dlw_28 ?_
    refine lv_icmp_gt (tgt := 1193) hx hb dlw_29 (by decide) (fun _ => ?_) (fun c9 => ?_)
    · refine lv_iconst (v := 1) hx hb dlw_1193 (by decide +kernel) ?_
      subst hA
      refine va_forget (fun q hq => hS.2.2 q hq) ?_
      have hr := LJ_rE hJ (by omega)
      refine W.widen (k := 600128) (n := 7301098) hr.1 hr.2 ?_
      exact lw_ret hx hb C.2.1.1 C.2.1.2.1 dlw_1194
    rw [t_lt, e4, ei] at c9
    have ik : ∀ j : Int32, 0 ≤ j.toInt → j.toInt ≤ 3 → vp_in (i + j) L := fun j h0 h3 => by
      rw [vp_in_iff, t_add (by omega) (by omega)]; omega
    have v0 : vp_in i L := by rw [vp_in_iff]; omega
    have v1 := ik 1 (by decide) (by decide)
    have v2 := ik 2 (by decide) (by decide)
    have v3 := ik 3 (by decide) (by decide)
    have kk : ∀ (x1 : gd) (q1 : kP) (w1 : gd) (H1 : Heap) (locs1 : List Loc) (ls1 : Array Slot), LI G A H1 x1 q1 w1 x0 m0 o0 → LJ (k + 1) x1 q1 w1 → va_S A s.heap H1 locs1 → lv_has ls1 7 [(4, .int i), (3, .ref o0), (2, .ref m0), (1, .ref x0), (0, .ref b)] → W p G.1 e room_1 s m #[Value.ref b] below meth c H1 locs1 (q1.ce + 200) (q1.sl + 960000) (lw_Z below #[Value.ref b] s) (F0 m 1187 ls1 []) := by
      intro x1 q1 w1 H1 locs1 ls1 hI1 hJ1 hS1 hl1
      refine lv_iinc (v := i + 4) (lv' := [(4, .int (i + 4)), (3, .ref o0), (2, .ref m0), (1, .ref x0), (0, .ref b)]) hx hb dlw_1187 hl1 (k := 0) rfl rfl (by decide) rfl (fun ls2 hl2 => ?_)
      refine lv_goto (tgt := 23) hx hb dlw_1190 (by decide) ?_
      exact ih (k + 1) (i + 4) x1 q1 w1 H1 locs1 ls2 (by omega) (by rw [t_add (by rw [k4]; omega) (by rw [k4]; omega), k4, ei]; push_cast; omega) hI1 hJ1 hS1 hl2
    refine lv_aload_n hx hb dlw_32 rfl (lv_at hl 4 rfl) ?_
    refine lv_iload hx hb dlw_33 (lv_at hl 0 rfl) ?_
    refine va_sld hx hb hX hbl hbA hS (i := i) v0 dlw_35 ?_
    refine lv_bipush (v := 31) hx hb dlw_36 (by decide +kernel) ?_
    refine lv_iand hx hb dlw_38 ?_
    have hb31 := t_and31 (xs i.toNatClampNeg)
    obtain ⟨v, hv⟩ : ∃ v, v = xs i.toNatClampNeg &&& 31 := ⟨_, rfl⟩
    rw [← hv] at hb31 ⊢
    clear hv
    by_cases h28 : 28 < v.toInt
    · exact lv_tableOut (tgt := 1187) hx hb dlw_39 (Or.inr h28) (by decide) (kk x q w H locs ls hI (LJ_up hJ) hS hl)
    have hvs : v.toInt = 0 ∨ v.toInt = 1 ∨ v.toInt = 2 ∨ v.toInt = 3 ∨ v.toInt = 4 ∨ v.toInt = 5 ∨ v.toInt = 6 ∨ v.toInt = 7 ∨ v.toInt = 8 ∨ v.toInt = 9 ∨ v.toInt = 10 ∨ v.toInt = 11 ∨ v.toInt = 12 ∨ v.toInt = 13 ∨ v.toInt = 14 ∨ v.toInt = 15 ∨ v.toInt = 16 ∨ v.toInt = 17 ∨ v.toInt = 18 ∨ v.toInt = 19 ∨ v.toInt = 20 ∨ v.toInt = 21 ∨ v.toInt = 22 ∨ v.toInt = 23 ∨ v.toInt = 24 ∨ v.toInt = 25 ∨ v.toInt = 26 ∨ v.toInt = 27 ∨ v.toInt = 28 := by omega
    rcases hvs with hj | hj | hj | hj | hj | hj | hj | hj | hj | hj | hj | hj | hj | hj | hj | hj | hj | hj | hj | hj | hj | hj | hj | hj | hj | hj | hj | hj | hj
    · exact lv_tableIn (off := 129) (tgt := 168) hx hb dlw_39 (by omega) (by omega) (by rw [hj]; rfl) (by decide) (lc_0 C hX hbl hbA hI hJ hk hS v1 v2 v3 hl kk)
    · exact lv_tableIn (off := 201) (tgt := 240) hx hb dlw_39 (by omega) (by omega) (by rw [hj]; rfl) (by decide) (lc_1 C hX hbl hbA hI hJ hk hS v1 v2 v3 hl kk)
    · exact lv_tableIn (off := 214) (tgt := 253) hx hb dlw_39 (by omega) (by omega) (by rw [hj]; rfl) (by decide) (lc_2 C hX hbl hbA hI hJ hk hS v1 v2 v3 hl kk)
    · exact lv_tableIn (off := 227) (tgt := 266) hx hb dlw_39 (by omega) (by omega) (by rw [hj]; rfl) (by decide) (lc_3 C hX hbl hbA hI hJ hk hS v1 v2 v3 hl kk)
    · exact lv_tableIn (off := 255) (tgt := 294) hx hb dlw_39 (by omega) (by omega) (by rw [hj]; rfl) (by decide) (lc_4 C hX hbl hbA hI hJ hk hS v1 v2 v3 hl kk)
    · exact lv_tableIn (off := 283) (tgt := 322) hx hb dlw_39 (by omega) (by omega) (by rw [hj]; rfl) (by decide) (lc_5 C hX hbl hbA hI hJ hk hS v1 v2 v3 hl kk)
    · exact lv_tableIn (off := 311) (tgt := 350) hx hb dlw_39 (by omega) (by omega) (by rw [hj]; rfl) (by decide) (lc_6 C hX hbl hbA hI hJ hk hS v1 v2 v3 hl kk)
    · exact lv_tableIn (off := 327) (tgt := 366) hx hb dlw_39 (by omega) (by omega) (by rw [hj]; rfl) (by decide) (lc_7 C hX hbl hbA hI hJ hk hS v1 v2 v3 hl kk)
    · exact lv_tableIn (off := 367) (tgt := 406) hx hb dlw_39 (by omega) (by omega) (by rw [hj]; rfl) (by decide) (lc_8 C hX hbl hbA hI hJ hk hS v1 v2 v3 hl kk)
    · exact lv_tableIn (off := 395) (tgt := 434) hx hb dlw_39 (by omega) (by omega) (by rw [hj]; rfl) (by decide) (lc_9 C hX hbl hbA hI hJ hk hS v1 v2 v3 hl kk)
    · exact lv_tableIn (off := 435) (tgt := 474) hx hb dlw_39 (by omega) (by omega) (by rw [hj]; rfl) (by decide) (lc_10 C hX hbl hbA hI hJ hk hS v1 v2 v3 hl kk)
    · exact lv_tableIn (off := 463) (tgt := 502) hx hb dlw_39 (by omega) (by omega) (by rw [hj]; rfl) (by decide) (lc_11 C hX hbl hbA hI hJ hk hS v1 v2 v3 hl kk)
    · exact lv_tableIn (off := 491) (tgt := 530) hx hb dlw_39 (by omega) (by omega) (by rw [hj]; rfl) (by decide) (lc_12 C hX hbl hbA hI hJ hk hS v1 v2 v3 hl kk)
    · exact lv_tableIn (off := 519) (tgt := 558) hx hb dlw_39 (by omega) (by omega) (by rw [hj]; rfl) (by decide) (lc_13 C hX hbl hbA hI hJ hk hS v1 v2 v3 hl kk)
    · exact lv_tableIn (off := 559) (tgt := 598) hx hb dlw_39 (by omega) (by omega) (by rw [hj]; rfl) (by decide) (lc_14 C hX hbl hbA hI hJ hk hS v1 v2 v3 hl kk)
    · exact lv_tableIn (off := 599) (tgt := 638) hx hb dlw_39 (by omega) (by omega) (by rw [hj]; rfl) (by decide) (lc_15 C hX hbl hbA hI hJ hk hS v1 v2 v3 hl kk)
    · exact lv_tableIn (off := 639) (tgt := 678) hx hb dlw_39 (by omega) (by omega) (by rw [hj]; rfl) (by decide) (lc_16 C hX hbl hbA hI hJ hk hS v1 v2 v3 hl kk)
    · exact lv_tableIn (off := 679) (tgt := 718) hx hb dlw_39 (by omega) (by omega) (by rw [hj]; rfl) (by decide) (lc_17 C hX hbl hbA hI hJ hk hS v1 v2 v3 hl kk)
    · exact lv_tableIn (off := 719) (tgt := 758) hx hb dlw_39 (by omega) (by omega) (by rw [hj]; rfl) (by decide) (lc_18 C hX hbl hbA hI hJ hk hS v1 v2 v3 hl kk)
    · exact lv_tableIn (off := 759) (tgt := 798) hx hb dlw_39 (by omega) (by omega) (by rw [hj]; rfl) (by decide) (lc_19 C hX hbl hbA hI hJ hk hS v1 v2 v3 hl kk)
    · exact lv_tableIn (off := 799) (tgt := 838) hx hb dlw_39 (by omega) (by omega) (by rw [hj]; rfl) (by decide) (lc_20 C hX hbl hbA hI hJ hk hS v1 v2 v3 hl kk)
    · exact lv_tableIn (off := 827) (tgt := 866) hx hb dlw_39 (by omega) (by omega) (by rw [hj]; rfl) (by decide) (lc_21 C hX hbl hbA hI hJ hk hS v1 v2 v3 hl kk)
    · exact lv_tableIn (off := 867) (tgt := 906) hx hb dlw_39 (by omega) (by omega) (by rw [hj]; rfl) (by decide) (lc_22 C hX hbl hbA hI hJ hk hS v1 v2 v3 hl kk)
    · exact lv_tableIn (off := 907) (tgt := 946) hx hb dlw_39 (by omega) (by omega) (by rw [hj]; rfl) (by decide) (lc_23 C hX hbl hbA hI hJ hk hS v1 v2 v3 hl kk)
    · exact lv_tableIn (off := 987) (tgt := 1026) hx hb dlw_39 (by omega) (by omega) (by rw [hj]; rfl) (by decide) (lc_24 C hX hbl hbA hI hJ hk hS v1 v2 v3 hl kk)
    · exact lv_tableIn (off := 1027) (tgt := 1066) hx hb dlw_39 (by omega) (by omega) (by rw [hj]; rfl) (by decide) (lc_25 C hX hbl hbA hI hJ hk hS v1 v2 v3 hl kk)
    · exact lv_tableIn (off := 1067) (tgt := 1106) hx hb dlw_39 (by omega) (by omega) (by rw [hj]; rfl) (by decide) (lc_26 C hX hbl hbA hI hJ hk hS v1 v2 v3 hl kk)
    · exact lv_tableIn (off := 1107) (tgt := 1146) hx hb dlw_39 (by omega) (by omega) (by rw [hj]; rfl) (by decide) (lc_27 C hX hbl hbA hI hJ hk hS v1 v2 v3 hl kk)
    · exact lv_tableIn (off := 1135) (tgt := 1174) hx hb dlw_39 (by omega) (by omega) (by rw [hj]; rfl) (by decide) (lc_28 C hX hbl hbA hI hJ hk hS v1 v2 v3 hl kk)
end
section
set_option maxRecDepth 100000 in
theorem dmi_0 : decode cX12_init 0 = .ok (.aload_n 0, 1) := by decide +kernel
set_option maxRecDepth 100000 in
theorem dmi_1 : decode cX12_init 1 = .ok (.invokespecial 1, 3) := by decide +kernel
set_option maxRecDepth 100000 in
theorem dmi_4 : decode cX12_init 4 = .ok (.aload_n 0, 1) := by decide +kernel
set_option maxRecDepth 100000 in
theorem dmi_5 : decode cX12_init 5 = .ok (.sipush 3000, 3) := by decide +kernel
set_option maxRecDepth 100000 in
theorem dmi_8 : decode cX12_init 8 = .ok (.newarray .byte, 2) := by decide +kernel
set_option maxRecDepth 100000 in
theorem dmi_10 : decode cX12_init 10 = .ok (.putfield 7, 3) := by decide +kernel
set_option maxRecDepth 100000 in
theorem dmi_13 : decode cX12_init 13 = .ok (.aload_n 0, 1) := by decide +kernel
set_option maxRecDepth 100000 in
theorem dmi_14 : decode cX12_init 14 = .ok (.sipush 710, 3) := by decide +kernel
set_option maxRecDepth 100000 in
theorem dmi_17 : decode cX12_init 17 = .ok (.newarray .int, 2) := by decide +kernel
set_option maxRecDepth 100000 in
theorem dmi_19 : decode cX12_init 19 = .ok (.putfield 13, 3) := by decide +kernel
set_option maxRecDepth 100000 in
theorem dmi_22 : decode cX12_init 22 = .ok (.aload_n 0, 1) := by decide +kernel
set_option maxRecDepth 100000 in
theorem dmi_23 : decode cX12_init 23 = .ok (.sipush 710, 3) := by decide +kernel
set_option maxRecDepth 100000 in
theorem dmi_26 : decode cX12_init 26 = .ok (.newarray .int, 2) := by decide +kernel
set_option maxRecDepth 100000 in
theorem dmi_28 : decode cX12_init 28 = .ok (.putfield 17, 3) := by decide +kernel
set_option maxRecDepth 100000 in
theorem dmi_31 : decode cX12_init 31 = .ok (.aload_n 0, 1) := by decide +kernel
set_option maxRecDepth 100000 in
theorem dmi_32 : decode cX12_init 32 = .ok (.sipush 710, 3) := by decide +kernel
set_option maxRecDepth 100000 in
theorem dmi_35 : decode cX12_init 35 = .ok (.newarray .int, 2) := by decide +kernel
set_option maxRecDepth 100000 in
theorem dmi_37 : decode cX12_init 37 = .ok (.putfield 20, 3) := by decide +kernel
set_option maxRecDepth 100000 in
theorem dmi_40 : decode cX12_init 40 = .ok (.aload_n 0, 1) := by decide +kernel
set_option maxRecDepth 100000 in
theorem dmi_41 : decode cX12_init 41 = .ok (.sipush 710, 3) := by decide +kernel
set_option maxRecDepth 100000 in
theorem dmi_44 : decode cX12_init 44 = .ok (.newarray .int, 2) := by decide +kernel
set_option maxRecDepth 100000 in
theorem dmi_46 : decode cX12_init 46 = .ok (.putfield 23, 3) := by decide +kernel
set_option maxRecDepth 100000 in
theorem dmi_49 : decode cX12_init 49 = .ok (.aload_n 0, 1) := by decide +kernel
set_option maxRecDepth 100000 in
theorem dmi_50 : decode cX12_init 50 = .ok (.iconst (-1), 1) := by decide +kernel
set_option maxRecDepth 100000 in
theorem dmi_51 : decode cX12_init 51 = .ok (.putfield 26, 3) := by decide +kernel
set_option maxRecDepth 100000 in
theorem dmi_54 : decode cX12_init 54 = .ok (.aload_n 0, 1) := by decide +kernel
set_option maxRecDepth 100000 in
theorem dmi_55 : decode cX12_init 55 = .ok (.iconst (-1), 1) := by decide +kernel
set_option maxRecDepth 100000 in
theorem dmi_56 : decode cX12_init 56 = .ok (.putfield 30, 3) := by decide +kernel
set_option maxRecDepth 100000 in
theorem dmi_59 : decode cX12_init 59 = .ok (.aload_n 0, 1) := by decide +kernel
set_option maxRecDepth 100000 in
theorem dmi_60 : decode cX12_init 60 = .ok (.sipush 3000, 3) := by decide +kernel
set_option maxRecDepth 100000 in
theorem dmi_63 : decode cX12_init 63 = .ok (.newarray .int, 2) := by decide +kernel
set_option maxRecDepth 100000 in
theorem dmi_65 : decode cX12_init 65 = .ok (.putfield 33, 3) := by decide +kernel
set_option maxRecDepth 100000 in
theorem dmi_68 : decode cX12_init 68 = .ok (.aload_n 0, 1) := by decide +kernel
set_option maxRecDepth 100000 in
theorem dmi_69 : decode cX12_init 69 = .ok (.sipush 3000, 3) := by decide +kernel
set_option maxRecDepth 100000 in
theorem dmi_72 : decode cX12_init 72 = .ok (.newarray .int, 2) := by decide +kernel
set_option maxRecDepth 100000 in
theorem dmi_74 : decode cX12_init 74 = .ok (.putfield 36, 3) := by decide +kernel
set_option maxRecDepth 100000 in
theorem dmi_77 : decode cX12_init 77 = .ok (.aload_n 0, 1) := by decide +kernel
set_option maxRecDepth 100000 in
theorem dmi_78 : decode cX12_init 78 = .ok (.sipush 3000, 3) := by decide +kernel
set_option maxRecDepth 100000 in
theorem dmi_81 : decode cX12_init 81 = .ok (.newarray .int, 2) := by decide +kernel
set_option maxRecDepth 100000 in
theorem dmi_83 : decode cX12_init 83 = .ok (.putfield 39, 3) := by decide +kernel
set_option maxRecDepth 100000 in
theorem dmi_86 : decode cX12_init 86 = .ok (.aload_n 0, 1) := by decide +kernel
set_option maxRecDepth 100000 in
theorem dmi_87 : decode cX12_init 87 = .ok (.sipush 3000, 3) := by decide +kernel
set_option maxRecDepth 100000 in
theorem dmi_90 : decode cX12_init 90 = .ok (.newarray .int, 2) := by decide +kernel
set_option maxRecDepth 100000 in
theorem dmi_92 : decode cX12_init 92 = .ok (.putfield 42, 3) := by decide +kernel
set_option maxRecDepth 100000 in
theorem dmi_95 : decode cX12_init 95 = .ok (.aload_n 0, 1) := by decide +kernel
set_option maxRecDepth 100000 in
theorem dmi_96 : decode cX12_init 96 = .ok (.sipush 3000, 3) := by decide +kernel
set_option maxRecDepth 100000 in
theorem dmi_99 : decode cX12_init 99 = .ok (.newarray .int, 2) := by decide +kernel
set_option maxRecDepth 100000 in
theorem dmi_101 : decode cX12_init 101 = .ok (.putfield 45, 3) := by decide +kernel
set_option maxRecDepth 100000 in
theorem dmi_104 : decode cX12_init 104 = .ok (.aload_n 0, 1) := by decide +kernel
set_option maxRecDepth 100000 in
theorem dmi_105 : decode cX12_init 105 = .ok (.sipush 3000, 3) := by decide +kernel
set_option maxRecDepth 100000 in
theorem dmi_108 : decode cX12_init 108 = .ok (.newarray .int, 2) := by decide +kernel
set_option maxRecDepth 100000 in
theorem dmi_110 : decode cX12_init 110 = .ok (.putfield 48, 3) := by decide +kernel
set_option maxRecDepth 100000 in
theorem dmi_113 : decode cX12_init 113 = .ok (.aload_n 0, 1) := by decide +kernel
set_option maxRecDepth 100000 in
theorem dmi_114 : decode cX12_init 114 = .ok (.bipush 40, 2) := by decide +kernel
set_option maxRecDepth 100000 in
theorem dmi_116 : decode cX12_init 116 = .ok (.newarray .int, 2) := by decide +kernel
set_option maxRecDepth 100000 in
theorem dmi_118 : decode cX12_init 118 = .ok (.putfield 51, 3) := by decide +kernel
set_option maxRecDepth 100000 in
theorem dmi_121 : decode cX12_init 121 = .ok (.aload_n 0, 1) := by decide +kernel
set_option maxRecDepth 100000 in
theorem dmi_122 : decode cX12_init 122 = .ok (.bipush 40, 2) := by decide +kernel
set_option maxRecDepth 100000 in
theorem dmi_124 : decode cX12_init 124 = .ok (.newarray .int, 2) := by decide +kernel
set_option maxRecDepth 100000 in
theorem dmi_126 : decode cX12_init 126 = .ok (.putfield 54, 3) := by decide +kernel
set_option maxRecDepth 100000 in
theorem dmi_129 : decode cX12_init 129 = .ok (.aload_n 0, 1) := by decide +kernel
set_option maxRecDepth 100000 in
theorem dmi_130 : decode cX12_init 130 = .ok (.bipush 40, 2) := by decide +kernel
set_option maxRecDepth 100000 in
theorem dmi_132 : decode cX12_init 132 = .ok (.newarray .int, 2) := by decide +kernel
set_option maxRecDepth 100000 in
theorem dmi_134 : decode cX12_init 134 = .ok (.putfield 57, 3) := by decide +kernel
set_option maxRecDepth 100000 in
theorem dmi_137 : decode cX12_init 137 = .ok (.aload_n 0, 1) := by decide +kernel
set_option maxRecDepth 100000 in
theorem dmi_138 : decode cX12_init 138 = .ok (.bipush 40, 2) := by decide +kernel
set_option maxRecDepth 100000 in
theorem dmi_140 : decode cX12_init 140 = .ok (.newarray .int, 2) := by decide +kernel
set_option maxRecDepth 100000 in
theorem dmi_142 : decode cX12_init 142 = .ok (.putfield 60, 3) := by decide +kernel
set_option maxRecDepth 100000 in
theorem dmi_145 : decode cX12_init 145 = .ok (.aload_n 0, 1) := by decide +kernel
set_option maxRecDepth 100000 in
theorem dmi_146 : decode cX12_init 146 = .ok (.bipush 40, 2) := by decide +kernel
set_option maxRecDepth 100000 in
theorem dmi_148 : decode cX12_init 148 = .ok (.newarray .boolean, 2) := by decide +kernel
set_option maxRecDepth 100000 in
theorem dmi_150 : decode cX12_init 150 = .ok (.putfield 63, 3) := by decide +kernel
set_option maxRecDepth 100000 in
theorem dmi_153 : decode cX12_init 153 = .ok (.aload_n 0, 1) := by decide +kernel
set_option maxRecDepth 100000 in
theorem dmi_154 : decode cX12_init 154 = .ok (.bipush 40, 2) := by decide +kernel
set_option maxRecDepth 100000 in
theorem dmi_156 : decode cX12_init 156 = .ok (.newarray .int, 2) := by decide +kernel
set_option maxRecDepth 100000 in
theorem dmi_158 : decode cX12_init 158 = .ok (.putfield 67, 3) := by decide +kernel
set_option maxRecDepth 100000 in
theorem dmi_161 : decode cX12_init 161 = .ok (.aload_n 0, 1) := by decide +kernel
set_option maxRecDepth 100000 in
theorem dmi_162 : decode cX12_init 162 = .ok (.bipush 24, 2) := by decide +kernel
set_option maxRecDepth 100000 in
theorem dmi_164 : decode cX12_init 164 = .ok (.newarray .int, 2) := by decide +kernel
set_option maxRecDepth 100000 in
theorem dmi_166 : decode cX12_init 166 = .ok (.putfield 70, 3) := by decide +kernel
set_option maxRecDepth 100000 in
theorem dmi_169 : decode cX12_init 169 = .ok (.aload_n 0, 1) := by decide +kernel
set_option maxRecDepth 100000 in
theorem dmi_170 : decode cX12_init 170 = .ok (.bipush 24, 2) := by decide +kernel
set_option maxRecDepth 100000 in
theorem dmi_172 : decode cX12_init 172 = .ok (.newarray .boolean, 2) := by decide +kernel
set_option maxRecDepth 100000 in
theorem dmi_174 : decode cX12_init 174 = .ok (.putfield 73, 3) := by decide +kernel
set_option maxRecDepth 100000 in
theorem dmi_177 : decode cX12_init 177 = .ok (.aload_n 0, 1) := by decide +kernel
set_option maxRecDepth 100000 in
theorem dmi_178 : decode cX12_init 178 = .ok (.bipush 6, 2) := by decide +kernel
set_option maxRecDepth 100000 in
theorem dmi_180 : decode cX12_init 180 = .ok (.newarray .boolean, 2) := by decide +kernel
set_option maxRecDepth 100000 in
theorem dmi_182 : decode cX12_init 182 = .ok (.putfield 76, 3) := by decide +kernel
set_option maxRecDepth 100000 in
theorem dmi_185 : decode cX12_init 185 = .ok (.aload_n 0, 1) := by decide +kernel
set_option maxRecDepth 100000 in
theorem dmi_186 : decode cX12_init 186 = .ok (.bipush 6, 2) := by decide +kernel
set_option maxRecDepth 100000 in
theorem dmi_188 : decode cX12_init 188 = .ok (.newarray .int, 2) := by decide +kernel
set_option maxRecDepth 100000 in
theorem dmi_190 : decode cX12_init 190 = .ok (.putfield 79, 3) := by decide +kernel
set_option maxRecDepth 100000 in
theorem dmi_193 : decode cX12_init 193 = .ok (.aload_n 0, 1) := by decide +kernel
set_option maxRecDepth 100000 in
theorem dmi_194 : decode cX12_init 194 = .ok (.iconst 4, 1) := by decide +kernel
set_option maxRecDepth 100000 in
theorem dmi_195 : decode cX12_init 195 = .ok (.newarray .int, 2) := by decide +kernel
set_option maxRecDepth 100000 in
theorem dmi_197 : decode cX12_init 197 = .ok (.putfield 82, 3) := by decide +kernel
set_option maxRecDepth 100000 in
theorem dmi_200 : decode cX12_init 200 = .ok (.aload_n 0, 1) := by decide +kernel
set_option maxRecDepth 100000 in
theorem dmi_201 : decode cX12_init 201 = .ok (.iconst 4, 1) := by decide +kernel
set_option maxRecDepth 100000 in
theorem dmi_202 : decode cX12_init 202 = .ok (.newarray .int, 2) := by decide +kernel
set_option maxRecDepth 100000 in
theorem dmi_204 : decode cX12_init 204 = .ok (.putfield 85, 3) := by decide +kernel
set_option maxRecDepth 100000 in
theorem dmi_207 : decode cX12_init 207 = .ok (.aload_n 0, 1) := by decide +kernel
set_option maxRecDepth 100000 in
theorem dmi_208 : decode cX12_init 208 = .ok (.bipush 40, 2) := by decide +kernel
set_option maxRecDepth 100000 in
theorem dmi_210 : decode cX12_init 210 = .ok (.newarray .int, 2) := by decide +kernel
set_option maxRecDepth 100000 in
theorem dmi_212 : decode cX12_init 212 = .ok (.putfield 88, 3) := by decide +kernel
set_option maxRecDepth 100000 in
theorem dmi_215 : decode cX12_init 215 = .ok (.aload_n 0, 1) := by decide +kernel
set_option maxRecDepth 100000 in
theorem dmi_216 : decode cX12_init 216 = .ok (.bipush 40, 2) := by decide +kernel
set_option maxRecDepth 100000 in
theorem dmi_218 : decode cX12_init 218 = .ok (.newarray .int, 2) := by decide +kernel
set_option maxRecDepth 100000 in
theorem dmi_220 : decode cX12_init 220 = .ok (.putfield 91, 3) := by decide +kernel
set_option maxRecDepth 100000 in
theorem dmi_223 : decode cX12_init 223 = .ok (.aload_n 0, 1) := by decide +kernel
set_option maxRecDepth 100000 in
theorem dmi_224 : decode cX12_init 224 = .ok (.bipush 40, 2) := by decide +kernel
set_option maxRecDepth 100000 in
theorem dmi_226 : decode cX12_init 226 = .ok (.newarray .int, 2) := by decide +kernel
set_option maxRecDepth 100000 in
theorem dmi_228 : decode cX12_init 228 = .ok (.putfield 94, 3) := by decide +kernel
set_option maxRecDepth 100000 in
theorem dmi_231 : decode cX12_init 231 = .ok (.aload_n 0, 1) := by decide +kernel
set_option maxRecDepth 100000 in
theorem dmi_232 : decode cX12_init 232 = .ok (.sipush 6000, 3) := by decide +kernel
set_option maxRecDepth 100000 in
theorem dmi_235 : decode cX12_init 235 = .ok (.newarray .int, 2) := by decide +kernel
set_option maxRecDepth 100000 in
theorem dmi_237 : decode cX12_init 237 = .ok (.putfield 97, 3) := by decide +kernel
set_option maxRecDepth 100000 in
theorem dmi_240 : decode cX12_init 240 = .ok (.aload_n 0, 1) := by decide +kernel
set_option maxRecDepth 100000 in
theorem dmi_241 : decode cX12_init 241 = .ok (.sipush 6000, 3) := by decide +kernel
set_option maxRecDepth 100000 in
theorem dmi_244 : decode cX12_init 244 = .ok (.newarray .int, 2) := by decide +kernel
set_option maxRecDepth 100000 in
theorem dmi_246 : decode cX12_init 246 = .ok (.putfield 100, 3) := by decide +kernel
set_option maxRecDepth 100000 in
theorem dmi_249 : decode cX12_init 249 = .ok (.aload_n 0, 1) := by decide +kernel
set_option maxRecDepth 100000 in
theorem dmi_250 : decode cX12_init 250 = .ok (.sipush 1500, 3) := by decide +kernel
set_option maxRecDepth 100000 in
theorem dmi_253 : decode cX12_init 253 = .ok (.newarray .int, 2) := by decide +kernel
set_option maxRecDepth 100000 in
theorem dmi_255 : decode cX12_init 255 = .ok (.putfield 103, 3) := by decide +kernel
set_option maxRecDepth 100000 in
theorem dmi_258 : decode cX12_init 258 = .ok (.aload_n 0, 1) := by decide +kernel
set_option maxRecDepth 100000 in
theorem dmi_259 : decode cX12_init 259 = .ok (.sipush 1500, 3) := by decide +kernel
set_option maxRecDepth 100000 in
theorem dmi_262 : decode cX12_init 262 = .ok (.newarray .int, 2) := by decide +kernel
set_option maxRecDepth 100000 in
theorem dmi_264 : decode cX12_init 264 = .ok (.putfield 106, 3) := by decide +kernel
set_option maxRecDepth 100000 in
theorem dmi_267 : decode cX12_init 267 = .ok (.aload_n 0, 1) := by decide +kernel
set_option maxRecDepth 100000 in
theorem dmi_268 : decode cX12_init 268 = .ok (.sipush 1500, 3) := by decide +kernel
set_option maxRecDepth 100000 in
theorem dmi_271 : decode cX12_init 271 = .ok (.newarray .int, 2) := by decide +kernel
set_option maxRecDepth 100000 in
theorem dmi_273 : decode cX12_init 273 = .ok (.putfield 109, 3) := by decide +kernel
set_option maxRecDepth 100000 in
theorem dmi_276 : decode cX12_init 276 = .ok (.aload_n 0, 1) := by decide +kernel
set_option maxRecDepth 100000 in
theorem dmi_277 : decode cX12_init 277 = .ok (.sipush 1500, 3) := by decide +kernel
set_option maxRecDepth 100000 in
theorem dmi_280 : decode cX12_init 280 = .ok (.newarray .int, 2) := by decide +kernel
set_option maxRecDepth 100000 in
theorem dmi_282 : decode cX12_init 282 = .ok (.putfield 112, 3) := by decide +kernel
set_option maxRecDepth 100000 in
theorem dmi_285 : decode cX12_init 285 = .ok (.aload_n 0, 1) := by decide +kernel
set_option maxRecDepth 100000 in
theorem dmi_286 : decode cX12_init 286 = .ok (.sipush 1500, 3) := by decide +kernel
set_option maxRecDepth 100000 in
theorem dmi_289 : decode cX12_init 289 = .ok (.newarray .int, 2) := by decide +kernel
set_option maxRecDepth 100000 in
theorem dmi_291 : decode cX12_init 291 = .ok (.putfield 115, 3) := by decide +kernel
set_option maxRecDepth 100000 in
theorem dmi_294 : decode cX12_init 294 = .ok (.aload_n 0, 1) := by decide +kernel
set_option maxRecDepth 100000 in
theorem dmi_295 : decode cX12_init 295 = .ok (.sipush 1500, 3) := by decide +kernel
set_option maxRecDepth 100000 in
theorem dmi_298 : decode cX12_init 298 = .ok (.newarray .int, 2) := by decide +kernel
set_option maxRecDepth 100000 in
theorem dmi_300 : decode cX12_init 300 = .ok (.putfield 118, 3) := by decide +kernel
set_option maxRecDepth 100000 in
theorem dmi_303 : decode cX12_init 303 = .ok (.aload_n 0, 1) := by decide +kernel
set_option maxRecDepth 100000 in
theorem dmi_304 : decode cX12_init 304 = .ok (.sipush 1500, 3) := by decide +kernel
set_option maxRecDepth 100000 in
theorem dmi_307 : decode cX12_init 307 = .ok (.newarray .int, 2) := by decide +kernel
set_option maxRecDepth 100000 in
theorem dmi_309 : decode cX12_init 309 = .ok (.putfield 121, 3) := by decide +kernel
set_option maxRecDepth 100000 in
theorem dmi_312 : decode cX12_init 312 = .ok (.aload_n 0, 1) := by decide +kernel
set_option maxRecDepth 100000 in
theorem dmi_313 : decode cX12_init 313 = .ok (.sipush 1500, 3) := by decide +kernel
set_option maxRecDepth 100000 in
theorem dmi_316 : decode cX12_init 316 = .ok (.newarray .int, 2) := by decide +kernel
set_option maxRecDepth 100000 in
theorem dmi_318 : decode cX12_init 318 = .ok (.putfield 124, 3) := by decide +kernel
set_option maxRecDepth 100000 in
theorem dmi_321 : decode cX12_init 321 = .ok (.aload_n 0, 1) := by decide +kernel
set_option maxRecDepth 100000 in
theorem dmi_322 : decode cX12_init 322 = .ok (.sipush 1500, 3) := by decide +kernel
set_option maxRecDepth 100000 in
theorem dmi_325 : decode cX12_init 325 = .ok (.newarray .int, 2) := by decide +kernel
set_option maxRecDepth 100000 in
theorem dmi_327 : decode cX12_init 327 = .ok (.putfield 127, 3) := by decide +kernel
set_option maxRecDepth 100000 in
theorem dmi_330 : decode cX12_init 330 = .ok (.aload_n 0, 1) := by decide +kernel
set_option maxRecDepth 100000 in
theorem dmi_331 : decode cX12_init 331 = .ok (.sipush 1500, 3) := by decide +kernel
set_option maxRecDepth 100000 in
theorem dmi_334 : decode cX12_init 334 = .ok (.newarray .int, 2) := by decide +kernel
set_option maxRecDepth 100000 in
theorem dmi_336 : decode cX12_init 336 = .ok (.putfield 130, 3) := by decide +kernel
set_option maxRecDepth 100000 in
theorem dmi_339 : decode cX12_init 339 = .ok (.aload_n 0, 1) := by decide +kernel
set_option maxRecDepth 100000 in
theorem dmi_340 : decode cX12_init 340 = .ok (.bipush 6, 2) := by decide +kernel
set_option maxRecDepth 100000 in
theorem dmi_342 : decode cX12_init 342 = .ok (.newarray .int, 2) := by decide +kernel
set_option maxRecDepth 100000 in
theorem dmi_344 : decode cX12_init 344 = .ok (.putfield 133, 3) := by decide +kernel
set_option maxRecDepth 100000 in
theorem dmi_347 : decode cX12_init 347 = .ok (.aload_n 0, 1) := by decide +kernel
set_option maxRecDepth 100000 in
theorem dmi_348 : decode cX12_init 348 = .ok (.iconst 4, 1) := by decide +kernel
set_option maxRecDepth 100000 in
theorem dmi_349 : decode cX12_init 349 = .ok (.newarray .int, 2) := by decide +kernel
set_option maxRecDepth 100000 in
theorem dmi_351 : decode cX12_init 351 = .ok (.putfield 136, 3) := by decide +kernel
set_option maxRecDepth 100000 in
theorem dmi_354 : decode cX12_init 354 = .ok (.aload_n 0, 1) := by decide +kernel
set_option maxRecDepth 100000 in
theorem dmi_355 : decode cX12_init 355 = .ok (.iconst 4, 1) := by decide +kernel
set_option maxRecDepth 100000 in
theorem dmi_356 : decode cX12_init 356 = .ok (.newarray .int, 2) := by decide +kernel
set_option maxRecDepth 100000 in
theorem dmi_358 : decode cX12_init 358 = .ok (.putfield 139, 3) := by decide +kernel
set_option maxRecDepth 100000 in
theorem dmi_361 : decode cX12_init 361 = .ok (.aload_n 0, 1) := by decide +kernel
set_option maxRecDepth 100000 in
theorem dmi_362 : decode cX12_init 362 = .ok (.bipush 24, 2) := by decide +kernel
set_option maxRecDepth 100000 in
theorem dmi_364 : decode cX12_init 364 = .ok (.newarray .int, 2) := by decide +kernel
set_option maxRecDepth 100000 in
theorem dmi_366 : decode cX12_init 366 = .ok (.putfield 142, 3) := by decide +kernel
set_option maxRecDepth 100000 in
theorem dmi_369 : decode cX12_init 369 = .ok (.aload_n 0, 1) := by decide +kernel
set_option maxRecDepth 100000 in
theorem dmi_370 : decode cX12_init 370 = .ok (.bipush 6, 2) := by decide +kernel
set_option maxRecDepth 100000 in
theorem dmi_372 : decode cX12_init 372 = .ok (.newarray .int, 2) := by decide +kernel
set_option maxRecDepth 100000 in
theorem dmi_374 : decode cX12_init 374 = .ok (.putfield 145, 3) := by decide +kernel
set_option maxRecDepth 100000 in
theorem dmi_377 : decode cX12_init 377 = .ok (.aload_n 0, 1) := by decide +kernel
set_option maxRecDepth 100000 in
theorem dmi_378 : decode cX12_init 378 = .ok (.bipush 6, 2) := by decide +kernel
set_option maxRecDepth 100000 in
theorem dmi_380 : decode cX12_init 380 = .ok (.newarray .int, 2) := by decide +kernel
set_option maxRecDepth 100000 in
theorem dmi_382 : decode cX12_init 382 = .ok (.putfield 148, 3) := by decide +kernel
set_option maxRecDepth 100000 in
theorem dmi_385 : decode cX12_init 385 = .ok (.aload_n 0, 1) := by decide +kernel
set_option maxRecDepth 100000 in
theorem dmi_386 : decode cX12_init 386 = .ok (.bipush 6, 2) := by decide +kernel
set_option maxRecDepth 100000 in
theorem dmi_388 : decode cX12_init 388 = .ok (.newarray .int, 2) := by decide +kernel
set_option maxRecDepth 100000 in
theorem dmi_390 : decode cX12_init 390 = .ok (.putfield 151, 3) := by decide +kernel
set_option maxRecDepth 100000 in
theorem dmi_393 : decode cX12_init 393 = .ok (.aload_n 0, 1) := by decide +kernel
set_option maxRecDepth 100000 in
theorem dmi_394 : decode cX12_init 394 = .ok (.bipush 6, 2) := by decide +kernel
set_option maxRecDepth 100000 in
theorem dmi_396 : decode cX12_init 396 = .ok (.newarray .int, 2) := by decide +kernel
set_option maxRecDepth 100000 in
theorem dmi_398 : decode cX12_init 398 = .ok (.putfield 154, 3) := by decide +kernel
set_option maxRecDepth 100000 in
theorem dmi_401 : decode cX12_init 401 = .ok (.aload_n 0, 1) := by decide +kernel
set_option maxRecDepth 100000 in
theorem dmi_402 : decode cX12_init 402 = .ok (.bipush 6, 2) := by decide +kernel
set_option maxRecDepth 100000 in
theorem dmi_404 : decode cX12_init 404 = .ok (.newarray .int, 2) := by decide +kernel
set_option maxRecDepth 100000 in
theorem dmi_406 : decode cX12_init 406 = .ok (.putfield 157, 3) := by decide +kernel
set_option maxRecDepth 100000 in
theorem dmi_409 : decode cX12_init 409 = .ok (.aload_n 0, 1) := by decide +kernel
set_option maxRecDepth 100000 in
theorem dmi_410 : decode cX12_init 410 = .ok (.bipush 48, 2) := by decide +kernel
set_option maxRecDepth 100000 in
theorem dmi_412 : decode cX12_init 412 = .ok (.newarray .int, 2) := by decide +kernel
set_option maxRecDepth 100000 in
theorem dmi_414 : decode cX12_init 414 = .ok (.putfield 160, 3) := by decide +kernel
set_option maxRecDepth 100000 in
theorem dmi_417 : decode cX12_init 417 = .ok (.aload_n 0, 1) := by decide +kernel
set_option maxRecDepth 100000 in
theorem dmi_418 : decode cX12_init 418 = .ok (.bipush 6, 2) := by decide +kernel
set_option maxRecDepth 100000 in
theorem dmi_420 : decode cX12_init 420 = .ok (.newarray .int, 2) := by decide +kernel
set_option maxRecDepth 100000 in
theorem dmi_422 : decode cX12_init 422 = .ok (.putfield 163, 3) := by decide +kernel
set_option maxRecDepth 100000 in
theorem dmi_425 : decode cX12_init 425 = .ok (.aload_n 0, 1) := by decide +kernel
set_option maxRecDepth 100000 in
theorem dmi_426 : decode cX12_init 426 = .ok (.bipush 6, 2) := by decide +kernel
set_option maxRecDepth 100000 in
theorem dmi_428 : decode cX12_init 428 = .ok (.newarray .int, 2) := by decide +kernel
set_option maxRecDepth 100000 in
theorem dmi_430 : decode cX12_init 430 = .ok (.putfield 166, 3) := by decide +kernel
set_option maxRecDepth 100000 in
theorem dmi_433 : decode cX12_init 433 = .ok (.aload_n 0, 1) := by decide +kernel
set_option maxRecDepth 100000 in
theorem dmi_434 : decode cX12_init 434 = .ok (.bipush 6, 2) := by decide +kernel
set_option maxRecDepth 100000 in
theorem dmi_436 : decode cX12_init 436 = .ok (.newarray .int, 2) := by decide +kernel
set_option maxRecDepth 100000 in
theorem dmi_438 : decode cX12_init 438 = .ok (.putfield 169, 3) := by decide +kernel
set_option maxRecDepth 100000 in
theorem dmi_441 : decode cX12_init 441 = .ok (.aload_n 0, 1) := by decide +kernel
set_option maxRecDepth 100000 in
theorem dmi_442 : decode cX12_init 442 = .ok (.bipush 6, 2) := by decide +kernel
set_option maxRecDepth 100000 in
theorem dmi_444 : decode cX12_init 444 = .ok (.newarray .int, 2) := by decide +kernel
set_option maxRecDepth 100000 in
theorem dmi_446 : decode cX12_init 446 = .ok (.putfield 172, 3) := by decide +kernel
set_option maxRecDepth 100000 in
theorem dmi_449 : decode cX12_init 449 = .ok (.aload_n 0, 1) := by decide +kernel
set_option maxRecDepth 100000 in
theorem dmi_450 : decode cX12_init 450 = .ok (.bipush 60, 2) := by decide +kernel
set_option maxRecDepth 100000 in
theorem dmi_452 : decode cX12_init 452 = .ok (.newarray .int, 2) := by decide +kernel
set_option maxRecDepth 100000 in
theorem dmi_454 : decode cX12_init 454 = .ok (.putfield 175, 3) := by decide +kernel
set_option maxRecDepth 100000 in
theorem dmi_457 : decode cX12_init 457 = .ok (.aload_n 0, 1) := by decide +kernel
set_option maxRecDepth 100000 in
theorem dmi_458 : decode cX12_init 458 = .ok (.bipush 60, 2) := by decide +kernel
set_option maxRecDepth 100000 in
theorem dmi_460 : decode cX12_init 460 = .ok (.newarray .int, 2) := by decide +kernel
set_option maxRecDepth 100000 in
theorem dmi_462 : decode cX12_init 462 = .ok (.putfield 178, 3) := by decide +kernel
set_option maxRecDepth 100000 in
theorem dmi_465 : decode cX12_init 465 = .ok (.aload_n 0, 1) := by decide +kernel
set_option maxRecDepth 100000 in
theorem dmi_466 : decode cX12_init 466 = .ok (.bipush 60, 2) := by decide +kernel
set_option maxRecDepth 100000 in
theorem dmi_468 : decode cX12_init 468 = .ok (.newarray .int, 2) := by decide +kernel
set_option maxRecDepth 100000 in
theorem dmi_470 : decode cX12_init 470 = .ok (.putfield 181, 3) := by decide +kernel
set_option maxRecDepth 100000 in
theorem dmi_473 : decode cX12_init 473 = .ok (.aload_n 0, 1) := by decide +kernel
set_option maxRecDepth 100000 in
theorem dmi_474 : decode cX12_init 474 = .ok (.sipush 200, 3) := by decide +kernel
set_option maxRecDepth 100000 in
theorem dmi_477 : decode cX12_init 477 = .ok (.newarray .int, 2) := by decide +kernel
set_option maxRecDepth 100000 in
theorem dmi_479 : decode cX12_init 479 = .ok (.putfield 184, 3) := by decide +kernel
set_option maxRecDepth 100000 in
theorem dmi_482 : decode cX12_init 482 = .ok (.aload_n 0, 1) := by decide +kernel
set_option maxRecDepth 100000 in
theorem dmi_483 : decode cX12_init 483 = .ok (.sipush 200, 3) := by decide +kernel
set_option maxRecDepth 100000 in
theorem dmi_486 : decode cX12_init 486 = .ok (.newarray .int, 2) := by decide +kernel
set_option maxRecDepth 100000 in
theorem dmi_488 : decode cX12_init 488 = .ok (.putfield 187, 3) := by decide +kernel
set_option maxRecDepth 100000 in
theorem dmi_491 : decode cX12_init 491 = .ok (.aload_n 0, 1) := by decide +kernel
set_option maxRecDepth 100000 in
theorem dmi_492 : decode cX12_init 492 = .ok (.sipush 200, 3) := by decide +kernel
set_option maxRecDepth 100000 in
theorem dmi_495 : decode cX12_init 495 = .ok (.newarray .int, 2) := by decide +kernel
set_option maxRecDepth 100000 in
theorem dmi_497 : decode cX12_init 497 = .ok (.putfield 190, 3) := by decide +kernel
set_option maxRecDepth 100000 in
theorem dmi_500 : decode cX12_init 500 = .ok (.aload_n 0, 1) := by decide +kernel
set_option maxRecDepth 100000 in
theorem dmi_501 : decode cX12_init 501 = .ok (.sipush 400, 3) := by decide +kernel
set_option maxRecDepth 100000 in
theorem dmi_504 : decode cX12_init 504 = .ok (.newarray .int, 2) := by decide +kernel
set_option maxRecDepth 100000 in
theorem dmi_506 : decode cX12_init 506 = .ok (.putfield 193, 3) := by decide +kernel
set_option maxRecDepth 100000 in
theorem dmi_509 : decode cX12_init 509 = .ok (.aload_n 0, 1) := by decide +kernel
set_option maxRecDepth 100000 in
theorem dmi_510 : decode cX12_init 510 = .ok (.sipush 400, 3) := by decide +kernel
set_option maxRecDepth 100000 in
theorem dmi_513 : decode cX12_init 513 = .ok (.newarray .int, 2) := by decide +kernel
set_option maxRecDepth 100000 in
theorem dmi_515 : decode cX12_init 515 = .ok (.putfield 196, 3) := by decide +kernel
set_option maxRecDepth 100000 in
theorem dmi_518 : decode cX12_init 518 = .ok (.aload_n 0, 1) := by decide +kernel
set_option maxRecDepth 100000 in
theorem dmi_519 : decode cX12_init 519 = .ok (.sipush 400, 3) := by decide +kernel
set_option maxRecDepth 100000 in
theorem dmi_522 : decode cX12_init 522 = .ok (.newarray .int, 2) := by decide +kernel
set_option maxRecDepth 100000 in
theorem dmi_524 : decode cX12_init 524 = .ok (.putfield 199, 3) := by decide +kernel
set_option maxRecDepth 100000 in
theorem dmi_527 : decode cX12_init 527 = .ok (.aload_n 0, 1) := by decide +kernel
set_option maxRecDepth 100000 in
theorem dmi_528 : decode cX12_init 528 = .ok (.sipush 400, 3) := by decide +kernel
set_option maxRecDepth 100000 in
theorem dmi_531 : decode cX12_init 531 = .ok (.newarray .int, 2) := by decide +kernel
set_option maxRecDepth 100000 in
theorem dmi_533 : decode cX12_init 533 = .ok (.putfield 202, 3) := by decide +kernel
set_option maxRecDepth 100000 in
theorem dmi_536 : decode cX12_init 536 = .ok (.aload_n 0, 1) := by decide +kernel
set_option maxRecDepth 100000 in
theorem dmi_537 : decode cX12_init 537 = .ok (.sipush 400, 3) := by decide +kernel
set_option maxRecDepth 100000 in
theorem dmi_540 : decode cX12_init 540 = .ok (.newarray .int, 2) := by decide +kernel
set_option maxRecDepth 100000 in
theorem dmi_542 : decode cX12_init 542 = .ok (.putfield 205, 3) := by decide +kernel
set_option maxRecDepth 100000 in
theorem dmi_545 : decode cX12_init 545 = .ok (.aload_n 0, 1) := by decide +kernel
set_option maxRecDepth 100000 in
theorem dmi_546 : decode cX12_init 546 = .ok (.sipush 400, 3) := by decide +kernel
set_option maxRecDepth 100000 in
theorem dmi_549 : decode cX12_init 549 = .ok (.newarray .int, 2) := by decide +kernel
set_option maxRecDepth 100000 in
theorem dmi_551 : decode cX12_init 551 = .ok (.putfield 208, 3) := by decide +kernel
set_option maxRecDepth 100000 in
theorem dmi_554 : decode cX12_init 554 = .ok (.aload_n 0, 1) := by decide +kernel
set_option maxRecDepth 100000 in
theorem dmi_555 : decode cX12_init 555 = .ok (.sipush 400, 3) := by decide +kernel
set_option maxRecDepth 100000 in
theorem dmi_558 : decode cX12_init 558 = .ok (.newarray .boolean, 2) := by decide +kernel
set_option maxRecDepth 100000 in
theorem dmi_560 : decode cX12_init 560 = .ok (.putfield 211, 3) := by decide +kernel
set_option maxRecDepth 100000 in
theorem dmi_563 : decode cX12_init 563 = .ok (.aload_n 0, 1) := by decide +kernel
set_option maxRecDepth 100000 in
theorem dmi_564 : decode cX12_init 564 = .ok (.sipush 400, 3) := by decide +kernel
set_option maxRecDepth 100000 in
theorem dmi_567 : decode cX12_init 567 = .ok (.newarray .int, 2) := by decide +kernel
set_option maxRecDepth 100000 in
theorem dmi_569 : decode cX12_init 569 = .ok (.putfield 214, 3) := by decide +kernel
set_option maxRecDepth 100000 in
theorem dmi_572 : decode cX12_init 572 = .ok (.aload_n 0, 1) := by decide +kernel
set_option maxRecDepth 100000 in
theorem dmi_573 : decode cX12_init 573 = .ok (.sipush 2800, 3) := by decide +kernel
set_option maxRecDepth 100000 in
theorem dmi_576 : decode cX12_init 576 = .ok (.newarray .long, 2) := by decide +kernel
set_option maxRecDepth 100000 in
theorem dmi_578 : decode cX12_init 578 = .ok (.putfield 217, 3) := by decide +kernel
set_option maxRecDepth 100000 in
theorem dmi_581 : decode cX12_init 581 = .ok (.aload_n 0, 1) := by decide +kernel
set_option maxRecDepth 100000 in
theorem dmi_582 : decode cX12_init 582 = .ok (.bipush 6, 2) := by decide +kernel
set_option maxRecDepth 100000 in
theorem dmi_584 : decode cX12_init 584 = .ok (.newarray .int, 2) := by decide +kernel
set_option maxRecDepth 100000 in
theorem dmi_586 : decode cX12_init 586 = .ok (.putfield 221, 3) := by decide +kernel
set_option maxRecDepth 100000 in
theorem dmi_589 : decode cX12_init 589 = .ok (.aload_n 0, 1) := by decide +kernel
set_option maxRecDepth 100000 in
theorem dmi_590 : decode cX12_init 590 = .ok (.bipush 6, 2) := by decide +kernel
set_option maxRecDepth 100000 in
theorem dmi_592 : decode cX12_init 592 = .ok (.newarray .int, 2) := by decide +kernel
set_option maxRecDepth 100000 in
theorem dmi_594 : decode cX12_init 594 = .ok (.putfield 224, 3) := by decide +kernel
set_option maxRecDepth 100000 in
theorem dmi_597 : decode cX12_init 597 = .ok (.aload_n 0, 1) := by decide +kernel
set_option maxRecDepth 100000 in
theorem dmi_598 : decode cX12_init 598 = .ok (.bipush 14, 2) := by decide +kernel
set_option maxRecDepth 100000 in
theorem dmi_600 : decode cX12_init 600 = .ok (.newarray .int, 2) := by decide +kernel
set_option maxRecDepth 100000 in
theorem dmi_602 : decode cX12_init 602 = .ok (.putfield 227, 3) := by decide +kernel
set_option maxRecDepth 100000 in
theorem dmi_605 : decode cX12_init 605 = .ok (.aload_n 0, 1) := by decide +kernel
set_option maxRecDepth 100000 in
theorem dmi_606 : decode cX12_init 606 = .ok (.bipush 14, 2) := by decide +kernel
set_option maxRecDepth 100000 in
theorem dmi_608 : decode cX12_init 608 = .ok (.newarray .int, 2) := by decide +kernel
set_option maxRecDepth 100000 in
theorem dmi_610 : decode cX12_init 610 = .ok (.putfield 230, 3) := by decide +kernel
set_option maxRecDepth 100000 in
theorem dmi_613 : decode cX12_init 613 = .ok (.aload_n 0, 1) := by decide +kernel
set_option maxRecDepth 100000 in
theorem dmi_614 : decode cX12_init 614 = .ok (.bipush 14, 2) := by decide +kernel
set_option maxRecDepth 100000 in
theorem dmi_616 : decode cX12_init 616 = .ok (.newarray .int, 2) := by decide +kernel
set_option maxRecDepth 100000 in
theorem dmi_618 : decode cX12_init 618 = .ok (.putfield 233, 3) := by decide +kernel
set_option maxRecDepth 100000 in
theorem dmi_621 : decode cX12_init 621 = .ok (.aload_n 0, 1) := by decide +kernel
set_option maxRecDepth 100000 in
theorem dmi_622 : decode cX12_init 622 = .ok (.bipush 14, 2) := by decide +kernel
set_option maxRecDepth 100000 in
theorem dmi_624 : decode cX12_init 624 = .ok (.newarray .int, 2) := by decide +kernel
set_option maxRecDepth 100000 in
theorem dmi_626 : decode cX12_init 626 = .ok (.putfield 236, 3) := by decide +kernel
set_option maxRecDepth 100000 in
theorem dmi_629 : decode cX12_init 629 = .ok (.aload_n 0, 1) := by decide +kernel
set_option maxRecDepth 100000 in
theorem dmi_630 : decode cX12_init 630 = .ok (.bipush 14, 2) := by decide +kernel
set_option maxRecDepth 100000 in
theorem dmi_632 : decode cX12_init 632 = .ok (.newarray .int, 2) := by decide +kernel
set_option maxRecDepth 100000 in
theorem dmi_634 : decode cX12_init 634 = .ok (.putfield 239, 3) := by decide +kernel
set_option maxRecDepth 100000 in
theorem dmi_637 : decode cX12_init 637 = .ok (.aload_n 0, 1) := by decide +kernel
set_option maxRecDepth 100000 in
theorem dmi_638 : decode cX12_init 638 = .ok (.bipush 14, 2) := by decide +kernel
set_option maxRecDepth 100000 in
theorem dmi_640 : decode cX12_init 640 = .ok (.newarray .int, 2) := by decide +kernel
set_option maxRecDepth 100000 in
theorem dmi_642 : decode cX12_init 642 = .ok (.putfield 242, 3) := by decide +kernel
set_option maxRecDepth 100000 in
theorem dmi_645 : decode cX12_init 645 = .ok (.aload_n 0, 1) := by decide +kernel
set_option maxRecDepth 100000 in
theorem dmi_646 : decode cX12_init 646 = .ok (.bipush 14, 2) := by decide +kernel
set_option maxRecDepth 100000 in
theorem dmi_648 : decode cX12_init 648 = .ok (.newarray .int, 2) := by decide +kernel
set_option maxRecDepth 100000 in
theorem dmi_650 : decode cX12_init 650 = .ok (.putfield 245, 3) := by decide +kernel
set_option maxRecDepth 100000 in
theorem dmi_653 : decode cX12_init 653 = .ok (.aload_n 0, 1) := by decide +kernel
set_option maxRecDepth 100000 in
theorem dmi_654 : decode cX12_init 654 = .ok (.bipush 14, 2) := by decide +kernel
set_option maxRecDepth 100000 in
theorem dmi_656 : decode cX12_init 656 = .ok (.newarray .int, 2) := by decide +kernel
set_option maxRecDepth 100000 in
theorem dmi_658 : decode cX12_init 658 = .ok (.putfield 248, 3) := by decide +kernel
set_option maxRecDepth 100000 in
theorem dmi_661 : decode cX12_init 661 = .ok (.aload_n 0, 1) := by decide +kernel
set_option maxRecDepth 100000 in
theorem dmi_662 : decode cX12_init 662 = .ok (.bipush 6, 2) := by decide +kernel
set_option maxRecDepth 100000 in
theorem dmi_664 : decode cX12_init 664 = .ok (.newarray .int, 2) := by decide +kernel
set_option maxRecDepth 100000 in
theorem dmi_666 : decode cX12_init 666 = .ok (.putfield 251, 3) := by decide +kernel
set_option maxRecDepth 100000 in
theorem dmi_669 : decode cX12_init 669 = .ok (.aload_n 0, 1) := by decide +kernel
set_option maxRecDepth 100000 in
theorem dmi_670 : decode cX12_init 670 = .ok (.iconst 2, 1) := by decide +kernel
set_option maxRecDepth 100000 in
theorem dmi_671 : decode cX12_init 671 = .ok (.newarray .boolean, 2) := by decide +kernel
set_option maxRecDepth 100000 in
theorem dmi_673 : decode cX12_init 673 = .ok (.putfield 254, 3) := by decide +kernel
set_option maxRecDepth 100000 in
theorem dmi_676 : decode cX12_init 676 = .ok (.aload_n 0, 1) := by decide +kernel
set_option maxRecDepth 100000 in
theorem dmi_677 : decode cX12_init 677 = .ok (.iconst 2, 1) := by decide +kernel
set_option maxRecDepth 100000 in
theorem dmi_678 : decode cX12_init 678 = .ok (.newarray .int, 2) := by decide +kernel
set_option maxRecDepth 100000 in
theorem dmi_680 : decode cX12_init 680 = .ok (.putfield 257, 3) := by decide +kernel
set_option maxRecDepth 100000 in
theorem dmi_683 : decode cX12_init 683 = .ok (.aload_n 0, 1) := by decide +kernel
set_option maxRecDepth 100000 in
theorem dmi_684 : decode cX12_init 684 = .ok (.iconst 2, 1) := by decide +kernel
set_option maxRecDepth 100000 in
theorem dmi_685 : decode cX12_init 685 = .ok (.newarray .boolean, 2) := by decide +kernel
set_option maxRecDepth 100000 in
theorem dmi_687 : decode cX12_init 687 = .ok (.putfield 260, 3) := by decide +kernel
set_option maxRecDepth 100000 in
theorem dmi_690 : decode cX12_init 690 = .ok (.aload_n 0, 1) := by decide +kernel
set_option maxRecDepth 100000 in
theorem dmi_691 : decode cX12_init 691 = .ok (.iconst 2, 1) := by decide +kernel
set_option maxRecDepth 100000 in
theorem dmi_692 : decode cX12_init 692 = .ok (.newarray .int, 2) := by decide +kernel
set_option maxRecDepth 100000 in
theorem dmi_694 : decode cX12_init 694 = .ok (.putfield 263, 3) := by decide +kernel
set_option maxRecDepth 100000 in
theorem dmi_697 : decode cX12_init 697 = .ok (.aload_n 0, 1) := by decide +kernel
set_option maxRecDepth 100000 in
theorem dmi_698 : decode cX12_init 698 = .ok (.iconst 2, 1) := by decide +kernel
set_option maxRecDepth 100000 in
theorem dmi_699 : decode cX12_init 699 = .ok (.newarray .int, 2) := by decide +kernel
set_option maxRecDepth 100000 in
theorem dmi_701 : decode cX12_init 701 = .ok (.putfield 266, 3) := by decide +kernel
set_option maxRecDepth 100000 in
theorem dmi_704 : decode cX12_init 704 = .ok (.aload_n 0, 1) := by decide +kernel
set_option maxRecDepth 100000 in
theorem dmi_705 : decode cX12_init 705 = .ok (.iconst 2, 1) := by decide +kernel
set_option maxRecDepth 100000 in
theorem dmi_706 : decode cX12_init 706 = .ok (.newarray .int, 2) := by decide +kernel
set_option maxRecDepth 100000 in
theorem dmi_708 : decode cX12_init 708 = .ok (.putfield 269, 3) := by decide +kernel
set_option maxRecDepth 100000 in
theorem dmi_711 : decode cX12_init 711 = .ok (.aload_n 0, 1) := by decide +kernel
set_option maxRecDepth 100000 in
theorem dmi_712 : decode cX12_init 712 = .ok (.iconst 2, 1) := by decide +kernel
set_option maxRecDepth 100000 in
theorem dmi_713 : decode cX12_init 713 = .ok (.newarray .int, 2) := by decide +kernel
set_option maxRecDepth 100000 in
theorem dmi_715 : decode cX12_init 715 = .ok (.putfield 272, 3) := by decide +kernel
set_option maxRecDepth 100000 in
theorem dmi_718 : decode cX12_init 718 = .ok (.aload_n 0, 1) := by decide +kernel
set_option maxRecDepth 100000 in
theorem dmi_719 : decode cX12_init 719 = .ok (.bipush 22, 2) := by decide +kernel
set_option maxRecDepth 100000 in
theorem dmi_721 : decode cX12_init 721 = .ok (.newarray .int, 2) := by decide +kernel
set_option maxRecDepth 100000 in
theorem dmi_723 : decode cX12_init 723 = .ok (.putfield 275, 3) := by decide +kernel
set_option maxRecDepth 100000 in
theorem dmi_726 : decode cX12_init 726 = .ok (.aload_n 0, 1) := by decide +kernel
set_option maxRecDepth 100000 in
theorem dmi_727 : decode cX12_init 727 = .ok (.bipush 48, 2) := by decide +kernel
set_option maxRecDepth 100000 in
theorem dmi_729 : decode cX12_init 729 = .ok (.newarray .int, 2) := by decide +kernel
set_option maxRecDepth 100000 in
theorem dmi_731 : decode cX12_init 731 = .ok (.putfield 278, 3) := by decide +kernel
set_option maxRecDepth 100000 in
theorem dmi_734 : decode cX12_init 734 = .ok (.aload_n 0, 1) := by decide +kernel
set_option maxRecDepth 100000 in
theorem dmi_735 : decode cX12_init 735 = .ok (.bipush 72, 2) := by decide +kernel
set_option maxRecDepth 100000 in
theorem dmi_737 : decode cX12_init 737 = .ok (.newarray .boolean, 2) := by decide +kernel
set_option maxRecDepth 100000 in
theorem dmi_739 : decode cX12_init 739 = .ok (.putfield 281, 3) := by decide +kernel
set_option maxRecDepth 100000 in
theorem dmi_742 : decode cX12_init 742 = .ok (.aload_n 0, 1) := by decide +kernel
set_option maxRecDepth 100000 in
theorem dmi_743 : decode cX12_init 743 = .ok (.ldc_w 284, 3) := by decide +kernel
set_option maxRecDepth 100000 in
theorem dmi_746 : decode cX12_init 746 = .ok (.newarray .int, 2) := by decide +kernel
set_option maxRecDepth 100000 in
theorem dmi_748 : decode cX12_init 748 = .ok (.putfield 285, 3) := by decide +kernel
set_option maxRecDepth 100000 in
theorem dmi_751 : decode cX12_init 751 = .ok (.aload_n 0, 1) := by decide +kernel
set_option maxRecDepth 100000 in
theorem dmi_752 : decode cX12_init 752 = .ok (.sipush 6000, 3) := by decide +kernel
set_option maxRecDepth 100000 in
theorem dmi_755 : decode cX12_init 755 = .ok (.newarray .int, 2) := by decide +kernel
set_option maxRecDepth 100000 in
theorem dmi_757 : decode cX12_init 757 = .ok (.putfield 288, 3) := by decide +kernel
set_option maxRecDepth 100000 in
theorem dmi_760 : decode cX12_init 760 = .ok (.aload_n 0, 1) := by decide +kernel
set_option maxRecDepth 100000 in
theorem dmi_761 : decode cX12_init 761 = .ok (.sipush 6000, 3) := by decide +kernel
set_option maxRecDepth 100000 in
theorem dmi_764 : decode cX12_init 764 = .ok (.newarray .int, 2) := by decide +kernel
set_option maxRecDepth 100000 in
theorem dmi_766 : decode cX12_init 766 = .ok (.putfield 291, 3) := by decide +kernel
set_option maxRecDepth 100000 in
theorem dmi_769 : decode cX12_init 769 = .ok (.aload_n 0, 1) := by decide +kernel
set_option maxRecDepth 100000 in
theorem dmi_770 : decode cX12_init 770 = .ok (.sipush 6000, 3) := by decide +kernel
set_option maxRecDepth 100000 in
theorem dmi_773 : decode cX12_init 773 = .ok (.newarray .int, 2) := by decide +kernel
set_option maxRecDepth 100000 in
theorem dmi_775 : decode cX12_init 775 = .ok (.putfield 294, 3) := by decide +kernel
set_option maxRecDepth 100000 in
theorem dmi_778 : decode cX12_init 778 = .ok (.aload_n 0, 1) := by decide +kernel
set_option maxRecDepth 100000 in
theorem dmi_779 : decode cX12_init 779 = .ok (.ldc_w 297, 3) := by decide +kernel
set_option maxRecDepth 100000 in
theorem dmi_782 : decode cX12_init 782 = .ok (.newarray .int, 2) := by decide +kernel
set_option maxRecDepth 100000 in
theorem dmi_784 : decode cX12_init 784 = .ok (.putfield 298, 3) := by decide +kernel
set_option maxRecDepth 100000 in
theorem dmi_787 : decode cX12_init 787 = .ok (.aload_n 0, 1) := by decide +kernel
set_option maxRecDepth 100000 in
theorem dmi_788 : decode cX12_init 788 = .ok (.sipush 3001, 3) := by decide +kernel
set_option maxRecDepth 100000 in
theorem dmi_791 : decode cX12_init 791 = .ok (.newarray .int, 2) := by decide +kernel
set_option maxRecDepth 100000 in
theorem dmi_793 : decode cX12_init 793 = .ok (.putfield 301, 3) := by decide +kernel
set_option maxRecDepth 100000 in
theorem dmi_796 : decode cX12_init 796 = .ok (.aload_n 0, 1) := by decide +kernel
set_option maxRecDepth 100000 in
theorem dmi_797 : decode cX12_init 797 = .ok (.sipush 4096, 3) := by decide +kernel
set_option maxRecDepth 100000 in
theorem dmi_800 : decode cX12_init 800 = .ok (.newarray .int, 2) := by decide +kernel
set_option maxRecDepth 100000 in
theorem dmi_802 : decode cX12_init 802 = .ok (.putfield 304, 3) := by decide +kernel
set_option maxRecDepth 100000 in
theorem dmi_805 : decode cX12_init 805 = .ok (.aload_n 0, 1) := by decide +kernel
set_option maxRecDepth 100000 in
theorem dmi_806 : decode cX12_init 806 = .ok (.sipush 240, 3) := by decide +kernel
set_option maxRecDepth 100000 in
theorem dmi_809 : decode cX12_init 809 = .ok (.newarray .int, 2) := by decide +kernel
set_option maxRecDepth 100000 in
theorem dmi_811 : decode cX12_init 811 = .ok (.putfield 307, 3) := by decide +kernel
set_option maxRecDepth 100000 in
theorem dmi_814 : decode cX12_init 814 = .ok (.aload_n 0, 1) := by decide +kernel
set_option maxRecDepth 100000 in
theorem dmi_815 : decode cX12_init 815 = .ok (.sipush 400, 3) := by decide +kernel
set_option maxRecDepth 100000 in
theorem dmi_818 : decode cX12_init 818 = .ok (.newarray .int, 2) := by decide +kernel
set_option maxRecDepth 100000 in
theorem dmi_820 : decode cX12_init 820 = .ok (.putfield 310, 3) := by decide +kernel
set_option maxRecDepth 100000 in
theorem dmi_823 : decode cX12_init 823 = .ok (.aload_n 0, 1) := by decide +kernel
set_option maxRecDepth 100000 in
theorem dmi_824 : decode cX12_init 824 = .ok (.bipush 6, 2) := by decide +kernel
set_option maxRecDepth 100000 in
theorem dmi_826 : decode cX12_init 826 = .ok (.newarray .int, 2) := by decide +kernel
set_option maxRecDepth 100000 in
theorem dmi_828 : decode cX12_init 828 = .ok (.putfield 313, 3) := by decide +kernel
set_option maxRecDepth 100000 in
theorem dmi_831 : decode cX12_init 831 = .ok (.return_, 1) := by decide +kernel
end
