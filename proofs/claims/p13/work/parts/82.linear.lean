/-! linear: calls 0/107; doing 109, given 110, got 111, from 112, to 113, order 114, tried 115, held 116 (0/116 many), openAt 118 -/
/-- a bit -/
def bt (u : Int32) (i : Nat) : Bool := u.toBitVec.getLsbD i
/-- the bit of a call -/
def bc (c : Int32) : Int32 := 1 <<< (c &&& 31 : Int32)
theorem bc_all : ∀ c : Fin 14, ∀ i : Fin 32, ((1 : Int32) <<< (Int32.ofNat c.val &&& 31 : Int32)).toBitVec.getLsbD i.val = decide (i.val = c.val) := by decide
theorem sh_all : ∀ c : Fin 14, ((Int32.ofNat c.val &&& 31 : Int32).toBitVec.smod 32).toNat = c.val := by decide
theorem of_cl {c : Int32} (h0 : 0 ≤ c.toInt) : c = Int32.ofNat c.toNatClampNeg := by
  have r := t_rg c
  have e : c.toNatClampNeg = c.toInt.toNat := rfl
  refine t_eq.mpr ?_
  rw [Int32.toInt_ofNat_of_lt (by omega)]
  omega
theorem bt_bc {c : Int32} (h0 : 0 ≤ c.toInt) (h1 : c.toInt < 14) {i : Nat} (hi : i < 32) : bt (bc c) i = decide (i = c.toNatClampNeg) := by
  have cc := cl_i h0
  have q := bc_all ⟨c.toNatClampNeg, by omega⟩ ⟨i, hi⟩
  unfold bt bc
  rw [of_cl h0]
  exact q.trans (by rw [← of_cl h0])
theorem bt_or (a b : Int32) (i : Nat) : bt (a ||| b) i = (bt a i || bt b i) := by
  unfold bt
  rw [Int32.toBitVec_or, BitVec.getLsbD_or]
theorem bt_sh {u c : Int32} (h0 : 0 ≤ c.toInt) (h1 : c.toInt < 14) (h : ((u >>> (c &&& 31 : Int32)) &&& 1) = (0 : Int32)) : bt u c.toNatClampNeg = false := by
  have cc := cl_i h0
  have q := sh_all ⟨c.toNatClampNeg, by omega⟩
  have e : (c &&& 31 : Int32).toBitVec.smod 32 = (c &&& 31 : Int32).toBitVec.smod 32 := rfl
  have q2 : ((c &&& 31 : Int32).toBitVec.smod 32).toNat = c.toNatClampNeg := by
    rw [of_cl h0]
    exact q.trans (by rw [← of_cl h0])
  have h2 : (((u >>> (c &&& 31 : Int32)) &&& 1).toBitVec).getLsbD 0 = false := by rw [h]; rfl
  rw [Int32.toBitVec_and, BitVec.getLsbD_and] at h2
  have h3 : ((1 : Int32).toBitVec).getLsbD 0 = true := rfl
  rw [h3, Bool.and_true] at h2
  have h4 : (u >>> (c &&& 31 : Int32)).toBitVec = u.toBitVec.sshiftRight ((c &&& 31 : Int32).toBitVec.smod 32).toNat := rfl
  rw [h4, q2, BitVec.getLsbD_sshiftRight] at h2
  rw [if_pos (by omega)] at h2
  unfold bt
  simpa using h2
theorem bc_off {u c : Int32} (h0 : 0 ≤ c.toInt) (h1 : c.toInt < 14) (h : bt u c.toNatClampNeg = false) : (u ||| bc c) &&& (bc c ^^^ (-1)) = u := by
  apply Int32.toBitVec_inj.mp
  apply BitVec.eq_of_getLsbD_eq
  intro i hi
  have q := bt_bc h0 h1 hi
  unfold bt at q h
  have m : ((-1 : Int32).toBitVec).getLsbD i = true := by
    have e : (-1 : Int32).toBitVec = BitVec.allOnes 32 := rfl
    rw [e, BitVec.getLsbD_allOnes]
    exact decide_eq_true hi
  rw [Int32.toBitVec_and, BitVec.getLsbD_and, Int32.toBitVec_or, BitVec.getLsbD_or, Int32.toBitVec_xor, BitVec.getLsbD_xor, m, q]
  by_cases e : i = c.toNatClampNeg
  · rw [← e] at h
    rw [h]
    simp [e]
  · simp [e]
/-- the calls taken -/
def uS (T : Nat → Int32) : Nat → Int32
  | 0 => 0
  | d + 1 => uS T d ||| bc (T d)
theorem uS_cong {T T' : Nat → Int32} : ∀ d : Nat, (∀ k : Nat, k < d → T k = T' k) → uS T d = uS T' d
  | 0, _ => rfl
  | d + 1, h => by
    show uS T d ||| bc (T d) = uS T' d ||| bc (T' d)
    rw [uS_cong d (fun k hk => h k (by omega)), h d (by omega)]
/-- how many of the bits under n -/
def pc (u : Int32) : Nat → Nat
  | 0 => 0
  | n + 1 => pc u n + (if bt u n = true then 1 else 0)
theorem pc_le (u : Int32) : ∀ n, pc u n ≤ n
  | 0 => Nat.le_refl _
  | n + 1 => by
    show pc u n + (if bt u n = true then 1 else 0) ≤ n + 1
    have := pc_le u n
    by_cases h : bt u n = true
    · rw [if_pos h]; omega
    · rw [if_neg h]; omega
theorem pc_set {u c : Int32} (h0 : 0 ≤ c.toInt) (h1 : c.toInt < 14) (h : bt u c.toNatClampNeg = false) : ∀ n : Nat, n ≤ 14 → pc (u ||| bc c) n = pc u n + (if c.toNatClampNeg < n then 1 else 0)
  | 0, _ => rfl
  | n + 1, hn => by
    show pc (u ||| bc c) n + (if bt (u ||| bc c) n = true then 1 else 0) = pc u n + (if bt u n = true then 1 else 0) + _
    rw [pc_set h0 h1 h n (by omega), bt_or, bt_bc h0 h1 (by omega)]
    by_cases e : n = c.toNatClampNeg
    · rw [e, h, if_neg (by omega), if_pos (by simp), if_neg (by simp), if_pos (by omega)]
    · have e2 : decide (n = c.toNatClampNeg) = false := decide_eq_false e
      rw [e2, Bool.or_false]
      by_cases l : c.toNatClampNeg < n
      · rw [if_pos l, if_pos (show c.toNatClampNeg < n + 1 by omega)]; omega
      · rw [if_neg l, if_neg (show ¬ c.toNatClampNeg < n + 1 by omega)]; omega
/-- calls that may come one after the other -/
def gT (N : Int) (T : Nat → Int32) (d : Nat) : Prop := ∀ k : Nat, k < d → 0 ≤ (T k).toInt ∧ (T k).toInt < N ∧ bt (uS T k) (T k).toNatClampNeg = false
theorem gT_pc {N : Int} {T : Nat → Int32} (h0 : 0 ≤ N) (h1 : N ≤ 13) : ∀ d : Nat, gT N T d → pc (uS T d) N.toNat = d
  | 0, _ => by
    have : ∀ n, pc 0 n = 0 := by
      intro n
      induction n with
      | zero => rfl
      | succ n ih =>
        show pc 0 n + (if bt 0 n = true then 1 else 0) = 0
        have z : bt 0 n = false := by
          unfold bt
          show ((0#32).getLsbD n) = false
          exact BitVec.getLsbD_zero
        rw [ih, z]; rfl
    exact this _
  | d + 1, h => by
    obtain ⟨a, b, c⟩ := h d (by omega)
    have cc := cl_i a
    show pc (uS T d ||| bc (T d)) N.toNat = d + 1
    rw [pc_set a (by omega) c _ (by omega), gT_pc h0 h1 d (fun k hk => h k (by omega)), if_pos (by omega)]
theorem gT_le {N : Int} {T : Nat → Int32} {d : Nat} (h0 : 0 ≤ N) (h1 : N ≤ 13) (h : gT N T d) : (d : Int) ≤ N := by
  have := gT_pc h0 h1 d h
  have := pc_le (uS T d) N.toNat
  omega
section LIN
variable {G : mG} {d D : Nat} {x z a : gd} {F : Int32 → gd → Prop} {Fv : gd → Prop}
abbrev tcA : List Nat := [109, 110, 111, 112, 113, 118]
theorem oA_si {y : gd} {t : Nat} {v : Int32} (q : oA y) (v0 : 0 ≤ v.toInt) (v1 : v.toInt < 14) : oA (si y 118 t v) := by
  intro k hk
  rw [si_get]
  by_cases c : (118 = 118 ∧ k = t)
  · rw [if_pos c]; exact ⟨v0, v1⟩
  · rw [if_neg c]; exact q k hk
theorem sp_takeCalls (ha : HA z) (o : oA z) (n : Int32) (h : ∀ r z', mi [107] tcA z z' → oA z' → 0 ≤ (z'.1 0 107).toInt → (z'.1 0 107).toInt ≤ 13 → r.toInt ≤ 400 → F r z') : MT G d z_takeCalls 0 [(0, vr 0), (1, vi n)] [] z (ri F) := by
  have k0 : (0 : Int32).toInt = 0 := rfl
  have k1 : (1 : Int32).toInt = 1 := rfl
  have k13 : (13 : Int32).toInt = 13 := rfl
  have loop : ∀ (m : Nat) (u : gd) (c i : Int32), mi [107] tcA z u → oA u → 0 ≤ (u.1 0 107).toInt → (u.1 0 107).toInt ≤ 13 → 0 ≤ c.toInt → c.toInt ≤ i.toInt → i.toInt ≤ (z.1 0 96).toInt → (z.1 0 96).toInt - i.toInt ≤ m → MT G d z_takeCalls 9 [(0, vr 0), (1, vi n), (2, vi c), (3, vi i)] [] u (ri F) := by
    obtain ⟨a1, a2, a3, a4, a5⟩ := ha
    intro m
    induction m with
    | zero =>
      intro u c i mu ou u0 u1 c0 ci i1 hm
      refine sg_takeCalls_9 _ _ _ ⟨fun _ => ri_i (h c u mu ou u0 u1 (by omega)), fun q => absurd (t_le.mpr ?_) q⟩
      rw [mu.1 96 (by decide)]; omega
    | succ m ih =>
      intro u c i mu ou u0 u1 c0 ci i1 hm
      refine sg_takeCalls_9 _ _ _ ⟨fun _ => ri_i (h c u mu ou u0 u1 (by omega)), fun q => ?_⟩
      rw [t_le, mu.1 96 (by decide)] at q
      have iv : vp_in i 400 := by rw [vp_in_iff]; omega
      have ii : (i + 1).toInt = i.toInt + 1 := by rw [t_add (by omega) (by omega), k1]
      have cc : (c + 1).toInt = c.toInt + 1 := by rw [t_add (by omega) (by omega), k1]
      have cli := cl_i (a := i) (by omega)
      have skip : ∀ u : gd, mi [107] tcA z u → oA u → 0 ≤ (u.1 0 107).toInt → (u.1 0 107).toInt ≤ 13 → MT G d z_takeCalls 9 [(0, vr 0), (1, vi n), (2, vi c), (3, vi (i + 1))] [] u (ri F) := fun u mu ou u0 u1 => ih u c (i + 1) mu ou u0 u1 c0 (by omega) (by omega) (by omega)
      have next : ∀ u : gd, mi [107] tcA z u → oA u → 0 ≤ (u.1 0 107).toInt → (u.1 0 107).toInt ≤ 13 → MT G d z_takeCalls 9 [(0, vr 0), (1, vi n), (2, vi (c + 1)), (3, vi (i + 1))] [] u (ri F) := fun u mu ou u0 u1 => ih u (c + 1) (i + 1) mu ou u0 u1 (by omega) (by omega) (by omega) (by omega)
      have tv : vp_in (u.1 98 i.toNatClampNeg) 6 := by
        rw [mu.2.1 98 (by decide) (by decide), vp_in_iff]
        have := a4 i.toNatClampNeg (by omega)
        exact ⟨this.1, this.2.1⟩
      have p158 : MT G d z_takeCalls 158 [(0, vr 0), (1, vi n), (2, vi c), (3, vi i), (4, vi (u.1 98 i.toNatClampNeg))] [] u (ri F) := by
        refine sg_takeCalls_158 _ _ _ _ ⟨fun _ => next u mu ou u0 u1, fun _ => ⟨iv, fun _ => next u mu ou u0 u1, fun _ => ⟨tv, ?_, fun u6 e6 => ⟨tv, iv, ?_, fun u10 e10 => ?_⟩⟩⟩⟩
        · rw [vp_in_iff]; exact ou _ (vp_lt tv)
        · rw [e6, si_cell (by decide), vp_in_iff]; exact ou _ (vp_lt tv)
        · have m6 := md_a u 113 (u.1 118 (u.1 98 i.toNatClampNeg).toNatClampNeg).toNatClampNeg c (by decide)
          rw [← e6] at m6
          have m10 := md_a u6 111 (u6.1 118 (u.1 98 i.toNatClampNeg).toNatClampNeg).toNatClampNeg (u6.1 102 i.toNatClampNeg) (by decide)
          rw [← e10] at m10
          have m : md [] [111, 113] u u10 := md_tr m6 m10 rfl rfl
          exact next u10 (mi_tr mu (mi_of m) rfl rfl) (oA_md m (by decide) ou) (by rw [m.1 107 (by decide)]; exact u0) (by rw [m.1 107 (by decide)]; exact u1)
      have p59 : MT G d z_takeCalls 59 [(0, vr 0), (1, vi n), (2, vi c), (3, vi i), (4, vi (u.1 98 i.toNatClampNeg))] [] u (ri F) := by
        refine sg_takeCalls_59 _ _ _ _ ⟨fun _ => p158, fun _ => ⟨iv, fun _ => p158, fun _ => ⟨fun _ => p158, fun c13 => ?_⟩⟩⟩
        rw [t_le, k13] at c13
        have nv : ∀ u' : gd, u'.1 0 107 = u.1 0 107 → vp_in (u'.1 0 107) 14 := fun u' e => by rw [e, vp_in_iff]; omega
        refine ⟨iv, nv u rfl, fun u7 e7 => ?_⟩
        have m7 := md_a u 109 (u.1 0 107).toNatClampNeg (u.1 100 i.toNatClampNeg) (by decide)
        rw [← e7] at m7
        refine ⟨iv, nv u7 (m7.1 107 (by decide)), fun u10 e10 => ?_⟩
        have m10 := md_a u7 110 (u7.1 0 107).toNatClampNeg (u7.1 102 i.toNatClampNeg) (by decide)
        rw [← e10] at m10
        have M10 : md [] [109, 110] u u10 := md_tr m7 m10 rfl rfl
        refine ⟨nv u10 (M10.1 107 (by decide)), fun u12 e12 => ?_⟩
        have m12 := md_a u10 112 (u10.1 0 107).toNatClampNeg c (by decide)
        rw [← e12] at m12
        have M12 : md [] [109, 110, 112] u u12 := md_tr M10 m12 rfl rfl
        refine ⟨nv u12 (M12.1 107 (by decide)), fun u14 e14 => ?_⟩
        have m14 := md_a u12 113 (u12.1 0 107).toNatClampNeg (-1) (by decide)
        rw [← e14] at m14
        have M14 : md [] [109, 110, 112, 113] u u14 := md_tr M12 m14 rfl rfl
        refine ⟨tv, fun u16 e16 u17 e17 => ?_⟩
        have m16 := md_a u14 118 (u.1 98 i.toNatClampNeg).toNatClampNeg (u14.1 0 107) (by decide)
        rw [← e16] at m16
        have m17 := md_f u16 107 (u16.1 0 107 + 1)
        rw [← e17] at m17
        have M16 : md [] [109, 110, 112, 113, 118] u u16 := md_tr M14 m16 rfl rfl
        have M17 : md [107] [109, 110, 112, 113, 118] u u17 := md_tr M16 m17 rfl rfl
        have h17 : (u17.1 0 107).toInt = (u.1 0 107).toInt + 1 := by rw [e17, si_get, if_pos ⟨rfl, rfl⟩, M16.1 107 (by decide), t_add (by omega) (by omega), k1]
        have o16 : oA u16 := by
          rw [e16, M14.1 107 (by decide)]
          exact oA_si (oA_md M14 (by decide) ou) u0 (by omega)
        exact next u17 (mi_tr mu (mi_of M17) rfl rfl) (oA_md m17 (by decide) o16) (by omega) (by omega)
      exact ⟨iv, iv, fun _ => skip u mu ou u0 u1, fun _ => ⟨iv, fun _ => p59, fun _ => ⟨iv, fun _ => p59, fun _ => skip u mu ou u0 u1⟩⟩⟩
  refine sg_takeCalls_0 _ (fun y e => ?_)
  have m := md_f z 107 0
  rw [← e] at m
  have e0 : y.1 0 107 = 0 := by rw [e, si_get, if_pos ⟨rfl, rfl⟩]
  exact loop _ y 0 0 (mi_w (mi_of m) (by decide) (by decide)) (oA_md m (by decide) o) (by rw [e0]; decide) (by rw [e0]; decide) (by decide) (by decide) (by rw [k0]; exact ha.1) (Int.self_le_toNat _)
theorem sp_answer (k o v : Int32) (s0 : 0 ≤ (z.1 0 116).toInt) (s1 : (z.1 0 116).toInt < 13) (h : ∀ r z', md [116] [116] z z' → 0 ≤ (z'.1 0 116).toInt → (z'.1 0 116).toInt ≤ (z.1 0 116).toInt + 1 → F r z') : MT G (d + 1) z_answer 0 [(0, vr 0), (1, vi k), (2, vi o), (3, vi v)] [] z (ri F) := by
  have k0 : (0 : Int32).toInt = 0 := rfl
  have k1 : (1 : Int32).toInt = 1 := rfl
  have km1 : (-1 : Int32).toInt = -1 := rfl
  have v0 : vp_in 0 14 := by rw [vp_in_iff]; decide
  obtain ⟨s, es⟩ : ∃ s, s = z.1 0 116 := ⟨_, rfl⟩
  rw [← es] at s0 s1 h
  have sv : vp_in s 14 := by rw [vp_in_iff]; omega
  have ss : (s + 1).toInt = s.toInt + 1 := by rw [t_add (by omega) (by omega), k1]
  have same : ∀ r, ri F (some (vi r)) z := fun r => ri_i (h r z (md_w (md_rf z) (by decide) (by decide)) (by rw [← es]; exact s0) (by rw [← es]; omega))
  have p55 : ∀ (w : Int32) (o' b : Int32), MT G (d + 1) z_answer 55 [(0, vr 0), (2, vi o'), (4, vi b)] [vi w, vi 0, vr 116] z (ri F) := by
    intro w o' b
    refine sg_answer_55 _ _ _ _ ⟨v0, fun y2 e2 y3 e3 => ?_⟩
    have m2 := md_a z 116 (0 : Int32).toNatClampNeg w (by decide)
    rw [← e2] at m2
    have m3 := md_f y2 116 1
    rw [← e3] at m3
    have e3' : y3.1 0 116 = 1 := by rw [e3, si_get, if_pos ⟨rfl, rfl⟩]
    have ok : ∀ r, ri F (some (vi r)) y3 := fun r => ri_i (h r y3 (md_tr m2 m3 rfl rfl) (by rw [e3']; decide) (by rw [e3', k1]; omega))
    exact ⟨fun _ => ok _, fun _ => ok _⟩
  have p21 : ∀ w : Int32, MT G (d + 1) z_answer 21 [(0, vr 0), (2, vi o), (3, vi v)] [vi w] z (ri F) := fun w => sg_answer_21 _ _ _ ⟨fun _ => p55 _ _ _, fun _ => ⟨fun _ => ⟨fun _ => p55 _ _ _, fun _ => p55 _ _ _⟩, fun _ => p55 _ _ _⟩⟩
  have p188 : ∀ (b : Int32) (y : gd), md [116] [116] z y → 0 ≤ (y.1 0 116).toInt → (y.1 0 116).toInt ≤ s.toInt + 1 → MT G (d + 1) z_answer 188 [(0, vr 0), (2, vi o), (4, vi b)] [] y (ri F) := by
    intro b y my y0 y1
    have ok : ∀ r, ri F (some (vi r)) y := fun r => ri_i (h r y my y0 y1)
    have p232 : ∀ w : Int32, MT G (d + 1) z_answer 232 [(0, vr 0)] [vi w] y (ri F) := fun w => sg_answer_232 _ (sp_one _ (fun r => ok r))
    have p203 : ∀ w : Int32, MT G (d + 1) z_answer 203 [(0, vr 0)] [vi w] y (ri F) := fun w => sg_answer_203 _ (sp_one _ (fun r => ok r))
    exact sg_answer_188 _ _ ⟨fun _ => ⟨fun _ => ⟨fun _ => p232 _, fun _ => p232 _⟩, fun _ => ok _⟩, fun _ => ⟨fun _ => p203 _, fun _ => p203 _⟩⟩
  have zz : md [116] [116] z z := md_w (md_rf z) (by decide) (by decide)
  have z188 : ∀ b, MT G (d + 1) z_answer 188 [(0, vr 0), (2, vi o), (4, vi b)] [] z (ri F) := fun b => p188 b z zz (by rw [← es]; exact s0) (by rw [← es]; omega)
  have p151 : ∀ b : Int32, (b = -1 ∨ (0 ≤ b.toInt ∧ b.toInt < s.toInt)) → MT G (d + 1) z_answer 151 [(0, vr 0), (2, vi o), (4, vi b)] [] z (ri F) := by
    intro b hb
    refine sg_answer_151 _ _ ⟨fun _ => z188 b, fun _ => ⟨fun _ => z188 b, fun nb y3 e3 => ?_⟩⟩
    obtain ⟨b0, b1⟩ := hb.resolve_left nb
    have m3 := md_f z 116 (z.1 0 116 - 1)
    rw [← e3] at m3
    have e3' : (y3.1 0 116).toInt = s.toInt - 1 := by rw [e3, si_get, if_pos ⟨rfl, rfl⟩, ← es, t_sub (by omega) (by omega), k1]
    refine ⟨by rw [vp_in_iff]; omega, by rw [vp_in_iff]; omega, fun y6 e6 => ?_⟩
    have m6 := md_a y3 116 b.toNatClampNeg (y3.1 116 (y3.1 0 116).toNatClampNeg) (by decide)
    rw [← e6] at m6
    exact p188 b y6 (md_tr m3 m6 rfl rfl) (by rw [m6.1 116 (by decide)]; omega) (by rw [m6.1 116 (by decide)]; omega)
  have p83 : ∀ (m : Nat) (b i : Int32), (b = -1 ∨ (0 ≤ b.toInt ∧ b.toInt < s.toInt)) → 0 ≤ i.toInt → s.toInt - i.toInt ≤ m → MT G (d + 1) z_answer 83 [(0, vr 0), (2, vi o), (3, vi v), (4, vi b), (5, vi i)] [] z (ri F) := by
    have last : ∀ b : Int32, (b = -1 ∨ (0 ≤ b.toInt ∧ b.toInt < s.toInt)) → ((¬ (o = (0 : Int32)) → MT G (d + 1) z_answer 151 [(0, vr 0), (2, vi o), (4, vi b)] [] z (ri F)) ∧ (o = (0 : Int32) → ((¬ (b = (-1 : Int32)) → MT G (d + 1) z_answer 151 [(0, vr 0), (2, vi o), (4, vi b)] [] z (ri F)) ∧ (b = (-1 : Int32) → vp_in (z.1 0 116) 14 ∧ (∀ x5 : gd, x5 = si z 116 (z.1 0 116 : Int32).toNatClampNeg v → (∀ x6 : gd, x6 = si x5 0 116 ((x5.1 0 116) + 1) → MT G (d + 1) z_answer 188 [(0, vr 0), (2, vi o), (4, vi b)] [] x6 (ri F))))))) := by
      intro b hb
      refine ⟨fun _ => p151 b hb, fun _ => ⟨fun _ => p151 b hb, fun _ => ⟨by rw [← es]; exact sv, fun y5 e5 y6 e6 => ?_⟩⟩⟩
      have m5 := md_a z 116 (z.1 0 116).toNatClampNeg v (by decide)
      rw [← e5] at m5
      have m6 := md_f y5 116 (y5.1 0 116 + 1)
      rw [← e6] at m6
      have e6' : (y6.1 0 116).toInt = s.toInt + 1 := by rw [e6, si_get, if_pos ⟨rfl, rfl⟩, m5.1 116 (by decide), ← es, ss]
      exact p188 b y6 (md_tr m5 m6 rfl rfl) (by omega) (by omega)
    intro m
    induction m with
    | zero =>
      intro b i hb i0 hm
      exact sg_answer_83 _ _ _ _ ⟨fun _ => last b hb, fun q => absurd (t_le.mpr (by rw [← es]; omega)) q⟩
    | succ m ih =>
      intro b i hb i0 hm
      refine sg_answer_83 _ _ _ _ ⟨fun _ => last b hb, fun q => ?_⟩
      rw [t_le, ← es] at q
      have ii : (i + 1).toInt = i.toInt + 1 := by rw [t_add (by omega) (by omega), k1]
      exact ⟨by rw [vp_in_iff]; omega, fun _ => ih b (i + 1) hb (by omega) (by omega), fun _ => ih i (i + 1) (Or.inr ⟨i0, by omega⟩) (by omega) (by omega)⟩
  have p308 : 0 < s.toInt → ∀ (m : Nat) (y : gd) (b i : Int32), md [] [116] z y → 0 ≤ i.toInt → i.toInt < s.toInt → s.toInt - i.toInt ≤ m → MT G (d + 1) z_answer 308 [(0, vr 0), (1, vi k), (4, vi s), (5, vi b), (6, vi i)] [] y (ri F) := by
    intro sp
    have last : ∀ (y : gd) (b : Int32), md [] [116] z y → ∀ x2 : gd, x2 = si y 0 116 ((y.1 0 116) - 1) → ri F (some (vi b)) x2 := by
      intro y b my x2 e2
      have m2 := md_f y 116 (y.1 0 116 - 1)
      rw [← e2] at m2
      have e2' : (x2.1 0 116).toInt = s.toInt - 1 := by rw [e2, si_get, if_pos ⟨rfl, rfl⟩, my.1 116 (by decide), ← es, t_sub (by omega) (by omega), k1]
      exact ri_i (h b x2 (md_tr my m2 rfl rfl) (by omega) (by omega))
    intro m
    induction m with
    | zero => intro y b i my i0 i1 hm; omega
    | succ m ih =>
      intro y b i my i0 i1 hm
      have ii : (i + 1).toInt = i.toInt + 1 := by rw [t_add (by omega) (by omega), k1]
      refine sg_answer_308 _ _ _ _ ⟨fun _ => last y b my, fun q => ⟨fun _ => last y b my, fun _ => ?_⟩⟩
      rw [t_le, ii] at q
      refine ⟨by rw [vp_in_iff]; omega, by rw [vp_in_iff]; omega, fun y7 e7 => ?_⟩
      have m7 := md_a y 116 i.toNatClampNeg (y.1 116 (i + 1).toNatClampNeg) (by decide)
      rw [← e7] at m7
      exact ih y7 b (i + 1) (md_tr my m7 rfl rfl) (by omega) (by omega) (by omega)
  refine sg_answer_0 _ _ _ ?_
  rw [← es]
  refine ⟨fun _ => ⟨fun _ => ⟨fun _ => ⟨fun _ => ⟨fun _ y6 e6 => ?_, fun _ y7 e7 => ?_⟩, fun _ => ⟨fun ne => ?_, fun _ => same _⟩⟩, fun _ => ⟨sv, fun y13 e13 y14 e14 => ?_⟩⟩, fun _ => p83 _ _ _ (Or.inl rfl) (by decide) (Int.self_le_toNat _)⟩, fun _ => ⟨fun _ => ⟨v0, p21 _⟩, fun _ => p21 _⟩⟩
  · have m6 := md_f z 116 s
    rw [← e6] at m6
    have e6' : y6.1 0 116 = s := by rw [e6, si_get, if_pos ⟨rfl, rfl⟩]
    exact ri_i (h _ y6 (md_w m6 (by decide) (by decide)) (by rw [e6']; exact s0) (by rw [e6']; omega))
  · have m7 := md_f z 116 0
    rw [← e7] at m7
    have e7' : y7.1 0 116 = 0 := by rw [e7, si_get, if_pos ⟨rfl, rfl⟩]
    exact ri_i (h _ y7 (md_w m7 (by decide) (by decide)) (by rw [e7']; decide) (by rw [e7', k0]; omega))
  · rw [t_eq, k0] at ne
    have sp : 0 < s.toInt := by omega
    have s1' : (s - 1).toInt = s.toInt - 1 := by rw [t_sub (by omega) (by omega), k1]
    exact ⟨fun _ => ⟨v0, p308 sp _ z _ 0 (md_w (md_rf z) (by decide) (by decide)) (by decide) (by rw [k0]; exact sp) (Int.self_le_toNat _)⟩, fun _ => ⟨by rw [vp_in_iff]; omega, p308 sp _ z _ 0 (md_w (md_rf z) (by decide) (by decide)) (by decide) (by rw [k0]; exact sp) (Int.self_le_toNat _)⟩⟩
  · have m13 := md_a z 116 s.toNatClampNeg v (by decide)
    rw [← e13] at m13
    have m14 := md_f y13 116 (y13.1 0 116 + 1)
    rw [← e14] at m14
    have e14' : (y14.1 0 116).toInt = s.toInt + 1 := by rw [e14, si_get, if_pos ⟨rfl, rfl⟩, m13.1 116 (by decide), ← es, ss]
    exact ri_i (h _ y14 (md_tr m13 m14 rfl rfl) (by omega) (by omega))
end LIN
