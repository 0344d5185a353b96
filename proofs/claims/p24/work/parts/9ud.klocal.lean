section
/-! local: a local that is known -/
def lowc (sl : List Nat) (k : Nat) : Nat := (sl.filter (fun s => decide (s < k))).length
def knL (C : gCo) (h : gTq) : Nat := if h.1 = 1 ∨ h.1 = 3 then (stN C h.2.2.1).2.1.length else 0
section LOC
variable {sl r : List Nat} {a k : Nat}
theorem lowc_c : lowc (a :: r) k = lowc r k + (if a < k then 1 else 0) := by
  unfold lowc
  by_cases c : a < k
  · rw [List.filter_cons_of_pos (by simpa using c), List.length_cons, if_pos c]
  · rw [List.filter_cons_of_neg (by simpa using c), if_neg c]; rfl
theorem lowc_s : ∀ {sl : List Nat}, sl.Pairwise (fun a b => b < a) → ∀ k, lowc sl (k + 1) = lowc sl k + (if k ∈ sl then 1 else 0) := by
  intro sl
  induction sl with
  | nil => intro _ k; rw [if_neg (by simp)]; rfl
  | cons a r ih =>
    intro h k
    obtain ⟨h1, h2⟩ := List.pairwise_cons.mp h
    rw [lowc_c, lowc_c, ih h2 k]
    by_cases c : a = k
    · rw [if_pos (show a < k + 1 by omega), if_neg (show ¬ a < k by omega), if_neg (fun z => by have := h1 k z; omega), if_pos (by rw [c]; exact List.mem_cons_self)]
    · have e : (k ∈ a :: r) ↔ k ∈ r := ⟨fun z => (List.mem_cons.mp z).resolve_left (fun z => c z.symm), fun z => List.mem_cons_of_mem _ z⟩
      by_cases d : k ∈ r
      · rw [if_pos d, if_pos (e.mpr d)]
        have := h1 k d
        rw [if_neg (by omega), if_neg (by omega)]
      · rw [if_neg d, if_neg (fun z => d (e.mp z))]
        by_cases f : a < k
        · rw [if_pos (by omega), if_pos f]
        · rw [if_neg (by omega), if_neg f]
theorem lowc_in : ∀ {sl : List Nat}, sl.Pairwise (fun a b => b < a) → ∀ {k : Nat}, k ∈ sl → lowc sl k < sl.length ∧ slN sl (lowc sl k) = k := by
  intro sl
  induction sl with
  | nil => intro _ k hk; cases hk
  | cons a r ih =>
    intro h k hk
    obtain ⟨h1, h2⟩ := List.pairwise_cons.mp h
    rw [lowc_c]
    by_cases c : a = k
    · have e : lowc r k = r.length := by
        unfold lowc
        rw [List.filter_eq_self.mpr (fun b hb => by have := h1 b hb; simpa using (show b < k by omega))]
      rw [if_neg (by omega), e, Nat.add_zero]
      exact ⟨Nat.lt_succ_self _, by rw [slN, if_pos rfl, c]⟩
    · have hk' := (List.mem_cons.mp hk).resolve_left (fun z => c z.symm)
      have := h1 k hk'
      obtain ⟨i1, i2⟩ := ih h2 hk'
      rw [if_neg (by omega), Nat.add_zero]
      exact ⟨Nat.lt_succ_of_lt i1, by rw [slN, if_neg (by omega)]; exact i2⟩
theorem lowc_8 (h : ∀ s ∈ sl, s < 8) : lowc sl 8 = sl.length := by
  unfold lowc
  rw [List.filter_eq_self.mpr (fun b hb => by simpa using h b hb)]
theorem lowc_0 : lowc sl 0 = 0 := by
  unfold lowc
  rw [List.filter_eq_nil_iff.mpr (fun b _ => by simp)]
  rfl
theorem lowc_le (h : sl.Pairwise (fun a b => b < a)) : ∀ k, lowc sl k ≤ k := by
  intro k
  induction k with
  | zero => rw [lowc_0]; exact Nat.le_refl _
  | succ k ih =>
    rw [lowc_s h k]
    split <;> omega
end LOC
theorem st_4 : ∀ a, a < 4 → ∀ b, b < 4 → ((Int32.ofNat a = Int32.ofNat b) ↔ a = b) := by decide +kernel
abbrev inL (nt : Int) (kn : Nat → Nat) (l1 l2 : Int32) : Prop := (0 ≤ l1.toInt ∧ l1.toInt < nt) ∧ 0 ≤ l2.toInt ∧ l2.toInt < (kn l1.toInt.toNat : Nat)
abbrev e2Lo (C : gCo) (wr n : Nat) (c : Nat → Nat) (x : gd) (l1 l2 : Int32) : Prop := ¬ x.1 0 10 = 0 ∧ ¬ inL (x.1 60 10).toInt (fun t => knL C ((runM C wr c n).2.2 t)) l1 l2
def sLo (C : gCo) (wr n : Nat) (c : Nat → Nat) (x : gd) (l1 l2 r : Int32) (y : gd) : Prop := r = ((runM C wr c n).2.2 l1.toInt.toNat).2.2.2.2.2.2.2 l2.toInt.toNat ∧ KRd x y
abbrev f2Lo (C : gCo) (wr n : Nat) (w : gd) (l1 l2 : Int32) : Prop := ¬ w.1 0 67 = 0 ∧ ¬ inL (w.1 0 25).toInt (fun t => knL C ((runM C wr (c96 w) n).2.2 t)) l1 l2
def tLo (C : gCo) (wr n : Nat) (w : gd) (l1 l2 r : Int32) (w' : gd) : Prop := r = ((runM C wr (c96 w) n).2.2 l1.toInt.toNat).2.2.2.2.2.2.2 l2.toInt.toNat ∧ rdM C wr w w'
section KLO
variable {G : kG} {q : kP} {d : Nat} {x y w w' : gd} {P : Option gv → gd → Prop} {X : String → gd → Prop} {C : gCo} {wr n : Nat} {lm : Nat → Nat}
/-- a thread stands at a step that there is -/
theorem JH_st (h : JH C wr n lm x w) (hH : HOI x q) (h10 : ¬ x.1 0 10 = 0) {t : Nat} (ht : (t : Int) < (x.1 60 10).toInt) : ∃ st, C.1[((runM C wr (c96 w) n).2.2 t).2.2.1]? = some st ∧ stN C ((runM C wr (c96 w) n).2.2 t).2.2.1 = st := by
  obtain ⟨j, r, -, -⟩ := JH_R h h10
  have hR := hH.2.2.1 h10
  have ta := (hR.1.2.2 t ht).1.1
  have e10 : (x.1 60 10).toInt = (C.2.1.length : Nat) := j.2.1.2.1.1
  have kq := r.2.1.1.2 t (by omega)
  have e2 := kq.2.2.1
  have el : (x.1 80 9).toInt = (C.1.length : Nat) := j.2.1.1.1
  have ss : ssm x = (x.1 80 9).toInt := rfl
  have hl : ((runM C wr (c96 w) n).2.2 t).2.2.1 < C.1.length := by omega
  have hg := List.getElem?_eq_getElem hl
  exact ⟨_, hg, by unfold stN; rw [hg]; rfl⟩
theorem ka_local (h : JH C wr n lm x w) (hq : kV q) (hH : HOI x q) (l1 l2 : Int32) (hX1 : e1Ch x → X iSE x) (hX2 : e2Lo C wr n (c96 w) x l1 l2 → X iOE x) (hP : ¬ e1Ch x → ¬ e2Lo C wr n (c96 w) x l1 l2 → ∀ r y, HOI y q → sLo C wr n (c96 w) x l1 l2 r y → P (some (vi r)) y) : KE G q (d + 7) zk_X11_local 0 [(0, vr 0), (1, vi l1), (2, vi l2)] [] x P X := by
  have hm : kiM q 120 := Or.inl rfl
  have k8 : (8 : Int32).toInt = 8 := rfl
  refine kg_X11_local_0 hq l1 l2 (kh_run hq hH hX1 (fun h10 hR => kh_ix hq l1 _ (fun hn => hX2 ⟨h10, fun z => hn z.1⟩) (fun l0 l9 => ?_)))
  have hT : ((l1.toInt.toNat : Nat) : Int) < (x.1 60 10).toInt := by omega
  have eT : l1.toInt = ((l1.toInt.toNat : Nat) : Int) := by omega
  have hT6 := MM_6 hR.1.1 hT
  have hA := (hR.1.2.2 _ hT).1
  obtain ⟨st, hs, es⟩ := JH_st h hH h10 hT
  obtain ⟨j, r, -, -⟩ := JH_R h h10
  have e10 : (x.1 60 10).toInt = (C.2.1.length : Nat) := j.2.1.2.1.1
  obtain ⟨H, eH⟩ : ∃ H, H = (runM C wr (c96 w) n).2.2 l1.toInt.toNat := ⟨_, rfl⟩
  have kq := r.2.1.1.2 l1.toInt.toNat (by omega)
  rw [← eH] at kq hs es
  obtain ⟨⟨q0, q0'⟩, -, q2, -, -, -, -, qv, ql⟩ := kq
  have e83 : (x.1 83 H.2.2.1).toInt = (st.2.1.length : Nat) := (j.2.1.1.2 _ st hs).2.1
  have s13 : (rg x 120 l1.toInt.toNat 0 = 1 ∨ rg x 120 l1.toInt.toNat 0 = 3) ↔ (H.1 = 1 ∨ H.1 = 3) := by
    rw [q0]
    exact or_congr (st_4 _ (by omega) 1 (by decide)) (st_4 _ (by omega) 3 (by decide))
  refine kh_known hq hm hR.1.1 hR.1.2.1 l1 eT hT6 hA (fun r9 r0 r8 a1 a2 => ?_)
  have er : r9.toInt = (knL C H : Nat) := by
    unfold knL
    by_cases c : H.1 = 1 ∨ H.1 = 3
    · have e2 : (rg x 120 l1.toInt.toNat 2).toInt.toNat = H.2.2.1 := by rw [q2]; rfl
      rw [a1 (s13.mpr c), if_pos c, es, e2]; exact e83
    · rw [a2 (fun z => c (s13.mp z)), if_neg c]; rfl
  have inq : inL (x.1 60 10).toInt (fun t => knL C ((runM C wr (c96 w) n).2.2 t)) l1 l2 ↔ ((0 ≤ l1.toInt ∧ l1.toInt < (x.1 60 10).toInt) ∧ 0 ≤ l2.toInt ∧ l2.toInt < (knL C H : Nat)) := by
    rw [eH]
  refine kh_ix hq l2 r9 (fun hn => hX2 ⟨h10, fun z => hn ?_⟩) (fun g0 g9 => ?_)
  · have := (inq.mp z).2
    rw [er]; exact this
  rw [er] at g9
  have c13 : H.1 = 1 ∨ H.1 = 3 := by
    apply Classical.byContradiction
    intro c
    unfold knL at g9
    rw [if_neg c] at g9
    omega
  have gl : l2.toInt < (st.2.1.length : Nat) := by
    unfold knL at g9
    rw [if_pos c13, es] at g9
    exact g9
  have g13 := ql c13
  rw [es] at g13
  refine kp_get hq hm hR.1.1 hR.1.2.1 l1 (8 + l2) (K := 8 + l2.toInt.toNat) eT ?_ hT6 (by omega) (hP h10 (fun z => z.2 (inq.mpr ⟨⟨l0, l9⟩, g0, g9⟩)) _ x hH ⟨?_, KR_rf⟩)
  · rw [t_add (by rw [k8]; omega) (by rw [k8]; omega), k8]; omega
  · rw [← eH]
    exact qv l2.toInt.toNat (by omega)
theorem ja_local {l1 l2 r9 r : Int32} (h : JH C wr n lm x w) (hH : HOI y q) (k : ansK (e1Ch x) (e2Lo C wr n (c96 w) x l1 l2) (sLo C wr n (c96 w) x l1 l2) x r9 y) (m : ansM C wr (f1Ch w) (f2Lo C wr n w l1 l2) (tLo C wr n w l1 l2) w r w') : JR3 y w' ∧ ansE r9 r y w' := by
  have e9 := JH_10 h
  refine ans_eq h hH e9 ⟨fun z => ⟨fun a => z.1 (e9.mpr a), by rw [← (JH_R h z.1).1.1.2.2.2.2.1]; exact z.2⟩, fun z => ⟨fun a => z.1 (e9.mp a), by rw [(JH_R h (fun a => z.1 (e9.mp a))).1.1.2.2.2.2.1]; exact z.2⟩⟩ (fun a z => z.1 a) k m (fun c _ r' s t => ⟨JQ_rd h hH s.2 t.2, s.1.trans t.1.symm⟩)
end KLO
section MLO
variable {G : mG} {d D : Nat} {x w : gd} {F : Int32 → gd → Prop} {C : gCo} {wr n : Nat} {lm : Nat → Nat} {q : kP}
theorem ma_local (h : JH C wr n lm x w) (hH : HOI x q) (hm : MI w) (t i : Int32) (hD : 3 ≤ D) (hF : ∀ r w', ansM C wr (f1Ch w) (f2Lo C wr n w t i) (tLo C wr n w t i) w r w' → F r w') : MT G D z_local 0 [(0, vr 0), (1, vi t), (2, vi i)] [] w (ri F) := by
  obtain ⟨D, rfl⟩ : ∃ D', D = D' + 2 := ⟨D - 2, by omega⟩
  have k0 : (0 : Int32).toInt = 0 := rfl
  have k1 : (1 : Int32).toInt = 1 := rfl
  have k8 : (8 : Int32).toInt = 8 := rfl
  refine sg_local_0 _ _ (fun y e => ?_)
  have hy := z0_s e
  have e67 : y.1 0 67 = w.1 0 67 := hy.1.1 67 (by decide)
  have e25 : y.1 0 25 = w.1 0 25 := hy.1.1 25 (by decide)
  have qy := (MI_0 hy.1 hm).1
  refine sc_noRunk hy (fun hr => ⟨fun q => absurd rfl q, fun _ => ?_⟩) (fun c y' m => ⟨fun _ => ri_i (hF _ y' (an_1 hm (show w.1 0 67 = 0 by rw [← e67]; exact c) m)), fun q => absurd q (by decide)⟩)
  obtain ⟨cp, _, rt⟩ := RS_of qy hr
  have g := cp.1
  have g6 := g.2.2.2.2.2.1
  rw [e67] at hr
  have h10 : ¬ x.1 0 10 = 0 := fun z => hr ((JH_10 h).mp z)
  obtain ⟨hc, hh, e94⟩ := JH_M h hr
  have gc := (JH_gc h hH).1
  obtain ⟨mm, m8⟩ := HistC_MM gc.1 (HistC_0 hy.1 hh) (n := n) (by rw [hy.1.1 94 (by decide)]; exact e94)
  have cy : c96 y = c96 w := by unfold c96; rw [hy.1.2 96 (by decide) (by simp)]
  rw [cy] at mm
  have hKy : MK y C := MK_mi hy.1 rfl rfl (JH_R h h10).1.2.2.1
  have jn : x.1 60 10 = w.1 0 25 := (JH_R h h10).1.1.2.2.2.2.1
  -- the locals of a thread that there is
  have main : 0 ≤ t.toInt → t.toInt < (y.1 0 25).toInt → MT G (D + 1) z_knownOf 0 [(0, vr 0), (1, vi t)] [] y (ri (fun r4 x3 => MT G (D + 2) z_local 53 [(0, vr 0), (1, vi t), (2, vi i), (3, vi r4), (4, vi 0), (5, vi 0)] [] x3 (ri F))) := by
    intro t0 t1
    have tv : vp_in t 6 := by rw [vp_in_iff]; omega
    have ct := t_cl t
    have t6 : t.toInt.toNat < 6 := by omega
    obtain ⟨H, eH⟩ : ∃ H, H = (runM C wr (c96 w) n).2.2 t.toInt.toNat := ⟨_, rfl⟩
    obtain ⟨st, hs, es⟩ := JH_st h hH h10 (t := t.toInt.toNat) (by rw [jn, ← e25]; omega)
    have tq := mm.2.2 t.toInt.toNat t6
    rw [← eH] at hs es tq
    obtain ⟨q0, q0', -, q2, -, -, -, -, -, q7, -⟩ := tq
    obtain ⟨np, nl, n8⟩ := (gc.1.1 _ st hs).2.2.2.2.1
    have s8 : ∀ s ∈ st.2.1, s < 8 := fun s hs9 => by have := nl s hs9; omega
    have e62 : y.1 62 H.2.2.1 = kmN st.2.1 := (hKy.1.2 _ st hs).2.2.2.2.2.2.2.2
    have inq : inL (w.1 0 25).toInt (fun t => knL C ((runM C wr (c96 w) n).2.2 t)) t i ↔ ((0 ≤ t.toInt ∧ t.toInt < (w.1 0 25).toInt) ∧ 0 ≤ i.toInt ∧ i.toInt < (knL C H : Nat)) := by
      rw [eH]
    -- over the slots
    obtain ⟨sl, esl⟩ : ∃ sl : List Nat, sl = (if H.1 = 1 ∨ H.1 = 3 then st.2.1 else []) := ⟨_, rfl⟩
    have slp : sl.Pairwise (fun a b => b < a) := by rw [esl]; split; exact np; exact List.Pairwise.nil
    have sl8 : ∀ s ∈ sl, s < 8 := by rw [esl]; split; exact s8; exact fun s hs9 => nomatch hs9
    have kl : knL C H = sl.length := by
      unfold knL
      rw [esl, es]
      split
      · rfl
      · rfl
    have loop : ∀ (m k : Nat) (s : Int32), 8 - k ≤ m → k ≤ 8 → s.toInt = (lowc sl k : Nat) → ¬ (0 ≤ i.toInt ∧ i.toInt < (lowc sl k : Nat)) → MT G (D + 2) z_local 53 [(0, vr 0), (1, vi t), (2, vi i), (3, vi (kmN sl)), (4, vi s), (5, vi (Int32.ofNat k))] [] y (ri F) := by
      intro m
      have last : ∀ k : Nat, k = 8 → ¬ (0 ≤ i.toInt ∧ i.toInt < (lowc sl k : Nat)) → MT G (D + 1) z_refuses 0 [(0, vr 0), (1, vi 1), (2, vi 2)] [] y (ri (fun r3 x2 => ri F (some (vi 0)) x2)) := fun k ek hn => sc_refk 1 2 hy (by decide) (fun q => absurd q (by decide)) (fun _ y' m => ri_i (hF _ y' (an_2 hm ⟨hr, fun z => hn (by
        rw [ek, lowc_8 sl8, ← kl]
        exact (inq.mp z).2)⟩ m)))
      have ok : ∀ k, k ≤ 8 → (Int32.ofNat k).toInt = (k : Nat) := fun k hk => Int32.toInt_ofNat_of_lt (by omega)
      induction m with
      | zero =>
        intro k s hk hk8 hs9 hn
        exact sg_local_53 _ _ _ _ _ ⟨fun _ => last k (by omega) hn, fun c => absurd (t_le.mpr (by rw [k8, ok k hk8]; omega)) c⟩
      | succ m ih =>
        intro k s hk hk8 hs9 hn
        refine sg_local_53 _ _ _ _ _ ⟨fun c => last k (by rw [t_le, k8, ok k hk8] at c; omega) hn, fun c => ?_⟩
        rw [t_le, k8, ok k hk8] at c
        have kl8 : k < 8 := by omega
        have e1 : Int32.ofNat k + 1 = Int32.ofNat (k + 1) := by
          rw [t_eq, t_add (by rw [ok k hk8]; omega) (by rw [ok k hk8]; omega), ok k hk8, ok (k + 1) (by omega), k1]
          push_cast; rfl
        have lb : lowc sl k ≤ 8 := by
          unfold lowc
          have h1 := List.length_filter_le (fun s => decide (s < k)) sl
          have h2 : sl.length ≤ 8 := by rw [← lowc_8 sl8]; exact lowc_le slp 8
          omega
        have bit := km_bit sl8 k kl8
        rw [e1, bit]
        have step := lowc_s slp k
        by_cases ck : k ∈ sl
        · rw [if_pos ck] at step ⊢
          refine ⟨fun z => absurd rfl z, fun _ => ⟨fun ne => ih (k + 1) (s + 1) (by omega) (by omega) ?_ ?_, fun eq => ⟨?_, ?_⟩⟩⟩
          · rw [t_add (by rw [k1]; omega) (by rw [k1]; omega), k1, hs9, step]; push_cast; rfl
          · intro z
            rw [step] at z
            have : i.toInt = (lowc sl k : Nat) := by
              have := z.2
              push_cast at this
              omega
            exact ne (t_eq.mpr (by rw [hs9, this]))
          · have m9 : (8 * t).toInt = 8 * t.toInt := by rw [t_mul (by rw [k8]; omega) (by rw [k8]; omega), k8]
            rw [vp_in_iff, t_add (by rw [ok k hk8]; omega) (by rw [ok k hk8]; omega), m9, ok k hk8]; omega
          · obtain ⟨i1, i2⟩ := lowc_in slp ck
            have ei : i.toInt = (lowc sl k : Nat) := by rw [← eq]; exact hs9
            have m9 : (8 * t).toInt = 8 * t.toInt := by rw [t_mul (by rw [k8]; omega) (by rw [k8]; omega), k8]
            have m10 : (8 * t + Int32.ofNat k).toNatClampNeg = 8 * t.toInt.toNat + k := by
              rw [t_cl, t_add (by rw [ok k hk8]; omega) (by rw [ok k hk8]; omega), m9, ok k hk8]; omega
            have c13 : H.1 = 1 ∨ H.1 = 3 := by
              apply Classical.byContradiction
              intro z
              rw [esl, if_neg z] at ck
              cases ck
            have eS : sl = st.2.1 := by rw [esl, if_pos c13]
            refine ri_i (hF _ y (an_3 qy hr (fun z => z.2 (inq.mpr ⟨⟨t0, by rw [← e25]; exact t1⟩, by omega, by rw [kl]; omega⟩)) hy.2 ⟨?_, rd_0 hy.1 hm⟩))
            rw [m10, ← eH]
            have v := q7 c13 i.toInt.toNat (by rw [es, ← eS]; omega)
            rw [es, ← eS, show i.toInt.toNat = lowc sl k by omega, i2] at v
            rw [v, show i.toInt.toNat = lowc sl k by omega]
        · rw [if_neg ck] at step ⊢
          refine ⟨fun _ => ih (k + 1) s (by omega) (by omega) (by rw [hs9, step]; rfl) (by rw [step]; exact hn), fun z => absurd z (by decide)⟩
    have fin := loop 8 0 0 (by omega) (by omega) (by rw [lowc_0]; rfl) (by rw [lowc_0]; intro z; have := z.2; omega)
    have v74 : vp_in (y.1 74 t.toNatClampNeg) 1500 := by rw [vp_in_iff]; exact ⟨(rt _ (vt tv)).1, (rt _ (vt tv)).2.1⟩
    have e74 : (y.1 74 t.toNatClampNeg).toNatClampNeg = H.2.2.1 := by rw [ct, t_cl, q2]; rfl
    have e73 : y.1 73 t.toNatClampNeg = Int32.ofNat H.1 := by rw [ct]; exact q0
    have s4 := fun b hb => st_4 H.1 (by omega) b hb
    refine sg_knownOf_0 _ ⟨tv, fun c => ⟨tv, v74, ri_i ?_⟩, fun c => ⟨tv, fun c3 => ri_i ?_, fun c3 => ⟨tv, v74, ri_i ?_⟩⟩⟩
    · rw [e73] at c
      have c1 : H.1 = 1 := (s4 1 (by decide)).mp c
      rw [e74, e62]
      rw [esl, if_pos (Or.inl c1)] at fin
      exact fin
    · rw [e73] at c c3
      rw [esl, if_neg (fun z => by
        rcases z with z | z
        · exact c ((s4 1 (by decide)).mpr z)
        · exact c3 ((s4 3 (by decide)).mpr z))] at fin
      exact fin
    · rw [e73] at c3
      have c1 : H.1 = 3 := (s4 3 (by decide)).mp c3
      rw [e74, e62]
      rw [esl, if_pos (Or.inr c1)] at fin
      exact fin
  have p32 : ∀ b : Int32, (b = 0 → 0 ≤ t.toInt ∧ t.toInt < (y.1 0 25).toInt) → (¬ b = 0 → ¬ (0 ≤ t.toInt ∧ t.toInt < (y.1 0 25).toInt)) → MT G (D + 2) z_local 32 [(0, vr 0), (1, vi t), (2, vi i)] [vi b, vr 0] y (ri F) := by
    intro b hb hb2
    exact sg_local_32 _ _ _ (sc_refk b 2 hy (by decide) (fun b0 => ⟨fun _ => main (hb b0).1 (hb b0).2, fun q => absurd rfl q⟩) (fun nb y' m => ⟨fun q => absurd q (by decide), fun _ => ri_i (hF _ y' (an_2 hm ⟨hr, fun z => hb2 nb (by rw [e25]; exact z.1)⟩ m))⟩))
  exact sp_in _ _ _ ⟨fun c1 => p32 0 (fun _ => in_lt (bi_ne.mp c1) g.2.2.2.2.1) (fun z => absurd rfl z), fun c1 => p32 1 (fun q => absurd q (by decide)) (fun _ => in_ge (bi_eq.mp c1) g.2.2.2.2.1)⟩
end MLO
end
section
/-! choice: what a choice is -/
noncomputable def chVal (C : gCo) (w : Nat) (M : gMa) (ch : gCh) (k : Int32) : Int32 :=
  if k = 0 then Int32.ofNat ch.1
  else if k = 1 then (if ch.2.1 = none then 0 else 1)
  else if k = 2 then (if ch.2.1 = none then Int32.ofNat (soM C (M.2.2 ch.1)) else 1)
  else if k = 3 then (if ch.2.1 = none then (lkM C w M ch.1).2.1 else Int32.ofNat (((M.2.2 ch.1).2.2.2.2.2.2.1[ch.2.1.getD 0]?).getD (0, 0)).1)
  else opI ch.2.2
abbrev inCh (nc : Int) (l1 l2 : Int32) : Prop := (0 ≤ l1.toInt ∧ l1.toInt < nc) ∧ 0 ≤ l2.toInt ∧ l2.toInt < 5
abbrev e2Ci (x : gd) (l1 l2 : Int32) : Prop := ¬ x.1 0 10 = 0 ∧ ¬ inCh (x.1 120 13).toInt l1 l2
def chR (C : gCo) (wr n : Nat) (c : Nat → Nat) (l1 l2 r : Int32) : Prop := ∃ ch, (chM C wr (runM C wr c n))[l1.toInt.toNat]? = some ch ∧ r = chVal C wr (runM C wr c n) ch l2
def sCi (C : gCo) (wr n : Nat) (c : Nat → Nat) (x : gd) (l1 l2 r : Int32) (y : gd) : Prop := chR C wr n c l1 l2 r ∧ KRd x y
abbrev f2Ci (w : gd) (l1 l2 : Int32) : Prop := ¬ w.1 0 67 = 0 ∧ ¬ inCh (w.1 0 84).toInt l1 l2
def tCi (C : gCo) (wr n : Nat) (w : gd) (l1 l2 r : Int32) (w' : gd) : Prop := chR C wr n (c96 w) l1 l2 r ∧ rdM C wr w w'
theorem chR_eq {C : gCo} {wr n : Nat} {c : Nat → Nat} {l1 l2 r r' : Int32} (h : chR C wr n c l1 l2 r) (g : chR C wr n c l1 l2 r') : r = r' := by
  obtain ⟨ch, a1, a2⟩ := h
  obtain ⟨ch', b1, b2⟩ := g
  rw [a1] at b1
  rw [a2, b2, Option.some.inj b1]
section PCH
variable {C : gCo} {w T : Nat} {M : gMa} {ch : gCh}
theorem lkI_m1 (h : ¬ (lkI C M T).1 = 0) : (lkI C M T).2 = -1 := by
  unfold lkI at h ⊢
  split
  · next e => rw [e] at h; exact absurd rfl h
  · next Q e =>
    simp only [e] at h
    split
    · rfl
    · next v e2 =>
      simp only [e2] at h
      split
      · rfl
      · next c => rw [if_neg c] at h; exact absurd rfl h
theorem lkM_0 (h : (M.2.2 T).2.2.2.1 = 0) : (lkM C w M T).2.1 = (lkI C M T).2 := by
  unfold lkM
  rw [if_neg (fun z => z h)]
  by_cases c : ¬ (lkI C M T).1 = 0
  · rw [if_pos c]
  · rw [if_neg c]
    split
    · rfl
    · split
      · rfl
      · rfl
theorem lkM_w (h : ¬ (M.2.2 T).2.2.2.1 = 0) : (lkM C w M T).2.1 = (stN C (M.2.2 T).2.2.1).2.2.2.2.1 := by
  unfold lkM
  rw [if_pos h]
theorem lkI_no (h : (stN C (M.2.2 T).2.2.1).2.2.2.2.2.2.2.1 = none) : (lkI C M T).2 = (stN C (M.2.2 T).2.2.1).2.2.2.2.1 := by
  unfold lkI
  rw [h]
theorem ch_lt (h : ch ∈ chM C w M) : ¬ ch.2.1 = none → ch.2.2 = none := by
  unfold chM at h
  obtain ⟨t, ht, h⟩ := List.mem_flatMap.mp h
  unfold ch1 at h
  rcases List.mem_append.mp h with h | h
  · by_cases c : canM C w M t
    · rw [if_pos c] at h
      by_cases c8 : soM C (M.2.2 t) = 8 ∧ (stN C (M.2.2 t).2.2.1).2.2.2.2.2.2.1 = false ∧ (M.2.1 (obM C (M.2.2 t).2.2.1)).1 = t + 1 ∧ ¬ waM C M (obM C (M.2.2 t).2.2.1) = []
      · rw [if_pos c8] at h
        obtain ⟨u, hu, e⟩ := List.mem_map.mp h
        subst e
        exact fun z => absurd rfl z
      · rw [if_neg c8] at h
        cases List.mem_singleton.mp h
        exact fun z => absurd rfl z
    · rw [if_neg c] at h; cases h
  · obtain ⟨u, hu, e⟩ := List.mem_map.mp h
    subst e
    exact fun _ => rfl
end PCH
section KCI
variable {G : kG} {q : kP} {d : Nat} {x y w w' : gd} {Fv : gd → Prop} {P : Option gv → gd → Prop} {X : String → gd → Prop} {C : gCo} {wr n : Nat} {lm : Nat → Nat}
theorem kh_what (hq : kV q) (l n : Int32) (hO : ¬ (0 ≤ l.toInt ∧ l.toInt < n.toInt) → X iOE x) (h : 0 ≤ l.toInt → l.toInt < n.toInt → Fv x) : KE G q (d + 6) zk_X11_needWhat 0 [(0, vi l), (1, vi n)] [] x (rv Fv) X := by
  have k0 : (0 : Int32).toInt = 0 := rfl
  refine kg_X11_needWhat_0 hq l n ⟨fun c => kg_X11_needWhat_9 hq (hO ?_), fun c => ⟨fun c2 => rv_i (h ?_ ?_), fun c2 => kg_X11_needWhat_9 hq (hO ?_)⟩⟩
  · rw [t_lt, k0] at c; omega
  · rw [t_lt, k0] at c; omega
  · rw [t_lt] at c2; exact c2
  · rw [t_lt] at c2; omega
theorem kch_4 {x : gd} {o I : Nat} {ch : gCh} (h : kch x o I ch) : x.1 (o + 13) I = opI ch.2.2 := by
  obtain ⟨-, -, -, h4, h5⟩ := h
  cases e : ch.2.2 with
  | none => exact h4 e
  | some k => exact h5 k e
theorem ka_choice (h : JH C wr n lm x w) (hq : kV q) (hH : HOI x q) (l1 l2 : Int32) (hX1 : e1Ch x → X iSE x) (hX2 : e2Ci x l1 l2 → X iOE x) (hP : ¬ e1Ch x → ¬ e2Ci x l1 l2 → ∀ r y, HOI y q → sCi C wr n (c96 w) x l1 l2 r y → P (some (vi r)) y) : KE G q (d + 7) zk_X11_choice 0 [(0, vr 0), (1, vi l1), (2, vi l2)] [] x P X := by
  have hm : kiM q 120 := Or.inl rfl
  have k5 : (5 : Int32).toInt = 5 := rfl
  refine kg_X11_choice_0 hq l1 l2 (kh_run hq hH hX1 (fun h10 hR => kh_ix hq l1 _ (fun hn => hX2 ⟨h10, fun z => hn z.1⟩) (fun l0 l9 => kh_what hq l2 5 (fun hn => hX2 ⟨h10, fun z => hn (by rw [k5]; exact z.2)⟩) (fun g0 g9 => ?_))))
  rw [k5] at g9
  obtain ⟨j, r, -, -⟩ := JH_R h h10
  have gc := JH_gc h hH
  obtain ⟨M, eM⟩ : ∃ M, M = runM C wr (c96 w) n := ⟨_, rfl⟩
  have hP := hP h10 (fun z => z.2 ⟨⟨l0, l9⟩, g0, g9⟩)
  unfold sCi chR at hP
  rw [← eM] at hP
  obtain ⟨-, ⟨r2, r3, r4⟩, -⟩ := r
  rw [← eM] at r2 r3 r4
  have len := r4.1
  have len : (x.1 120 13).toInt = ((chM C wr M).length : Nat) := len
  have hl : l1.toInt.toNat < (chM C wr M).length := by omega
  obtain ⟨ch, hch⟩ : ∃ ch, (chM C wr M)[l1.toInt.toNat]? = some ch := ⟨_, List.getElem?_eq_getElem hl⟩
  have kc := r4.2 _ _ hch
  have cm := List.mem_of_getElem? hch
  obtain ⟨i1, i2, i3⟩ := ch_in cm
  have b84 := hR.2.1.1
  have v84 : vp_in l1 84 := by rw [vp_in_iff]; omega
  have e131 : x.1 131 l1.toInt.toNat = Int32.ofNat ch.1 := kc.1
  have e133 : x.1 133 l1.toInt.toNat = opI ch.2.2 := kch_4 kc
  have e132n : ch.2.1 = none → x.1 132 l1.toInt.toNat = -1 := kc.2.1
  have e132s : ∀ j, ch.2.1 = some j → x.1 132 l1.toInt.toNat = Int32.ofNat j := kc.2.2.1
  have e10 : (x.1 60 10).toInt = (C.2.1.length : Nat) := j.2.1.2.1.1
  have hT6 := MM_6 hR.1.1 (t := ch.1) (by omega)
  have hA := (hR.1.2.2 ch.1 (by omega)).1
  have gT := r2.2 ch.1 i1
  have eT : (x.1 131 l1.toInt.toNat).toInt = (ch.1 : Nat) := by rw [e131]; exact Int32.toInt_ofNat_of_lt (by omega)
  have q7 := gT.2.2.2.2.2.2.1
  have lt8 := hA.2.1
  have late : ∀ jj, ch.2.1 = some jj → jj < 8 ∧ ¬ x.1 132 l1.toInt.toNat = -1 ∧ (x.1 132 l1.toInt.toNat).toInt = (jj : Nat) := fun jj hj => by
    have h8 := i3 jj hj
    have : jj < 8 := by omega
    have e9 := e132s jj hj
    have e8 : (Int32.ofNat jj).toInt = (jj : Nat) := Int32.toInt_ofNat_of_lt (by omega)
    refine ⟨this, fun z => ?_, by rw [e9]; exact e8⟩
    rw [e9] at z
    rw [z, tm1] at e8
    omega
  have nn : ¬ x.1 132 l1.toInt.toNat = -1 ↔ ¬ ch.2.1 = none := ⟨fun a b => a (e132n b), fun a => by
    cases hc : ch.2.1 with
    | none => exact absurd hc a
    | some jj => exact (late jj hc).2.1⟩
  have here : ∀ r, r = chVal C wr M ch l2 → P (some (vi r)) x := fun r er => hP r x hH ⟨⟨ch, hch, er⟩, KR_rf⟩
  have n1 : ∀ {a b : Int32}, ¬ a = b → l2 = a → ¬ l2 = b := fun h e z => h (e.symm.trans z)
  rw [t_cl]
  refine ⟨v84, v84, fun c => here _ ?_, fun c => ⟨fun z => here _ ?_, fun z => here _ ?_⟩, fun c => ⟨fun z => here _ ?_, fun z => ?_⟩, fun c => ⟨fun z => ?_, fun z => ?_⟩, fun c => ⟨v84, here _ ?_⟩⟩
  · unfold chVal; rw [if_pos c]; exact e131
  · unfold chVal; rw [if_neg (n1 (by decide) c), if_pos c, if_neg (nn.mp z)]
  · unfold chVal; rw [if_neg (n1 (by decide) c), if_pos c, if_pos (Classical.not_not.mp (fun a => nn.mpr a z))]
  · unfold chVal; rw [if_neg (n1 (by decide) c), if_neg (n1 (by decide) c), if_pos c, if_neg (nn.mp z)]
  · have cn : ch.2.1 = none := Classical.not_not.mp (fun a => nn.mpr a z)
    have ev : chVal C wr M ch l2 = Int32.ofNat (soM C (M.2.2 ch.1)) := by unfold chVal; rw [if_neg (n1 (by decide) c), if_neg (n1 (by decide) c), if_pos c, if_pos cn]
    obtain ⟨st, s1, s2, s3, s4, s5, kn, ns⟩ := kst_at hR.1 j.2.1 gc.1.1 i1 gT
    have w3 := kst_w3 hR.1 j.2.1 gc.1.1 i1 gT
    refine kp_sortOf hq hm hR.1.1 hR.1.2.1 _ eT hT6 hA (fun c3 => here _ ?_) (fun c3 => here _ ?_)
    · rw [ev, s3]
      unfold soM
      rw [if_pos (w3.mp c3), s2]
      exact kn.1
    · rw [ev]
      unfold soM
      rw [if_neg (fun z9 => c3 (w3.mpr z9))]
      rfl
  · obtain ⟨jj, hj⟩ : ∃ jj, ch.2.1 = some jj := by
      cases hc : ch.2.1 with
      | none => exact absurd hc (nn.mp z)
      | some jj => exact ⟨jj, rfl⟩
    obtain ⟨j8, -, ej⟩ := late jj hj
    have h8 := i3 jj hj
    have hg := List.getElem?_eq_getElem h8
    have qq := (q7.2 jj _ hg).1
    refine kp_lateCell hq hm hR.1.1 hR.1.2.1 _ _ eT hT6 ej j8 (here _ ?_)
    unfold chVal
    rw [if_neg (n1 (by decide) c), if_neg (n1 (by decide) c), if_neg (n1 (by decide) c), if_pos c, if_neg (nn.mp z), hj]
    show _ = Int32.ofNat (((M.2.2 ch.1).2.2.2.2.2.2.1[jj]?).getD (0, 0)).1
    rw [hg]
    exact i32_of qq
  · have cn : ch.2.1 = none := Classical.not_not.mp (fun a => nn.mpr a z)
    have ev : chVal C wr M ch l2 = (lkM C wr M ch.1).2.1 := by unfold chVal; rw [if_neg (n1 (by decide) c), if_neg (n1 (by decide) c), if_neg (n1 (by decide) c), if_pos c, if_pos cn]
    obtain ⟨st, s1, s2, s3, s4, s5, kn, ns⟩ := kst_at hR.1 j.2.1 gc.1.1 i1 gT
    have u1 := (i2 cn).1
    have tg := (hR.1.2.2 ch.1 (by omega)).2 (by rw [gT.1.1, u1]; rfl)
    rw [s3] at tg
    have o16 : st.1 < 16 := by have := tg.1; omega
    refine kh_objectOf hq hm hR.1 j.2.1 gc.1.1 r2 _ eT i1 u1 (fun r9 y9 fy a1 a2 => ?_)
    have fk : KRd x y9 := fm_w fy (fun c k q => by unfold sLk at q; unfold sRd; omega)
    refine hP r9 y9 (HOI_run (fm_w fy (fun c k => rn_Lk)) (RUN_Lk fy hR) hH) ⟨⟨ch, hch, ?_⟩, fk⟩
    rw [ev]
    by_cases so : soM C (M.2.2 ch.1) ≤ 4
    · have w0 : (M.2.2 ch.1).2.2.2.1 = 0 := by
        apply Classical.byContradiction
        intro z9
        unfold soM at so
        rw [if_neg z9] at so
        omega
      rw [lkM_0 w0]
      rcases a1 so with ⟨-, b2, -⟩ | ⟨b1, b2⟩
      · exact b2
      · rw [b2, lkI_m1 b1]
    · have r9e : r9 = st.2.2.2.2.1 := by
        rcases a2 so with b | b
        · rw [b, s2]
        · rw [s2] at b; omega
      by_cases w0 : (M.2.2 ch.1).2.2.2.1 = 0
      · have ix : st.2.2.2.2.2.2.2.1 = none := by
          apply Classical.byContradiction
          intro z9
          have := (gc.1.2.1 _ st s1).1 z9
          unfold soM at so
          rw [if_pos w0, s2] at so
          omega
        rw [lkM_0 w0, lkI_no (by rw [s2]; exact ix), s2]; exact r9e
      · rw [lkM_w w0, s2]; exact r9e
  · unfold chVal
    rw [if_neg (c 0 (by decide)), if_neg (c 1 (by decide)), if_neg (c 2 (by decide)), if_neg (c 3 (by decide))]
    exact e133
theorem ja_choice {l1 l2 r9 r : Int32} (h : JH C wr n lm x w) (hH : HOI y q) (k : ansK (e1Ch x) (e2Ci x l1 l2) (sCi C wr n (c96 w) x l1 l2) x r9 y) (m : ansM C wr (f1Ch w) (f2Ci w l1 l2) (tCi C wr n w l1 l2) w r w') : JR3 y w' ∧ ansE r9 r y w' := by
  have e9 := JH_10 h
  refine ans_eq h hH e9 ⟨fun z => ⟨fun a => z.1 (e9.mpr a), by rw [← JH_84 h z.1]; exact z.2⟩, fun z => ⟨fun a => z.1 (e9.mp a), by rw [JH_84 h (fun a => z.1 (e9.mp a))]; exact z.2⟩⟩ (fun a z => z.1 a) k m (fun c _ r' s t => ⟨JQ_rd h hH s.2 t.2, chR_eq s.1 t.1⟩)
end KCI
section MCI
variable {G : mG} {d D : Nat} {x w : gd} {F : Int32 → gd → Prop} {C : gCo} {wr n : Nat} {lm : Nat → Nat} {q : kP}
theorem ma_choice (h : JH C wr n lm x w) (hH : HOI x q) (hm : MI w) (i k : Int32) (hD : 4 ≤ D) (hF : ∀ r w', ansM C wr (f1Ch w) (f2Ci w i k) (tCi C wr n w i k) w r w' → F r w') : MT G D z_choice 0 [(0, vr 0), (1, vi i), (2, vi k)] [] w (ri F) := by
  obtain ⟨D, rfl⟩ : ∃ D', D = D' + 2 := ⟨D - 2, by omega⟩
  have k0 : (0 : Int32).toInt = 0 := rfl
  refine sg_choice_0 _ _ (fun y e => ?_)
  have hy := z0_s e
  have e67 : y.1 0 67 = w.1 0 67 := hy.1.1 67 (by decide)
  have qy := (MI_0 hy.1 hm).1
  refine sc_noRunk hy (fun hr => ⟨fun q => absurd rfl q, fun _ => ?_⟩) (fun c y' m => ⟨fun _ => ri_i (hF _ y' (an_1 hm (show w.1 0 67 = 0 by rw [← e67]; exact c) m)), fun q => absurd q (by decide)⟩)
  have hc := (qy.2.2.1 hr).1
  rw [e67] at hr
  obtain ⟨-, hh, e94⟩ := JH_M h hr
  have gc := (JH_gc h hH).1
  have w01 := HistC_w hh
  have e84w : y.1 0 84 = w.1 0 84 := hy.1.1 84 (by decide)
  obtain ⟨s, n', q1, q2, q3, q4, q5, q6, q7⟩ := HistC_0 hy.1 hh
  have cy : c96 y = c96 w := by unfold c96; rw [hy.1.2 96 (by decide) (by simp)]
  have en : n' = n := by rw [hy.1.1 94 (by decide), e94] at q1; omega
  subst en
  have am := q2 n' (Nat.le_refl _)
  rw [cy] at am
  obtain ⟨M, eM⟩ : ∃ M, M = runM C wr (c96 w) n' := ⟨_, rfl⟩
  rw [← eM] at am
  have hF := hF
  unfold tCi chR at hF
  rw [← eM] at hF
  have av := am.1
  have e84 : y.1 0 84 = (s n').1 0 84 := q4 0 84 (Or.inr (Or.inl ⟨rfl, rfl⟩))
  have c0 := av.2.2.2.1
  have c84 := av.2.2.2.2.1
  have len := AM_n am
  have p41 : ∀ b : Int32, (b = 0 → inCh (y.1 0 84).toInt i k) → (¬ b = 0 → ¬ inCh (y.1 0 84).toInt i k) → MT G (D + 2) z_choice 41 [(0, vr 0), (1, vi i), (2, vi k)] [vi b, vr 0] y (ri F) := by
    intro b hb hb2
    refine sg_choice_41 _ _ _ (sc_refk b 2 hy (by decide) (fun b0 => ⟨fun _ => ?_, fun q => absurd rfl q⟩) (fun nb y' m => ⟨fun q => absurd q (by decide), fun _ => ri_i (hF _ y' (an_2 hm ⟨hr, by rw [← e84w]; exact hb2 nb⟩ m))⟩))
    have hin := hb b0
    have nE2 : ¬ f2Ci w i k := fun z => z.2 (by rw [← e84w]; exact hin)
    obtain ⟨hi, hk⟩ := hin
    rw [e84] at hi
    have ci := cl_i hi.1
    have iv : vp_in i 200 := by rw [vp_in_iff]; omega
    have hl : i.toInt.toNat < (chM C wr M).length := by omega
    obtain ⟨ch, hch⟩ : ∃ ch, (chM C wr M)[i.toInt.toNat]? = some ch := ⟨_, List.getElem?_eq_getElem hl⟩
    have cm := List.mem_of_getElem? hch
    obtain ⟨j1, j2, j3⟩ := ch_in cm
    obtain ⟨m86, m87, m88⟩ := am.2.2.2.2.2.2 _ _ hch
    obtain ⟨u86, u87, u88, ⟨t0, t6⟩, co⟩ := av.2.2.1 i.toNatClampNeg (by omega)
    have e86 := q4 _ _ (Or.inr u86)
    have e87 := q4 _ _ (Or.inr u87)
    have e88 := q4 _ _ (Or.inr u88)
    rw [t_cl] at e86 e87 e88
    rw [m86] at e86
    rw [m87] at e87
    rw [m88] at e88
    have lt6 : ch.1 < 6 := by have := gc.2.2; omega
    have e6 : (Int32.ofNat ch.1).toInt = (ch.1 : Nat) := Int32.toInt_ofNat_of_lt (by omega)
    have tv : vp_in (Int32.ofNat ch.1) 6 := by rw [vp_in_iff]; omega
    have ct : (Int32.ofNat ch.1).toNatClampNeg = ch.1 := by rw [t_cl, e6]; rfl
    have rr := (av.1.2 ch.1 lt6)
    have a74 : vp_in (y.1 74 (Int32.ofNat ch.1).toNatClampNeg) 1500 := by
      rw [ct, cA q4 (c := 74) (n := 6) (by decide) lt6, vp_in_iff]
      exact ⟨rr.1.1, rr.1.2.1⟩
    have lq := (am.2.2.1.2.2 ch.1 lt6).2.2.2.2.2.2.2.2.1
    have op8 : ∀ jj, jj < 9 → ¬ Int32.ofNat jj = -1 := by decide +kernel
    have lt9 : ∀ jj, ch.2.1 = some jj → jj < 8 := fun jj hj => by
      have := j3 jj hj
      have := lq.1
      have := rr.2.2.2.1
      omega
    have nn : y.1 87 i.toInt.toNat = -1 ↔ ch.2.1 = none := by
      rw [e87]
      cases hcc : ch.2.1 with
      | none => exact ⟨fun _ => rfl, fun _ => rfl⟩
      | some jj => exact ⟨fun z => absurd z (op8 jj (by have := lt9 jj hcc; omega)), fun z => nomatch z⟩
    have ok : ∀ r, r = chVal C wr M ch k → ri F (some (vi r)) y := fun r er => ri_i (hF _ y (an_3 qy hr nE2 hy.2 ⟨⟨ch, hch, er⟩, rd_0 hy.1 hm⟩))
    have n1 : ∀ {a b : Int32}, ¬ a = b → k = a → ¬ k = b := fun h e z => h (e.symm.trans z)
    rw [t_cl]
    refine ⟨iv, iv, fun n0 => ⟨fun c => ?_, fun c => ?_⟩, fun z0' => ok _ ?_⟩
    · have cn := nn.mp c
      refine ⟨fun n3 => ⟨fun n1' => ⟨fun n2 => ⟨iv, ok _ ?_⟩, fun e2 => ?_⟩, fun e1 => ok _ ?_⟩, fun e3 => ?_⟩
      · unfold chVal; rw [if_neg n0, if_neg n1', if_neg n2, if_neg n3]; exact e88
      · have u1 := (j2 cn).1
        have h1 : (s n').1 73 ch.1 = 1 := by rw [(am.2.2.1.2.2 ch.1 lt6).1, u1]; rfl
        have h2 : ¬ (s n').1 77 ch.1 = 1 := fun z => (j2 cn).2.1 (by
          have e77 := (am.2.2.1.2.2 ch.1 lt6).2.2.2.2.1
          have l77 := (am.2.2.1.2.2 ch.1 lt6).2.2.2.2.2.1
          rw [e77] at z
          exact (wai_2 _ (by omega)).2.1.mp z)
        rw [e86]
        refine sp_sortOf _ tv a74 ?_
        rw [ct, srt_eq (eqS_w (Sl_Sm _) q4) av.1 lt6, (srt_so gc.1 am lt6 h1 h2).1]
        exact ok _ (by unfold chVal; rw [if_neg n0, if_neg (n1 (by decide) e2), if_pos e2, if_pos cn])
      · unfold chVal; rw [if_neg n0, if_pos e1, if_pos cn]
      · have u1 := (j2 cn).1
        have h1 : (s n').1 73 ch.1 = 1 := by rw [(am.2.2.1.2.2 ch.1 lt6).1, u1]; rfl
        have h2 : ¬ (s n').1 77 ch.1 = 1 := fun z => (j2 cn).2.1 (by
          have e77 := (am.2.2.1.2.2 ch.1 lt6).2.2.2.2.1
          have l77 := (am.2.2.1.2.2 ch.1 lt6).2.2.2.2.2.1
          rw [e77] at z
          exact (wai_2 _ (by omega)).2.1.mp z)
        rw [e86]
        refine sp_lookAt3 gc.1 gc.2.1 w01 am q4 _ tv (by rw [ct]; exact h1) (by rw [ct]; exact h2) (by omega) (fun y' x' e' m' _ _ _ _ v88 => ri_i (hF _ y' ?_))
        rw [ct] at v88
        have mm := mi_of m'
        have cy' : c96 y' = c96 y := by unfold c96; rw [mm.2 96 (by decide) (by decide)]
        have histc : HistC C wr y' := ⟨s, n', by rw [mm.1 94 (by decide)]; exact q1, by rw [cy']; exact q2, by rw [cy', mm.2 96 (by decide) (by decide)]; exact q3, e', by rw [mm.1 68 (by decide)]; exact St_pr (prE_mi (prE_rf y) mm rfl rfl) q5, by rw [mm.1 68 (by decide)]; exact q6, HA_mi mm rfl rfl q7⟩
        have p := MI_new mm rfl rfl hc (HistC_H histc) qy
        refine an_3 p.1 hr nE2 (by rw [mm.1 0 (by decide)]; exact hy.2) ⟨⟨ch, hch, ?_⟩, rd_tr hy.1 ⟨p, ⟨mm.1 67 (by decide), mm.1 94 (by decide), mm.2 96 (by decide) (by decide)⟩, mm.2 119 (by decide) (by decide), fun _ => histc, fun w T h => TYc_mi mm rfl rfl h⟩⟩
        rw [v88]
        unfold chVal
        rw [if_neg n0, if_neg (n1 (by decide) e3), if_neg (n1 (by decide) e3), if_pos e3, if_pos cn]
    · have cs : ¬ ch.2.1 = none := fun z => c (nn.mpr z)
      obtain ⟨jj, hj⟩ : ∃ jj, ch.2.1 = some jj := by
        cases hcc : ch.2.1 with
        | none => exact absurd hcc cs
        | some jj => exact ⟨jj, rfl⟩
      have h8 := lt9 jj hj
      have ej : y.1 87 i.toInt.toNat = Int32.ofNat jj := by rw [e87, hj]; rfl
      have ejj : (Int32.ofNat jj).toInt = (jj : Nat) := Int32.toInt_ofNat_of_lt (by omega)
      refine ⟨fun e1 => ok _ ?_, fun n1' => ⟨fun n2 => ⟨fun n3 => ok _ ?_, fun e3 => ?_⟩, fun e2 => ok _ ?_⟩⟩
      · unfold chVal; rw [if_neg n0, if_pos e1, if_neg cs]
      · unfold chVal; rw [if_neg n0, if_neg n1', if_neg n2, if_neg n3, ch_lt cm cs]; rfl
      · rw [e86, ej]
        obtain ⟨ta, tb⟩ := t10 tv (i := Int32.ofNat jj) (by omega) (by omega)
        refine ⟨ta, ok _ ?_⟩
        rw [tb, ct, t_cl, ejj]
        have hg := List.getElem?_eq_getElem (j3 jj hj)
        have b1 := (lq.2 jj _ hg).1
        have ey : y.1 81 (10 * ch.1 + jj) = (s n').1 81 (10 * ch.1 + jj) := q4 81 _ (Or.inr (Or.inr (Or.inr ⟨Or.inl rfl, ch.1, jj, lt6, by rw [lq.1]; have := j3 jj hj; omega, rfl⟩)))
        unfold chVal
        rw [if_neg n0, if_neg n1', if_neg n2, if_pos e3, if_neg cs, hj]
        show y.1 81 (10 * ch.1 + ((jj : Nat) : Int).toNat) = Int32.ofNat (((M.2.2 ch.1).2.2.2.2.2.2.1[jj]?).getD (0, 0)).1
        rw [hg, Int.toNat_natCast, ey]
        exact b1
      · unfold chVal; rw [if_neg n0, if_neg n1', if_pos e2, if_neg cs]
    · unfold chVal; rw [if_pos z0', e86]
  refine sp_in _ _ _ ⟨fun c1 => p41 1 (fun q => absurd q (by decide)) (fun _ z => in_ge (bi_eq.mp c1) (by rw [e84]; exact c0) z.1), fun c1 => sp_in _ _ _ ⟨fun c2 => p41 0 (fun _ => ⟨in_lt (bi_ne.mp c1) (by rw [e84]; exact c0), ?_⟩) (fun z => absurd rfl z), fun c2 => p41 1 (fun q => absurd q (by decide)) (fun _ z => ?_)⟩⟩
  · obtain ⟨a1, a2⟩ := bi_ne.mp c2
    have k4 : (4 : Int32).toInt = 4 := rfl
    rw [t_le, k0] at a1
    rw [t_le, k4] at a2
    omega
  · have k4 : (4 : Int32).toInt = 4 := rfl
    have := z.2
    exact bi_eq.mp c2 ⟨t_le.mpr (by rw [k0]; exact z.2.1), t_le.mpr (by rw [k4]; omega)⟩
end MCI
end
section
/-! tried, common: what a trying tells of all its states -/
/-- the number that tried(way, what) tells -/
noncomputable def trN (C : gCo) (nl wn : Nat) (T : gTy) (k : Nat) : Nat := match k with
  | 0 => T.1.length
  | 1 => if T.2 = true then 1 else 0
  | 2 => (loS C wn nl T T.1.length).1
  | 3 => (loS C wn nl T T.1.length).2.2.2.2.2.length
  | 4 => (loS C wn nl T T.1.length).2.1
  | _ => (loS C wn nl T T.1.length).2.2.1
abbrev e1Tr (l1 _l2 : Int32) : Prop := ¬ (l1 = 0 ∨ l1 = 1)
abbrev e2Tr (l1 l2 : Int32) : Prop := (l1 = 0 ∨ l1 = 1) ∧ ¬ (0 ≤ l2.toInt ∧ l2.toInt < 6)
def trV (tr : Nat → Prop) (C : gCo) (nl : Nat) (lm : Nat → Nat) (l1 l2 r : Int32) : Prop := ∃ wn : Nat, (wn = 0 ∨ wn = 1) ∧ l1 = Int32.ofNat wn ∧ ((tr wn ∧ r.toInt = (trN C nl wn (twM C lm wn) l2.toInt.toNat : Nat)) ∨ (¬ tr wn ∧ r = 0))
def sTd (C : gCo) (lm : Nat → Nat) (x : gd) (l1 l2 r : Int32) (y : gd) : Prop := trV (fun v => ¬ x.1 (260 + 20 * v) 0 = 0) C (x.1 60 9).toInt.toNat lm l1 l2 r ∧ KRd x y
def tTd (C : gCo) (lm : Nat → Nat) (wr : Nat) (w : gd) (l1 l2 r : Int32) (w' : gd) : Prop := trV (fun v => ¬ w.1 119 v = 0) C (w.1 0 24).toInt.toNat lm l1 l2 r ∧ rdM C wr w w'
theorem trV_eq {tr tr' : Nat → Prop} {C : gCo} {nl nl' : Nat} {lm : Nat → Nat} {l1 l2 r r' : Int32} (e : ∀ v, (v = 0 ∨ v = 1) → (tr v ↔ tr' v)) (en : ∀ v, (v = 0 ∨ v = 1) → tr v → nl = nl') (h : trV tr C nl lm l1 l2 r) (g : trV tr' C nl' lm l1 l2 r') : r = r' := by
  obtain ⟨wn, a1, a2, a3⟩ := h
  obtain ⟨wn', b1, b2, b3⟩ := g
  have ew := wn_eq b1 a1 b2 a2
  subst ew
  rcases a3 with ⟨c1, c2⟩ | ⟨c1, c2⟩
  · rcases b3 with ⟨d1, d2⟩ | ⟨d1, -⟩
    · rw [t_eq, c2, d2, en _ a1 c1]
    · exact absurd ((e _ a1).mp c1) d1
  · rcases b3 with ⟨d1, -⟩ | ⟨-, d2⟩
    · exact absurd ((e _ a1).mpr d1) c1
    · rw [c2, d2]
/-- the locks held at all accesses -/
abbrev e2Co (x : gd) (l1 l2 : Int32) : Prop := (l1 = 0 ∨ l1 = 1) ∧ ¬ (¬ x.1 0 9 = 0 ∧ 0 ≤ l2.toInt ∧ l2.toInt < (x.1 60 6).toInt)
abbrev f2Co (w : gd) (l1 l2 : Int32) : Prop := (l1 = 0 ∨ l1 = 1) ∧ ¬ (0 ≤ l2.toInt ∧ l2.toInt < (w.1 0 23).toInt)
def coV (tr : Nat → Prop) (C : gCo) (nl : Nat) (lm : Nat → Nat) (l1 l2 r : Int32) : Prop := ∃ wn : Nat, (wn = 0 ∨ wn = 1) ∧ l1 = Int32.ofNat wn ∧ ((tr wn ∧ r = (loS C wn nl (twM C lm wn) (twM C lm wn).1.length).2.2.2.1 l2.toInt.toNat) ∨ (¬ tr wn ∧ r = ((1 : Int32) <<< (Int32.ofNat nl &&& 31)) - 1))
def sCo (C : gCo) (lm : Nat → Nat) (x : gd) (l1 l2 r : Int32) (y : gd) : Prop := coV (fun v => ¬ x.1 (260 + 20 * v) 0 = 0) C (x.1 60 9).toInt.toNat lm l1 l2 r ∧ KRd x y
def tCo (C : gCo) (lm : Nat → Nat) (wr : Nat) (w : gd) (l1 l2 r : Int32) (w' : gd) : Prop := coV (fun v => ¬ w.1 119 v = 0) C (w.1 0 24).toInt.toNat lm l1 l2 r ∧ rdM C wr w w'
theorem coV_eq {tr tr' : Nat → Prop} {C : gCo} {nl : Nat} {lm : Nat → Nat} {l1 l2 r r' : Int32} (e : ∀ v, (v = 0 ∨ v = 1) → (tr v ↔ tr' v)) (h : coV tr C nl lm l1 l2 r) (g : coV tr' C nl lm l1 l2 r') : r = r' := by
  obtain ⟨wn, a1, a2, a3⟩ := h
  obtain ⟨wn', b1, b2, b3⟩ := g
  have ew := wn_eq b1 a1 b2 a2
  subst ew
  rcases a3 with ⟨c1, c2⟩ | ⟨c1, c2⟩
  · rcases b3 with ⟨d1, d2⟩ | ⟨d1, -⟩
    · rw [c2, d2]
    · exact absurd ((e _ a1).mp c1) d1
  · rcases b3 with ⟨d1, -⟩ | ⟨-, d2⟩
    · exact absurd ((e _ a1).mpr d1) c1
    · rw [c2, d2]
section KTD
variable {G : kG} {q : kP} {d : Nat} {x y w w' : gd} {P : Option gv → gd → Prop} {X : String → gd → Prop} {C : gCo} {wr n : Nat} {lm : Nat → Nat}
theorem JH_tr (h : JH C wr n lm x w) (v : Nat) (v01 : v = 0 ∨ v = 1) : (¬ x.1 (260 + 20 * v) 0 = 0) ↔ (¬ w.1 119 v = 0) := ⟨fun a b => a ((JH_T h v v01).1.mpr b), fun a b => a ((JH_T h v v01).1.mp b)⟩
theorem ja_tried {l1 l2 r9 r : Int32} (h : JH C wr n lm x w) (hH : HOI y q) (k : ansK (e1Tr l1 l2) (e2Tr l1 l2) (sTd C lm x l1 l2) x r9 y) (m : ansM C wr (e1Tr l1 l2) (e2Tr l1 l2) (tTd C lm wr w l1 l2) w r w') : JR3 y w' ∧ ansE r9 r y w' :=
  ans_eq h hH Iff.rfl Iff.rfl (fun a z => a z.1) k m (fun c _ r' s t => ⟨JQ_rd h hH s.2 t.2, trV_eq (JH_tr h) (fun v v01 tr => by rw [((JH_T h v v01).2 tr).1.1.2.2.2.1]) s.1 t.1⟩)
theorem ka_tried (h : JH C wr n lm x w) (hq : kV q) (hH : HOI x q) (l1 l2 : Int32) (hX1 : e1Tr l1 l2 → X iAE x) (hX2 : e2Tr l1 l2 → X iOE x) (hP : ¬ e1Tr l1 l2 → ¬ e2Tr l1 l2 → ∀ r y, HOI y q → sTd C lm x l1 l2 r y → P (some (vi r)) y) : KE G q (d + 7) zk_X11_tried 0 [(0, vr 0), (1, vi l1), (2, vi l2)] [] x P X := by
  have k6 : (6 : Int32).toInt = 6 := rfl
  refine kg_X11_tried_0 hq l1 l2 (kf_way hq l1 (fun z => hX1 z) (fun hw => kh_what hq l2 6 (fun hn => hX2 ⟨hw, by rw [k6] at hn; exact hn⟩) (fun l0 l6 => ?_)))
  rw [k6] at l6
  obtain ⟨v, w01, ew, ewn⟩ := w_nat hw
  have hP := hP (fun z => z hw) (fun z => z.2 ⟨l0, l6⟩)
  refine kh_was (w := v) hq hH l1 w01 ew (fun c0 => ⟨fun c => absurd rfl c, fun _ => hP _ x hH ⟨⟨v, w01, ew, Or.inr ⟨fun z => z c0, rfl⟩⟩, KR_rf⟩⟩) (fun e7 ho hz hC nz => ⟨fun _ => ⟨way_in hw, fun u5 e5 => ⟨260 + 20 * v, by rw [e5, ewn, e7], ho, ?_⟩⟩, fun c => absurd c (by decide)⟩)
  obtain ⟨-, ⟨⟨⟨t0, t1⟩, -, -⟩, s1, s2, s3, -, -, s6⟩, -⟩ := (JH_T h v w01).2 nz
  have go : ∀ r : Int32, r.toInt = (trN C (x.1 60 9).toInt.toNat v (twM C lm v) l2.toInt.toNat : Nat) → P (some (vi r)) x := fun r hr => hP _ x hH ⟨⟨v, w01, ew, Or.inl ⟨nz, hr⟩⟩, KR_rf⟩
  refine ⟨fun e => go _ ?_, fun e => ⟨fun p0 => go _ ?_, fun p1 => go _ ?_⟩, fun e => go _ ?_, fun e => go _ ?_, fun e => go _ ?_, fun e => go _ ?_⟩
  · rw [e]; exact t0
  · rw [e]
    show (0 : Int32).toInt = ((if (twM C lm v).2 = true then 1 else 0 : Nat) : Int)
    by_cases c : (twM C lm v).2 = true
    · have t1 : x.1 (260 + 20 * v) 1 = if (twM C lm v).2 = true then 1 else 0 := t1
      rw [if_pos c, p0] at t1; exact absurd t1 (by decide)
    · rw [if_neg c]; rfl
  · rw [e]
    show (1 : Int32).toInt = ((if (twM C lm v).2 = true then 1 else 0 : Nat) : Int)
    by_cases c : (twM C lm v).2 = true
    · rw [if_pos c]; rfl
    · have t1 : x.1 (260 + 20 * v) 1 = if (twM C lm v).2 = true then 1 else 0 := t1
      rw [if_neg c] at t1; exact absurd t1 p1
  · rw [e]; exact s1
  · rw [e]; exact s6
  · rw [e]; exact s2
  · have n5 : l2.toInt.toNat = 5 := by
      have k0 : (0 : Int32).toInt = 0 := rfl
      have k1 : (1 : Int32).toInt = 1 := rfl
      have k2 : (2 : Int32).toInt = 2 := rfl
      have k3 : (3 : Int32).toInt = 3 := rfl
      have k4 : (4 : Int32).toInt = 4 := rfl
      have n0 : ¬ l2.toInt = 0 := fun z => e 0 (by decide) (t_eq.mpr (by rw [k0]; exact z))
      have n1 : ¬ l2.toInt = 1 := fun z => e 1 (by decide) (t_eq.mpr (by rw [k1]; exact z))
      have n2 : ¬ l2.toInt = 2 := fun z => e 2 (by decide) (t_eq.mpr (by rw [k2]; exact z))
      have n3 : ¬ l2.toInt = 3 := fun z => e 3 (by decide) (t_eq.mpr (by rw [k3]; exact z))
      have n4 : ¬ l2.toInt = 4 := fun z => e 4 (by decide) (t_eq.mpr (by rw [k4]; exact z))
      clear e
      omega
    rw [n5]; exact s3
theorem JH_23 (h : JH C wr n lm x w) : (¬ x.1 0 9 = 0 ∧ x.1 60 6 = w.1 0 23 ∧ x.1 60 9 = w.1 0 24) ∨ (x.1 0 9 = 0 ∧ w.1 0 23 = 0) := by
  obtain ⟨-, ⟨⟨a, -, z⟩, -⟩ | ⟨j, -⟩⟩ := h
  · exact Or.inr ⟨a, z.1⟩
  · exact Or.inl ⟨j.1.1, j.1.2.2.1, j.1.2.2.2.1⟩
theorem co_iff {l1 l2 : Int32} (h : JH C wr n lm x w) : e2Co x l1 l2 ↔ f2Co w l1 l2 := by
  rcases JH_23 h with ⟨a, b, -⟩ | ⟨a, b⟩
  · exact ⟨fun z => ⟨z.1, fun z2 => z.2 ⟨a, by rw [b]; exact z2⟩⟩, fun z => ⟨z.1, fun z2 => z.2 (by rw [← b]; exact z2.2)⟩⟩
  · have k0 : (0 : Int32).toInt = 0 := rfl
    exact ⟨fun z => ⟨z.1, fun z2 => by rw [b, k0] at z2; omega⟩, fun z => ⟨z.1, fun z2 => z2.1 a⟩⟩
theorem ja_common {l1 l2 r9 r : Int32} (h : JH C wr n lm x w) (hH : HOI y q) (k : ansK (e1Tr l1 l2) (e2Co x l1 l2) (sCo C lm x l1 l2) x r9 y) (m : ansM C wr (e1Tr l1 l2) (f2Co w l1 l2) (tCo C lm wr w l1 l2) w r w') : JR3 y w' ∧ ansE r9 r y w' :=
  ans_eq h hH Iff.rfl (co_iff h) (fun a z => a z.1) k m (fun c1 c2 r' s t => ⟨JQ_rd h hH s.2 t.2, by
    have h9 : x.1 60 9 = w.1 0 24 := by
      rcases JH_23 h with ⟨-, -, e⟩ | ⟨e, -⟩
      · exact e
      · exact absurd ⟨Classical.byContradiction c1, fun z => z.1 e⟩ c2
    refine coV_eq (JH_tr h) s.1 ?_
    rw [h9]; exact t.1⟩)
theorem ka_common (h : JH C wr n lm x w) (hq : kV q) (hH : HOI x q) (l1 l2 : Int32) (hX1 : e1Tr l1 l2 → X iAE x) (hX2 : e2Co x l1 l2 → X iOE x) (hP : ¬ e1Tr l1 l2 → ¬ e2Co x l1 l2 → ∀ r y, HOI y q → sCo C lm x l1 l2 r y → P (some (vi r)) y) : KE G q (d + 7) zk_X11_common 0 [(0, vr 0), (1, vi l1), (2, vi l2)] [] x P X := by
  have k0 : (0 : Int32).toInt = 0 := rfl
  refine kg_X11_common_0 hq l1 l2 (kf_way hq l1 (fun z => hX1 z) (fun hw => ⟨fun c0 => kg_X11_common_23 hq l1 l2 _ _ (kh_ix hq l2 0 (fun _ => hX2 ⟨hw, fun z => z.1 c0⟩) (fun a b => ?_)), fun c9 => kg_X11_common_23 hq l1 l2 _ _ (kh_ix hq l2 _ (fun hn => hX2 ⟨hw, fun z => hn z.2⟩) (fun l0 l6 => ?_))⟩))
  · rw [k0] at b; omega
  obtain ⟨v, w01, ew, ewn⟩ := w_nat hw
  have hP := hP (fun z => z hw) (fun z => z.2 ⟨c9, l0, l6⟩)
  have hC := hH.2.1 c9
  have c6 := hC.1.1
  have b9 := hC.1.2.1
  refine kh_was (w := v) hq hH l1 w01 ew (fun c0 => ⟨fun _ => hP _ x hH ⟨⟨v, w01, ew, Or.inr ⟨fun z => z c0, ?_⟩⟩, KR_rf⟩, fun c => absurd rfl c⟩) (fun e7 ho hz hC nz => ⟨fun c => absurd c (by decide), fun _ => ⟨way_in hw, fun u5 e5 => ⟨260 + 20 * v, by rw [e5, ewn, e7], ho, by rw [vp_in_iff]; omega, ?_⟩⟩⟩)
  · rw [← i32_of (show (x.1 60 9).toInt = ((x.1 60 9).toInt.toNat : Nat) by omega)]
  obtain ⟨-, ⟨-, -, -, -, s4, -, -⟩, -⟩ := (JH_T h v w01).2 nz
  exact hP _ x hH ⟨⟨v, w01, ew, Or.inl ⟨nz, by rw [t_cl]; exact s4 _ (by omega)⟩⟩, KR_rf⟩
end KTD
section MTD
variable {G : mG} {d D : Nat} {x w : gd} {F : Int32 → gd → Prop} {C : gCo} {wr n : Nat} {lm : Nat → Nat} {q : kP}
theorem ma_tried (h : JH C wr n lm x w) (hH : HOI x q) (hm : MI w) (l1 l2 : Int32) (hD : 3 ≤ D) (hF : ∀ r w', ansM C wr (e1Tr l1 l2) (e2Tr l1 l2) (tTd C lm wr w l1 l2) w r w' → F r w') : MT G D z_tried 0 [(0, vr 0), (1, vi l1), (2, vi l2)] [] w (ri F) := by
  obtain ⟨D, rfl⟩ : ∃ D', D = D' + 1 := ⟨D - 1, by omega⟩
  have k0 : (0 : Int32).toInt = 0 := rfl
  have k5 : (5 : Int32).toInt = 5 := rfl
  refine sg_tried_0 _ _ (fun y e => ?_)
  have hy := z0_s e
  have qy := (MI_0 hy.1 hm).1
  have gy : ∀ c, ¬ c = 0 → y.1 c = w.1 c := fun c hc => hy.1.2 c hc (by simp)
  have p42 : vp_in l1 2 → (l1 = 0 ∨ l1 = 1) → ∀ b : Int32, (b = 0 → 0 ≤ l2.toInt ∧ l2.toInt < 6) → (¬ b = 0 → ¬ (0 ≤ l2.toInt ∧ l2.toInt < 6)) → MT G (D + 1) z_tried 42 [(0, vr 0), (1, vi l1), (2, vi l2)] [vi b, vr 0] y (ri F) := by
    intro wv hw b hb hb2
    obtain ⟨v, w01, ew, ewn⟩ := w_nat hw
    refine sg_tried_42 _ _ _ (sc_refk b 2 hy (by decide) (fun b0 => ⟨fun q => absurd rfl q, fun _ => ⟨wv, ?_⟩⟩) (fun nb y' m => ⟨fun _ => ri_i (hF _ y' (an_2 hm ⟨hw, hb2 nb⟩ m)), fun q => absurd q (by decide)⟩))
    obtain ⟨l0, l6⟩ := hb b0
    have ok : ∀ r, trV (fun v => ¬ w.1 119 v = 0) C (w.1 0 24).toInt.toNat lm l1 l2 r → ri F (some (vi r)) y := fun r hr => ri_i (hF _ y (an_3 qy (fun z => z hw) (fun z => z.2 ⟨l0, l6⟩) hy.2 ⟨hr, rd_0 hy.1 hm⟩))
    rw [ewn, gy 119 (by omega), gy 120 (by omega), gy 121 (by omega), gy 122 (by omega), gy 123 (by omega), gy 124 (by omega), gy 125 (by omega)]
    refine ⟨fun tr => ?_, fun t0 => ok _ ⟨v, w01, ew, Or.inr ⟨fun z => z t0, rfl⟩⟩⟩
    obtain ⟨⟨y0, -⟩, y1, y2, y4, y5, -, -, y3⟩ := ((JH_T h v w01).2 (fun z => tr ((JH_T h v w01).1.mp z))).2.2
    have go : ∀ r : Int32, r.toInt = (trN C (w.1 0 24).toInt.toNat v (twM C lm v) l2.toInt.toNat : Nat) → ri F (some (vi r)) y := fun r hr => ok r ⟨v, w01, ew, Or.inl ⟨tr, hr⟩⟩
    have one3 : ∀ b : Int32, (b = if (twM C lm v).2 = true then 1 else 0) → l2 = 1 → MT G D z_one 0 [(0, vi b)] [] y (ri (fun r17 x16 => ri F (some (vi r17)) x16)) := fun b hb e1 => sg_one_0 _ ⟨fun b0 => ri_i (go _ (by
      rw [e1]
      show (0 : Int32).toInt = ((if (twM C lm v).2 = true then 1 else 0 : Nat) : Int)
      by_cases c : (twM C lm v).2 = true
      · rw [if_pos c, b0] at hb; exact absurd hb (by decide)
      · rw [if_neg c]; rfl)), fun bn => ri_i (go _ (by
      rw [e1]
      show (1 : Int32).toInt = ((if (twM C lm v).2 = true then 1 else 0 : Nat) : Int)
      by_cases c : (twM C lm v).2 = true
      · rw [if_pos c]; rfl
      · rw [if_neg c] at hb; exact absurd hb bn))⟩
    refine ⟨fun n0 => ⟨fun n1 => ⟨fun n2 => ⟨fun n3 => ⟨fun n4 => ⟨wv, go _ ?_⟩, fun e4 => ⟨wv, go _ (by rw [e4]; exact y4)⟩⟩, fun e3 => ⟨wv, go _ (by rw [e3]; exact y3)⟩⟩, fun e2 => ⟨wv, go _ (by rw [e2]; exact y2)⟩⟩, fun e1 => ⟨wv, one3 _ y1 e1⟩⟩, fun e0 => ⟨wv, go _ (by rw [e0]; exact y0)⟩⟩
    have n5 : l2.toInt.toNat = 5 := by
      have k1 : (1 : Int32).toInt = 1 := rfl
      have k2 : (2 : Int32).toInt = 2 := rfl
      have k3 : (3 : Int32).toInt = 3 := rfl
      have k4 : (4 : Int32).toInt = 4 := rfl
      rw [t_eq] at n0 n1 n2 n3 n4
      omega
    rw [n5]; exact y5
  have p20 : ∀ b : Int32, (b = 0 → vp_in l1 2 ∧ (l1 = 0 ∨ l1 = 1)) → (¬ b = 0 → e1Tr l1 l2) → MT G (D + 1) z_tried 20 [(0, vr 0), (1, vi l1), (2, vi l2)] [vi b, vr 0] y (ri F) := fun b hb hb2 => sg_tried_20 _ _ _ (sc_refk b 1 hy (by decide) (fun b0 => ⟨fun q => absurd rfl q, fun _ => sp_in _ _ _ ⟨fun c => p42 (hb b0).1 (hb b0).2 0 (fun _ => by
      have := bi_ne.mp c
      rw [t_le, t_le, k0, k5] at this
      omega) (fun z => absurd rfl z), fun c => p42 (hb b0).1 (hb b0).2 1 (fun z => absurd z (by decide)) (fun _ z => bi_eq.mp c (by
      rw [t_le, t_le, k0, k5]
      omega))⟩⟩) (fun nb y' m => ⟨fun _ => ri_i (hF _ y' (an_1 hm (hb2 nb) m)), fun q => absurd q (by decide)⟩))
  refine sp_in _ _ _ ⟨fun c => p20 0 (fun _ => w_in (bi_ne.mp c)) (fun z => absurd rfl z), fun c => p20 1 (fun q => absurd q (by decide)) (fun _ hg => bi_eq.mp c ?_)⟩
  rcases hg with e9 | e9 <;> rw [e9]
  · exact ⟨by decide, by decide⟩
  · exact ⟨by decide, by decide⟩
theorem ma_common (h : JH C wr n lm x w) (hH : HOI x q) (hm : MI w) (l1 l2 : Int32) (hD : 3 ≤ D) (hF : ∀ r w', ansM C wr (e1Tr l1 l2) (f2Co w l1 l2) (tCo C lm wr w l1 l2) w r w' → F r w') : MT G D z_common 0 [(0, vr 0), (1, vi l1), (2, vi l2)] [] w (ri F) := by
  obtain ⟨D, rfl⟩ : ∃ D', D = D' + 1 := ⟨D - 1, by omega⟩
  have k0 : (0 : Int32).toInt = 0 := rfl
  have k1 : (1 : Int32).toInt = 1 := rfl
  refine sg_common_0 _ _ (fun y e => ?_)
  have hy := z0_s e
  have qy := (MI_0 hy.1 hm).1
  have gy : ∀ c, ¬ c = 0 → y.1 c = w.1 c := fun c hc => hy.1.2 c hc (by simp)
  have y23 : y.1 0 23 = w.1 0 23 := hy.1.1 23 (by decide)
  have y24 : y.1 0 24 = w.1 0 24 := hy.1.1 24 (by decide)
  have b23 : 0 ≤ (w.1 0 23).toInt ∧ (w.1 0 23).toInt ≤ 24 := by
    rcases JH_23 h with ⟨a, b, -⟩ | ⟨-, b⟩
    · have := (hH.2.1 a).1.1
      rw [← b]; exact this
    · rw [b, k0]; omega
  have e1 : (w.1 0 23 - 1).toInt = (w.1 0 23).toInt - 1 := by rw [t_sub (by rw [k1]; omega) (by rw [k1]; omega), k1]
  have p47 : vp_in l1 2 → (l1 = 0 ∨ l1 = 1) → ∀ b : Int32, (b = 0 → 0 ≤ l2.toInt ∧ l2.toInt < (w.1 0 23).toInt) → (¬ b = 0 → ¬ (0 ≤ l2.toInt ∧ l2.toInt < (w.1 0 23).toInt)) → MT G (D + 1) z_common 47 [(0, vr 0), (1, vi l1), (2, vi l2)] [vi b, vr 0] y (ri F) := by
    intro wv hw b hb hb2
    obtain ⟨v, w01, ew, ewn⟩ := w_nat hw
    refine sg_common_47 _ _ _ (sc_refk b 2 hy (by decide) (fun b0 => ⟨fun _ => ⟨wv, ?_⟩, fun q => absurd rfl q⟩) (fun nb y' m => ⟨fun q => absurd q (by decide), fun _ => ri_i (hF _ y' (an_2 hm ⟨hw, hb2 nb⟩ m))⟩))
    obtain ⟨l0, l6⟩ := hb b0
    have ok : ∀ r, coV (fun v => ¬ w.1 119 v = 0) C (w.1 0 24).toInt.toNat lm l1 l2 r → ri F (some (vi r)) y := fun r hr => ri_i (hF _ y (an_3 qy (fun z => z hw) (fun z => z.2 ⟨l0, l6⟩) hy.2 ⟨hr, rd_0 hy.1 hm⟩))
    obtain ⟨tv, te⟩ := tmul (k := 24) (K := 24) (N := 48) (n := 24) (w := l1) (i := l2) rfl wv l0 (by omega) (by omega) (by omega) (by omega)
    rw [ewn] at te
    rw [ewn, gy 119 (by omega), gy 127 (by omega), y24, te]
    have b24 : 0 ≤ (w.1 0 24).toInt := by
      rcases JH_23 h with ⟨a, -, b⟩ | ⟨-, b⟩
      · have := (hH.2.1 a).1.2.1
        rw [← b]; omega
      · rw [b, k0] at l6; omega
    refine ⟨fun t0 => ok _ ⟨v, w01, ew, Or.inr ⟨fun z => z t0, ?_⟩⟩, fun tr => ⟨tv, ok _ ⟨v, w01, ew, Or.inl ⟨tr, ?_⟩⟩⟩⟩
    · rw [← i32_of (show (w.1 0 24).toInt = ((w.1 0 24).toInt.toNat : Nat) by omega)]
    · obtain ⟨-, -, -, -, -, y6, -⟩ := ((JH_T h v w01).2 (fun z => tr ((JH_T h v w01).1.mp z))).2.2
      rw [t_cl]; exact y6 _ (by omega)
  have p20 : ∀ b : Int32, (b = 0 → vp_in l1 2 ∧ (l1 = 0 ∨ l1 = 1)) → (¬ b = 0 → e1Tr l1 l2) → MT G (D + 1) z_common 20 [(0, vr 0), (1, vi l1), (2, vi l2)] [vi b, vr 0] y (ri F) := by
    intro b hb hb2
    refine sg_common_20 _ _ _ (sc_refk b 1 hy (by decide) (fun b0 => ⟨fun q => absurd rfl q, fun _ => ?_⟩) (fun nb y' m => ⟨fun _ => ri_i (hF _ y' (an_1 hm (hb2 nb) m)), fun q => absurd q (by decide)⟩))
    rw [y23]
    refine sp_in _ _ _ ⟨fun c => p47 (hb b0).1 (hb b0).2 0 (fun _ => ?_) (fun z => absurd rfl z), fun c => p47 (hb b0).1 (hb b0).2 1 (fun z => absurd z (by decide)) (fun _ z => bi_eq.mp c ?_)⟩
    · have := bi_ne.mp c
      rw [t_le, t_le, k0, e1] at this
      omega
    · rw [t_le, t_le, k0, e1]
      omega
  refine sp_in _ _ _ ⟨fun c => p20 0 (fun _ => w_in (bi_ne.mp c)) (fun z => absurd rfl z), fun c => p20 1 (fun q => absurd q (by decide)) (fun _ hg => bi_eq.mp c ?_)⟩
  rcases hg with e9 | e9 <;> rw [e9]
  · exact ⟨by decide, by decide⟩
  · exact ⟨by decide, by decide⟩
end MTD
end
