section
/-! choice: what a choice is -/
noncomputable def chVal (C : gCo) (w : Nat) (M : gMa) (ch : gCh) (k : Int32) : Int32 :=
  if k = 0 then Int32.ofNat ch.1
  else if k = 1 then (if ch.2.1 = none then 0 else 1)
  else if k = 2 then (if ch.2.1 = none then Int32.ofNat (soM C (M.2.2 ch.1)) else 1)
  else if k = 3 then (if ch.2.1 = none then (lkM C w M ch.1).2.1 else Int32.ofNat (((M.2.2 ch.1).2.2.2.2.2.2.1[ch.2.1.getD 0]?).getD (0, 0)).1)
  else opI ch.2.2
abbrev inCh (nc : Int) (l1 l2 : Int32) : Prop := (0 ≤ l1.toInt ∧ l1.toInt < nc) ∧ 0 ≤ l2.toInt ∧ l2.toInt < 5
abbrev e2Ci (x : gd) (l1 l2 : Int32) : Prop := ¬ x.1 0 10 = 0 ∧ ¬ inCh (x.1 120 13).toInt l1 l2
def chR (C : gCo) (wr n : Nat) (c : Nat → Nat) (l1 l2 r : Int32) : Prop := ∃ ch, (chM C wr (runM C wr c n))[l1.toInt.toNat]? = some ch ∧ r = chVal C wr (runM C wr c n) ch l2
def sCi (C : gCo) (wr n : Nat) (c : Nat → Nat) (x : gd) (l1 l2 r : Int32) (y : gd) : Prop := chR C wr n c l1 l2 r ∧ KRd x y
abbrev f2Ci (w : gd) (l1 l2 : Int32) : Prop := ¬ w.1 0 67 = 0 ∧ ¬ inCh (w.1 0 84).toInt l1 l2
def tCi (C : gCo) (wr n : Nat) (w : gd) (l1 l2 r : Int32) (w' : gd) : Prop := chR C wr n (c96 w) l1 l2 r ∧ rdM C wr w w'
theorem chR_eq {C : gCo} {wr n : Nat} {c : Nat → Nat} {l1 l2 r r' : Int32} (h : chR C wr n c l1 l2 r) (g : chR C wr n c l1 l2 r') : r = r' := by
  obtain ⟨ch, a1, a2⟩ := h
  obtain ⟨ch', b1, b2⟩ := g
  rw [a1] at b1
  rw [a2, b2, Option.some.inj b1]
section PCH
variable {C : gCo} {w T : Nat} {M : gMa} {ch : gCh}
theorem lkI_m1 (h : ¬ (lkI C M T).1 = 0) : (lkI C M T).2 = -1 := by
  unfold lkI at h ⊢
  split
  · next e => rw [e] at h; exact absurd rfl h
  · next Q e =>
    simp only [e] at h
    split
    · rfl
    · next v e2 =>
      simp only [e2] at h
      split
      · rfl
      · next c => rw [if_neg c] at h; exact absurd rfl h
theorem lkM_0 (h : (M.2.2 T).2.2.2.1 = 0) : (lkM C w M T).2.1 = (lkI C M T).2 := by
  unfold lkM
  rw [if_neg (fun z => z h)]
  by_cases c : ¬ (lkI C M T).1 = 0
  · rw [if_pos c]
  · rw [if_neg c]
    split
    · rfl
    · split
      · rfl
      · rfl
theorem lkM_w (h : ¬ (M.2.2 T).2.2.2.1 = 0) : (lkM C w M T).2.1 = (stN C (M.2.2 T).2.2.1).2.2.2.2.1 := by
  unfold lkM
  rw [if_pos h]
theorem lkI_no (h : (stN C (M.2.2 T).2.2.1).2.2.2.2.2.2.2.1 = none) : (lkI C M T).2 = (stN C (M.2.2 T).2.2.1).2.2.2.2.1 := by
  unfold lkI
  rw [h]
theorem ch_lt (h : ch ∈ chM C w M) : ¬ ch.2.1 = none → ch.2.2 = none := by
  unfold chM at h
  obtain ⟨t, ht, h⟩ := List.mem_flatMap.mp h
  unfold ch1 at h
  rcases List.mem_append.mp h with h | h
  · by_cases c : canM C w M t
    · rw [if_pos c] at h
      by_cases c8 : soM C (M.2.2 t) = 8 ∧ (stN C (M.2.2 t).2.2.1).2.2.2.2.2.2.1 = false ∧ (M.2.1 (obM C (M.2.2 t).2.2.1)).1 = t + 1 ∧ ¬ waM C M (obM C (M.2.2 t).2.2.1) = []
      · rw [if_pos c8] at h
        obtain ⟨u, hu, e⟩ := List.mem_map.mp h
        subst e
        exact fun z => absurd rfl z
      · rw [if_neg c8] at h
        cases List.mem_singleton.mp h
        exact fun z => absurd rfl z
    · rw [if_neg c] at h; cases h
  · obtain ⟨u, hu, e⟩ := List.mem_map.mp h
    subst e
    exact fun _ => rfl
end PCH
section KCI
variable {G : kG} {q : kP} {d : Nat} {x y w w' : gd} {Fv : gd → Prop} {P : Option gv → gd → Prop} {X : String → gd → Prop} {C : gCo} {wr n : Nat} {lm : Nat → Nat}
theorem kh_what (hq : kV q) (l n : Int32) (hO : ¬ (0 ≤ l.toInt ∧ l.toInt < n.toInt) → X iOE x) (h : 0 ≤ l.toInt → l.toInt < n.toInt → Fv x) : KE G q (d + 6) zk_X11_needWhat 0 [(0, vi l), (1, vi n)] [] x (rv Fv) X := by
  have k0 : (0 : Int32).toInt = 0 := rfl
  refine kg_X11_needWhat_0 hq l n ⟨fun c => kg_X11_needWhat_9 hq (hO ?_), fun c => ⟨fun c2 => rv_i (h ?_ ?_), fun c2 => kg_X11_needWhat_9 hq (hO ?_)⟩⟩
  · rw [t_lt, k0] at c; omega
  · rw [t_lt, k0] at c; omega
  · rw [t_lt] at c2; exact c2
  · rw [t_lt] at c2; omega
theorem kch_4 {x : gd} {o I : Nat} {ch : gCh} (h : kch x o I ch) : x.1 (o + 13) I = opI ch.2.2 := by
  obtain ⟨-, -, -, h4, h5⟩ := h
  cases e : ch.2.2 with
  | none => exact h4 e
  | some k => exact h5 k e
theorem ka_choice (h : JH C wr n lm x w) (hq : kV q) (hH : HOI x q) (l1 l2 : Int32) (hX1 : e1Ch x → X iSE x) (hX2 : e2Ci x l1 l2 → X iOE x) (hP : ¬ e1Ch x → ¬ e2Ci x l1 l2 → ∀ r y, HOI y q → sCi C wr n (c96 w) x l1 l2 r y → P (some (vi r)) y) : KE G q (d + 7) zk_X11_choice 0 [(0, vr 0), (1, vi l1), (2, vi l2)] [] x P X := by
  have hm : kiM q 120 := Or.inl rfl
  have k5 : (5 : Int32).toInt = 5 := rfl
  refine kg_X11_choice_0 hq l1 l2 (kh_run hq hH hX1 (fun h10 hR => kh_ix hq l1 _ (fun hn => hX2 ⟨h10, fun z => hn z.1⟩) (fun l0 l9 => kh_what hq l2 5 (fun hn => hX2 ⟨h10, fun z => hn (by rw [k5]; exact z.2)⟩) (fun g0 g9 => ?_))))
  rw [k5] at g9
  obtain ⟨j, r, -, -⟩ := JH_R h h10
  have gc := JH_gc h hH
  obtain ⟨M, eM⟩ : ∃ M, M = runM C wr (c96 w) n := ⟨_, rfl⟩
  have hP := hP h10 (fun z => z.2 ⟨⟨l0, l9⟩, g0, g9⟩)
  unfold sCi chR at hP
  rw [← eM] at hP
  obtain ⟨-, ⟨r2, r3, r4⟩, -⟩ := r
  rw [← eM] at r2 r3 r4
  have len := r4.1
  have len : (x.1 120 13).toInt = ((chM C wr M).length : Nat) := len
  have hl : l1.toInt.toNat < (chM C wr M).length := by omega
  obtain ⟨ch, hch⟩ : ∃ ch, (chM C wr M)[l1.toInt.toNat]? = some ch := ⟨_, List.getElem?_eq_getElem hl⟩
  have kc := r4.2 _ _ hch
  have cm := List.mem_of_getElem? hch
  obtain ⟨i1, i2, i3⟩ := ch_in cm
  have b84 := hR.2.1.1
  have v84 : vp_in l1 84 := by rw [vp_in_iff]; omega
  have e131 : x.1 131 l1.toInt.toNat = Int32.ofNat ch.1 := kc.1
  have e133 : x.1 133 l1.toInt.toNat = opI ch.2.2 := kch_4 kc
  have e132n : ch.2.1 = none → x.1 132 l1.toInt.toNat = -1 := kc.2.1
  have e132s : ∀ j, ch.2.1 = some j → x.1 132 l1.toInt.toNat = Int32.ofNat j := kc.2.2.1
  have e10 : (x.1 60 10).toInt = (C.2.1.length : Nat) := j.2.1.2.1.1
  have hT6 := MM_6 hR.1.1 (t := ch.1) (by omega)
  have hA := (hR.1.2.2 ch.1 (by omega)).1
  have gT := r2.2 ch.1 i1
  have eT : (x.1 131 l1.toInt.toNat).toInt = (ch.1 : Nat) := by rw [e131]; exact Int32.toInt_ofNat_of_lt (by omega)
  have q7 := gT.2.2.2.2.2.2.1
  have lt8 := hA.2.1
  have late : ∀ jj, ch.2.1 = some jj → jj < 8 ∧ ¬ x.1 132 l1.toInt.toNat = -1 ∧ (x.1 132 l1.toInt.toNat).toInt = (jj : Nat) := fun jj hj => by
    have h8 := i3 jj hj
    have : jj < 8 := by omega
    have e9 := e132s jj hj
    have e8 : (Int32.ofNat jj).toInt = (jj : Nat) := Int32.toInt_ofNat_of_lt (by omega)
    refine ⟨this, fun z => ?_, by rw [e9]; exact e8⟩
    rw [e9] at z
    rw [z, tm1] at e8
    omega
  have nn : ¬ x.1 132 l1.toInt.toNat = -1 ↔ ¬ ch.2.1 = none := ⟨fun a b => a (e132n b), fun a => by
    cases hc : ch.2.1 with
    | none => exact absurd hc a
    | some jj => exact (late jj hc).2.1⟩
  have here : ∀ r, r = chVal C wr M ch l2 → P (some (vi r)) x := fun r er => hP r x hH ⟨⟨ch, hch, er⟩, KR_rf⟩
  have n1 : ∀ {a b : Int32}, ¬ a = b → l2 = a → ¬ l2 = b := fun h e z => h (e.symm.trans z)
  rw [t_cl]
  refine ⟨v84, v84, fun c => here _ ?_, fun c => ⟨fun z => here _ ?_, fun z => here _ ?_⟩, fun c => ⟨fun z => here _ ?_, fun z => ?_⟩, fun c => ⟨fun z => ?_, fun z => ?_⟩, fun c => ⟨v84, here _ ?_⟩⟩
  · unfold chVal; rw [if_pos c]; exact e131
  · unfold chVal; rw [if_neg (n1 (by decide) c), if_pos c, if_neg (nn.mp z)]
  · unfold chVal; rw [if_neg (n1 (by decide) c), if_pos c, if_pos (Classical.not_not.mp (fun a => nn.mpr a z))]
  · unfold chVal; rw [if_neg (n1 (by decide) c), if_neg (n1 (by decide) c), if_pos c, if_neg (nn.mp z)]
  · have cn : ch.2.1 = none := Classical.not_not.mp (fun a => nn.mpr a z)
    have ev : chVal C wr M ch l2 = Int32.ofNat (soM C (M.2.2 ch.1)) := by unfold chVal; rw [if_neg (n1 (by decide) c), if_neg (n1 (by decide) c), if_pos c, if_pos cn]
    obtain ⟨st, s1, s2, s3, s4, s5, kn, ns⟩ := kst_at hR.1 j.2.1 gc.1.1 i1 gT
    have w3 := kst_w3 hR.1 j.2.1 gc.1.1 i1 gT
    refine kp_sortOf hq hm hR.1.1 hR.1.2.1 _ eT hT6 hA (fun c3 => here _ ?_) (fun c3 => here _ ?_)
    · rw [ev, s3]
      unfold soM
      rw [if_pos (w3.mp c3), s2]
      exact kn.1
    · rw [ev]
      unfold soM
      rw [if_neg (fun z9 => c3 (w3.mpr z9))]
      rfl
  · obtain ⟨jj, hj⟩ : ∃ jj, ch.2.1 = some jj := by
      cases hc : ch.2.1 with
      | none => exact absurd hc (nn.mp z)
      | some jj => exact ⟨jj, rfl⟩
    obtain ⟨j8, -, ej⟩ := late jj hj
    have h8 := i3 jj hj
    have hg := List.getElem?_eq_getElem h8
    have qq := (q7.2 jj _ hg).1
    refine kp_lateCell hq hm hR.1.1 hR.1.2.1 _ _ eT hT6 ej j8 (here _ ?_)
    unfold chVal
    rw [if_neg (n1 (by decide) c), if_neg (n1 (by decide) c), if_neg (n1 (by decide) c), if_pos c, if_neg (nn.mp z), hj]
    show _ = Int32.ofNat (((M.2.2 ch.1).2.2.2.2.2.2.1[jj]?).getD (0, 0)).1
    rw [hg]
    exact i32_of qq
  · have cn : ch.2.1 = none := Classical.not_not.mp (fun a => nn.mpr a z)
    have ev : chVal C wr M ch l2 = (lkM C wr M ch.1).2.1 := by unfold chVal; rw [if_neg (n1 (by decide) c), if_neg (n1 (by decide) c), if_neg (n1 (by decide) c), if_pos c, if_pos cn]
    obtain ⟨st, s1, s2, s3, s4, s5, kn, ns⟩ := kst_at hR.1 j.2.1 gc.1.1 i1 gT
    have u1 := (i2 cn).1
    have tg := (hR.1.2.2 ch.1 (by omega)).2 (by rw [gT.1.1, u1]; rfl)
    rw [s3] at tg
    have o16 : st.1 < 16 := by have := tg.1; omega
    refine kh_objectOf hq hm hR.1 j.2.1 gc.1.1 r2 _ eT i1 u1 (fun r9 y9 fy a1 a2 => ?_)
    have fk : KRd x y9 := fm_w fy (fun c k q => by unfold sLk at q; unfold sRd; omega)
    refine hP r9 y9 (HOI_run (fm_w fy (fun c k => rn_Lk)) (RUN_Lk fy hR) hH) ⟨⟨ch, hch, ?_⟩, fk⟩
    rw [ev]
    by_cases so : soM C (M.2.2 ch.1) ≤ 4
    · have w0 : (M.2.2 ch.1).2.2.2.1 = 0 := by
        apply Classical.byContradiction
        intro z9
        unfold soM at so
        rw [if_neg z9] at so
        omega
      rw [lkM_0 w0]
      rcases a1 so with ⟨-, b2, -⟩ | ⟨b1, b2⟩
      · exact b2
      · rw [b2, lkI_m1 b1]
    · have r9e : r9 = st.2.2.2.2.1 := by
        rcases a2 so with b | b
        · rw [b, s2]
        · rw [s2] at b; omega
      by_cases w0 : (M.2.2 ch.1).2.2.2.1 = 0
      · have ix : st.2.2.2.2.2.2.2.1 = none := by
          apply Classical.byContradiction
          intro z9
          have := (gc.1.2.1 _ st s1).1 z9
          unfold soM at so
          rw [if_pos w0, s2] at so
          omega
        rw [lkM_0 w0, lkI_no (by rw [s2]; exact ix), s2]; exact r9e
      · rw [lkM_w w0, s2]; exact r9e
  · unfold chVal
    rw [if_neg (c 0 (by decide)), if_neg (c 1 (by decide)), if_neg (c 2 (by decide)), if_neg (c 3 (by decide))]
    exact e133
theorem ja_choice {l1 l2 r9 r : Int32} (h : JH C wr n lm x w) (hH : HOI y q) (k : ansK (e1Ch x) (e2Ci x l1 l2) (sCi C wr n (c96 w) x l1 l2) x r9 y) (m : ansM C wr (f1Ch w) (f2Ci w l1 l2) (tCi C wr n w l1 l2) w r w') : JR3 y w' ∧ ansE r9 r y w' := by
  have e9 := JH_10 h
  refine ans_eq h hH e9 ⟨fun z => ⟨fun a => z.1 (e9.mpr a), by rw [← JH_84 h z.1]; exact z.2⟩, fun z => ⟨fun a => z.1 (e9.mp a), by rw [JH_84 h (fun a => z.1 (e9.mp a))]; exact z.2⟩⟩ (fun a z => z.1 a) k m (fun c _ r' s t => ⟨JQ_rd h hH s.2 t.2, chR_eq s.1 t.1⟩)
end KCI
section MCI
variable {G : mG} {d D : Nat} {x w : gd} {F : Int32 → gd → Prop} {C : gCo} {wr n : Nat} {lm : Nat → Nat} {q : kP}
theorem ma_choice (h : JH C wr n lm x w) (hH : HOI x q) (hm : MI w) (i k : Int32) (hD : 4 ≤ D) (hF : ∀ r w', ansM C wr (f1Ch w) (f2Ci w i k) (tCi C wr n w i k) w r w' → F r w') : MT G D z_choice 0 [(0, vr 0), (1, vi i), (2, vi k)] [] w (ri F) := by
  obtain ⟨D, rfl⟩ : ∃ D', D = D' + 2 := ⟨D - 2, by omega⟩
  have k0 : (0 : Int32).toInt = 0 := rfl
  refine sg_choice_0 _ _ (fun y e => ?_)
  have hy := z0_s e
  have e67 : y.1 0 67 = w.1 0 67 := hy.1.1 67 (by decide)
  have qy := (MI_0 hy.1 hm).1
  refine sc_noRunk hy (fun hr => ⟨fun q => absurd rfl q, fun _ => ?_⟩) (fun c y' m => ⟨fun _ => ri_i (hF _ y' (an_1 hm (show w.1 0 67 = 0 by rw [← e67]; exact c) m)), fun q => absurd q (by decide)⟩)
  have hc := (qy.2.2.1 hr).1
  rw [e67] at hr
  obtain ⟨-, hh, e94⟩ := JH_M h hr
  have gc := (JH_gc h hH).1
  have w01 := HistC_w hh
  have e84w : y.1 0 84 = w.1 0 84 := hy.1.1 84 (by decide)
  obtain ⟨⟨s, n', q1, q2, q3, q4, q5, q6, q7⟩, hJ9⟩ := HistC_0 hy.1 hh
  have cy : c96 y = c96 w := by unfold c96; rw [hy.1.2 96 (by decide) (by simp)]
  have en : n' = n := by rw [hy.1.1 94 (by decide), e94] at q1; omega
  subst en
  have am := q2 n' (Nat.le_refl _)
  rw [cy] at am
  obtain ⟨M, eM⟩ : ∃ M, M = runM C wr (c96 w) n' := ⟨_, rfl⟩
  rw [← eM] at am
  have hF := hF
  unfold tCi chR at hF
  rw [← eM] at hF
  have av := am.1
  have e84 : y.1 0 84 = (s n').1 0 84 := q4 0 84 (Or.inr (Or.inl ⟨rfl, rfl⟩))
  have c0 := av.2.2.2.1
  have c84 := av.2.2.2.2.1
  have len := AM_n am
  have p41 : ∀ b : Int32, (b = 0 → inCh (y.1 0 84).toInt i k) → (¬ b = 0 → ¬ inCh (y.1 0 84).toInt i k) → MT G (D + 2) z_choice 41 [(0, vr 0), (1, vi i), (2, vi k)] [vi b, vr 0] y (ri F) := by
    intro b hb hb2
    refine sg_choice_41 _ _ _ (sc_refk b 2 hy (by decide) (fun b0 => ⟨fun _ => ?_, fun q => absurd rfl q⟩) (fun nb y' m => ⟨fun q => absurd q (by decide), fun _ => ri_i (hF _ y' (an_2 hm ⟨hr, by rw [← e84w]; exact hb2 nb⟩ m))⟩))
    have hin := hb b0
    have nE2 : ¬ f2Ci w i k := fun z => z.2 (by rw [← e84w]; exact hin)
    obtain ⟨hi, hk⟩ := hin
    rw [e84] at hi
    have ci := cl_i hi.1
    have iv : vp_in i 200 := by rw [vp_in_iff]; omega
    have hl : i.toInt.toNat < (chM C wr M).length := by omega
    obtain ⟨ch, hch⟩ : ∃ ch, (chM C wr M)[i.toInt.toNat]? = some ch := ⟨_, List.getElem?_eq_getElem hl⟩
    have cm := List.mem_of_getElem? hch
    obtain ⟨j1, j2, j3⟩ := ch_in cm
    obtain ⟨m86, m87, m88⟩ := am.2.2.2.2.2.2 _ _ hch
    obtain ⟨u86, u87, u88, ⟨t0, t6⟩, co⟩ := av.2.2.1 i.toNatClampNeg (by omega)
    have e86 := q4 _ _ (Or.inr u86)
    have e87 := q4 _ _ (Or.inr u87)
    have e88 := q4 _ _ (Or.inr u88)
    rw [t_cl] at e86 e87 e88
    rw [m86] at e86
    rw [m87] at e87
    rw [m88] at e88
    have lt6 : ch.1 < 6 := by have := gc.2.2; omega
    have e6 : (Int32.ofNat ch.1).toInt = (ch.1 : Nat) := Int32.toInt_ofNat_of_lt (by omega)
    have tv : vp_in (Int32.ofNat ch.1) 6 := by rw [vp_in_iff]; omega
    have ct : (Int32.ofNat ch.1).toNatClampNeg = ch.1 := by rw [t_cl, e6]; rfl
    have rr := (av.1.2 ch.1 lt6)
    have a74 : vp_in (y.1 74 (Int32.ofNat ch.1).toNatClampNeg) 1500 := by
      rw [ct, cA q4 (c := 74) (n := 6) (by decide) lt6, vp_in_iff]
      exact ⟨rr.1.1, rr.1.2.1⟩
    have lq := (am.2.2.1.2.2 ch.1 lt6).2.2.2.2.2.2.2.2.1
    have op8 : ∀ jj, jj < 9 → ¬ Int32.ofNat jj = -1 := by decide +kernel
    have lt9 : ∀ jj, ch.2.1 = some jj → jj < 8 := fun jj hj => by
      have := j3 jj hj
      have := lq.1
      have := rr.2.2.2.1
      omega
    have nn : y.1 87 i.toInt.toNat = -1 ↔ ch.2.1 = none := by
      rw [e87]
      cases hcc : ch.2.1 with
      | none => exact ⟨fun _ => rfl, fun _ => rfl⟩
      | some jj => exact ⟨fun z => absurd z (op8 jj (by have := lt9 jj hcc; omega)), fun z => nomatch z⟩
    have ok : ∀ r, r = chVal C wr M ch k → ri F (some (vi r)) y := fun r er => ri_i (hF _ y (an_3 qy hr nE2 hy.2 ⟨⟨ch, hch, er⟩, rd_0 hy.1 hm⟩))
    have n1 : ∀ {a b : Int32}, ¬ a = b → k = a → ¬ k = b := fun h e z => h (e.symm.trans z)
    rw [t_cl]
    refine ⟨iv, iv, fun n0 => ⟨fun c => ?_, fun c => ?_⟩, fun z0' => ok _ ?_⟩
    · have cn := nn.mp c
      refine ⟨fun n3 => ⟨fun n1' => ⟨fun n2 => ⟨iv, ok _ ?_⟩, fun e2 => ?_⟩, fun e1 => ok _ ?_⟩, fun e3 => ?_⟩
      · unfold chVal; rw [if_neg n0, if_neg n1', if_neg n2, if_neg n3]; exact e88
      · have u1 := (j2 cn).1
        have h1 : (s n').1 73 ch.1 = 1 := by rw [(am.2.2.1.2.2 ch.1 lt6).1, u1]; rfl
        have h2 : ¬ (s n').1 77 ch.1 = 1 := fun z => (j2 cn).2.1 (by
          have e77 := (am.2.2.1.2.2 ch.1 lt6).2.2.2.2.1
          have l77 := (am.2.2.1.2.2 ch.1 lt6).2.2.2.2.2.1
          rw [e77] at z
          exact (wai_2 _ (by omega)).2.1.mp z)
        rw [e86]
        refine sp_sortOf _ tv a74 ?_
        rw [ct, srt_eq (eqS_w (Sl_Sm _) q4) av.1 lt6, (srt_so gc.1 am lt6 h1 h2).1]
        exact ok _ (by unfold chVal; rw [if_neg n0, if_neg (n1 (by decide) e2), if_pos e2, if_pos cn])
      · unfold chVal; rw [if_neg n0, if_pos e1, if_pos cn]
      · have u1 := (j2 cn).1
        have h1 : (s n').1 73 ch.1 = 1 := by rw [(am.2.2.1.2.2 ch.1 lt6).1, u1]; rfl
        have h2 : ¬ (s n').1 77 ch.1 = 1 := fun z => (j2 cn).2.1 (by
          have e77 := (am.2.2.1.2.2 ch.1 lt6).2.2.2.2.1
          have l77 := (am.2.2.1.2.2 ch.1 lt6).2.2.2.2.2.1
          rw [e77] at z
          exact (wai_2 _ (by omega)).2.1.mp z)
        rw [e86]
        refine sp_lookAt3 gc.1 gc.2.1 w01 am q4 _ tv (by rw [ct]; exact h1) (by rw [ct]; exact h2) (by omega) (fun y' x' e' m' _ _ _ _ v88 => ri_i (hF _ y' ?_))
        rw [ct] at v88
        have mm := mi_of m'
        have cy' : c96 y' = c96 y := by unfold c96; rw [mm.2 96 (by decide) (by decide)]
        have histc : HistC C wr y' := ⟨⟨s, n', by rw [mm.1 94 (by decide)]; exact q1, by rw [cy']; exact q2, by rw [cy', mm.2 96 (by decide) (by decide)]; exact q3, e', by rw [mm.1 68 (by decide)]; exact St_pr (prE_mi (prE_rf y) mm rfl rfl) q5, by rw [mm.1 68 (by decide)]; exact q6, HA_mi mm rfl rfl q7⟩, MJq_mi mm rfl rfl hJ9⟩
        have p := MI_new mm rfl rfl hc (HistC_H histc) qy
        refine an_3 p.1 hr nE2 (by rw [mm.1 0 (by decide)]; exact hy.2) ⟨⟨ch, hch, ?_⟩, rd_tr hy.1 ⟨p, ⟨mm.1 67 (by decide), mm.1 94 (by decide), mm.2 96 (by decide) (by decide)⟩, mm.2 119 (by decide) (by decide), fun _ => histc, fun w T h => TYc_mi mm rfl h⟩⟩
        rw [v88]
        unfold chVal
        rw [if_neg n0, if_neg (n1 (by decide) e3), if_neg (n1 (by decide) e3), if_pos e3, if_pos cn]
    · have cs : ¬ ch.2.1 = none := fun z => c (nn.mpr z)
      obtain ⟨jj, hj⟩ : ∃ jj, ch.2.1 = some jj := by
        cases hcc : ch.2.1 with
        | none => exact absurd hcc cs
        | some jj => exact ⟨jj, rfl⟩
      have h8 := lt9 jj hj
      have ej : y.1 87 i.toInt.toNat = Int32.ofNat jj := by rw [e87, hj]; rfl
      have ejj : (Int32.ofNat jj).toInt = (jj : Nat) := Int32.toInt_ofNat_of_lt (by omega)
      refine ⟨fun e1 => ok _ ?_, fun n1' => ⟨fun n2 => ⟨fun n3 => ok _ ?_, fun e3 => ?_⟩, fun e2 => ok _ ?_⟩⟩
      · unfold chVal; rw [if_neg n0, if_pos e1, if_neg cs]
      · unfold chVal; rw [if_neg n0, if_neg n1', if_neg n2, if_neg n3, ch_lt cm cs]; rfl
      · rw [e86, ej]
        obtain ⟨ta, tb⟩ := t10 tv (i := Int32.ofNat jj) (by omega) (by omega)
        refine ⟨ta, ok _ ?_⟩
        rw [tb, ct, t_cl, ejj]
        have hg := List.getElem?_eq_getElem (j3 jj hj)
        have b1 := (lq.2 jj _ hg).1
        have ey : y.1 81 (10 * ch.1 + jj) = (s n').1 81 (10 * ch.1 + jj) := q4 81 _ (Or.inr (Or.inr (Or.inr ⟨Or.inl rfl, ch.1, jj, lt6, by rw [lq.1]; have := j3 jj hj; omega, rfl⟩)))
        unfold chVal
        rw [if_neg n0, if_neg n1', if_neg n2, if_pos e3, if_neg cs, hj]
        show y.1 81 (10 * ch.1 + ((jj : Nat) : Int).toNat) = Int32.ofNat (((M.2.2 ch.1).2.2.2.2.2.2.1[jj]?).getD (0, 0)).1
        rw [hg, Int.toNat_natCast, ey]
        exact b1
      · unfold chVal; rw [if_neg n0, if_neg n1', if_pos e2, if_neg cs]
    · unfold chVal; rw [if_pos z0', e86]
  refine sp_in _ _ _ ⟨fun c1 => p41 1 (fun q => absurd q (by decide)) (fun _ z => in_ge (bi_eq.mp c1) (by rw [e84]; exact c0) z.1), fun c1 => sp_in _ _ _ ⟨fun c2 => p41 0 (fun _ => ⟨in_lt (bi_ne.mp c1) (by rw [e84]; exact c0), ?_⟩) (fun z => absurd rfl z), fun c2 => p41 1 (fun q => absurd q (by decide)) (fun _ z => ?_)⟩⟩
  · obtain ⟨a1, a2⟩ := bi_ne.mp c2
    have k4 : (4 : Int32).toInt = 4 := rfl
    rw [t_le, k0] at a1
    rw [t_le, k4] at a2
    omega
  · have k4 : (4 : Int32).toInt = 4 := rfl
    have := z.2
    exact bi_eq.mp c2 ⟨t_le.mpr (by rw [k0]; exact z.2.1), t_le.mpr (by rw [k4]; omega)⟩
end MCI
end
section
/-! act: what an act was -/
def acVal (e : gDe) (k : Int32) : Int32 :=
  if k = 0 then Int32.ofNat e.1
  else if k = 1 then Int32.ofNat e.2.1
  else if k = 2 then e.2.2.1
  else if k = 3 then e.2.2.2.1
  else e.2.2.2.2.1
abbrev e2Ac (x : gd) (l1 l2 : Int32) : Prop := ¬ x.1 0 10 = 0 ∧ ¬ inCh (x.1 160 3).toInt l1 l2
def acR (C : gCo) (wr n : Nat) (c : Nat → Nat) (l1 l2 r : Int32) : Prop := ∃ e, (joM C wr c n)[l1.toInt.toNat]? = some e ∧ r = acVal e l2
def sAc (C : gCo) (wr n : Nat) (c : Nat → Nat) (x : gd) (l1 l2 r : Int32) (y : gd) : Prop := acR C wr n c l1 l2 r ∧ KRd x y
abbrev f2Ac (w : gd) (l1 l2 : Int32) : Prop := ¬ w.1 0 67 = 0 ∧ ¬ inCh (w.1 0 96).toInt l1 l2
def tAc (C : gCo) (wr n : Nat) (w : gd) (l1 l2 r : Int32) (w' : gd) : Prop := acR C wr n (c96 w) l1 l2 r ∧ rdM C wr w w'
theorem acR_eq {C : gCo} {wr n : Nat} {c : Nat → Nat} {l1 l2 r r' : Int32} (h : acR C wr n c l1 l2 r) (g : acR C wr n c l1 l2 r') : r = r' := by
  obtain ⟨e, a1, a2⟩ := h
  obtain ⟨e', b1, b2⟩ := g
  rw [a1] at b1
  rw [a2, b2, Option.some.inj b1]
section KAC
variable {G : kG} {q : kP} {d : Nat} {x y w w' : gd} {Fv : gd → Prop} {P : Option gv → gd → Prop} {X : String → gd → Prop} {C : gCo} {wr n : Nat} {lm : Nat → Nat}
/-- both hold the same row of acts -/
theorem JH_jo (h : JH C wr n lm x w) (h10 : ¬ x.1 0 10 = 0) : (x.1 160 3).toInt = (w.1 0 96).toInt ∧ KJo x (joM C wr (c96 w) n) ∧ MJo w (joM C wr (c96 w) n) ∧ (w.1 0 96).toInt ≤ 400 := by
  obtain ⟨-, r, hh, e94⟩ := JH_R h h10
  have a : KJo x (joM C wr (c96 w) n) := r.2.2.2.2.2
  have b : MJo w (joM C wr (c96 w) (w.1 0 94).toInt.toNat) := hh.2
  rw [e94, Int.toNat_natCast] at b
  have e := a.1.trans b.1.symm
  have j := r.1.2.2.1
  exact ⟨e, a, b, by omega⟩
theorem ka_actq (h : JH C wr n lm x w) (hq : kV q) (hH : HOI x q) (l1 l2 : Int32) (hX1 : e1Ch x → X iSE x) (hX2 : e2Ac x l1 l2 → X iOE x) (hP : ¬ e1Ch x → ¬ e2Ac x l1 l2 → ∀ r y, HOI y q → sAc C wr n (c96 w) x l1 l2 r y → P (some (vi r)) y) : KE G q (d + 7) zk_X11_act 0 [(0, vr 0), (1, vi l1), (2, vi l2)] [] x P X := by
  have k5 : (5 : Int32).toInt = 5 := rfl
  refine kg_X11_act_0 hq l1 l2 (kh_run hq hH hX1 (fun h10 hR => kh_ix hq l1 _ (fun hn => hX2 ⟨h10, fun z => hn z.1⟩) (fun l0 l9 => kh_what hq l2 5 (fun hn => hX2 ⟨h10, fun z => hn (by rw [k5]; exact z.2)⟩) (fun g0 g9 => ?_))))
  rw [k5] at g9
  obtain ⟨-, ⟨j1, -, j3⟩, -⟩ := JH_jo h h10
  have hl : l1.toInt.toNat < (joM C wr (c96 w) n).length := by omega
  obtain ⟨e, he⟩ : ∃ e, (joM C wr (c96 w) n)[l1.toInt.toNat]? = some e := ⟨_, List.getElem?_eq_getElem hl⟩
  obtain ⟨c0, c1, c2, c3, c4, -⟩ := j3 _ e he
  have b4 := hR.2.2.1
  have iv : vp_in l1 400 := by rw [vp_in_iff]; omega
  have here : ∀ r, r = acVal e l2 → P (some (vi r)) x := fun r er => hP h10 (fun z => z.2 ⟨⟨l0, l9⟩, g0, g9⟩) r x hH ⟨⟨e, he, er⟩, KR_rf⟩
  have n1 : ∀ {a b : Int32}, ¬ a = b → l2 = a → ¬ l2 = b := fun h e z => h (e.symm.trans z)
  rw [t_cl]
  refine ⟨fun c => ⟨iv, here _ ?_⟩, fun c => ⟨iv, here _ ?_⟩, fun c => ⟨iv, here _ ?_⟩, fun c => ⟨iv, here _ ?_⟩, fun c => ⟨iv, here _ ?_⟩⟩
  · unfold acVal; rw [if_pos c]; exact c0
  · unfold acVal; rw [if_neg (n1 (by decide) c), if_pos c]; exact c1
  · unfold acVal; rw [if_neg (n1 (by decide) c), if_neg (n1 (by decide) c), if_pos c]; exact c2
  · unfold acVal; rw [if_neg (n1 (by decide) c), if_neg (n1 (by decide) c), if_neg (n1 (by decide) c), if_pos c]; exact c3
  · unfold acVal; rw [if_neg (c 0 (by decide)), if_neg (c 1 (by decide)), if_neg (c 2 (by decide)), if_neg (c 3 (by decide))]; exact c4
theorem ja_act {l1 l2 r9 r : Int32} (h : JH C wr n lm x w) (hH : HOI y q) (k : ansK (e1Ch x) (e2Ac x l1 l2) (sAc C wr n (c96 w) x l1 l2) x r9 y) (m : ansM C wr (f1Ch w) (f2Ac w l1 l2) (tAc C wr n w l1 l2) w r w') : JR3 y w' ∧ ansE r9 r y w' := by
  have e9 := JH_10 h
  refine ans_eq h hH e9 ⟨fun z => ⟨fun a => z.1 (e9.mpr a), by rw [← (JH_jo h z.1).1]; exact z.2⟩, fun z => ⟨fun a => z.1 (e9.mp a), by rw [(JH_jo h (fun a => z.1 (e9.mp a))).1]; exact z.2⟩⟩ (fun a z => z.1 a) k m (fun c _ r' s t => ⟨JQ_rd h hH s.2 t.2, acR_eq s.1 t.1⟩)
end KAC
section MAC
variable {G : mG} {d D : Nat} {x w : gd} {F : Int32 → gd → Prop} {C : gCo} {wr n : Nat} {lm : Nat → Nat} {q : kP}
theorem ma_act (h : JH C wr n lm x w) (hH : HOI x q) (hm : MI w) (i k : Int32) (hD : 3 ≤ D) (hF : ∀ r w', ansM C wr (f1Ch w) (f2Ac w i k) (tAc C wr n w i k) w r w' → F r w') : MT G D z_act 0 [(0, vr 0), (1, vi i), (2, vi k)] [] w (ri F) := by
  obtain ⟨D, rfl⟩ : ∃ D', D = D' + 2 := ⟨D - 2, by omega⟩
  have k0 : (0 : Int32).toInt = 0 := rfl
  refine sg_act_0 _ _ (fun y e => ?_)
  have hy := z0_s e
  have e67 : y.1 0 67 = w.1 0 67 := hy.1.1 67 (by decide)
  have qy := (MI_0 hy.1 hm).1
  refine sc_noRunk hy (fun hr => ⟨fun q => absurd rfl q, fun _ => ?_⟩) (fun c y' m => ⟨fun _ => ri_i (hF _ y' (an_1 hm (show w.1 0 67 = 0 by rw [← e67]; exact c) m)), fun q => absurd q (by decide)⟩)
  rw [e67] at hr
  obtain ⟨-, -, ⟨j1, j2⟩, j4⟩ := JH_jo h (fun z => hr ((JH_10 h).mp z))
  have e96 : y.1 0 96 = w.1 0 96 := hy.1.1 96 (by decide)
  have c0 : 0 ≤ (y.1 0 96).toInt := by rw [e96]; omega
  have p41 : ∀ b : Int32, (b = 0 → inCh (y.1 0 96).toInt i k) → (¬ b = 0 → ¬ inCh (y.1 0 96).toInt i k) → MT G (D + 2) z_act 41 [(0, vr 0), (1, vi i), (2, vi k)] [vi b, vr 0] y (ri F) := by
    intro b hb hb2
    refine sg_act_41 _ _ _ (sc_refk b 2 hy (by decide) (fun b0 => ⟨fun _ => ?_, fun q => absurd rfl q⟩) (fun nb y' m => ⟨fun q => absurd q (by decide), fun _ => ri_i (hF _ y' (an_2 hm ⟨hr, by rw [← e96]; exact hb2 nb⟩ m))⟩))
    have hin := hb b0
    have nE2 : ¬ f2Ac w i k := fun z => z.2 (by rw [← e96]; exact hin)
    obtain ⟨hi, hk⟩ := hin
    rw [e96] at hi
    have iv : vp_in i 400 := by rw [vp_in_iff]; omega
    have hl : i.toInt.toNat < (joM C wr (c96 w) n).length := by omega
    obtain ⟨e, he⟩ : ∃ e, (joM C wr (c96 w) n)[i.toInt.toNat]? = some e := ⟨_, List.getElem?_eq_getElem hl⟩
    obtain ⟨c0, c1, c2, c3, c4, -⟩ := j2 _ e he
    have ok : ∀ r, r = acVal e k → ri F (some (vi r)) y := fun r er => ri_i (hF _ y (an_3 qy hr nE2 hy.2 ⟨⟨e, he, er⟩, rd_0 hy.1 hm⟩))
    have g : ∀ c, 98 ≤ c → y.1 c = w.1 c := fun c hc => hy.1.2 c (by omega) (by simp)
    rw [t_cl]
    refine ⟨fun n0 => ⟨fun n1 => ⟨fun n2 => ⟨fun n3 => ⟨iv, ok _ ?_⟩, fun e3 => ⟨iv, ok _ ?_⟩⟩, fun e2 => ⟨iv, ok _ ?_⟩⟩, fun e1 => ⟨iv, ok _ ?_⟩⟩, fun e0 => ⟨iv, ok _ ?_⟩⟩
    · unfold acVal; rw [if_neg n0, if_neg n1, if_neg n2, if_neg n3, g 102 (by omega)]; exact c4
    · unfold acVal; rw [if_neg n0, if_neg n1, if_neg n2, if_pos e3, g 101 (by omega)]; exact c3
    · unfold acVal; rw [if_neg n0, if_neg n1, if_pos e2, g 100 (by omega)]; exact c2
    · unfold acVal; rw [if_neg n0, if_pos e1, g 99 (by omega)]; exact c1
    · unfold acVal; rw [if_pos e0, g 98 (by omega)]; exact c0
  refine sp_in _ _ _ ⟨fun c1 => p41 1 (fun q => absurd q (by decide)) (fun _ z => in_ge (bi_eq.mp c1) c0 z.1), fun c1 => sp_in _ _ _ ⟨fun c2 => p41 0 (fun _ => ⟨in_lt (bi_ne.mp c1) c0, ?_⟩) (fun z => absurd rfl z), fun c2 => p41 1 (fun q => absurd q (by decide)) (fun _ z => ?_)⟩⟩
  · obtain ⟨a1, a2⟩ := bi_ne.mp c2
    have k4 : (4 : Int32).toInt = 4 := rfl
    rw [t_le, k0] at a1
    rw [t_le, k4] at a2
    omega
  · have k4 : (4 : Int32).toInt = 4 := rfl
    have := z.2
    exact bi_eq.mp c2 ⟨t_le.mpr (by rw [k0]; exact z.2.1), t_le.mpr (by rw [k4]; omega)⟩
end MAC
end
section
/-! histories of calls: what is taken out of a row of acts; plain structures; whether an order is there -/
/-- calls, events, each call (kind, value, from, over: to and answer), each thread's open call -/
abbrev gHi := Nat × Nat × (Nat → Int32 × Int32 × Nat × Option (Nat × Int32)) × (Nat → Option Nat)
def s13 (e : gDe) : Prop := e.2.2.2.2.2.1 = false ∧ Int32.ofNat e.2.1 = 13
def s14 (e : gDe) : Prop := e.2.2.2.2.2.1 = false ∧ Int32.ofNat e.2.1 = 14
/-- a call begins; it is over -/
def hiB (H : gHi) (e : gDe) : gHi := (H.1 + 1, H.2.1 + 1, upf H.2.2.1 H.1 (e.2.2.1, e.2.2.2.2.1, H.2.1, none), upf H.2.2.2 e.1 (some H.1))
def hiE (H : gHi) (e : gDe) (c : Nat) : gHi := (H.1, H.2.1 + 1, upf H.2.2.1 c ((H.2.2.1 c).1, (H.2.2.1 c).2.1, (H.2.2.1 c).2.2.1, some (H.2.1, e.2.2.2.2.1)), upf H.2.2.2 e.1 none)
noncomputable def hiS (H : gHi) (e : gDe) : gHi := @ite gHi (s13 e) (Classical.propDecidable _) (hiB H e) (@ite gHi (s14 e) (Classical.propDecidable _) (match H.2.2.2 e.1 with | some c => hiE H e c | none => (H.1, H.2.1 + 1, H.2.2)) H)
def hi0 : gHi := (0, 0, fun _ => (0, 0, 0, none), fun _ => none)
noncomputable def hiJ (J : List gDe) : gHi := J.foldl hiS hi0
/-- a thread has a call open -/
def opJ (J : List gDe) (t : Nat) : Prop := ¬ (hiJ J).2.2.2 t = none
/-- a call that is over was open -/
def bkJ (J : List gDe) : Prop := ∀ (a : Nat) (e : gDe), J[a]? = some e → s14 e → opJ (J.take a) e.1
section PHI
variable {H : gHi} {e : gDe} {J : List gDe} {t a : Nat}
theorem hi_B (h : s13 e) : hiS H e = hiB H e := by unfold hiS; rw [if_pos h]
theorem hi_n (h1 : ¬ s13 e) (h2 : ¬ s14 e) : hiS H e = H := by unfold hiS; rw [if_neg h1, if_neg h2]
theorem s34 (h : s14 e) : ¬ s13 e := fun z => absurd (z.2.symm.trans h.2) (by decide)
theorem hi_E {c : Nat} (h : s14 e) (o : H.2.2.2 e.1 = some c) : hiS H e = hiE H e c := by unfold hiS; rw [if_neg (s34 h), if_pos h, o]
theorem hi_E0 (h : s14 e) (o : H.2.2.2 e.1 = none) : hiS H e = (H.1, H.2.1 + 1, H.2.2) := by unfold hiS; rw [if_neg (s34 h), if_pos h, o]
theorem hiJ_0 : hiJ (J.take 0) = hi0 := by rw [List.take_zero]; rfl
theorem hiJ_sn : hiJ (J ++ [e]) = hiS (hiJ J) e := by unfold hiJ; rw [List.foldl_append]; rfl
theorem hiJ_tk (h : J[a]? = some e) : hiJ (J.take (a + 1)) = hiS (hiJ (J.take a)) e := by
  have e1 : J.take (a + 1) = J.take a ++ [e] := by rw [List.take_succ, h]; rfl
  rw [e1, hiJ_sn]
/-- what every history keeps: calls begin in order, each before it is over; open calls are not over, and belong to one thread -/
def hiW (H : gHi) : Prop := H.1 ≤ H.2.1 ∧ (∀ c, c < H.1 → (H.2.2.1 c).2.2.1 < H.2.1 ∧ ∀ p, (H.2.2.1 c).2.2.2 = some p → (H.2.2.1 c).2.2.1 < p.1 ∧ p.1 < H.2.1) ∧ (∀ c c', c < c' → c' < H.1 → (H.2.2.1 c).2.2.1 < (H.2.2.1 c').2.2.1) ∧ (∀ t c, H.2.2.2 t = some c → c < H.1 ∧ (H.2.2.1 c).2.2.2 = none) ∧ ∀ t t' c, H.2.2.2 t = some c → H.2.2.2 t' = some c → t = t'
theorem hi0_n {t c : Nat} : ¬ hi0.2.2.2 t = some c := fun h => nomatch (show (none : Option Nat) = some c from h)
theorem hiW_0 : hiW hi0 := ⟨Nat.le_refl _, fun c hc => absurd hc (Nat.not_lt_zero _), fun c c' _ hc => absurd hc (Nat.not_lt_zero _), fun t c h => absurd h hi0_n, fun t t' c h => absurd h hi0_n⟩
theorem hiW_S (h : hiW H) : hiW (hiS H e) := by
  obtain ⟨w0, w1, w2, w3, w4⟩ := h
  by_cases c1 : s13 e
  · rw [hi_B c1]
    unfold hiB hiW
    refine ⟨by show H.1 + 1 ≤ H.2.1 + 1; omega, fun c hc => ?_, fun c c' h1 h2 => ?_, fun t c ho => ?_, fun t t' c ho ho' => ?_⟩
    · have hc : c < H.1 + 1 := hc
      show (upf H.2.2.1 H.1 (e.2.2.1, e.2.2.2.2.1, H.2.1, none) c).2.2.1 < H.2.1 + 1 ∧ ∀ p, (upf H.2.2.1 H.1 (e.2.2.1, e.2.2.2.2.1, H.2.1, none) c).2.2.2 = some p → (upf H.2.2.1 H.1 (e.2.2.1, e.2.2.2.2.1, H.2.1, none) c).2.2.1 < p.1 ∧ p.1 < H.2.1 + 1
      by_cases e1 : c = H.1
      · rw [e1, upf_eq]
        exact ⟨Nat.lt_succ_self _, fun p hp => nomatch hp⟩
      · rw [upf_ne e1]
        obtain ⟨a1, a2⟩ := w1 c (by omega)
        exact ⟨by omega, fun p hp => by have := a2 p hp; omega⟩
    · have h2 : c' < H.1 + 1 := h2
      show (upf H.2.2.1 H.1 (e.2.2.1, e.2.2.2.2.1, H.2.1, none) c).2.2.1 < (upf H.2.2.1 H.1 (e.2.2.1, e.2.2.2.2.1, H.2.1, none) c').2.2.1
      rw [upf_ne (show ¬ c = H.1 by omega)]
      by_cases e1 : c' = H.1
      · rw [e1, upf_eq]; exact (w1 c (by omega)).1
      · rw [upf_ne e1]; exact w2 c c' h1 (by omega)
    · have ho : upf H.2.2.2 e.1 (some H.1) t = some c := ho
      show c < H.1 + 1 ∧ (upf H.2.2.1 H.1 (e.2.2.1, e.2.2.2.2.1, H.2.1, none) c).2.2.2 = none
      by_cases e1 : c = H.1
      · rw [e1, upf_eq]; exact ⟨Nat.lt_succ_self _, rfl⟩
      · rw [upf_ne e1]
        by_cases e2 : t = e.1
        · rw [e2, upf_eq] at ho; exact absurd (Option.some.inj ho).symm e1
        · rw [upf_ne e2] at ho
          obtain ⟨a1, a2⟩ := w3 t c ho
          exact ⟨by omega, a2⟩
    · have ho : upf H.2.2.2 e.1 (some H.1) t = some c := ho
      have ho' : upf H.2.2.2 e.1 (some H.1) t' = some c := ho'
      by_cases e1 : t = e.1
      · by_cases e2 : t' = e.1
        · rw [e1, e2]
        · rw [e1, upf_eq] at ho
          rw [upf_ne e2] at ho'
          have := (w3 t' c ho').1
          have := Option.some.inj ho
          omega
      · rw [upf_ne e1] at ho
        by_cases e2 : t' = e.1
        · rw [e2, upf_eq] at ho'
          have := (w3 t c ho).1
          have := Option.some.inj ho'
          omega
        · rw [upf_ne e2] at ho'
          exact w4 t t' c ho ho'
  · by_cases c2 : s14 e
    · cases o : H.2.2.2 e.1 with
      | none =>
        rw [hi_E0 c2 o]
        exact ⟨by show H.1 ≤ H.2.1 + 1; omega, fun c hc => ⟨by show (H.2.2.1 c).2.2.1 < H.2.1 + 1; have := (w1 c hc).1; omega, fun p hp => by have := (w1 c hc).2 p hp; exact ⟨this.1, by show p.1 < H.2.1 + 1; omega⟩⟩, w2, w3, w4⟩
      | some k =>
        rw [hi_E c2 o]
        obtain ⟨k1, k2⟩ := w3 e.1 k o
        unfold hiE hiW
        have fr : ∀ c, (upf H.2.2.1 k ((H.2.2.1 k).1, (H.2.2.1 k).2.1, (H.2.2.1 k).2.2.1, some (H.2.1, e.2.2.2.2.1)) c).2.2.1 = (H.2.2.1 c).2.2.1 := fun c => by
          by_cases e1 : c = k
          · rw [e1, upf_eq]
          · rw [upf_ne e1]
        refine ⟨by show H.1 ≤ H.2.1 + 1; omega, fun c hc => ?_, fun c c' h1 h2 => ?_, fun t c ho => ?_, fun t t' c ho ho' => ?_⟩
        · have hc : c < H.1 := hc
          show (upf H.2.2.1 k ((H.2.2.1 k).1, (H.2.2.1 k).2.1, (H.2.2.1 k).2.2.1, some (H.2.1, e.2.2.2.2.1)) c).2.2.1 < H.2.1 + 1 ∧ ∀ p, (upf H.2.2.1 k ((H.2.2.1 k).1, (H.2.2.1 k).2.1, (H.2.2.1 k).2.2.1, some (H.2.1, e.2.2.2.2.1)) c).2.2.2 = some p → (upf H.2.2.1 k ((H.2.2.1 k).1, (H.2.2.1 k).2.1, (H.2.2.1 k).2.2.1, some (H.2.1, e.2.2.2.2.1)) c).2.2.1 < p.1 ∧ p.1 < H.2.1 + 1
          rw [fr c]
          obtain ⟨a1, a2⟩ := w1 c hc
          refine ⟨by omega, fun p hp => ?_⟩
          by_cases e1 : c = k
          · rw [e1, upf_eq] at hp
            have hp : some (H.2.1, e.2.2.2.2.1) = some p := hp
            rw [← Option.some.inj hp]
            exact ⟨a1, Nat.lt_succ_self _⟩
          · rw [upf_ne e1] at hp
            have := a2 p hp
            omega
        · show (upf H.2.2.1 k ((H.2.2.1 k).1, (H.2.2.1 k).2.1, (H.2.2.1 k).2.2.1, some (H.2.1, e.2.2.2.2.1)) c).2.2.1 < (upf H.2.2.1 k ((H.2.2.1 k).1, (H.2.2.1 k).2.1, (H.2.2.1 k).2.2.1, some (H.2.1, e.2.2.2.2.1)) c').2.2.1
          rw [fr c, fr c']; exact w2 c c' h1 h2
        · have ho : upf H.2.2.2 e.1 none t = some c := ho
          show c < H.1 ∧ (upf H.2.2.1 k ((H.2.2.1 k).1, (H.2.2.1 k).2.1, (H.2.2.1 k).2.2.1, some (H.2.1, e.2.2.2.2.1)) c).2.2.2 = none
          by_cases e2 : t = e.1
          · rw [e2, upf_eq] at ho; exact nomatch ho
          · rw [upf_ne e2] at ho
            rw [upf_ne (fun z => e2 (w4 t e.1 c ho (by rw [z]; exact o)))]
            exact w3 t c ho
        · have ho : upf H.2.2.2 e.1 none t = some c := ho
          have ho' : upf H.2.2.2 e.1 none t' = some c := ho'
          by_cases e1 : t = e.1
          · rw [e1, upf_eq] at ho; exact nomatch ho
          · by_cases e2 : t' = e.1
            · rw [e2, upf_eq] at ho'; exact nomatch ho'
            · rw [upf_ne e1] at ho
              rw [upf_ne e2] at ho'
              exact w4 t t' c ho ho'
    · rw [hi_n c1 c2]; exact ⟨w0, w1, w2, w3, w4⟩
theorem hiW_J : ∀ {J : List gDe}, hiW (hiJ J) := by
  intro J
  unfold hiJ
  have key : ∀ (J : List gDe) (H : gHi), hiW H → hiW (J.foldl hiS H) := by
    intro J
    induction J with
    | nil => intro H h; exact h
    | cons e J ih => intro H h; exact ih (hiS H e) (hiW_S h)
  exact key J hi0 hiW_0
theorem hi_ge : ∀ {J : List gDe}, (hiJ J).2.1 ≤ J.length := by
  have key : ∀ (J : List gDe) (H : gHi), (J.foldl hiS H).2.1 ≤ H.2.1 + J.length := by
    intro J
    induction J with
    | nil => intro H; exact Nat.le_refl _
    | cons e J ih =>
      intro H
      have a := ih (hiS H e)
      have b : (hiS H e).2.1 ≤ H.2.1 + 1 := by
        by_cases c1 : s13 e
        · rw [hi_B c1]; exact Nat.le_refl _
        · by_cases c2 : s14 e
          · cases o : H.2.2.2 e.1 with
            | none => rw [hi_E0 c2 o]; exact Nat.le_refl _
            | some k => rw [hi_E c2 o]; exact Nat.le_refl _
          · rw [hi_n c1 c2]; exact Nat.le_succ _
      show ((J.foldl hiS (hiS H e))).2.1 ≤ H.2.1 + (J.length + 1)
      omega
  intro J
  have := key J hi0
  have z : hi0.2.1 = 0 := rfl
  unfold hiJ
  omega
/-- a call is told, what came later changes no more than whether it is over -/
def hiL (H H' : gHi) : Prop := H.1 ≤ H'.1 ∧ ∀ c, c < H.1 → (H'.2.2.1 c).1 = (H.2.2.1 c).1 ∧ (H'.2.2.1 c).2.1 = (H.2.2.1 c).2.1 ∧ (H'.2.2.1 c).2.2.1 = (H.2.2.1 c).2.2.1
end PHI
/-- plain structures: a cell; a row (a stack, a queue); a set -/
abbrev gHt := Int32 × (Nat × (Nat → Int32)) × (Nat × (Int32 → Bool))
def hs0 : gHt := (0, (0, fun _ => 0), (0, fun _ => false))
/-- a call is served: the answer, and what stands then -/
def svH (s : Nat) (st : gHt) (k v : Int32) : Int32 × gHt :=
  if s = 0 then (if k = 0 then 0 else st.1, (if k = 1 then st.1 else if k = 2 then st.1 + v else v, st.2))
  else if s = 3 then
    (if k = 0 then (if st.2.2.2 v = true then (0, st) else (1, (st.1, st.2.1, (st.2.2.1 + 1, fun w => if w = v then true else st.2.2.2 w))))
    else if k = 1 then (if st.2.2.2 v = true then (1, (st.1, st.2.1, (st.2.2.1 - 1, fun w => if w = v then false else st.2.2.2 w))) else (0, st))
    else if k = 2 then (if st.2.2.2 v = true then 1 else 0, st)
    else (Int32.ofNat st.2.2.1, st))
  else
    (if k = 0 then (0, (st.1, (st.2.1.1 + 1, upf st.2.1.2 st.2.1.1 v), st.2.2))
    else if k = 1 then (if st.2.1.1 = 0 then (-1, st) else if s = 1 then (st.2.1.2 (st.2.1.1 - 1), (st.1, (st.2.1.1 - 1, st.2.1.2), st.2.2)) else (st.2.1.2 0, (st.1, (st.2.1.1 - 1, fun i => st.2.1.2 (i + 1)), st.2.2)))
    else if k = 2 then (Int32.ofNat st.2.1.1, st)
    else (Int32.ofNat st.2.1.1, (st.1, (0, st.2.1.2), st.2.2)))
/-- of n events: a call is over; its answer; one was over before another began -/
def ovB (H : gHi) (n c : Nat) : Bool := match (H.2.2.1 c).2.2.2 with
  | some p => decide (p.1 < n)
  | none => false
def anS (H : gHi) (c : Nat) : Int32 := match (H.2.2.1 c).2.2.2 with
  | some p => p.2
  | none => 0
def erB (H : gHi) (c o : Nat) : Bool := match (H.2.2.1 o).2.2.2 with
  | some p => decide (p.1 < (H.2.2.1 c).2.2.1)
  | none => false
/-- a call may come next -/
def cnH (s : Nat) (H : gHi) (n : Nat) (P : Nat → Bool) (st : gHt) (c : Nat) : Prop := (H.2.2.1 c).2.2.1 < n ∧ P c = false ∧ (∀ o, o < H.1 → erB H c o = true → P o = true) ∧ (ovB H n c = true → (svH s st (H.2.2.1 c).1 (H.2.2.1 c).2.1).1 = anS H c)
def alH (H : gHi) (n : Nat) (P : Nat → Bool) : Prop := ∀ c, c < H.1 → ovB H n c = true → P c = true
/-- the calls that are over can stand in an order behind those placed -/
def goH (s : Nat) (H : gHi) (n : Nat) : Nat → (Nat → Bool) → gHt → Prop
  | 0, P, _ => alH H n P
  | k + 1, P, st => alH H n P ∨ ∃ c, c < H.1 ∧ cnH s H n P st c ∧ goH s H n k (upf P c true) (svH s st (H.2.2.1 c).1 (H.2.2.1 c).2.1).2
/-- the same, from a call on -/
def rsH (s : Nat) (H : gHi) (n k : Nat) (P : Nat → Bool) (st : gHt) (c0 : Nat) : Prop := ∃ c, c0 ≤ c ∧ c < H.1 ∧ cnH s H n P st c ∧ goH s H n k (upf P c true) (svH s st (H.2.2.1 c).1 (H.2.2.1 c).2.1).2
/-- linear up to n events -/
def liH (s : Nat) (H : gHi) (n : Nat) : Prop := goH s H n 12 (fun _ => false) hs0
section PGO
variable {s n m k c c0 : Nat} {H : gHi} {P : Nat → Bool} {st : gHt}
theorem ov_up (hm : m ≤ n) (h : ovB H m c = true) : ovB H n c = true := by
  unfold ovB at h ⊢
  cases hq : (H.2.2.1 c).2.2.2 with
  | none => rw [hq] at h; exact nomatch h
  | some p =>
    rw [hq] at h
    have h : decide (p.1 < m) = true := h
    show decide (p.1 < n) = true
    have := of_decide_eq_true h
    exact decide_eq_true (by omega)
theorem er_of {o : Nat} (h : ovB H m o = true) (hc : m ≤ (H.2.2.1 c).2.2.1) : erB H c o = true := by
  unfold ovB at h
  unfold erB
  cases hq : (H.2.2.1 o).2.2.2 with
  | none => rw [hq] at h; exact nomatch h
  | some p =>
    rw [hq] at h
    have h : decide (p.1 < m) = true := h
    show decide (p.1 < (H.2.2.1 c).2.2.1) = true
    have := of_decide_eq_true h
    exact decide_eq_true (by omega)
/-- what is linear stays so with fewer events -/
theorem go_mono (hm : m ≤ n) : ∀ {k : Nat} {P : Nat → Bool} {st : gHt}, goH s H n k P st → goH s H m k P st := by
  intro k
  induction k with
  | zero => intro P st h c hc ho; exact h c hc (ov_up hm ho)
  | succ k ih =>
    intro P st h
    by_cases al : alH H m P
    · exact Or.inl al
    · rcases h with h | ⟨c, hc, ⟨b, p, er, an⟩, g⟩
      · exact Or.inl (fun c hc ho => h c hc (ov_up hm ho))
      · by_cases bm : (H.2.2.1 c).2.2.1 < m
        · exact Or.inr ⟨c, hc, ⟨bm, p, er, fun z => an (ov_up hm z)⟩, ih g⟩
        · exact absurd (fun o ho z => er o ho (er_of z (by omega))) al
theorem li_0 : liH s H 0 := by
  refine Or.inl (fun c hc h => ?_)
  unfold ovB at h
  cases hq : (H.2.2.1 c).2.2.2 with
  | none => rw [hq] at h; exact nomatch h
  | some p =>
    rw [hq] at h
    have h : decide (p.1 < 0) = true := h
    exact absurd (of_decide_eq_true h) (Nat.not_lt_zero _)
theorem rs_0 : goH s H n (k + 1) P st ↔ alH H n P ∨ rsH s H n k P st 0 := by
  constructor
  · rintro (h | ⟨c, h⟩)
    · exact Or.inl h
    · exact Or.inr ⟨c, Nat.zero_le _, h⟩
  · rintro (h | ⟨c, -, h⟩)
    · exact Or.inl h
    · exact Or.inr ⟨c, h⟩
theorem rs_end (h : H.1 ≤ c0) : ¬ rsH s H n k P st c0 := fun ⟨c, a, b, _⟩ => by omega
theorem rs_no (h : ¬ cnH s H n P st c0) : rsH s H n k P st c0 ↔ rsH s H n k P st (c0 + 1) := by
  constructor
  · rintro ⟨c, a, b, d, e⟩
    by_cases e1 : c = c0
    · rw [e1] at d; exact absurd d h
    · exact ⟨c, by omega, b, d, e⟩
  · rintro ⟨c, a, b⟩
    exact ⟨c, by omega, b⟩
theorem rs_yes (hc : c0 < H.1) (h : cnH s H n P st c0) : rsH s H n k P st c0 ↔ goH s H n k (upf P c0 true) (svH s st (H.2.2.1 c0).1 (H.2.2.1 c0).2.1).2 ∨ rsH s H n k P st (c0 + 1) := by
  constructor
  · rintro ⟨c, a, b, d, e⟩
    by_cases e1 : c = c0
    · rw [e1] at e; exact Or.inl e
    · exact Or.inr ⟨c, by omega, b, d, e⟩
  · rintro (e | ⟨c, a, b⟩)
    · exact ⟨c0, Nat.le_refl _, hc, h, e⟩
    · exact ⟨c, by omega, b⟩
end PGO
/-- the fewest events that are not linear -/
def fwH (s : Nat) (H : gHi) (n : Nat) : Prop := 1 ≤ n ∧ n ≤ H.2.1 ∧ ¬ liH s H n ∧ ∀ m, m < n → liH s H m
/-- what linear answers: too many calls, all linear, or how many events are the fewest that are not -/
def lnR (s : Nat) (H : gHi) (r : Int32) : Prop := (12 < H.1 ∧ r = -1) ∨ (H.1 ≤ 12 ∧ liH s H H.2.1 ∧ r = 1) ∨ (H.1 ≤ 12 ∧ ∃ n, fwH s H n ∧ r.toInt = -2 - (n : Int))
theorem fw_un {s n m : Nat} {H : gHi} (h : fwH s H n) (g : fwH s H m) : n = m := by
  rcases Nat.lt_trichotomy n m with a | a | a
  · exact absurd (g.2.2.2 n a) h.2.2.1
  · exact a
  · exact absurd (h.2.2.2 m a) g.2.2.1
theorem lnR_eq {s : Nat} {H : gHi} {r r' : Int32} (h : lnR s H r) (g : lnR s H r') : r = r' := by
  rcases h with ⟨a, b⟩ | ⟨a, b, c⟩ | ⟨a, n, b, c⟩ <;> rcases g with ⟨a', b'⟩ | ⟨a', b', c'⟩ | ⟨a', n', b', c'⟩
  · rw [b, b']
  · omega
  · omega
  · omega
  · rw [c, c']
  · exact absurd (go_mono b'.2.1 b) b'.2.2.1
  · omega
  · exact absurd (go_mono b.2.1 b') b.2.2.1
  · have := fw_un b b'
    rw [t_eq, c, c', this]
end
