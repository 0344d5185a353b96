section
/-! choice: what a choice is -/
noncomputable def chVal (C : gCo) (w : Nat) (M : gMa) (ch : gCh) (k : Int32) : Int32 :=
  if k = 0 then Int32.ofNat ch.1
  else if k = 1 then (if ch.2.1 = none then 0 else 1)
  else if k = 2 then (if ch.2.1 = none then Int32.ofNat (soM C (M.2.2 ch.1)) else 1)
  else if k = 3 then (if ch.2.1 = none then (lkM C w M ch.1).2.1 else Int32.ofNat (((M.2.2 ch.1).2.2.2.2.2.2.1[ch.2.1.getD 0]?).getD (0, 0)).1)
  else opI ch.2.2
abbrev inCh (nc : Int) (l1 l2 : Int32) : Prop := (0 ≤ l1.toInt ∧ l1.toInt < nc) ∧ 0 ≤ l2.toInt ∧ l2.toInt < 5
abbrev e2Ci (x : gd) (l1 l2 : Int32) : Prop := ¬ x.1 0 10 = 0 ∧ ¬ inCh (x.1 120 13).toInt l1 l2
def chR (C : gCo) (wr n : Nat) (c : Nat → Nat) (l1 l2 r : Int32) : Prop := ∃ ch, (chM C wr (runM C wr c n))[l1.toInt.toNat]? = some ch ∧ r = chVal C wr (runM C wr c n) ch l2
def sCi (C : gCo) (wr n : Nat) (c : Nat → Nat) (x : gd) (l1 l2 r : Int32) (y : gd) : Prop := chR C wr n c l1 l2 r ∧ KRd x y
abbrev f2Ci (w : gd) (l1 l2 : Int32) : Prop := ¬ w.1 0 67 = 0 ∧ ¬ inCh (w.1 0 84).toInt l1 l2
def tCi (C : gCo) (wr n : Nat) (w : gd) (l1 l2 r : Int32) (w' : gd) : Prop := chR C wr n (c96 w) l1 l2 r ∧ rdM C wr w w'
theorem chR_eq {C : gCo} {wr n : Nat} {c : Nat → Nat} {l1 l2 r r' : Int32} (h : chR C wr n c l1 l2 r) (g : chR C wr n c l1 l2 r') : r = r' := by
  obtain ⟨ch, a1, a2⟩ := h
  obtain ⟨ch', b1, b2⟩ := g
  rw [a1] at b1
  rw [a2, b2, Option.some.inj b1]
section PCH
variable {C : gCo} {w T : Nat} {M : gMa} {ch : gCh}
theorem lkI_m1 (h : ¬ (lkI C M T).1 = 0) : (lkI C M T).2 = -1 := by
  unfold lkI at h ⊢
  split
  · next e => rw [e] at h; exact absurd rfl h
  · next Q e =>
    simp only [e] at h
    split
    · rfl
    · next v e2 =>
      simp only [e2] at h
      split
      · rfl
      · next c => rw [if_neg c] at h; exact absurd rfl h
theorem lkM_0 (h : (M.2.2 T).2.2.2.1 = 0) : (lkM C w M T).2.1 = (lkI C M T).2 := by
  unfold lkM
  rw [if_neg (fun z => z h)]
  by_cases c : ¬ (lkI C M T).1 = 0
  · rw [if_pos c]
  · rw [if_neg c]
    split
    · rfl
    · split
      · rfl
      · rfl
theorem lkM_w (h : ¬ (M.2.2 T).2.2.2.1 = 0) : (lkM C w M T).2.1 = (stN C (M.2.2 T).2.2.1).2.2.2.2.1 := by
  unfold lkM
  rw [if_pos h]
theorem lkI_no (h : (stN C (M.2.2 T).2.2.1).2.2.2.2.2.2.2.1 = none) : (lkI C M T).2 = (stN C (M.2.2 T).2.2.1).2.2.2.2.1 := by
  unfold lkI
  rw [h]
theorem ch_lt (h : ch ∈ chM C w M) : ¬ ch.2.1 = none → ch.2.2 = none := by
  unfold chM at h
  obtain ⟨t, ht, h⟩ := List.mem_flatMap.mp h
  unfold ch1 at h
  rcases List.mem_append.mp h with h | h
  · by_cases c : canM C w M t
    · rw [if_pos c] at h
      by_cases c8 : soM C (M.2.2 t) = 8 ∧ (stN C (M.2.2 t).2.2.1).2.2.2.2.2.2.1 = false ∧ (M.2.1 (obM C (M.2.2 t).2.2.1)).1 = t + 1 ∧ ¬ waM C M (obM C (M.2.2 t).2.2.1) = []
      · rw [if_pos c8] at h
        obtain ⟨u, hu, e⟩ := List.mem_map.mp h
        subst e
        exact fun z => absurd rfl z
      · rw [if_neg c8] at h
        cases List.mem_singleton.mp h
        exact fun z => absurd rfl z
    · rw [if_neg c] at h; cases h
  · obtain ⟨u, hu, e⟩ := List.mem_map.mp h
    subst e
    exact fun _ => rfl
end PCH
section KCI
variable {G : kG} {q : kP} {d : Nat} {x y w w' : gd} {Fv : gd → Prop} {P : Option gv → gd → Prop} {X : String → gd → Prop} {C : gCo} {wr n : Nat} {lm : Nat → Nat}
theorem kh_what (hq : kV q) (l n : Int32) (hO : ¬ (0 ≤ l.toInt ∧ l.toInt < n.toInt) → X iOE x) (h : 0 ≤ l.toInt → l.toInt < n.toInt → Fv x) : KE G q (d + 6) zk_X11_needWhat 0 [(0, vi l), (1, vi n)] [] x (rv Fv) X := by
  have k0 : (0 : Int32).toInt = 0 := rfl
  refine kg_X11_needWhat_0 hq l n ⟨fun c => kg_X11_needWhat_9 hq (hO ?_), fun c => ⟨fun c2 => rv_i (h ?_ ?_), fun c2 => kg_X11_needWhat_9 hq (hO ?_)⟩⟩
  · rw [t_lt, k0] at c; omega
  · rw [t_lt, k0] at c; omega
  · rw [t_lt] at c2; exact c2
  · rw [t_lt] at c2; omega
theorem kch_4 {x : gd} {o I : Nat} {ch : gCh} (h : kch x o I ch) : x.1 (o + 13) I = opI ch.2.2 := by
  obtain ⟨-, -, -, h4, h5⟩ := h
  cases e : ch.2.2 with
  | none => exact h4 e
  | some k => exact h5 k e
theorem ka_choice (h : JH C wr n lm x w) (hq : kV q) (hH : HOI x q) (l1 l2 : Int32) (hX1 : e1Ch x → X iSE x) (hX2 : e2Ci x l1 l2 → X iOE x) (hP : ¬ e1Ch x → ¬ e2Ci x l1 l2 → ∀ r y, HOI y q → sCi C wr n (c96 w) x l1 l2 r y → P (some (vi r)) y) : KE G q (d + 7) zk_X11_choice 0 [(0, vr 0), (1, vi l1), (2, vi l2)] [] x P X := by
  have hm : kiM q 120 := Or.inl rfl
  have k5 : (5 : Int32).toInt = 5 := rfl
  refine kg_X11_choice_0 hq l1 l2 (kh_run hq hH hX1 (fun h10 hR => kh_ix hq l1 _ (fun hn => hX2 ⟨h10, fun z => hn z.1⟩) (fun l0 l9 => kh_what hq l2 5 (fun hn => hX2 ⟨h10, fun z => hn (by rw [k5]; exact z.2)⟩) (fun g0 g9 => ?_))))
  rw [k5] at g9
  obtain ⟨j, r, -, -⟩ := JH_R h h10
  have gc := JH_gc h hH
  obtain ⟨M, eM⟩ : ∃ M, M = runM C wr (c96 w) n := ⟨_, rfl⟩
  have hP := hP h10 (fun z => z.2 ⟨⟨l0, l9⟩, g0, g9⟩)
  unfold sCi chR at hP
  rw [← eM] at hP
  obtain ⟨-, ⟨r2, r3, r4⟩, -⟩ := r
  rw [← eM] at r2 r3 r4
  have len := r4.1
  have len : (x.1 120 13).toInt = ((chM C wr M).length : Nat) := len
  have hl : l1.toInt.toNat < (chM C wr M).length := by omega
  obtain ⟨ch, hch⟩ : ∃ ch, (chM C wr M)[l1.toInt.toNat]? = some ch := ⟨_, List.getElem?_eq_getElem hl⟩
  have kc := r4.2 _ _ hch
  have cm := List.mem_of_getElem? hch
  obtain ⟨i1, i2, i3⟩ := ch_in cm
  have b84 := hR.2.1.1
  have v84 : vp_in l1 84 := by rw [vp_in_iff]; omega
  have e131 : x.1 131 l1.toInt.toNat = Int32.ofNat ch.1 := kc.1
  have e133 : x.1 133 l1.toInt.toNat = opI ch.2.2 := kch_4 kc
  have e132n : ch.2.1 = none → x.1 132 l1.toInt.toNat = -1 := kc.2.1
  have e132s : ∀ j, ch.2.1 = some j → x.1 132 l1.toInt.toNat = Int32.ofNat j := kc.2.2.1
  have e10 : (x.1 60 10).toInt = (C.2.1.length : Nat) := j.2.1.2.1.1
  have hT6 := MM_6 hR.1.1 (t := ch.1) (by omega)
  have hA := (hR.1.2.2 ch.1 (by omega)).1
  have gT := r2.2 ch.1 i1
  have eT : (x.1 131 l1.toInt.toNat).toInt = (ch.1 : Nat) := by rw [e131]; exact Int32.toInt_ofNat_of_lt (by omega)
  have q7 := gT.2.2.2.2.2.2.1
  have lt8 := hA.2.1
  have late : ∀ jj, ch.2.1 = some jj → jj < 8 ∧ ¬ x.1 132 l1.toInt.toNat = -1 ∧ (x.1 132 l1.toInt.toNat).toInt = (jj : Nat) := fun jj hj => by
    have h8 := i3 jj hj
    have : jj < 8 := by omega
    have e9 := e132s jj hj
    have e8 : (Int32.ofNat jj).toInt = (jj : Nat) := Int32.toInt_ofNat_of_lt (by omega)
    refine ⟨this, fun z => ?_, by rw [e9]; exact e8⟩
    rw [e9] at z
    rw [z, tm1] at e8
    omega
  have nn : ¬ x.1 132 l1.toInt.toNat = -1 ↔ ¬ ch.2.1 = none := ⟨fun a b => a (e132n b), fun a => by
    cases hc : ch.2.1 with
    | none => exact absurd hc a
    | some jj => exact (late jj hc).2.1⟩
  have here : ∀ r, r = chVal C wr M ch l2 → P (some (vi r)) x := fun r er => hP r x hH ⟨⟨ch, hch, er⟩, KR_rf⟩
  have n1 : ∀ {a b : Int32}, ¬ a = b → l2 = a → ¬ l2 = b := fun h e z => h (e.symm.trans z)
  rw [t_cl]
  refine ⟨v84, v84, fun c => here _ ?_, fun c => ⟨fun z => here _ ?_, fun z => here _ ?_⟩, fun c => ⟨fun z => here _ ?_, fun z => ?_⟩, fun c => ⟨fun z => ?_, fun z => ?_⟩, fun c => ⟨v84, here _ ?_⟩⟩
  · unfold chVal; rw [if_pos c]; exact e131
  · unfold chVal; rw [if_neg (n1 (by decide) c), if_pos c, if_neg (nn.mp z)]
  · unfold chVal; rw [if_neg (n1 (by decide) c), if_pos c, if_pos (Classical.not_not.mp (fun a => nn.mpr a z))]
  · unfold chVal; rw [if_neg (n1 (by decide) c), if_neg (n1 (by decide) c), if_pos c, if_neg (nn.mp z)]
  · have cn : ch.2.1 = none := Classical.not_not.mp (fun a => nn.mpr a z)
    have ev : chVal C wr M ch l2 = Int32.ofNat (soM C (M.2.2 ch.1)) := by unfold chVal; rw [if_neg (n1 (by decide) c), if_neg (n1 (by decide) c), if_pos c, if_pos cn]
    obtain ⟨st, s1, s2, s3, s4, s5, kn, ns⟩ := kst_at hR.1 j.2.1 gc.1.1 i1 gT
    have w3 := kst_w3 hR.1 j.2.1 gc.1.1 i1 gT
    refine kp_sortOf hq hm hR.1.1 hR.1.2.1 _ eT hT6 hA (fun c3 => here _ ?_) (fun c3 => here _ ?_)
    · rw [ev, s3]
      unfold soM
      rw [if_pos (w3.mp c3), s2]
      exact kn.1
    · rw [ev]
      unfold soM
      rw [if_neg (fun z9 => c3 (w3.mpr z9))]
      rfl
  · obtain ⟨jj, hj⟩ : ∃ jj, ch.2.1 = some jj := by
      cases hc : ch.2.1 with
      | none => exact absurd hc (nn.mp z)
      | some jj => exact ⟨jj, rfl⟩
    obtain ⟨j8, -, ej⟩ := late jj hj
    have h8 := i3 jj hj
    have hg := List.getElem?_eq_getElem h8
    have qq := (q7.2 jj _ hg).1
    refine kp_lateCell hq hm hR.1.1 hR.1.2.1 _ _ eT hT6 ej j8 (here _ ?_)
    unfold chVal
    rw [if_neg (n1 (by decide) c), if_neg (n1 (by decide) c), if_neg (n1 (by decide) c), if_pos c, if_neg (nn.mp z), hj]
    show _ = Int32.ofNat (((M.2.2 ch.1).2.2.2.2.2.2.1[jj]?).getD (0, 0)).1
    rw [hg]
    exact i32_of qq
  · have cn : ch.2.1 = none := Classical.not_not.mp (fun a => nn.mpr a z)
    have ev : chVal C wr M ch l2 = (lkM C wr M ch.1).2.1 := by unfold chVal; rw [if_neg (n1 (by decide) c), if_neg (n1 (by decide) c), if_neg (n1 (by decide) c), if_pos c, if_pos cn]
    obtain ⟨st, s1, s2, s3, s4, s5, kn, ns⟩ := kst_at hR.1 j.2.1 gc.1.1 i1 gT
    have u1 := (i2 cn).1
    have tg := (hR.1.2.2 ch.1 (by omega)).2 (by rw [gT.1.1, u1]; rfl)
    rw [s3] at tg
    have o16 : st.1 < 16 := by have := tg.1; omega
    refine kh_objectOf hq hm hR.1 j.2.1 gc.1.1 r2 _ eT i1 u1 (fun r9 y9 fy a1 a2 => ?_)
    have fk : KRd x y9 := fm_w fy (fun c k q => by unfold sLk at q; unfold sRd; omega)
    refine hP r9 y9 (HOI_run (fm_w fy (fun c k => rn_Lk)) (RUN_Lk fy hR) hH) ⟨⟨ch, hch, ?_⟩, fk⟩
    rw [ev]
    by_cases so : soM C (M.2.2 ch.1) ≤ 4
    · have w0 : (M.2.2 ch.1).2.2.2.1 = 0 := by
        apply Classical.byContradiction
        intro z9
        unfold soM at so
        rw [if_neg z9] at so
        omega
      rw [lkM_0 w0]
      rcases a1 so with ⟨-, b2, -⟩ | ⟨b1, b2⟩
      · exact b2
      · rw [b2, lkI_m1 b1]
    · have r9e : r9 = st.2.2.2.2.1 := by
        rcases a2 so with b | b
        · rw [b, s2]
        · rw [s2] at b; omega
      by_cases w0 : (M.2.2 ch.1).2.2.2.1 = 0
      · have ix : st.2.2.2.2.2.2.2.1 = none := by
          apply Classical.byContradiction
          intro z9
          have := (gc.1.2.1 _ st s1).1 z9
          unfold soM at so
          rw [if_pos w0, s2] at so
          omega
        rw [lkM_0 w0, lkI_no (by rw [s2]; exact ix), s2]; exact r9e
      · rw [lkM_w w0, s2]; exact r9e
  · unfold chVal
    rw [if_neg (c 0 (by decide)), if_neg (c 1 (by decide)), if_neg (c 2 (by decide)), if_neg (c 3 (by decide))]
    exact e133
theorem ja_choice {l1 l2 r9 r : Int32} (h : JH C wr n lm x w) (hH : HOI y q) (k : ansK (e1Ch x) (e2Ci x l1 l2) (sCi C wr n (c96 w) x l1 l2) x r9 y) (m : ansM C wr (f1Ch w) (f2Ci w l1 l2) (tCi C wr n w l1 l2) w r w') : JR3 y w' ∧ ansE r9 r y w' := by
  have e9 := JH_10 h
  refine ans_eq h hH e9 ⟨fun z => ⟨fun a => z.1 (e9.mpr a), by rw [← JH_84 h z.1]; exact z.2⟩, fun z => ⟨fun a => z.1 (e9.mp a), by rw [JH_84 h (fun a => z.1 (e9.mp a))]; exact z.2⟩⟩ (fun a z => z.1 a) k m (fun c _ r' s t => ⟨JQ_rd h hH s.2 t.2, chR_eq s.1 t.1⟩)
end KCI
section MCI
variable {G : mG} {d D : Nat} {x w : gd} {F : Int32 → gd → Prop} {C : gCo} {wr n : Nat} {lm : Nat → Nat} {q : kP}
theorem ma_choice (h : JH C wr n lm x w) (hH : HOI x q) (hm : MI w) (i k : Int32) (hD : 4 ≤ D) (hF : ∀ r w', ansM C wr (f1Ch w) (f2Ci w i k) (tCi C wr n w i k) w r w' → F r w') : MT G D z_choice 0 [(0, vr 0), (1, vi i), (2, vi k)] [] w (ri F) := by
  obtain ⟨D, rfl⟩ : ∃ D', D = D' + 2 := ⟨D - 2, by omega⟩
  have k0 : (0 : Int32).toInt = 0 := rfl
  refine sg_choice_0 _ _ (fun y e => ?_)
  have hy := z0_s e
  have e67 : y.1 0 67 = w.1 0 67 := hy.1.1 67 (by decide)
  have qy := (MI_0 hy.1 hm).1
  refine sc_noRunk hy (fun hr => ⟨fun q => absurd rfl q, fun _ => ?_⟩) (fun c y' m => ⟨fun _ => ri_i (hF _ y' (an_1 hm (show w.1 0 67 = 0 by rw [← e67]; exact c) m)), fun q => absurd q (by decide)⟩)
  have hc := (qy.2.2.1 hr).1
  rw [e67] at hr
  obtain ⟨-, hh, e94⟩ := JH_M h hr
  have gc := (JH_gc h hH).1
  have w01 := HistC_w hh
  have e84w : y.1 0 84 = w.1 0 84 := hy.1.1 84 (by decide)
  obtain ⟨s, n', q1, q2, q3, q4, q5, q6, q7⟩ := HistC_0 hy.1 hh
  have cy : c96 y = c96 w := by unfold c96; rw [hy.1.2 96 (by decide) (by simp)]
  have en : n' = n := by rw [hy.1.1 94 (by decide), e94] at q1; omega
  subst en
  have am := q2 n' (Nat.le_refl _)
  rw [cy] at am
  obtain ⟨M, eM⟩ : ∃ M, M = runM C wr (c96 w) n' := ⟨_, rfl⟩
  rw [← eM] at am
  have hF := hF
  unfold tCi chR at hF
  rw [← eM] at hF
  have av := am.1
  have e84 : y.1 0 84 = (s n').1 0 84 := q4 0 84 (Or.inr (Or.inl ⟨rfl, rfl⟩))
  have c0 := av.2.2.2.1
  have c84 := av.2.2.2.2.1
  have len := AM_n am
  have p41 : ∀ b : Int32, (b = 0 → inCh (y.1 0 84).toInt i k) → (¬ b = 0 → ¬ inCh (y.1 0 84).toInt i k) → MT G (D + 2) z_choice 41 [(0, vr 0), (1, vi i), (2, vi k)] [vi b, vr 0] y (ri F) := by
    intro b hb hb2
    refine sg_choice_41 _ _ _ (sc_refk b 2 hy (by decide) (fun b0 => ⟨fun _ => ?_, fun q => absurd rfl q⟩) (fun nb y' m => ⟨fun q => absurd q (by decide), fun _ => ri_i (hF _ y' (an_2 hm ⟨hr, by rw [← e84w]; exact hb2 nb⟩ m))⟩))
    have hin := hb b0
    have nE2 : ¬ f2Ci w i k := fun z => z.2 (by rw [← e84w]; exact hin)
    obtain ⟨hi, hk⟩ := hin
    rw [e84] at hi
    have ci := cl_i hi.1
    have iv : vp_in i 200 := by rw [vp_in_iff]; omega
    have hl : i.toInt.toNat < (chM C wr M).length := by omega
    obtain ⟨ch, hch⟩ : ∃ ch, (chM C wr M)[i.toInt.toNat]? = some ch := ⟨_, List.getElem?_eq_getElem hl⟩
    have cm := List.mem_of_getElem? hch
    obtain ⟨j1, j2, j3⟩ := ch_in cm
    obtain ⟨m86, m87, m88⟩ := am.2.2.2.2.2.2 _ _ hch
    obtain ⟨u86, u87, u88, ⟨t0, t6⟩, co⟩ := av.2.2.1 i.toNatClampNeg (by omega)
    have e86 := q4 _ _ (Or.inr u86)
    have e87 := q4 _ _ (Or.inr u87)
    have e88 := q4 _ _ (Or.inr u88)
    rw [t_cl] at e86 e87 e88
    rw [m86] at e86
    rw [m87] at e87
    rw [m88] at e88
    have lt6 : ch.1 < 6 := by have := gc.2.2; omega
    have e6 : (Int32.ofNat ch.1).toInt = (ch.1 : Nat) := Int32.toInt_ofNat_of_lt (by omega)
    have tv : vp_in (Int32.ofNat ch.1) 6 := by rw [vp_in_iff]; omega
    have ct : (Int32.ofNat ch.1).toNatClampNeg = ch.1 := by rw [t_cl, e6]; rfl
    have rr := (av.1.2 ch.1 lt6)
    have a74 : vp_in (y.1 74 (Int32.ofNat ch.1).toNatClampNeg) 1500 := by
      rw [ct, cA q4 (c := 74) (n := 6) (by decide) lt6, vp_in_iff]
      exact ⟨rr.1.1, rr.1.2.1⟩
    have lq := (am.2.2.1.2.2 ch.1 lt6).2.2.2.2.2.2.2.2.1
    have op8 : ∀ jj, jj < 9 → ¬ Int32.ofNat jj = -1 := by decide +kernel
    have lt9 : ∀ jj, ch.2.1 = some jj → jj < 8 := fun jj hj => by
      have := j3 jj hj
      have := lq.1
      have := rr.2.2.2.1
      omega
    have nn : y.1 87 i.toInt.toNat = -1 ↔ ch.2.1 = none := by
      rw [e87]
      cases hcc : ch.2.1 with
      | none => exact ⟨fun _ => rfl, fun _ => rfl⟩
      | some jj => exact ⟨fun z => absurd z (op8 jj (by have := lt9 jj hcc; omega)), fun z => nomatch z⟩
    have ok : ∀ r, r = chVal C wr M ch k → ri F (some (vi r)) y := fun r er => ri_i (hF _ y (an_3 qy hr nE2 hy.2 ⟨⟨ch, hch, er⟩, rd_0 hy.1 hm⟩))
    have n1 : ∀ {a b : Int32}, ¬ a = b → k = a → ¬ k = b := fun h e z => h (e.symm.trans z)
    rw [t_cl]
    refine ⟨iv, iv, fun n0 => ⟨fun c => ?_, fun c => ?_⟩, fun z0' => ok _ ?_⟩
    · have cn := nn.mp c
      refine ⟨fun n3 => ⟨fun n1' => ⟨fun n2 => ⟨iv, ok _ ?_⟩, fun e2 => ?_⟩, fun e1 => ok _ ?_⟩, fun e3 => ?_⟩
      · unfold chVal; rw [if_neg n0, if_neg n1', if_neg n2, if_neg n3]; exact e88
      · have u1 := (j2 cn).1
        have h1 : (s n').1 73 ch.1 = 1 := by rw [(am.2.2.1.2.2 ch.1 lt6).1, u1]; rfl
        have h2 : ¬ (s n').1 77 ch.1 = 1 := fun z => (j2 cn).2.1 (by
          have e77 := (am.2.2.1.2.2 ch.1 lt6).2.2.2.2.1
          have l77 := (am.2.2.1.2.2 ch.1 lt6).2.2.2.2.2.1
          rw [e77] at z
          exact (wai_2 _ (by omega)).2.1.mp z)
        rw [e86]
        refine sp_sortOf _ tv a74 ?_
        rw [ct, srt_eq (eqS_w (Sl_Sm _) q4) av.1 lt6, (srt_so gc.1 am lt6 h1 h2).1]
        exact ok _ (by unfold chVal; rw [if_neg n0, if_neg (n1 (by decide) e2), if_pos e2, if_pos cn])
      · unfold chVal; rw [if_neg n0, if_pos e1, if_pos cn]
      · have u1 := (j2 cn).1
        have h1 : (s n').1 73 ch.1 = 1 := by rw [(am.2.2.1.2.2 ch.1 lt6).1, u1]; rfl
        have h2 : ¬ (s n').1 77 ch.1 = 1 := fun z => (j2 cn).2.1 (by
          have e77 := (am.2.2.1.2.2 ch.1 lt6).2.2.2.2.1
          have l77 := (am.2.2.1.2.2 ch.1 lt6).2.2.2.2.2.1
          rw [e77] at z
          exact (wai_2 _ (by omega)).2.1.mp z)
        rw [e86]
        refine sp_lookAt3 gc.1 gc.2.1 w01 am q4 _ tv (by rw [ct]; exact h1) (by rw [ct]; exact h2) (by omega) (fun y' x' e' m' _ _ _ _ v88 => ri_i (hF _ y' ?_))
        rw [ct] at v88
        have mm := mi_of m'
        have cy' : c96 y' = c96 y := by unfold c96; rw [mm.2 96 (by decide) (by decide)]
        have histc : HistC C wr y' := ⟨s, n', by rw [mm.1 94 (by decide)]; exact q1, by rw [cy']; exact q2, by rw [cy', mm.2 96 (by decide) (by decide)]; exact q3, e', by rw [mm.1 68 (by decide)]; exact St_pr (prE_mi (prE_rf y) mm rfl rfl) q5, by rw [mm.1 68 (by decide)]; exact q6, HA_mi mm rfl rfl q7⟩
        have p := MI_new mm rfl rfl hc (HistC_H histc) qy
        refine an_3 p.1 hr nE2 (by rw [mm.1 0 (by decide)]; exact hy.2) ⟨⟨ch, hch, ?_⟩, rd_tr hy.1 ⟨p, ⟨mm.1 67 (by decide), mm.1 94 (by decide), mm.2 96 (by decide) (by decide)⟩, mm.2 119 (by decide) (by decide), fun _ => histc, fun w T h => TYc_mi mm rfl h⟩⟩
        rw [v88]
        unfold chVal
        rw [if_neg n0, if_neg (n1 (by decide) e3), if_neg (n1 (by decide) e3), if_pos e3, if_pos cn]
    · have cs : ¬ ch.2.1 = none := fun z => c (nn.mpr z)
      obtain ⟨jj, hj⟩ : ∃ jj, ch.2.1 = some jj := by
        cases hcc : ch.2.1 with
        | none => exact absurd hcc cs
        | some jj => exact ⟨jj, rfl⟩
      have h8 := lt9 jj hj
      have ej : y.1 87 i.toInt.toNat = Int32.ofNat jj := by rw [e87, hj]; rfl
      have ejj : (Int32.ofNat jj).toInt = (jj : Nat) := Int32.toInt_ofNat_of_lt (by omega)
      refine ⟨fun e1 => ok _ ?_, fun n1' => ⟨fun n2 => ⟨fun n3 => ok _ ?_, fun e3 => ?_⟩, fun e2 => ok _ ?_⟩⟩
      · unfold chVal; rw [if_neg n0, if_pos e1, if_neg cs]
      · unfold chVal; rw [if_neg n0, if_neg n1', if_neg n2, if_neg n3, ch_lt cm cs]; rfl
      · rw [e86, ej]
        obtain ⟨ta, tb⟩ := t10 tv (i := Int32.ofNat jj) (by omega) (by omega)
        refine ⟨ta, ok _ ?_⟩
        rw [tb, ct, t_cl, ejj]
        have hg := List.getElem?_eq_getElem (j3 jj hj)
        have b1 := (lq.2 jj _ hg).1
        have ey : y.1 81 (10 * ch.1 + jj) = (s n').1 81 (10 * ch.1 + jj) := q4 81 _ (Or.inr (Or.inr (Or.inr ⟨Or.inl rfl, ch.1, jj, lt6, by rw [lq.1]; have := j3 jj hj; omega, rfl⟩)))
        unfold chVal
        rw [if_neg n0, if_neg n1', if_neg n2, if_pos e3, if_neg cs, hj]
        show y.1 81 (10 * ch.1 + ((jj : Nat) : Int).toNat) = Int32.ofNat (((M.2.2 ch.1).2.2.2.2.2.2.1[jj]?).getD (0, 0)).1
        rw [hg, Int.toNat_natCast, ey]
        exact b1
      · unfold chVal; rw [if_neg n0, if_neg n1', if_pos e2, if_neg cs]
    · unfold chVal; rw [if_pos z0', e86]
  refine sp_in _ _ _ ⟨fun c1 => p41 1 (fun q => absurd q (by decide)) (fun _ z => in_ge (bi_eq.mp c1) (by rw [e84]; exact c0) z.1), fun c1 => sp_in _ _ _ ⟨fun c2 => p41 0 (fun _ => ⟨in_lt (bi_ne.mp c1) (by rw [e84]; exact c0), ?_⟩) (fun z => absurd rfl z), fun c2 => p41 1 (fun q => absurd q (by decide)) (fun _ z => ?_)⟩⟩
  · obtain ⟨a1, a2⟩ := bi_ne.mp c2
    have k4 : (4 : Int32).toInt = 4 := rfl
    rw [t_le, k0] at a1
    rw [t_le, k4] at a2
    omega
  · have k4 : (4 : Int32).toInt = 4 := rfl
    have := z.2
    exact bi_eq.mp c2 ⟨t_le.mpr (by rw [k0]; exact z.2.1), t_le.mpr (by rw [k4]; omega)⟩
end MCI
end
section
/-! how many bits: what bitCount answers -/
def ushI (a k : Int32) : Int32 := ((a.toUInt32 >>> (k.toUInt32 &&& Int32.toUInt32 31)).toInt32)
def bc1 (a : Int32) : Int32 := a - (ushI a 1 &&& 1431655765)
def bc2 (a : Int32) : Int32 := (a &&& 858993459) + (ushI a 2 &&& 858993459)
def bc3 (a : Int32) : Int32 := (a + ushI a 4) &&& 252645135
def bc4 (a : Int32) : Int32 := a + ushI a 8
def bc5 (a : Int32) : Int32 := a + ushI a 16
def bcE (a : Int32) : Int32 := bc5 (bc4 (bc3 (bc2 (bc1 a)))) &&& 63
section KRJ2
variable {E : gE} {d : Nat} {lv : List (Nat × gv)} {st : List gv} {x : gd} {f : gf} {Q : gr → gd → gf → Prop}
theorem tj_bitsE (a : Int32) (h : Q (.inl (some (vi (bcE a)))) x f) : T E d zj_bitCount 0 [(0, vi a)] [] x f Q := by
  refine T_iload_n 0 (dk dtj_bitCount 0 rfl) rfl rfl ?_
  refine T_iload_n 0 (dk dtj_bitCount 1 rfl) rfl rfl ?_
  refine T_iconst (v := 1) (dk dtj_bitCount 2 rfl) (by decide +kernel) ?_
  refine T_iushr (dk dtj_bitCount 3 rfl) ?_
  refine T_ldcw (v := 1431655765) (dk dtj_bitCount 4 rfl) kkj_265 ?_
  refine T_iand (dk dtj_bitCount 5 rfl) ?_
  refine T_isub (dk dtj_bitCount 6 rfl) ?_
  refine T_istore_n (dk dtj_bitCount 7 rfl) rfl (by decide) rfl ?_
  refine T_iload_n 0 (dk dtj_bitCount 8 rfl) rfl rfl ?_
  refine T_ldcw (v := 858993459) (dk dtj_bitCount 9 rfl) kkj_266 ?_
  refine T_iand (dk dtj_bitCount 10 rfl) ?_
  refine T_iload_n 0 (dk dtj_bitCount 11 rfl) rfl rfl ?_
  refine T_iconst (v := 2) (dk dtj_bitCount 12 rfl) (by decide +kernel) ?_
  refine T_iushr (dk dtj_bitCount 13 rfl) ?_
  refine T_ldcw (v := 858993459) (dk dtj_bitCount 14 rfl) kkj_266 ?_
  refine T_iand (dk dtj_bitCount 15 rfl) ?_
  refine T_iadd (dk dtj_bitCount 16 rfl) ?_
  refine T_istore_n (dk dtj_bitCount 17 rfl) rfl (by decide) rfl ?_
  refine T_iload_n 0 (dk dtj_bitCount 18 rfl) rfl rfl ?_
  refine T_iload_n 0 (dk dtj_bitCount 19 rfl) rfl rfl ?_
  refine T_iconst (v := 4) (dk dtj_bitCount 20 rfl) (by decide +kernel) ?_
  refine T_iushr (dk dtj_bitCount 21 rfl) ?_
  refine T_iadd (dk dtj_bitCount 22 rfl) ?_
  refine T_ldcw (v := 252645135) (dk dtj_bitCount 23 rfl) kkj_267 ?_
  refine T_iand (dk dtj_bitCount 24 rfl) ?_
  refine T_istore_n (dk dtj_bitCount 25 rfl) rfl (by decide) rfl ?_
  refine T_iload_n 0 (dk dtj_bitCount 26 rfl) rfl rfl ?_
  refine T_iload_n 0 (dk dtj_bitCount 27 rfl) rfl rfl ?_
  refine T_bipush (v := 8) (dk dtj_bitCount 28 rfl) (by decide +kernel) ?_
  refine T_iushr (dk dtj_bitCount 29 rfl) ?_
  refine T_iadd (dk dtj_bitCount 30 rfl) ?_
  refine T_istore_n (dk dtj_bitCount 31 rfl) rfl (by decide) rfl ?_
  refine T_iload_n 0 (dk dtj_bitCount 32 rfl) rfl rfl ?_
  refine T_iload_n 0 (dk dtj_bitCount 33 rfl) rfl rfl ?_
  refine T_bipush (v := 16) (dk dtj_bitCount 34 rfl) (by decide +kernel) ?_
  refine T_iushr (dk dtj_bitCount 35 rfl) ?_
  refine T_iadd (dk dtj_bitCount 36 rfl) ?_
  refine T_istore_n (dk dtj_bitCount 37 rfl) rfl (by decide) rfl ?_
  refine T_iload_n 0 (dk dtj_bitCount 38 rfl) rfl rfl ?_
  refine T_bipush (v := 63) (dk dtj_bitCount 39 rfl) (by decide +kernel) ?_
  refine T_iand (dk dtj_bitCount 40 rfl) ?_
  exact T_iret (dk dtj_bitCount 41 rfl) rfl rfl h
end KRJ2
theorem kg_X11_lockE_0 {G : kG} {q : kP} {d : Nat} {x : gd} {P : Option gv → gd → Prop} {X : String → gd → Prop} (hq : kV q) (l1 : Int32) (l2 : Int32)
    (h : KE G q (d + 6) zk_X11_needRun 0 [(0, vr 0)] [] x (rv (fun x1 => KE G q (d + 6) zk_X11_needIndex 0 [(0, vi l1), (1, vi (x1.1 60 9))] [] x1 (rv (fun x2 => KE G q (d + 6) zk_X11_needWhat 0 [(0, vi l2), (1, vi 3)] [] x2 (rv (fun x3 => (((l2 = 0) → KT G q (d + 6) zk_X5_holder 0 [(0, vr 120), (1, vi l1)] [] x3 (ri (fun r6 x5 => P (some (vi r6)) x5))) ∧ ((l2 = 1) → KT G q (d + 6) zk_X5_often 0 [(0, vr 120), (1, vi l1)] [] x3 (ri (fun r9 x8 => P (some (vi r9)) x8))) ∧ ((∀ k ∈ [(0 : Int32), (1 : Int32)], ¬ l2 = k) → KT G q (d + 6) zk_X5_waiters 0 [(0, vr 120), (1, vi l1)] [] x3 (ri (fun r12 x11 => P (some (vi (bcE r12))) x11)))))) X)) X)) X) :
    KE G q (d + 7) zk_X11_lock 0 [(0, vr 0), (1, vi l1), (2, vi l2)] [] x P X := by
  refine T_aload_n 0 (dk dtk_X11_lock 0 rfl) rfl rfl ?_
  refine KD_Vv [] [] rfl (dk dtk_X11_lock 1 rfl) kcv_X11_160 rfl kk_0 rfl (kl_0 hq) (Nat.le_of_ble_eq_true rfl) (Nat.le_of_ble_eq_true rfl) (gok_i (av_c (gkr (kl_0 hq)) (av_c rfl (av_c rfl av_n))) as_n) rfl h (fun x1 h => ?_)
  refine T_iload_n 1 (dk dtk_X11_lock 2 rfl) rfl rfl ?_
  refine T_aload_n 0 (dk dtk_X11_lock 3 rfl) rfl rfl ?_
  refine T_getR 0 2 60 (dk dtk_X11_lock 4 rfl) kfl_X11_28 kk_0 (kl_0 hq) (by decide) rfl kr_0_2 ?_
  refine T_getI 60 9 (dk dtk_X11_lock 5 rfl) kfl_X11_139 kk_60 (kl_60 hq) (by decide) rfl ?_
  refine KD_Sv [vi l1, vi (x1.1 60 9)] [] rfl (dk dtk_X11_lock 6 rfl) kcs_X11_163 rfl (Nat.le_of_ble_eq_true rfl) (Nat.le_of_ble_eq_true rfl) (gok_i (av_c (gkr (kl_0 hq)) (av_c rfl (av_c rfl av_n))) as_n) rfl h (fun x2 h => ?_)
  refine T_iload_n 2 (dk dtk_X11_lock 7 rfl) rfl rfl ?_
  refine T_iconst (v := 3) (dk dtk_X11_lock 8 rfl) (by decide +kernel) ?_
  refine KD_Sv [vi l2, vi 3] [] rfl (dk dtk_X11_lock 9 rfl) kcs_X11_132 rfl (Nat.le_of_ble_eq_true rfl) (Nat.le_of_ble_eq_true rfl) (gok_i (av_c (gkr (kl_0 hq)) (av_c rfl (av_c rfl av_n))) as_n) rfl h (fun x3 h => ?_)
  refine T_iload_n 2 (dk dtk_X11_lock 10 rfl) rfl rfl ?_
  by_cases c4 : l2 = 0
  · have h := h.1 c4
    refine T_lookup 27 48 (dk dtk_X11_lock 11 rfl) (by decide +kernel) (by rw [c4]; decide +kernel) (by decide) ?_
    refine T_aload_n 0 (dk dtk_X11_lock 12 rfl) rfl rfl ?_
    refine T_getR 0 4 120 (dk dtk_X11_lock 13 rfl) kfl_X11_46 kk_0 (kl_0 hq) (by decide) rfl kr_0_4 ?_
    refine T_iload_n 1 (dk dtk_X11_lock 14 rfl) rfl rfl ?_
    refine T_sub (lv2 := []) [] rfl ?_
    refine KC_Vi [vi l1] [] rfl (dk dtk_X11_lock 15 rfl) kcv_X11_228 rfl kk_120 rfl (kl_120 hq) (Nat.le_of_ble_eq_true rfl) (Nat.le_of_ble_eq_true rfl) (gok_i av_n as_n) rfl h (fun r6 x5 h => ?_)
    exact KE_iret (dk dtk_X11_lock 16 rfl) rfl rfl h
  · have h := h.2
    by_cases c7 : l2 = 1
    · have h := h.1 c7
      refine T_lookup 36 57 (dk dtk_X11_lock 11 rfl) (by decide +kernel) (by rw [c7]; decide +kernel) (by decide) ?_
      refine T_aload_n 0 (dk dtk_X11_lock 17 rfl) rfl rfl ?_
      refine T_getR 0 4 120 (dk dtk_X11_lock 18 rfl) kfl_X11_46 kk_0 (kl_0 hq) (by decide) rfl kr_0_4 ?_
      refine T_iload_n 1 (dk dtk_X11_lock 19 rfl) rfl rfl ?_
      refine T_sub (lv2 := []) [] rfl ?_
      refine KC_Vi [vi l1] [] rfl (dk dtk_X11_lock 20 rfl) kcv_X11_231 rfl kk_120 rfl (kl_120 hq) (Nat.le_of_ble_eq_true rfl) (Nat.le_of_ble_eq_true rfl) (gok_i av_n as_n) rfl h (fun r9 x8 h => ?_)
      exact KE_iret (dk dtk_X11_lock 21 rfl) rfl rfl h
    · have h := h.2
      have n10 : ∀ k ∈ [(0 : Int32), (1 : Int32)], ¬ l2 = k := (gno c4 (gno c7 gno0))
      have h := h n10
      refine T_lookup 45 66 (dk dtk_X11_lock 11 rfl) (by decide +kernel) (glk_d [(0 : Int32), (1 : Int32)] (by decide +kernel) n10) (by decide) ?_
      refine T_aload_n 0 (dk dtk_X11_lock 22 rfl) rfl rfl ?_
      refine T_getR 0 4 120 (dk dtk_X11_lock 23 rfl) kfl_X11_46 kk_0 (kl_0 hq) (by decide) rfl kr_0_4 ?_
      refine T_iload_n 1 (dk dtk_X11_lock 24 rfl) rfl rfl ?_
      refine T_sub (lv2 := []) [] rfl ?_
      refine KC_Vi [vi l1] [] rfl (dk dtk_X11_lock 25 rfl) kcv_X11_234 rfl kk_120 rfl (kl_120 hq) (Nat.le_of_ble_eq_true rfl) (Nat.le_of_ble_eq_true rfl) (gok_i av_n as_n) rfl h (fun r12 x11 h => ?_)
      refine KC_Si (F := fun z y9 => z = bcE r12 ∧ y9 = x11) [vi r12] [] rfl (dk dtk_X11_lock 26 rfl) kcs_X11_237 rfl (Nat.le_of_ble_eq_true rfl) (Nat.le_of_ble_eq_true rfl) (gok_i av_n as_n) rfl (tj_bitsE r12 ⟨rfl, _, rfl, _, rfl, rfl, rfl⟩) (fun r14 x13 h9 => ?_)
      obtain ⟨e9, h9⟩ := h9
      subst h9
      rw [← e9] at h
      exact KE_iret (dk dtk_X11_lock 27 rfl) rfl rfl h
end
section
/-! lock: who holds it, how often, how many wait -/
def fl6 (b0 b1 b2 b3 b4 b5 : Bool) : List Nat := (if b0 = true then [0] else []) ++ (if b1 = true then [1] else []) ++ (if b2 = true then [2] else []) ++ (if b3 = true then [3] else []) ++ (if b4 = true then [4] else []) ++ (if b5 = true then [5] else [])
theorem bc_6 (b0 b1 b2 b3 b4 b5 : Bool) : bcE (kmN (fl6 b0 b1 b2 b3 b4 b5).reverse) = Int32.ofNat (fl6 b0 b1 b2 b3 b4 b5).length := by
  cases b0 <;> cases b1 <;> cases b2 <;> cases b3 <;> cases b4 <;> cases b5 <;> decide +kernel
theorem fr_s {P : Nat → Bool} {n : Nat} : (List.range (n + 1)).filter P = (List.range n).filter P ++ (if P n = true then [n] else []) := by
  rw [List.range_succ, List.filter_append]
  congr 1
  by_cases c : P n = true
  · rw [if_pos c, List.filter_cons_of_pos c]; rfl
  · rw [if_neg c, List.filter_cons_of_neg c]; rfl
theorem fr_6 {P : Nat → Bool} {n : Nat} (h : n ≤ 6) : ∃ b0 b1 b2 b3 b4 b5, (List.range n).filter P = fl6 b0 b1 b2 b3 b4 b5 := by
  have z : (List.range 0).filter P = [] := rfl
  have e : n = 0 ∨ n = 1 ∨ n = 2 ∨ n = 3 ∨ n = 4 ∨ n = 5 ∨ n = 6 := by omega
  rcases e with e | e | e | e | e | e | e <;> subst e
  · exact ⟨false, false, false, false, false, false, rfl⟩
  · exact ⟨P 0, false, false, false, false, false, by rw [fr_s, z]; unfold fl6; simp⟩
  · exact ⟨P 0, P 1, false, false, false, false, by rw [fr_s, fr_s, z]; unfold fl6; simp⟩
  · exact ⟨P 0, P 1, P 2, false, false, false, by rw [fr_s, fr_s, fr_s, z]; unfold fl6; simp⟩
  · exact ⟨P 0, P 1, P 2, P 3, false, false, by rw [fr_s, fr_s, fr_s, fr_s, z]; unfold fl6; simp⟩
  · exact ⟨P 0, P 1, P 2, P 3, P 4, false, by rw [fr_s, fr_s, fr_s, fr_s, fr_s, z]; unfold fl6; simp⟩
  · exact ⟨P 0, P 1, P 2, P 3, P 4, P 5, by rw [fr_s, fr_s, fr_s, fr_s, fr_s, fr_s, z]; unfold fl6; simp⟩
def lkV (C : gCo) (M : gMa) (L : Nat) (k : Int32) : Int32 := if k = 0 then Int32.ofNat (M.2.1 L).1 - 1 else if k = 1 then (M.2.1 L).2 else Int32.ofNat (waM C M L).length
abbrev inLk (nl : Int) (l1 l2 : Int32) : Prop := (0 ≤ l1.toInt ∧ l1.toInt < nl) ∧ 0 ≤ l2.toInt ∧ l2.toInt < 3
abbrev e2Lk (x : gd) (l1 l2 : Int32) : Prop := ¬ x.1 0 10 = 0 ∧ ¬ inLk (x.1 60 9).toInt l1 l2
def sLq (C : gCo) (wr n : Nat) (c : Nat → Nat) (x : gd) (l1 l2 r : Int32) (y : gd) : Prop := r = lkV C (runM C wr c n) l1.toInt.toNat l2 ∧ KRd x y
abbrev f2Lk (w : gd) (l1 l2 : Int32) : Prop := ¬ w.1 0 67 = 0 ∧ ¬ inLk (w.1 0 24).toInt l1 l2
def tLq (C : gCo) (wr n : Nat) (w : gd) (l1 l2 r : Int32) (w' : gd) : Prop := r = lkV C (runM C wr (c96 w) n) l1.toInt.toNat l2 ∧ rdM C wr w w'
section KLQ
variable {G : kG} {q : kP} {d : Nat} {x y w w' : gd} {P : Option gv → gd → Prop} {X : String → gd → Prop} {C : gCo} {wr n : Nat} {lm : Nat → Nat}
theorem ka_lock (h : JH C wr n lm x w) (hq : kV q) (hH : HOI x q) (l1 l2 : Int32) (hX1 : e1Ch x → X iSE x) (hX2 : e2Lk x l1 l2 → X iOE x) (hP : ¬ e1Ch x → ¬ e2Lk x l1 l2 → ∀ r y, HOI y q → sLq C wr n (c96 w) x l1 l2 r y → P (some (vi r)) y) : KE G q (d + 7) zk_X11_lock 0 [(0, vr 0), (1, vi l1), (2, vi l2)] [] x P X := by
  have hm : kiM q 120 := Or.inl rfl
  have k3 : (3 : Int32).toInt = 3 := rfl
  refine kg_X11_lockE_0 hq l1 l2 (kh_run hq hH hX1 (fun h10 hR => kh_ix hq l1 _ (fun hn => hX2 ⟨h10, fun z => hn z.1⟩) (fun l0 l9 => kh_what hq l2 3 (fun hn => hX2 ⟨h10, fun z => hn (by rw [k3]; exact z.2)⟩) (fun g0 g9 => ?_))))
  rw [k3] at g9
  obtain ⟨j, r, -, -⟩ := JH_R h h10
  have gc := JH_gc h hH
  have hP := hP h10 (fun z => z.2 ⟨⟨l0, l9⟩, g0, g9⟩)
  unfold sLq at hP
  obtain ⟨M, eM⟩ : ∃ M, M = runM C wr (c96 w) n := ⟨_, rfl⟩
  have g := r.2.1.1
  rw [← eM] at hP g
  have here : ∀ r, r = lkV C M l1.toInt.toNat l2 → P (some (vi r)) x := fun r er => hP r x hH ⟨er, KR_rf⟩
  obtain ⟨e1, e2, e3, e4, e5⟩ := lk_ix hR.1.1 hR.1.2.1 l0 l9
  obtain ⟨b1, b2, b3⟩ := g.1.2 l1.toInt.toNat (by omega)
  have c6 := hR.1.1.1.1
  have g6 : (x.1 120 6).toInt = (x.1 60 6).toInt := hR.1.2.1.2.1
  have n1 : ∀ {a b : Int32}, ¬ a = b → l2 = a → ¬ l2 = b := fun h e z => h (e.symm.trans z)
  refine ⟨fun c => kg_X5_holder_0 hq hm _ ⟨by rw [vp_in_iff]; omega, ri_i (here _ ?_)⟩, fun c => kg_X5_often_0 hq hm _ ⟨by rw [vp_in_iff]; omega, ri_i (here _ ?_)⟩, fun c => kh_waiters hq hm hR.1 j.2.1 gc.1.1 g l1 (L := l1.toInt.toNat) (by omega) (by omega) (here _ ?_)⟩
  · have ix : (x.1 120 6 + 2 * l1).toNatClampNeg = (x.1 60 6).toInt.toNat + 2 * l1.toInt.toNat := by rw [t_cl]; omega
    unfold lkV
    rw [if_pos c, ix]
    exact congrArg (fun z : Int32 => z - 1) b1
  · have ix : (x.1 120 6 + 2 * l1 + 1).toNatClampNeg = (x.1 60 6).toInt.toNat + 2 * l1.toInt.toNat + 1 := by rw [t_cl]; omega
    unfold lkV
    rw [if_neg (n1 (by decide) c), if_pos c, ix]
    exact b3
  · unfold lkV
    rw [if_neg (c 0 (by decide)), if_neg (c 1 (by decide))]
    have n6 : C.2.1.length ≤ 6 := gc.1.2.2
    obtain ⟨b0, b1, b2, b3, b4, b5, e⟩ := fr_6 (P := fun o => (M.2.2 o).2.2.2.1 == 1 && obM C (M.2.2 o).2.2.1 == l1.toInt.toNat) n6
    have e : waM C M l1.toInt.toNat = fl6 b0 b1 b2 b3 b4 b5 := e
    rw [e]
    exact bc_6 b0 b1 b2 b3 b4 b5
theorem ja_lock {l1 l2 r9 r : Int32} (h : JH C wr n lm x w) (hH : HOI y q) (k : ansK (e1Ch x) (e2Lk x l1 l2) (sLq C wr n (c96 w) x l1 l2) x r9 y) (m : ansM C wr (f1Ch w) (f2Lk w l1 l2) (tLq C wr n w l1 l2) w r w') : JR3 y w' ∧ ansE r9 r y w' := by
  have e9 := JH_10 h
  refine ans_eq h hH e9 ⟨fun z => ⟨fun a => z.1 (e9.mpr a), by rw [← (JH_R h z.1).1.1.2.2.2.1]; exact z.2⟩, fun z => ⟨fun a => z.1 (e9.mp a), by rw [(JH_R h (fun a => z.1 (e9.mp a))).1.1.2.2.2.1]; exact z.2⟩⟩ (fun a z => z.1 a) k m (fun c _ r' s t => ⟨JQ_rd h hH s.2 t.2, s.1.trans t.1.symm⟩)
end KLQ
section MLQ
variable {G : mG} {d D : Nat} {x w : gd} {F : Int32 → gd → Prop} {C : gCo} {wr n : Nat} {lm : Nat → Nat} {q : kP}
theorem sp_one4 (v : Int32) (h0 : v = 0 → F 0 x) (h1 : ¬ v = 0 → F 1 x) : MT G d z_one 0 [(0, vi v)] [] x (ri F) := sg_one_0 _ ⟨fun c => ri_i (by first | exact h1 c | exact h0 c), fun c => ri_i (by first | exact h0 c | exact h1 c)⟩
theorem ma_lock (h : JH C wr n lm x w) (hH : HOI x q) (hm : MI w) (l k : Int32) (hD : 3 ≤ D) (hF : ∀ r w', ansM C wr (f1Ch w) (f2Lk w l k) (tLq C wr n w l k) w r w' → F r w') : MT G D z_lock 0 [(0, vr 0), (1, vi l), (2, vi k)] [] w (ri F) := by
  obtain ⟨D, rfl⟩ : ∃ D', D = D' + 2 := ⟨D - 2, by omega⟩
  have k0 : (0 : Int32).toInt = 0 := rfl
  have k1 : (1 : Int32).toInt = 1 := rfl
  have k2 : (2 : Int32).toInt = 2 := rfl
  refine sg_lock_0 _ _ (fun y e => ?_)
  have hy := z0_s e
  have e67 : y.1 0 67 = w.1 0 67 := hy.1.1 67 (by decide)
  have e24 : y.1 0 24 = w.1 0 24 := hy.1.1 24 (by decide)
  have e25 : y.1 0 25 = w.1 0 25 := hy.1.1 25 (by decide)
  have qy := (MI_0 hy.1 hm).1
  refine sc_noRunk hy (fun hr => ⟨fun q => absurd rfl q, fun _ => ?_⟩) (fun c y' m => ⟨fun _ => ri_i (hF _ y' (an_1 hm (show w.1 0 67 = 0 by rw [← e67]; exact c) m)), fun q => absurd q (by decide)⟩)
  obtain ⟨cp, _, rt⟩ := RS_of qy hr
  have g := cp.1
  have g6 := g.2.2.2.2.2.1
  have g24 := g.2.2.2.1
  rw [e67] at hr
  have h10 : ¬ x.1 0 10 = 0 := fun z => hr ((JH_10 h).mp z)
  obtain ⟨hc, hh, e94⟩ := JH_M h hr
  have gc := (JH_gc h hH).1
  obtain ⟨mm, m8⟩ := HistC_MM gc.1 (HistC_0 hy.1 hh) (n := n) (by rw [hy.1.1 94 (by decide)]; exact e94)
  have cy : c96 y = c96 w := by unfold c96; rw [hy.1.2 96 (by decide) (by simp)]
  rw [cy] at mm
  obtain ⟨j, rk, -, -⟩ := JH_R h h10
  have hR := hH.2.2.1 h10
  have hKy : MK y C := MK_mi hy.1 rfl rfl j.2.2.1
  have n25 : (y.1 0 25).toInt = (C.2.1.length : Nat) := hKy.2.1.1
  unfold tLq at hF
  obtain ⟨M, eM⟩ : ∃ M, M = runM C wr (c96 w) n := ⟨_, rfl⟩
  have gk := rk.2.1.1
  rw [← eM] at mm hF gk
  have main : (0 ≤ l.toInt ∧ l.toInt < (y.1 0 24).toInt) → (0 ≤ k.toInt ∧ k.toInt < 3) → MT G (D + 2) z_lock 55 [(0, vr 0), (1, vi l), (2, vi k), (3, vi 0), (4, vi 0)] [] y (ri F) := by
    intro hl hk
    have lv : vp_in l 6 := by rw [vp_in_iff]; omega
    have nE2 : ¬ f2Lk w l k := fun z => z.2 ⟨by rw [← e24]; exact hl, hk⟩
    have ok : ∀ r, r = lkV C M l.toInt.toNat k → ri F (some (vi r)) y := fun r er => ri_i (hF _ y (an_3 qy hr nE2 hy.2 ⟨er, rd_0 hy.1 hm⟩))
    obtain ⟨Pq, eP⟩ : ∃ Pq : Nat → Bool, Pq = fun o => (M.2.2 o).2.2.2.1 == 1 && obM C (M.2.2 o).2.2.1 == l.toInt.toNat := ⟨_, rfl⟩
    have wE : waM C M l.toInt.toNat = (List.range C.2.1.length).filter Pq := by rw [eP]; rfl
    obtain ⟨m1, m2, m3⟩ := mm.2.1 l.toInt.toNat (by omega)
    have endq : ∀ s : Int32, s = Int32.ofNat ((List.range C.2.1.length).filter Pq).length → (¬ k = 0 → (¬ k = 1 → ri F (some (vi s)) y) ∧ (k = 1 → vp_in l 6 ∧ ri F (some (vi (y.1 72 l.toNatClampNeg))) y)) ∧ (k = 0 → vp_in l 6 ∧ ri F (some (vi (y.1 71 l.toNatClampNeg))) y) := fun s es => ⟨fun c0 => ⟨fun c1 => ok _ (by unfold lkV; rw [if_neg c0, if_neg c1, wE]; exact es), fun c1 => ⟨lv, ok _ (by unfold lkV; rw [if_neg c0, if_pos c1, t_cl]; exact m3)⟩⟩, fun c0 => ⟨lv, ok _ (by unfold lkV; rw [if_pos c0, t_cl]; exact m1)⟩⟩
    have fb : ∀ t, t ≤ C.2.1.length → ((List.range t).filter Pq).length ≤ t := fun t _ => by
      have := List.length_filter_le Pq (List.range t)
      rw [List.length_range] at this
      exact this
    have loop : ∀ (m t : Nat) (s i : Int32), i.toInt = (t : Nat) → C.2.1.length - t ≤ m → t ≤ C.2.1.length → s = Int32.ofNat ((List.range t).filter Pq).length → MT G (D + 2) z_lock 55 [(0, vr 0), (1, vi l), (2, vi k), (3, vi s), (4, vi i)] [] y (ri F) := by
      intro m
      induction m with
      | zero =>
        intro t s i ei hn ht es
        have et : t = C.2.1.length := by omega
        rw [et] at es
        exact sg_lock_55 _ _ _ _ ⟨fun _ => endq s es, fun c => absurd (t_le.mpr (by rw [n25, ei]; omega)) c⟩
      | succ m ih =>
        intro t s i ei hn ht es
        refine sg_lock_55 _ _ _ _ ⟨fun c => ?_, fun c => ?_⟩
        · rw [t_le, n25, ei] at c
          have et : t = C.2.1.length := by omega
          rw [et] at es
          exact endq s es
        rw [t_le, n25, ei] at c
        have tl : t < C.2.1.length := by omega
        have l6 := gc.2.2
        have tv : vp_in i 6 := by rw [vp_in_iff]; omega
        have it : i.toNatClampNeg = t := by rw [t_cl, ei]; rfl
        have ti : (i + 1).toInt = ((t + 1 : Nat) : Int) := by rw [t_add (by omega) (by omega), k1, ei]; rfl
        have rr := rt t (by omega)
        have tq := mm.2.2 t (by omega)
        obtain ⟨-, -, -, q2, q3, q3', -⟩ := tq
        obtain ⟨st, hs, es9⟩ := JH_st h hH h10 (t := t) (by have e10 : (x.1 60 10).toInt = (C.2.1.length : Nat) := j.2.1.2.1.1; omega)
        rw [← eM] at hs es9
        have e56 : y.1 56 (M.2.2 t).2.2.1 = st.2.2.2.2.1 := (hKy.1.2 _ st hs).2.2.1
        have e74 : (y.1 74 t).toNatClampNeg = (M.2.2 t).2.2.1 := by rw [t_cl, q2]; rfl
        have w1 := (wai_2 _ (show (M.2.2 t).2.2.2.1 < 3 by omega)).2.1
        have lb := fb t ht
        have fs := fr_s (P := Pq) (n := t)
        have nx : ∀ v r9 : Int32, (v = 0 → r9 = 0) → (¬ v = 0 → r9 = 1) → ((Pq t = true) ↔ ¬ v = 0) → MT G (D + 2) z_lock 55 [(0, vr 0), (1, vi l), (2, vi k), (3, vi (s + r9)), (4, vi (i + 1))] [] y (ri F) := fun v r9 h0 h1 hp => by
          refine ih (t + 1) (s + r9) (i + 1) ti (by omega) tl ?_
          rw [fs, List.length_append, es]
          by_cases cv : v = 0
          · rw [h0 cv, if_neg (fun z => hp.mp z cv)]
            rw [t_eq, t_add (by rw [k0, Int32.toInt_ofNat_of_lt (by omega)]; omega) (by rw [k0, Int32.toInt_ofNat_of_lt (by omega)]; omega), k0]
            show _ = (Int32.ofNat (_ + 0)).toInt
            rw [Nat.add_zero]; omega
          · rw [h1 cv, if_pos (hp.mpr cv), t_eq, t_add (by rw [k1, Int32.toInt_ofNat_of_lt (by omega)]; omega) (by rw [k1, Int32.toInt_ofNat_of_lt (by omega)]; omega), k1]
            show _ = (Int32.ofNat (_ + 1)).toInt
            rw [Int32.toInt_ofNat_of_lt (by omega), Int32.toInt_ofNat_of_lt (by omega)]
            push_cast; rfl
        have p97 : ∀ v : Int32, ((Pq t = true) ↔ ¬ v = 0) → MT G (D + 2) z_lock 97 [(0, vr 0), (1, vi l), (2, vi k), (4, vi i)] [vi v, vi s] y (ri F) := fun v hp => sg_lock_97 _ _ _ _ _ (sp_one4 v (fun c0 => nx v 0 (fun _ => rfl) (fun z => absurd c0 z) hp) (fun c0 => nx v 1 (fun z => absurd z c0) (fun _ => rfl) hp))
        have pv : Pq t = true ↔ (M.2.2 t).2.2.2.1 = 1 ∧ obM C (M.2.2 t).2.2.1 = l.toInt.toNat := by
          rw [eP]
          show ((M.2.2 t).2.2.2.1 == 1 && obM C (M.2.2 t).2.2.1 == l.toInt.toNat) = true ↔ _
          rw [Bool.and_eq_true, beq_iff_eq, beq_iff_eq]
        rw [it, q3, e74, e56]
        refine ⟨tv, fun c7 => p97 0 ⟨fun z => absurd (w1.mpr (pv.mp z).1) c7, fun z => absurd rfl z⟩, fun c7 => ⟨tv, by rw [vp_in_iff]; exact ⟨rr.1, rr.2.1⟩, fun co => p97 0 ⟨fun z => absurd ?_ co, fun z => absurd rfl z⟩, fun co => p97 1 ⟨fun _ => by decide, fun _ => pv.mpr ⟨w1.mp c7, ?_⟩⟩⟩⟩
        · have a1 := (kst_wl hR.1 j.2.1 gc.1 tl (gk.2 t tl) (by rw [w1.mp c7]; decide)).1
          rw [es9] at a1
          have := (pv.mp z).2
          rw [t_eq, a1, this]; omega
        · have a1 := (kst_wl hR.1 j.2.1 gc.1 tl (gk.2 t tl) (by rw [w1.mp c7]; decide)).1
          rw [es9, co] at a1
          omega
    exact loop C.2.1.length 0 0 0 rfl (by omega) (Nat.zero_le _) rfl
  have p41 : ∀ b : Int32, (b = 0 → inLk (y.1 0 24).toInt l k) → (¬ b = 0 → ¬ inLk (y.1 0 24).toInt l k) → MT G (D + 2) z_lock 41 [(0, vr 0), (1, vi l), (2, vi k)] [vi b, vr 0] y (ri F) := fun b hb hb2 => sg_lock_41 _ _ _ (sc_refk b 2 hy (by decide) (fun b0 => ⟨fun _ => main (hb b0).1 (hb b0).2, fun q => absurd rfl q⟩) (fun nb y' m => ⟨fun q => absurd q (by decide), fun _ => ri_i (hF _ y' (an_2 hm ⟨hr, by rw [← e24]; exact hb2 nb⟩ m))⟩))
  refine sp_in _ _ _ ⟨fun c1 => p41 1 (fun q => absurd q (by decide)) (fun _ z => in_ge (bi_eq.mp c1) g.2.2.1 z.1), fun c1 => sp_in _ _ _ ⟨fun c2 => p41 0 (fun _ => ⟨in_lt (bi_ne.mp c1) g.2.2.1, ?_⟩) (fun z => absurd rfl z), fun c2 => p41 1 (fun q => absurd q (by decide)) (fun _ z => ?_)⟩⟩
  · obtain ⟨a1, a2⟩ := bi_ne.mp c2
    rw [t_le, k0] at a1
    rw [t_le, k2] at a2
    omega
  · have := z.2
    exact bi_eq.mp c2 ⟨t_le.mpr (by rw [k0]; exact z.2.1), t_le.mpr (by rw [k2]; omega)⟩
end MLQ
end
