section
/-! choice: what a choice is -/
noncomputable def chVal (C : gCo) (w : Nat) (M : gMa) (ch : gCh) (k : Int32) : Int32 :=
  if k = 0 then Int32.ofNat ch.1
  else if k = 1 then (if ch.2.1 = none then 0 else 1)
  else if k = 2 then (if ch.2.1 = none then Int32.ofNat (soM C (M.2.2 ch.1)) else 1)
  else if k = 3 then (if ch.2.1 = none then (lkM C w M ch.1).2.1 else Int32.ofNat (((M.2.2 ch.1).2.2.2.2.2.2.1[ch.2.1.getD 0]?).getD (0, 0)).1)
  else opI ch.2.2
abbrev inCh (nc : Int) (l1 l2 : Int32) : Prop := (0 ≤ l1.toInt ∧ l1.toInt < nc) ∧ 0 ≤ l2.toInt ∧ l2.toInt < 5
abbrev e2Ci (x : gd) (l1 l2 : Int32) : Prop := ¬ x.1 0 10 = 0 ∧ ¬ inCh (x.1 120 13).toInt l1 l2
def chR (C : gCo) (wr n : Nat) (c : Nat → Nat) (l1 l2 r : Int32) : Prop := ∃ ch, (chM C wr (runM C wr c n))[l1.toInt.toNat]? = some ch ∧ r = chVal C wr (runM C wr c n) ch l2
def sCi (C : gCo) (wr n : Nat) (c : Nat → Nat) (x : gd) (l1 l2 r : Int32) (y : gd) : Prop := chR C wr n c l1 l2 r ∧ KRd x y
abbrev f2Ci (w : gd) (l1 l2 : Int32) : Prop := ¬ w.1 0 67 = 0 ∧ ¬ inCh (w.1 0 84).toInt l1 l2
def tCi (C : gCo) (wr n : Nat) (w : gd) (l1 l2 r : Int32) (w' : gd) : Prop := chR C wr n (c96 w) l1 l2 r ∧ rdM C wr w w'
theorem chR_eq {C : gCo} {wr n : Nat} {c : Nat → Nat} {l1 l2 r r' : Int32} (h : chR C wr n c l1 l2 r) (g : chR C wr n c l1 l2 r') : r = r' := by
  obtain ⟨ch, a1, a2⟩ := h
  obtain ⟨ch', b1, b2⟩ := g
  rw [a1] at b1
  rw [a2, b2, Option.some.inj b1]
section PCH
variable {C : gCo} {w T : Nat} {M : gMa} {ch : gCh}
theorem lkI_m1 (h : ¬ (lkI C M T).1 = 0) : (lkI C M T).2 = -1 := by
  unfold lkI at h ⊢
  split
  · next e => rw [e] at h; exact absurd rfl h
  · next Q e =>
    simp only [e] at h
    split
    · rfl
    · next v e2 =>
      simp only [e2] at h
      split
      · rfl
      · next c => rw [if_neg c] at h; exact absurd rfl h
theorem lkM_0 (h : (M.2.2 T).2.2.2.1 = 0) : (lkM C w M T).2.1 = (lkI C M T).2 := by
  unfold lkM
  rw [if_neg (fun z => z h)]
  by_cases c : ¬ (lkI C M T).1 = 0
  · rw [if_pos c]
  · rw [if_neg c]
    split
    · rfl
    · split
      · rfl
      · rfl
theorem lkM_w (h : ¬ (M.2.2 T).2.2.2.1 = 0) : (lkM C w M T).2.1 = (stN C (M.2.2 T).2.2.1).2.2.2.2.1 := by
  unfold lkM
  rw [if_pos h]
theorem lkI_no (h : (stN C (M.2.2 T).2.2.1).2.2.2.2.2.2.2.1 = none) : (lkI C M T).2 = (stN C (M.2.2 T).2.2.1).2.2.2.2.1 := by
  unfold lkI
  rw [h]
theorem ch_lt (h : ch ∈ chM C w M) : ¬ ch.2.1 = none → ch.2.2 = none := by
  unfold chM at h
  obtain ⟨t, ht, h⟩ := List.mem_flatMap.mp h
  unfold ch1 at h
  rcases List.mem_append.mp h with h | h
  · by_cases c : canM C w M t
    · rw [if_pos c] at h
      by_cases c8 : soM C (M.2.2 t) = 8 ∧ (stN C (M.2.2 t).2.2.1).2.2.2.2.2.2.1 = false ∧ (M.2.1 (obM C (M.2.2 t).2.2.1)).1 = t + 1 ∧ ¬ waM C M (obM C (M.2.2 t).2.2.1) = []
      · rw [if_pos c8] at h
        obtain ⟨u, hu, e⟩ := List.mem_map.mp h
        subst e
        exact fun z => absurd rfl z
      · rw [if_neg c8] at h
        cases List.mem_singleton.mp h
        exact fun z => absurd rfl z
    · rw [if_neg c] at h; cases h
  · obtain ⟨u, hu, e⟩ := List.mem_map.mp h
    subst e
    exact fun _ => rfl
end PCH
section KCI
variable {G : kG} {q : kP} {d : Nat} {x y w w' : gd} {Fv : gd → Prop} {P : Option gv → gd → Prop} {X : String → gd → Prop} {C : gCo} {wr n : Nat} {lm : Nat → Nat}
theorem kh_what (hq : kV q) (l n : Int32) (hO : ¬ (0 ≤ l.toInt ∧ l.toInt < n.toInt) → X iOE x) (h : 0 ≤ l.toInt → l.toInt < n.toInt → Fv x) : KE G q (d + 6) zk_X11_needWhat 0 [(0, vi l), (1, vi n)] [] x (rv Fv) X := by
  have k0 : (0 : Int32).toInt = 0 := rfl
  refine kg_X11_needWhat_0 hq l n ⟨fun c => kg_X11_needWhat_9 hq (hO ?_), fun c => ⟨fun c2 => rv_i (h ?_ ?_), fun c2 => kg_X11_needWhat_9 hq (hO ?_)⟩⟩
  · rw [t_lt, k0] at c; omega
  · rw [t_lt, k0] at c; omega
  · rw [t_lt] at c2; exact c2
  · rw [t_lt] at c2; omega
theorem kch_4 {x : gd} {o I : Nat} {ch : gCh} (h : kch x o I ch) : x.1 (o + 13) I = opI ch.2.2 := by
  obtain ⟨-, -, -, h4, h5⟩ := h
  cases e : ch.2.2 with
  | none => exact h4 e
  | some k => exact h5 k e
theorem ka_choice (h : JH C wr n lm x w) (hq : kV q) (hH : HOI x q) (l1 l2 : Int32) (hX1 : e1Ch x → X iSE x) (hX2 : e2Ci x l1 l2 → X iOE x) (hP : ¬ e1Ch x → ¬ e2Ci x l1 l2 → ∀ r y, HOI y q → sCi C wr n (c96 w) x l1 l2 r y → P (some (vi r)) y) : KE G q (d + 7) zk_X11_choice 0 [(0, vr 0), (1, vi l1), (2, vi l2)] [] x P X := by
  have hm : kiM q 120 := Or.inl rfl
  have k5 : (5 : Int32).toInt = 5 := rfl
  refine kg_X11_choice_0 hq l1 l2 (kh_run hq hH hX1 (fun h10 hR => kh_ix hq l1 _ (fun hn => hX2 ⟨h10, fun z => hn z.1⟩) (fun l0 l9 => kh_what hq l2 5 (fun hn => hX2 ⟨h10, fun z => hn (by rw [k5]; exact z.2)⟩) (fun g0 g9 => ?_))))
  rw [k5] at g9
  obtain ⟨j, r, -, -⟩ := JH_R h h10
  have gc := JH_gc h hH
  obtain ⟨M, eM⟩ : ∃ M, M = runM C wr (c96 w) n := ⟨_, rfl⟩
  have hP := hP h10 (fun z => z.2 ⟨⟨l0, l9⟩, g0, g9⟩)
  unfold sCi chR at hP
  rw [← eM] at hP
  obtain ⟨-, ⟨r2, r3, r4⟩, -⟩ := r
  rw [← eM] at r2 r3 r4
  have len := r4.1
  have len : (x.1 120 13).toInt = ((chM C wr M).length : Nat) := len
  have hl : l1.toInt.toNat < (chM C wr M).length := by omega
  obtain ⟨ch, hch⟩ : ∃ ch, (chM C wr M)[l1.toInt.toNat]? = some ch := ⟨_, List.getElem?_eq_getElem hl⟩
  have kc := r4.2 _ _ hch
  have cm := List.mem_of_getElem? hch
  obtain ⟨i1, i2, i3⟩ := ch_in cm
  have b84 := hR.2.1.1
  have v84 : vp_in l1 84 := by rw [vp_in_iff]; omega
  have e131 : x.1 131 l1.toInt.toNat = Int32.ofNat ch.1 := kc.1
  have e133 : x.1 133 l1.toInt.toNat = opI ch.2.2 := kch_4 kc
  have e132n : ch.2.1 = none → x.1 132 l1.toInt.toNat = -1 := kc.2.1
  have e132s : ∀ j, ch.2.1 = some j → x.1 132 l1.toInt.toNat = Int32.ofNat j := kc.2.2.1
  have e10 : (x.1 60 10).toInt = (C.2.1.length : Nat) := j.2.1.2.1.1
  have hT6 := MM_6 hR.1.1 (t := ch.1) (by omega)
  have hA := (hR.1.2.2 ch.1 (by omega)).1
  have gT := r2.2 ch.1 i1
  have eT : (x.1 131 l1.toInt.toNat).toInt = (ch.1 : Nat) := by rw [e131]; exact Int32.toInt_ofNat_of_lt (by omega)
  have q7 := gT.2.2.2.2.2.2.1
  have lt8 := hA.2.1
  have late : ∀ jj, ch.2.1 = some jj → jj < 8 ∧ ¬ x.1 132 l1.toInt.toNat = -1 ∧ (x.1 132 l1.toInt.toNat).toInt = (jj : Nat) := fun jj hj => by
    have h8 := i3 jj hj
    have : jj < 8 := by omega
    have e9 := e132s jj hj
    have e8 : (Int32.ofNat jj).toInt = (jj : Nat) := Int32.toInt_ofNat_of_lt (by omega)
    refine ⟨this, fun z => ?_, by rw [e9]; exact e8⟩
    rw [e9] at z
    rw [z, tm1] at e8
    omega
  have nn : ¬ x.1 132 l1.toInt.toNat = -1 ↔ ¬ ch.2.1 = none := ⟨fun a b => a (e132n b), fun a => by
    cases hc : ch.2.1 with
    | none => exact absurd hc a
    | some jj => exact (late jj hc).2.1⟩
  have here : ∀ r, r = chVal C wr M ch l2 → P (some (vi r)) x := fun r er => hP r x hH ⟨⟨ch, hch, er⟩, KR_rf⟩
  have n1 : ∀ {a b : Int32}, ¬ a = b → l2 = a → ¬ l2 = b := fun h e z => h (e.symm.trans z)
  rw [t_cl]
  refine ⟨v84, v84, fun c => here _ ?_, fun c => ⟨fun z => here _ ?_, fun z => here _ ?_⟩, fun c => ⟨fun z => here _ ?_, fun z => ?_⟩, fun c => ⟨fun z => ?_, fun z => ?_⟩, fun c => ⟨v84, here _ ?_⟩⟩
  · unfold chVal; rw [if_pos c]; exact e131
  · unfold chVal; rw [if_neg (n1 (by decide) c), if_pos c, if_neg (nn.mp z)]
  · unfold chVal; rw [if_neg (n1 (by decide) c), if_pos c, if_pos (Classical.not_not.mp (fun a => nn.mpr a z))]
  · unfold chVal; rw [if_neg (n1 (by decide) c), if_neg (n1 (by decide) c), if_pos c, if_neg (nn.mp z)]
  · have cn : ch.2.1 = none := Classical.not_not.mp (fun a => nn.mpr a z)
    have ev : chVal C wr M ch l2 = Int32.ofNat (soM C (M.2.2 ch.1)) := by unfold chVal; rw [if_neg (n1 (by decide) c), if_neg (n1 (by decide) c), if_pos c, if_pos cn]
    obtain ⟨st, s1, s2, s3, s4, s5, kn, ns⟩ := kst_at hR.1 j.2.1 gc.1.1 i1 gT
    have w3 := kst_w3 hR.1 j.2.1 gc.1.1 i1 gT
    refine kp_sortOf hq hm hR.1.1 hR.1.2.1 _ eT hT6 hA (fun c3 => here _ ?_) (fun c3 => here _ ?_)
    · rw [ev, s3]
      unfold soM
      rw [if_pos (w3.mp c3), s2]
      exact kn.1
    · rw [ev]
      unfold soM
      rw [if_neg (fun z9 => c3 (w3.mpr z9))]
      rfl
  · obtain ⟨jj, hj⟩ : ∃ jj, ch.2.1 = some jj := by
      cases hc : ch.2.1 with
      | none => exact absurd hc (nn.mp z)
      | some jj => exact ⟨jj, rfl⟩
    obtain ⟨j8, -, ej⟩ := late jj hj
    have h8 := i3 jj hj
    have hg := List.getElem?_eq_getElem h8
    have qq := (q7.2 jj _ hg).1
    refine kp_lateCell hq hm hR.1.1 hR.1.2.1 _ _ eT hT6 ej j8 (here _ ?_)
    unfold chVal
    rw [if_neg (n1 (by decide) c), if_neg (n1 (by decide) c), if_neg (n1 (by decide) c), if_pos c, if_neg (nn.mp z), hj]
    show _ = Int32.ofNat (((M.2.2 ch.1).2.2.2.2.2.2.1[jj]?).getD (0, 0)).1
    rw [hg]
    exact i32_of qq
  · have cn : ch.2.1 = none := Classical.not_not.mp (fun a => nn.mpr a z)
    have ev : chVal C wr M ch l2 = (lkM C wr M ch.1).2.1 := by unfold chVal; rw [if_neg (n1 (by decide) c), if_neg (n1 (by decide) c), if_neg (n1 (by decide) c), if_pos c, if_pos cn]
    obtain ⟨st, s1, s2, s3, s4, s5, kn, ns⟩ := kst_at hR.1 j.2.1 gc.1.1 i1 gT
    have u1 := (i2 cn).1
    have tg := (hR.1.2.2 ch.1 (by omega)).2 (by rw [gT.1.1, u1]; rfl)
    rw [s3] at tg
    have o16 : st.1 < 16 := by have := tg.1; omega
    refine kh_objectOf hq hm hR.1 j.2.1 gc.1.1 r2 _ eT i1 u1 (fun r9 y9 fy a1 a2 => ?_)
    have fk : KRd x y9 := fm_w fy (fun c k q => by unfold sLk at q; unfold sRd; omega)
    refine hP r9 y9 (HOI_run (fm_w fy (fun c k => rn_Lk)) (RUN_Lk fy hR) hH) ⟨⟨ch, hch, ?_⟩, fk⟩
    rw [ev]
    by_cases so : soM C (M.2.2 ch.1) ≤ 4
    · have w0 : (M.2.2 ch.1).2.2.2.1 = 0 := by
        apply Classical.byContradiction
        intro z9
        unfold soM at so
        rw [if_neg z9] at so
        omega
      rw [lkM_0 w0]
      rcases a1 so with ⟨-, b2, -⟩ | ⟨b1, b2⟩
      · exact b2
      · rw [b2, lkI_m1 b1]
    · have r9e : r9 = st.2.2.2.2.1 := by
        rcases a2 so with b | b
        · rw [b, s2]
        · rw [s2] at b; omega
      by_cases w0 : (M.2.2 ch.1).2.2.2.1 = 0
      · have ix : st.2.2.2.2.2.2.2.1 = none := by
          apply Classical.byContradiction
          intro z9
          have := (gc.1.2.1 _ st s1).1 z9
          unfold soM at so
          rw [if_pos w0, s2] at so
          omega
        rw [lkM_0 w0, lkI_no (by rw [s2]; exact ix), s2]; exact r9e
      · rw [lkM_w w0, s2]; exact r9e
  · unfold chVal
    rw [if_neg (c 0 (by decide)), if_neg (c 1 (by decide)), if_neg (c 2 (by decide)), if_neg (c 3 (by decide))]
    exact e133
theorem ja_choice {l1 l2 r9 r : Int32} (h : JH C wr n lm x w) (hH : HOI y q) (k : ansK (e1Ch x) (e2Ci x l1 l2) (sCi C wr n (c96 w) x l1 l2) x r9 y) (m : ansM C wr (f1Ch w) (f2Ci w l1 l2) (tCi C wr n w l1 l2) w r w') : JR3 y w' ∧ ansE r9 r y w' := by
  have e9 := JH_10 h
  refine ans_eq h hH e9 ⟨fun z => ⟨fun a => z.1 (e9.mpr a), by rw [← JH_84 h z.1]; exact z.2⟩, fun z => ⟨fun a => z.1 (e9.mp a), by rw [JH_84 h (fun a => z.1 (e9.mp a))]; exact z.2⟩⟩ (fun a z => z.1 a) k m (fun c _ r' s t => ⟨JQ_rd h hH s.2 t.2, chR_eq s.1 t.1⟩)
end KCI
section MCI
variable {G : mG} {d D : Nat} {x w : gd} {F : Int32 → gd → Prop} {C : gCo} {wr n : Nat} {lm : Nat → Nat} {q : kP}
theorem ma_choice (h : JH C wr n lm x w) (hH : HOI x q) (hm : MI w) (i k : Int32) (hD : 4 ≤ D) (hF : ∀ r w', ansM C wr (f1Ch w) (f2Ci w i k) (tCi C wr n w i k) w r w' → F r w') : MT G D z_choice 0 [(0, vr 0), (1, vi i), (2, vi k)] [] w (ri F) := by
  obtain ⟨D, rfl⟩ : ∃ D', D = D' + 2 := ⟨D - 2, by omega⟩
  have k0 : (0 : Int32).toInt = 0 := rfl
  refine sg_choice_0 _ _ (fun y e => ?_)
  have hy := z0_s e
  have e67 : y.1 0 67 = w.1 0 67 := hy.1.1 67 (by decide)
  have qy := (MI_0 hy.1 hm).1
  refine sc_noRunk hy (fun hr => ⟨fun q => absurd rfl q, fun _ => ?_⟩) (fun c y' m => ⟨fun _ => ri_i (hF _ y' (an_1 hm (show w.1 0 67 = 0 by rw [← e67]; exact c) m)), fun q => absurd q (by decide)⟩)
  have hc := (qy.2.2.1 hr).1
  rw [e67] at hr
  obtain ⟨-, hh, e94⟩ := JH_M h hr
  have gc := (JH_gc h hH).1
  have w01 := HistC_w hh
  have e84w : y.1 0 84 = w.1 0 84 := hy.1.1 84 (by decide)
  obtain ⟨s, n', q1, q2, q3, q4, q5, q6, q7⟩ := HistC_0 hy.1 hh
  have cy : c96 y = c96 w := by unfold c96; rw [hy.1.2 96 (by decide) (by simp)]
  have en : n' = n := by rw [hy.1.1 94 (by decide), e94] at q1; omega
  subst en
  have am := q2 n' (Nat.le_refl _)
  rw [cy] at am
  obtain ⟨M, eM⟩ : ∃ M, M = runM C wr (c96 w) n' := ⟨_, rfl⟩
  rw [← eM] at am
  have hF := hF
  unfold tCi chR at hF
  rw [← eM] at hF
  have av := am.1
  have e84 : y.1 0 84 = (s n').1 0 84 := q4 0 84 (Or.inr (Or.inl ⟨rfl, rfl⟩))
  have c0 := av.2.2.2.1
  have c84 := av.2.2.2.2.1
  have len := AM_n am
  have p41 : ∀ b : Int32, (b = 0 → inCh (y.1 0 84).toInt i k) → (¬ b = 0 → ¬ inCh (y.1 0 84).toInt i k) → MT G (D + 2) z_choice 41 [(0, vr 0), (1, vi i), (2, vi k)] [vi b, vr 0] y (ri F) := by
    intro b hb hb2
    refine sg_choice_41 _ _ _ (sc_refk b 2 hy (by decide) (fun b0 => ⟨fun _ => ?_, fun q => absurd rfl q⟩) (fun nb y' m => ⟨fun q => absurd q (by decide), fun _ => ri_i (hF _ y' (an_2 hm ⟨hr, by rw [← e84w]; exact hb2 nb⟩ m))⟩))
    have hin := hb b0
    have nE2 : ¬ f2Ci w i k := fun z => z.2 (by rw [← e84w]; exact hin)
    obtain ⟨hi, hk⟩ := hin
    rw [e84] at hi
    have ci := cl_i hi.1
    have iv : vp_in i 200 := by rw [vp_in_iff]; omega
    have hl : i.toInt.toNat < (chM C wr M).length := by omega
    obtain ⟨ch, hch⟩ : ∃ ch, (chM C wr M)[i.toInt.toNat]? = some ch := ⟨_, List.getElem?_eq_getElem hl⟩
    have cm := List.mem_of_getElem? hch
    obtain ⟨j1, j2, j3⟩ := ch_in cm
    obtain ⟨m86, m87, m88⟩ := am.2.2.2.2.2.2 _ _ hch
    obtain ⟨u86, u87, u88, ⟨t0, t6⟩, co⟩ := av.2.2.1 i.toNatClampNeg (by omega)
    have e86 := q4 _ _ (Or.inr u86)
    have e87 := q4 _ _ (Or.inr u87)
    have e88 := q4 _ _ (Or.inr u88)
    rw [t_cl] at e86 e87 e88
    rw [m86] at e86
    rw [m87] at e87
    rw [m88] at e88
    have lt6 : ch.1 < 6 := by have := gc.2.2; omega
    have e6 : (Int32.ofNat ch.1).toInt = (ch.1 : Nat) := Int32.toInt_ofNat_of_lt (by omega)
    have tv : vp_in (Int32.ofNat ch.1) 6 := by rw [vp_in_iff]; omega
    have ct : (Int32.ofNat ch.1).toNatClampNeg = ch.1 := by rw [t_cl, e6]; rfl
    have rr := (av.1.2 ch.1 lt6)
    have a74 : vp_in (y.1 74 (Int32.ofNat ch.1).toNatClampNeg) 1500 := by
      rw [ct, cA q4 (c := 74) (n := 6) (by decide) lt6, vp_in_iff]
      exact ⟨rr.1.1, rr.1.2.1⟩
    have lq := (am.2.2.1.2.2 ch.1 lt6).2.2.2.2.2.2.2.2.1
    have op8 : ∀ jj, jj < 9 → ¬ Int32.ofNat jj = -1 := by decide +kernel
    have lt9 : ∀ jj, ch.2.1 = some jj → jj < 8 := fun jj hj => by
      have := j3 jj hj
      have := lq.1
      have := rr.2.2.2.1
      omega
    have nn : y.1 87 i.toInt.toNat = -1 ↔ ch.2.1 = none := by
      rw [e87]
      cases hcc : ch.2.1 with
      | none => exact ⟨fun _ => rfl, fun _ => rfl⟩
      | some jj => exact ⟨fun z => absurd z (op8 jj (by have := lt9 jj hcc; omega)), fun z => nomatch z⟩
    have ok : ∀ r, r = chVal C wr M ch k → ri F (some (vi r)) y := fun r er => ri_i (hF _ y (an_3 qy hr nE2 hy.2 ⟨⟨ch, hch, er⟩, rd_0 hy.1 hm⟩))
    have n1 : ∀ {a b : Int32}, ¬ a = b → k = a → ¬ k = b := fun h e z => h (e.symm.trans z)
    rw [t_cl]
    refine ⟨iv, iv, fun n0 => ⟨fun c => ?_, fun c => ?_⟩, fun z0' => ok _ ?_⟩
    · have cn := nn.mp c
      refine ⟨fun n3 => ⟨fun n1' => ⟨fun n2 => ⟨iv, ok _ ?_⟩, fun e2 => ?_⟩, fun e1 => ok _ ?_⟩, fun e3 => ?_⟩
      · unfold chVal; rw [if_neg n0, if_neg n1', if_neg n2, if_neg n3]; exact e88
      · have u1 := (j2 cn).1
        have h1 : (s n').1 73 ch.1 = 1 := by rw [(am.2.2.1.2.2 ch.1 lt6).1, u1]; rfl
        have h2 : ¬ (s n').1 77 ch.1 = 1 := fun z => (j2 cn).2.1 (by
          have e77 := (am.2.2.1.2.2 ch.1 lt6).2.2.2.2.1
          have l77 := (am.2.2.1.2.2 ch.1 lt6).2.2.2.2.2.1
          rw [e77] at z
          exact (wai_2 _ (by omega)).2.1.mp z)
        rw [e86]
        refine sp_sortOf _ tv a74 ?_
        rw [ct, srt_eq (eqS_w (Sl_Sm _) q4) av.1 lt6, (srt_so gc.1 am lt6 h1 h2).1]
        exact ok _ (by unfold chVal; rw [if_neg n0, if_neg (n1 (by decide) e2), if_pos e2, if_pos cn])
      · unfold chVal; rw [if_neg n0, if_pos e1, if_pos cn]
      · have u1 := (j2 cn).1
        have h1 : (s n').1 73 ch.1 = 1 := by rw [(am.2.2.1.2.2 ch.1 lt6).1, u1]; rfl
        have h2 : ¬ (s n').1 77 ch.1 = 1 := fun z => (j2 cn).2.1 (by
          have e77 := (am.2.2.1.2.2 ch.1 lt6).2.2.2.2.1
          have l77 := (am.2.2.1.2.2 ch.1 lt6).2.2.2.2.2.1
          rw [e77] at z
          exact (wai_2 _ (by omega)).2.1.mp z)
        rw [e86]
        refine sp_lookAt3 gc.1 gc.2.1 w01 am q4 _ tv (by rw [ct]; exact h1) (by rw [ct]; exact h2) (by omega) (fun y' x' e' m' _ _ _ _ v88 => ri_i (hF _ y' ?_))
        rw [ct] at v88
        have mm := mi_of m'
        have cy' : c96 y' = c96 y := by unfold c96; rw [mm.2 96 (by decide) (by decide)]
        have histc : HistC C wr y' := ⟨s, n', by rw [mm.1 94 (by decide)]; exact q1, by rw [cy']; exact q2, by rw [cy', mm.2 96 (by decide) (by decide)]; exact q3, e', by rw [mm.1 68 (by decide)]; exact St_pr (prE_mi (prE_rf y) mm rfl rfl) q5, by rw [mm.1 68 (by decide)]; exact q6, HA_mi mm rfl rfl q7⟩
        have p := MI_new mm rfl rfl hc (HistC_H histc) qy
        refine an_3 p.1 hr nE2 (by rw [mm.1 0 (by decide)]; exact hy.2) ⟨⟨ch, hch, ?_⟩, rd_tr hy.1 ⟨p, ⟨mm.1 67 (by decide), mm.1 94 (by decide), mm.2 96 (by decide) (by decide)⟩, mm.2 119 (by decide) (by decide), fun _ => histc, fun w T h => TYc_mi mm rfl h⟩⟩
        rw [v88]
        unfold chVal
        rw [if_neg n0, if_neg (n1 (by decide) e3), if_neg (n1 (by decide) e3), if_pos e3, if_pos cn]
    · have cs : ¬ ch.2.1 = none := fun z => c (nn.mpr z)
      obtain ⟨jj, hj⟩ : ∃ jj, ch.2.1 = some jj := by
        cases hcc : ch.2.1 with
        | none => exact absurd hcc cs
        | some jj => exact ⟨jj, rfl⟩
      have h8 := lt9 jj hj
      have ej : y.1 87 i.toInt.toNat = Int32.ofNat jj := by rw [e87, hj]; rfl
      have ejj : (Int32.ofNat jj).toInt = (jj : Nat) := Int32.toInt_ofNat_of_lt (by omega)
      refine ⟨fun e1 => ok _ ?_, fun n1' => ⟨fun n2 => ⟨fun n3 => ok _ ?_, fun e3 => ?_⟩, fun e2 => ok _ ?_⟩⟩
      · unfold chVal; rw [if_neg n0, if_pos e1, if_neg cs]
      · unfold chVal; rw [if_neg n0, if_neg n1', if_neg n2, if_neg n3, ch_lt cm cs]; rfl
      · rw [e86, ej]
        obtain ⟨ta, tb⟩ := t10 tv (i := Int32.ofNat jj) (by omega) (by omega)
        refine ⟨ta, ok _ ?_⟩
        rw [tb, ct, t_cl, ejj]
        have hg := List.getElem?_eq_getElem (j3 jj hj)
        have b1 := (lq.2 jj _ hg).1
        have ey : y.1 81 (10 * ch.1 + jj) = (s n').1 81 (10 * ch.1 + jj) := q4 81 _ (Or.inr (Or.inr (Or.inr ⟨Or.inl rfl, ch.1, jj, lt6, by rw [lq.1]; have := j3 jj hj; omega, rfl⟩)))
        unfold chVal
        rw [if_neg n0, if_neg n1', if_neg n2, if_pos e3, if_neg cs, hj]
        show y.1 81 (10 * ch.1 + ((jj : Nat) : Int).toNat) = Int32.ofNat (((M.2.2 ch.1).2.2.2.2.2.2.1[jj]?).getD (0, 0)).1
        rw [hg, Int.toNat_natCast, ey]
        exact b1
      · unfold chVal; rw [if_neg n0, if_neg n1', if_pos e2, if_neg cs]
    · unfold chVal; rw [if_pos z0', e86]
  refine sp_in _ _ _ ⟨fun c1 => p41 1 (fun q => absurd q (by decide)) (fun _ z => in_ge (bi_eq.mp c1) (by rw [e84]; exact c0) z.1), fun c1 => sp_in _ _ _ ⟨fun c2 => p41 0 (fun _ => ⟨in_lt (bi_ne.mp c1) (by rw [e84]; exact c0), ?_⟩) (fun z => absurd rfl z), fun c2 => p41 1 (fun q => absurd q (by decide)) (fun _ z => ?_)⟩⟩
  · obtain ⟨a1, a2⟩ := bi_ne.mp c2
    have k4 : (4 : Int32).toInt = 4 := rfl
    rw [t_le, k0] at a1
    rw [t_le, k4] at a2
    omega
  · have k4 : (4 : Int32).toInt = 4 := rfl
    have := z.2
    exact bi_eq.mp c2 ⟨t_le.mpr (by rw [k0]; exact z.2.1), t_le.mpr (by rw [k4]; omega)⟩
end MCI
end
section
/-! thread: how a thread stands -/
abbrev inT (nt : Int) (l1 l2 : Int32) : Prop := (0 ≤ l1.toInt ∧ l1.toInt < nt) ∧ 0 ≤ l2.toInt ∧ l2.toInt < 5
abbrev e2Th (x : gd) (l1 l2 : Int32) : Prop := ¬ x.1 0 10 = 0 ∧ ¬ inT (x.1 60 10).toInt l1 l2
abbrev f2Th (w : gd) (l1 l2 : Int32) : Prop := ¬ w.1 0 67 = 0 ∧ ¬ inT (w.1 0 25).toInt l1 l2
/-- what is asked of a thread; ln: the lines of the steps -/
def thA (C : gCo) (H : gTq) (ln : Nat → Int32) (i r : Int32) : Prop := (i.toInt = 0 → r = Int32.ofNat H.1) ∧ (i.toInt = 1 → r = Int32.ofNat H.2.1) ∧ (i.toInt = 2 → r.toInt = (H.2.2.2.2.2.2.1.length : Nat)) ∧ (i.toInt = 3 → r.toInt = (knL C H : Nat)) ∧ (i.toInt = 4 → (H.1 = 1 → r = ln H.2.2.1) ∧ (¬ H.1 = 1 → r = 0))
def sTh (C : gCo) (wr n : Nat) (c : Nat → Nat) (x : gd) (l1 l2 r : Int32) (y : gd) : Prop := (thA C ((runM C wr c n).2.2 l1.toInt.toNat) (x.1 82) l2 r ∧ (((runM C wr c n).2.2 l1.toInt.toNat).1 = 1 → ((((runM C wr c n).2.2 l1.toInt.toNat).2.2.1 : Nat) : Int) < (x.1 80 9).toInt ∧ (x.1 81 ((runM C wr c n).2.2 l1.toInt.toNat).2.2.1).toInt < 16)) ∧ (0 ≤ l2.toInt ∧ l2.toInt < 5) ∧ KRd x y
def tTh (C : gCo) (wr n : Nat) (w : gd) (l1 l2 r : Int32) (w' : gd) : Prop := thA C ((runM C wr (c96 w) n).2.2 l1.toInt.toNat) (w.1 63) l2 r ∧ rdM C wr w w'
theorem thA_eq {C : gCo} {H : gTq} {f g : Nat → Int32} {i r r' : Int32} (h : thA C H f i r) (h' : thA C H g i r') (hi : 0 ≤ i.toInt ∧ i.toInt < 5) (e : H.1 = 1 → f H.2.2.1 = g H.2.2.1) : r = r' := by
  obtain ⟨a0, a1, a2, a3, a4⟩ := h
  obtain ⟨b0, b1, b2, b3, b4⟩ := h'
  have c : i.toInt = 0 ∨ i.toInt = 1 ∨ i.toInt = 2 ∨ i.toInt = 3 ∨ i.toInt = 4 := by omega
  rcases c with c | c | c | c | c
  · rw [a0 c, b0 c]
  · rw [a1 c, b1 c]
  · rw [t_eq, a2 c, b2 c]
  · rw [t_eq, a3 c, b3 c]
  · by_cases q : H.1 = 1
    · rw [(a4 c).1 q, (b4 c).1 q, e q]
    · rw [(a4 c).2 q, (b4 c).2 q]
theorem kn_1 : ∀ s, s < 8 → ∀ k, k < 24 → (((1 : Int32) <<< (Int32.ofNat s &&& 31)) >>> (Int32.ofNat k &&& 31)) &&& 1 = if k = s then 1 else 0 := by decide +kernel
theorem kn_0 : ∀ k, k < 24 → ((0 : Int32) >>> (Int32.ofNat k &&& 31)) &&& 1 = 0 := by decide +kernel
theorem kn_bit : ∀ {sl : List Nat}, (∀ s ∈ sl, s < 8) → ∀ k, k < 24 → (kmN sl >>> (Int32.ofNat k &&& 31)) &&& 1 = if k ∈ sl then 1 else 0 := by
  intro sl
  induction sl with
  | nil => intro _ k hk; rw [if_neg (by simp)]; exact kn_0 k hk
  | cons s r ih =>
    intro h k hk
    rw [kmN, or_sr, ih (fun s hs => h s (List.mem_cons_of_mem _ hs)) k hk, kn_1 s (h s List.mem_cons_self) k hk]
    by_cases c1 : k = s
    · rw [if_pos c1, if_pos (show k ∈ s :: r by rw [c1]; exact List.mem_cons_self)]
      by_cases c2 : k ∈ r
      · rw [if_pos c2]; decide
      · rw [if_neg c2]; decide
    · rw [if_neg c1]
      by_cases c2 : k ∈ r
      · rw [if_pos c2, if_pos (List.mem_cons_of_mem _ c2)]; decide
      · rw [if_neg c2, if_neg (fun z => (List.mem_cons.mp z).elim c1 c2)]; decide
section KTH
variable {G : kG} {q : kP} {d : Nat} {x y w w' : gd} {P : Option gv → gd → Prop} {X : String → gd → Prop} {C : gCo} {wr n : Nat} {lm : Nat → Nat}
theorem ka_thread (h : JH C wr n lm x w) (hq : kV q) (hH : HOI x q) (l1 l2 : Int32) (hX1 : e1Ch x → X iSE x) (hX2 : e2Th x l1 l2 → X iOE x) (hP : ¬ e1Ch x → ¬ e2Th x l1 l2 → ∀ r y, HOI y q → sTh C wr n (c96 w) x l1 l2 r y → P (some (vi r)) y) : KE G q (d + 7) zk_X11_thread 0 [(0, vr 0), (1, vi l1), (2, vi l2)] [] x P X := by
  have hm : kiM q 120 := Or.inl rfl
  have k5 : (5 : Int32).toInt = 5 := rfl
  refine kg_X11_thread_0 hq l1 l2 (kh_run hq hH hX1 (fun h10 hR => kh_ix hq l1 _ (fun hn => hX2 ⟨h10, fun z => hn z.1⟩) (fun l0 l9 => kh_what hq l2 5 (fun hn => hX2 ⟨h10, fun z => hn (by rw [k5]; exact z.2)⟩) (fun g0 g9 => ?_))))
  rw [k5] at g9
  have hT : ((l1.toInt.toNat : Nat) : Int) < (x.1 60 10).toInt := by omega
  have eT : l1.toInt = ((l1.toInt.toNat : Nat) : Int) := by omega
  have hT6 := MM_6 hR.1.1 hT
  obtain ⟨hA, hG⟩ := hR.1.2.2 _ hT
  obtain ⟨st, hs, es⟩ := JH_st h hH h10 hT
  obtain ⟨j, r, -, -⟩ := JH_R h h10
  have e10 : (x.1 60 10).toInt = (C.2.1.length : Nat) := j.2.1.2.1.1
  obtain ⟨H, eH⟩ : ∃ H, H = (runM C wr (c96 w) n).2.2 l1.toInt.toNat := ⟨_, rfl⟩
  have kq := r.2.1.1.2 l1.toInt.toNat (by omega)
  rw [← eH] at kq hs es
  obtain ⟨⟨q0, q0'⟩, q1, q2, -, -, -, ⟨q7, -⟩, -, -⟩ := kq
  have e83 : (x.1 83 H.2.2.1).toInt = (st.2.1.length : Nat) := (j.2.1.1.2 _ st hs).2.1
  have e2 : (rg x 120 l1.toInt.toNat 2).toInt.toNat = H.2.2.1 := by rw [q2]; rfl
  have s1 : rg x 120 l1.toInt.toNat 0 = 1 ↔ H.1 = 1 := by
    rw [q0]
    exact st_4 _ (by omega) 1 (by decide)
  have s13 : (rg x 120 l1.toInt.toNat 0 = 1 ∨ rg x 120 l1.toInt.toNat 0 = 3) ↔ (H.1 = 1 ∨ H.1 = 3) := by
    rw [q0]
    exact or_congr (st_4 _ (by omega) 1 (by decide)) (st_4 _ (by omega) 3 (by decide))
  have fin : ∀ r : Int32, thA C H (x.1 82) l2 r → P (some (vi r)) x := fun r9 hr => by
    refine hP h10 (fun z => z.2 ⟨⟨l0, l9⟩, g0, g9⟩) r9 x hH ⟨⟨?_, ?_⟩, ⟨g0, g9⟩, KR_rf⟩
    · rw [← eH]; exact hr
    · rw [← eH]
      intro c1
      have a := (hG (s1.mpr c1)).1
      have b := hA.1
      rw [e2] at a
      rw [q2] at b
      exact ⟨b.2, a⟩
  have k0 : (0 : Int32).toInt = 0 := rfl
  have k1 : (1 : Int32).toInt = 1 := rfl
  have k2 : (2 : Int32).toInt = 2 := rfl
  have k3 : (3 : Int32).toInt = 3 := rfl
  refine ⟨fun c => ?_, fun c => ?_, fun c => ?_, fun c => ?_, fun c => ?_⟩
  · refine kp_get hq hm hR.1.1 hR.1.2.1 l1 0 (K := 0) eT rfl hT6 (by omega) (fin _ ?_)
    unfold thA
    rw [c, k0]
    exact ⟨fun _ => q0, fun z => absurd z (by decide), fun z => absurd z (by decide), fun z => absurd z (by decide), fun z => absurd z (by decide)⟩
  · refine kp_get hq hm hR.1.1 hR.1.2.1 l1 1 (K := 1) eT rfl hT6 (by omega) (fin _ ?_)
    unfold thA
    rw [c, k1]
    exact ⟨fun z => absurd z (by decide), fun _ => q1, fun z => absurd z (by decide), fun z => absurd z (by decide), fun z => absurd z (by decide)⟩
  · refine kp_get hq hm hR.1.1 hR.1.2.1 l1 7 (K := 7) eT rfl hT6 (by omega) (fin _ ?_)
    unfold thA
    rw [c, k2]
    exact ⟨fun z => absurd z (by decide), fun z => absurd z (by decide), fun _ => q7, fun z => absurd z (by decide), fun z => absurd z (by decide)⟩
  · refine kh_known hq hm hR.1.1 hR.1.2.1 l1 eT hT6 hA (fun r9 r0 r8 a1 a2 => fin r9 ?_)
    unfold thA
    rw [c, k3]
    refine ⟨fun z => absurd z (by decide), fun z => absurd z (by decide), fun z => absurd z (by decide), fun _ => ?_, fun z => absurd z (by decide)⟩
    unfold knL
    by_cases c : H.1 = 1 ∨ H.1 = 3
    · rw [a1 (s13.mpr c), if_pos c, es, e2]; exact e83
    · rw [a2 (fun z => c (s13.mp z)), if_neg c]; rfl
  · have c4 : l2.toInt = 4 := by
      have n0 := c 0 (by decide)
      have n1 := c 1 (by decide)
      have n2 := c 2 (by decide)
      have n3 := c 3 (by decide)
      rw [t_eq] at n0 n1 n2 n3
      omega
    have ok : ∀ r9 : Int32, (H.1 = 1 → r9 = x.1 82 H.2.2.1) → (¬ H.1 = 1 → r9 = 0) → P (some (vi r9)) x := fun r9 u1 u2 => fin r9 ⟨fun z => by omega, fun z => by omega, fun z => by omega, fun z => by omega, fun _ => ⟨u1, u2⟩⟩
    refine kg_X5_lineOf_0 hq hm l1 (kp_isGoing hq hm hR.1.1 hR.1.2.1 l1 eT hT6 (fun g => ⟨fun z => absurd z (by decide), fun _ => ?_⟩) (fun g => ⟨fun _ => ri_i (ok 0 (fun z => absurd (s1.mpr z) g) (fun _ => rfl)), fun z => absurd rfl z⟩))
    refine kp_get hq hm hR.1.1 hR.1.2.1 l1 2 (K := 2) eT rfl hT6 (by omega) ⟨(MM_st hR.1.1 hA).1, ri_i (ok _ (fun _ => ?_) (fun z => absurd (s1.mp g) z))⟩
    rw [(MM_st hR.1.1 hA).2.1, e2]
theorem ja_thread {l1 l2 r9 r : Int32} (h : JH C wr n lm x w) (hH : HOI y q) (k : ansK (e1Ch x) (e2Th x l1 l2) (sTh C wr n (c96 w) x l1 l2) x r9 y) (m : ansM C wr (f1Ch w) (f2Th w l1 l2) (tTh C wr n w l1 l2) w r w') : JR3 y w' ∧ ansE r9 r y w' := by
  have e9 := JH_10 h
  refine ans_eq h hH e9 ⟨fun z => ⟨fun a => z.1 (e9.mpr a), by rw [← (JH_R h z.1).1.1.2.2.2.2.1]; exact z.2⟩, fun z => ⟨fun a => z.1 (e9.mp a), by rw [(JH_R h (fun a => z.1 (e9.mp a))).1.1.2.2.2.2.1]; exact z.2⟩⟩ (fun a z => z.1 a) k m (fun c _ r' s t => ⟨JQ_rd h hH s.2.2 t.2, ?_⟩)
  have n9 : ¬ x.1 0 9 = 0 := (JH_R h c).1.1.1
  exact thA_eq s.1.1 t.1 s.2.1 (fun z => h.1.2.2.2 n9 _ (s.1.2 z).1 (s.1.2 z).2)
end KTH
section MTH
variable {G : mG} {d D : Nat} {x w : gd} {F : Int32 → gd → Prop} {C : gCo} {wr n : Nat} {lm : Nat → Nat} {q : kP}
theorem sf_ones {sl : List Nat} (slp : sl.Pairwise (fun a b => b < a)) (sl8 : ∀ s ∈ sl, s < 8) (h : F (Int32.ofNat sl.length) x) : MT G d z_ones 0 [(0, vi (kmN sl))] [] x (ri F) := by
  have k1 : (1 : Int32).toInt = 1 := rfl
  have k24 : (24 : Int32).toInt = 24 := rfl
  have l8 : sl.length ≤ 8 := by rw [← lowc_8 sl8]; exact lowc_le slp 8
  have ok : ∀ k, k ≤ 24 → (Int32.ofNat k).toInt = (k : Nat) := fun k hk => Int32.toInt_ofNat_of_lt (by omega)
  have top : ∀ k, 8 ≤ k → lowc sl k = sl.length := fun k hk => by
    unfold lowc
    rw [List.filter_eq_self.mpr (fun b hb => by have := sl8 b hb; simpa using (show b < k by omega))]
  have le : ∀ k, lowc sl k ≤ 8 := fun k => Nat.le_trans (List.length_filter_le _ _) l8
  have loop : ∀ (m k : Nat) (s : Int32), 24 - k ≤ m → k ≤ 24 → s.toInt = (lowc sl k : Nat) → MT G d z_ones 4 [(0, vi (kmN sl)), (1, vi s), (2, vi (Int32.ofNat k))] [] x (ri F) := by
    intro m
    have last : ∀ (k : Nat) (s : Int32), k = 24 → s.toInt = (lowc sl k : Nat) → ri F (some (vi s)) x := fun k s ek hs => ri_i (by
      have e : s = Int32.ofNat sl.length := by rw [t_eq, hs, ek, top 24 (by decide), ok _ (by omega)]
      rw [e]; exact h)
    induction m with
    | zero =>
      intro k s hk hk8 hs
      exact sg_ones_4 _ _ _ ⟨fun _ => last k s (by omega) hs, fun c => absurd (t_le.mpr (by rw [k24, ok k hk8]; omega)) c⟩
    | succ m ih =>
      intro k s hk hk8 hs
      refine sg_ones_4 _ _ _ ⟨fun c => last k s (by rw [t_le, k24, ok k hk8] at c; omega) hs, fun c => ?_⟩
      rw [t_le, k24, ok k hk8] at c
      have e1 : Int32.ofNat k + 1 = Int32.ofNat (k + 1) := by
        rw [t_eq, t_add (by rw [ok k hk8]; omega) (by rw [ok k hk8]; omega), ok k hk8, ok (k + 1) (by omega), k1]
        push_cast; rfl
      have bit := kn_bit sl8 k (by omega)
      have step := lowc_s slp k
      have lk := le k
      rw [e1, bit]
      refine ih (k + 1) _ (by omega) (by omega) ?_
      by_cases ck : k ∈ sl
      · rw [if_pos ck] at step ⊢
        rw [t_add (by rw [k1]; omega) (by rw [k1]; omega), k1, hs, step]; push_cast; rfl
      · rw [if_neg ck] at step ⊢
        have k0 : (0 : Int32).toInt = 0 := rfl
        rw [t_add (by rw [k0]; omega) (by rw [k0]; omega), k0, hs, step]; push_cast; rfl
  exact sg_ones_0 _ (loop 24 0 0 (by omega) (by omega) (by rw [lowc_0]; rfl))
theorem ma_thread (h : JH C wr n lm x w) (hH : HOI x q) (hm : MI w) (t i : Int32) (hD : 3 ≤ D) (hF : ∀ r w', ansM C wr (f1Ch w) (f2Th w t i) (tTh C wr n w t i) w r w' → F r w') : MT G D z_thread 0 [(0, vr 0), (1, vi t), (2, vi i)] [] w (ri F) := by
  obtain ⟨D, rfl⟩ : ∃ D', D = D' + 2 := ⟨D - 2, by omega⟩
  have k0 : (0 : Int32).toInt = 0 := rfl
  have k1 : (1 : Int32).toInt = 1 := rfl
  have k2 : (2 : Int32).toInt = 2 := rfl
  have k3 : (3 : Int32).toInt = 3 := rfl
  have k4 : (4 : Int32).toInt = 4 := rfl
  refine sg_thread_0 _ _ (fun y e => ?_)
  have hy := z0_s e
  have e67 : y.1 0 67 = w.1 0 67 := hy.1.1 67 (by decide)
  have e25 : y.1 0 25 = w.1 0 25 := hy.1.1 25 (by decide)
  have e63 : y.1 63 = w.1 63 := hy.1.2 63 (by decide) (by simp)
  have qy := (MI_0 hy.1 hm).1
  refine sc_noRunk hy (fun hr => ⟨fun q => absurd rfl q, fun _ => ?_⟩) (fun c y' m => ⟨fun _ => ri_i (hF _ y' (an_1 hm (show w.1 0 67 = 0 by rw [← e67]; exact c) m)), fun q => absurd q (by decide)⟩)
  obtain ⟨cp, _, rt⟩ := RS_of qy hr
  have g := cp.1
  have g6 := g.2.2.2.2.2.1
  rw [e67] at hr
  have h10 : ¬ x.1 0 10 = 0 := fun z => hr ((JH_10 h).mp z)
  obtain ⟨hc, hh, e94⟩ := JH_M h hr
  have gc := (JH_gc h hH).1
  obtain ⟨mm, m8⟩ := HistC_MM gc.1 (HistC_0 hy.1 hh) (n := n) (by rw [hy.1.1 94 (by decide)]; exact e94)
  have cy : c96 y = c96 w := by unfold c96; rw [hy.1.2 96 (by decide) (by simp)]
  rw [cy] at mm
  have hKy : MK y C := MK_mi hy.1 rfl rfl (JH_R h h10).1.2.2.1
  have jn : x.1 60 10 = w.1 0 25 := (JH_R h h10).1.1.2.2.2.2.1
  have p41 : ∀ b : Int32, (b = 0 → (0 ≤ t.toInt ∧ t.toInt < (y.1 0 25).toInt) ∧ 0 ≤ i.toInt ∧ i.toInt < 5) → (¬ b = 0 → ¬ ((0 ≤ t.toInt ∧ t.toInt < (y.1 0 25).toInt) ∧ 0 ≤ i.toInt ∧ i.toInt < 5)) → MT G (D + 2) z_thread 41 [(0, vr 0), (1, vi t), (2, vi i)] [vi b, vr 0] y (ri F) := by
    intro b hb hb2
    refine sg_thread_41 _ _ _ (sc_refk b 2 hy (by decide) (fun b0 => ⟨fun _ => ?_, fun q => absurd rfl q⟩) (fun nb y' m => ⟨fun q => absurd q (by decide), fun _ => ri_i (hF _ y' (an_2 hm ⟨hr, fun z => hb2 nb (by rw [e25]; exact z)⟩ m))⟩))
    obtain ⟨⟨t0, t1⟩, i0, i5⟩ := hb b0
    have tv : vp_in t 6 := by rw [vp_in_iff]; omega
    have ct := t_cl t
    have t6 : t.toInt.toNat < 6 := by omega
    obtain ⟨H, eH⟩ : ∃ H, H = (runM C wr (c96 w) n).2.2 t.toInt.toNat := ⟨_, rfl⟩
    obtain ⟨st, hs, es⟩ := JH_st h hH h10 (t := t.toInt.toNat) (by rw [jn, ← e25]; omega)
    have tq := mm.2.2 t.toInt.toNat t6
    rw [← eH] at hs es tq
    obtain ⟨q0, q0', q1, q2, -, -, -, -, ⟨q7, -⟩, -⟩ := tq
    obtain ⟨np, nl, n8⟩ := (gc.1.1 _ st hs).2.2.2.2.1
    have s8 : ∀ s ∈ st.2.1, s < 8 := fun s hs9 => by have := nl s hs9; omega
    have e62 : y.1 62 H.2.2.1 = kmN st.2.1 := (hKy.1.2 _ st hs).2.2.2.2.2.2.2.2
    have v74 : vp_in (y.1 74 t.toNatClampNeg) 1500 := by rw [vp_in_iff]; exact ⟨(rt _ (vt tv)).1, (rt _ (vt tv)).2.1⟩
    have e74 : (y.1 74 t.toNatClampNeg).toNatClampNeg = H.2.2.1 := by rw [ct, t_cl, q2]; rfl
    have e73 : y.1 73 t.toNatClampNeg = Int32.ofNat H.1 := by rw [ct]; exact q0
    have s4 := fun b hb => st_4 H.1 (by omega) b hb
    have fin : ∀ r : Int32, thA C H (w.1 63) i r → ri F (some (vi r)) y := fun r hr9 => ri_i (hF _ y (an_3 qy hr (fun z => z.2 ⟨⟨t0, by rw [← e25]; exact t1⟩, i0, i5⟩) hy.2 ⟨by rw [← eH]; exact hr9, rd_0 hy.1 hm⟩))
    refine ⟨fun c0 => ⟨fun c1 => ⟨fun c2 => ⟨fun c3 => ⟨tv, fun g => ?_, fun g => ⟨tv, v74, ?_⟩⟩, fun c3 => ?_⟩, fun c2 => ⟨tv, fin _ ?_⟩⟩, fun c1 => ⟨tv, fin _ ?_⟩⟩, fun c0 => ⟨tv, fin _ ?_⟩⟩
    · rw [t_eq] at c0 c1 c2 c3
      rw [e73] at g
      exact fin 0 ⟨fun z => by omega, fun z => by omega, fun z => by omega, fun z => by omega, fun _ => ⟨fun z => absurd ((s4 1 (by decide)).mpr z) g, fun _ => rfl⟩⟩
    · rw [t_eq] at c0 c1 c2 c3
      rw [e73] at g
      refine fin _ ⟨fun z => by omega, fun z => by omega, fun z => by omega, fun z => by omega, fun _ => ⟨fun _ => by rw [e63, e74], fun z => absurd ((s4 1 (by decide)).mp g) z⟩⟩
    · -- known
      have i3 : i.toInt = 3 := by rw [c3]; exact k3
      have go : ∀ sl : List Nat, sl = (if H.1 = 1 ∨ H.1 = 3 then st.2.1 else []) → MT G (D + 1) z_ones 0 [(0, vi (kmN sl))] [] y (ri (fun r15 x14 => ri F (some (vi r15)) x14)) := fun sl esl => by
        refine sf_ones (by rw [esl]; split; exact np; exact List.Pairwise.nil) (by rw [esl]; split; exact s8; exact fun s hs9 => nomatch hs9) (fin _ ⟨fun z => by omega, fun z => by omega, fun z => by omega, fun _ => ?_, fun z => by omega⟩)
        have kl : knL C H = sl.length := by
          unfold knL
          rw [esl, es]
          split
          · rfl
          · rfl
        have l8 : sl.length ≤ 8 := by
          rw [esl]
          split
          · rw [← lowc_8 s8]; exact lowc_le np 8
          · exact Nat.zero_le _
        rw [kl]
        exact Int32.toInt_ofNat_of_lt (by omega)
      refine sg_knownOf_0 _ ⟨tv, fun c => ⟨tv, v74, ri_i ?_⟩, fun c => ⟨tv, fun c3 => ri_i ?_, fun c3 => ⟨tv, v74, ri_i ?_⟩⟩⟩
      · rw [e73] at c
        have c1 : H.1 = 1 := (s4 1 (by decide)).mp c
        rw [e74, e62]
        exact go _ (by rw [if_pos (Or.inl c1)])
      · rw [e73] at c c3
        exact go [] (by rw [if_neg (fun z => by
          rcases z with z | z
          · exact c ((s4 1 (by decide)).mpr z)
          · exact c3 ((s4 3 (by decide)).mpr z))])
      · rw [e73] at c3
        have c1 : H.1 = 3 := (s4 3 (by decide)).mp c3
        rw [e74, e62]
        exact go _ (by rw [if_pos (Or.inr c1)])
    · have i2 : i.toInt = 2 := by rw [c2]; exact k2
      exact ⟨fun z => by omega, fun z => by omega, fun _ => by rw [ct]; exact q7, fun z => by omega, fun z => by omega⟩
    · have i1 : i.toInt = 1 := by rw [c1]; exact k1
      exact ⟨fun z => by omega, fun _ => by rw [ct]; exact q1, fun z => by omega, fun z => by omega, fun z => by omega⟩
    · have i00 : i.toInt = 0 := by rw [c0]; exact k0
      exact ⟨fun _ => by rw [ct]; exact q0, fun z => by omega, fun z => by omega, fun z => by omega, fun z => by omega⟩
  refine sp_in _ _ _ ⟨fun c1 => p41 1 (fun q => absurd q (by decide)) (fun _ z => (in_ge (bi_eq.mp c1) g.2.2.2.2.1) z.1), fun c1 => sp_in _ _ _ ⟨fun c2 => p41 0 (fun _ => ⟨in_lt (bi_ne.mp c1) g.2.2.2.2.1, ?_⟩) (fun z => absurd rfl z), fun c2 => p41 1 (fun q => absurd q (by decide)) (fun _ z => ?_)⟩⟩
  · have := bi_ne.mp c2
    rw [t_le, t_le, k0, k4] at this
    omega
  · have := bi_eq.mp c2
    rw [t_le, t_le, k0, k4] at this
    omega
end MTH
end
