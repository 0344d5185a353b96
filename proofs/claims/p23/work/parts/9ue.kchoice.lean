/-! choice: what a choice is -/
noncomputable def chVal (C : gCo) (w : Nat) (M : gMa) (ch : gCh) (k : Int32) : Int32 :=
  if k = 0 then Int32.ofNat ch.1
  else if k = 1 then (if ch.2.1 = none then 0 else 1)
  else if k = 2 then (if ch.2.1 = none then Int32.ofNat (soM C (M.2.2 ch.1)) else 1)
  else if k = 3 then (if ch.2.1 = none then (lkM C w M ch.1).2.1 else Int32.ofNat (((M.2.2 ch.1).2.2.2.2.2.2.1[ch.2.1.getD 0]?).getD (0, 0)).1)
  else opI ch.2.2
abbrev inCh (nc : Int) (l1 l2 : Int32) : Prop := (0 ≤ l1.toInt ∧ l1.toInt < nc) ∧ 0 ≤ l2.toInt ∧ l2.toInt < 5
abbrev e2Ci (x : gd) (l1 l2 : Int32) : Prop := ¬ x.1 0 10 = 0 ∧ ¬ inCh (x.1 120 13).toInt l1 l2
def chR (C : gCo) (wr n : Nat) (c : Nat → Nat) (l1 l2 r : Int32) : Prop := ∃ ch, (chM C wr (runM C wr c n))[l1.toInt.toNat]? = some ch ∧ r = chVal C wr (runM C wr c n) ch l2
def sCi (C : gCo) (wr n : Nat) (c : Nat → Nat) (x : gd) (l1 l2 r : Int32) (y : gd) : Prop := chR C wr n c l1 l2 r ∧ KRd x y
abbrev f2Ci (w : gd) (l1 l2 : Int32) : Prop := ¬ w.1 0 67 = 0 ∧ ¬ inCh (w.1 0 84).toInt l1 l2
def tCi (C : gCo) (wr n : Nat) (w : gd) (l1 l2 r : Int32) (w' : gd) : Prop := chR C wr n (c96 w) l1 l2 r ∧ rdM C wr w w'
theorem chR_eq {C : gCo} {wr n : Nat} {c : Nat → Nat} {l1 l2 r r' : Int32} (h : chR C wr n c l1 l2 r) (g : chR C wr n c l1 l2 r') : r = r' := by
  obtain ⟨ch, a1, a2⟩ := h
  obtain ⟨ch', b1, b2⟩ := g
  rw [a1] at b1
  rw [a2, b2, Option.some.inj b1]
section PCH
variable {C : gCo} {w T : Nat} {M : gMa} {ch : gCh}
theorem lkI_m1 (h : ¬ (lkI C M T).1 = 0) : (lkI C M T).2 = -1 := by
  unfold lkI at h ⊢
  split
  · next e => rw [e] at h; exact absurd rfl h
  · next Q e =>
    simp only [e] at h
    split
    · rfl
    · next v e2 =>
      simp only [e2] at h
      split
      · rfl
      · next c => rw [if_neg c] at h; exact absurd rfl h
theorem lkM_0 (h : (M.2.2 T).2.2.2.1 = 0) : (lkM C w M T).2.1 = (lkI C M T).2 := by
  unfold lkM
  rw [if_neg (fun z => z h)]
  by_cases c : ¬ (lkI C M T).1 = 0
  · rw [if_pos c]
  · rw [if_neg c]
    split
    · rfl
    · split
      · rfl
      · rfl
theorem lkM_w (h : ¬ (M.2.2 T).2.2.2.1 = 0) : (lkM C w M T).2.1 = (stN C (M.2.2 T).2.2.1).2.2.2.2.1 := by
  unfold lkM
  rw [if_pos h]
theorem lkI_no (h : (stN C (M.2.2 T).2.2.1).2.2.2.2.2.2.2.1 = none) : (lkI C M T).2 = (stN C (M.2.2 T).2.2.1).2.2.2.2.1 := by
  unfold lkI
  rw [h]
theorem ch_lt (h : ch ∈ chM C w M) : ¬ ch.2.1 = none → ch.2.2 = none := by
  unfold chM at h
  obtain ⟨t, ht, h⟩ := List.mem_flatMap.mp h
  unfold ch1 at h
  rcases List.mem_append.mp h with h | h
  · by_cases c : canM C w M t
    · rw [if_pos c] at h
      by_cases c8 : soM C (M.2.2 t) = 8 ∧ (stN C (M.2.2 t).2.2.1).2.2.2.2.2.2.1 = false ∧ (M.2.1 (obM C (M.2.2 t).2.2.1)).1 = t + 1 ∧ ¬ waM C M (obM C (M.2.2 t).2.2.1) = []
      · rw [if_pos c8] at h
        obtain ⟨u, hu, e⟩ := List.mem_map.mp h
        subst e
        exact fun z => absurd rfl z
      · rw [if_neg c8] at h
        cases List.mem_singleton.mp h
        exact fun z => absurd rfl z
    · rw [if_neg c] at h; cases h
  · obtain ⟨u, hu, e⟩ := List.mem_map.mp h
    subst e
    exact fun _ => rfl
end PCH
section KCI
variable {G : kG} {q : kP} {d : Nat} {x y w w' : gd} {Fv : gd → Prop} {P : Option gv → gd → Prop} {X : String → gd → Prop} {C : gCo} {wr n : Nat} {lm : Nat → Nat}
theorem kh_what (hq : kV q) (l n : Int32) (hO : ¬ (0 ≤ l.toInt ∧ l.toInt < n.toInt) → X iOE x) (h : 0 ≤ l.toInt → l.toInt < n.toInt → Fv x) : KE G q (d + 6) zk_X11_needWhat 0 [(0, vi l), (1, vi n)] [] x (rv Fv) X := by
  have k0 : (0 : Int32).toInt = 0 := rfl
  refine kg_X11_needWhat_0 hq l n ⟨fun c => kg_X11_needWhat_9 hq (hO ?_), fun c => ⟨fun c2 => rv_i (h ?_ ?_), fun c2 => kg_X11_needWhat_9 hq (hO ?_)⟩⟩
  · rw [t_lt, k0] at c; omega
  · rw [t_lt, k0] at c; omega
  · rw [t_lt] at c2; exact c2
  · rw [t_lt] at c2; omega
theorem kch_4 {x : gd} {o I : Nat} {ch : gCh} (h : kch x o I ch) : x.1 (o + 13) I = opI ch.2.2 := by
  obtain ⟨-, -, -, h4, h5⟩ := h
  cases e : ch.2.2 with
  | none => exact h4 e
  | some k => exact h5 k e
theorem ka_choice (h : JH C wr n lm x w) (hq : kV q) (hH : HOI x q) (l1 l2 : Int32) (hX1 : e1Ch x → X iSE x) (hX2 : e2Ci x l1 l2 → X iOE x) (hP : ¬ e1Ch x → ¬ e2Ci x l1 l2 → ∀ r y, HOI y q → sCi C wr n (c96 w) x l1 l2 r y → P (some (vi r)) y) : KE G q (d + 7) zk_X11_choice 0 [(0, vr 0), (1, vi l1), (2, vi l2)] [] x P X := by
  have hm : kiM q 120 := Or.inl rfl
  have k5 : (5 : Int32).toInt = 5 := rfl
  refine kg_X11_choice_0 hq l1 l2 (kh_run hq hH hX1 (fun h10 hR => kh_ix hq l1 _ (fun hn => hX2 ⟨h10, fun z => hn z.1⟩) (fun l0 l9 => kh_what hq l2 5 (fun hn => hX2 ⟨h10, fun z => hn (by rw [k5]; exact z.2)⟩) (fun g0 g9 => ?_))))
  rw [k5] at g9
  obtain ⟨j, r, -, -⟩ := JH_R h h10
  have gc := JH_gc h hH
  obtain ⟨M, eM⟩ : ∃ M, M = runM C wr (c96 w) n := ⟨_, rfl⟩
  have hP := hP h10 (fun z => z.2 ⟨⟨l0, l9⟩, g0, g9⟩)
  unfold sCi chR at hP
  rw [← eM] at hP
  obtain ⟨-, ⟨r2, r3, r4⟩, -⟩ := r
  rw [← eM] at r2 r3 r4
  have len := r4.1
  have len : (x.1 120 13).toInt = ((chM C wr M).length : Nat) := len
  have hl : l1.toInt.toNat < (chM C wr M).length := by omega
  obtain ⟨ch, hch⟩ : ∃ ch, (chM C wr M)[l1.toInt.toNat]? = some ch := ⟨_, List.getElem?_eq_getElem hl⟩
  have kc := r4.2 _ _ hch
  have cm := List.mem_of_getElem? hch
  obtain ⟨i1, i2, i3⟩ := ch_in cm
  have b84 := hR.2.1.1
  have v84 : vp_in l1 84 := by rw [vp_in_iff]; omega
  have e131 : x.1 131 l1.toInt.toNat = Int32.ofNat ch.1 := kc.1
  have e133 : x.1 133 l1.toInt.toNat = opI ch.2.2 := kch_4 kc
  have e132n : ch.2.1 = none → x.1 132 l1.toInt.toNat = -1 := kc.2.1
  have e132s : ∀ j, ch.2.1 = some j → x.1 132 l1.toInt.toNat = Int32.ofNat j := kc.2.2.1
  have e10 : (x.1 60 10).toInt = (C.2.1.length : Nat) := j.2.1.2.1.1
  have hT6 := MM_6 hR.1.1 (t := ch.1) (by omega)
  have hA := (hR.1.2.2 ch.1 (by omega)).1
  have gT := r2.2 ch.1 i1
  have eT : (x.1 131 l1.toInt.toNat).toInt = (ch.1 : Nat) := by rw [e131]; exact Int32.toInt_ofNat_of_lt (by omega)
  have q7 := gT.2.2.2.2.2.2.1
  have lt8 := hA.2.1
  have late : ∀ jj, ch.2.1 = some jj → jj < 8 ∧ ¬ x.1 132 l1.toInt.toNat = -1 ∧ (x.1 132 l1.toInt.toNat).toInt = (jj : Nat) := fun jj hj => by
    have h8 := i3 jj hj
    have : jj < 8 := by omega
    have e9 := e132s jj hj
    have e8 : (Int32.ofNat jj).toInt = (jj : Nat) := Int32.toInt_ofNat_of_lt (by omega)
    refine ⟨this, fun z => ?_, by rw [e9]; exact e8⟩
    rw [e9] at z
    rw [z, tm1] at e8
    omega
  have nn : ¬ x.1 132 l1.toInt.toNat = -1 ↔ ¬ ch.2.1 = none := ⟨fun a b => a (e132n b), fun a => by
    cases hc : ch.2.1 with
    | none => exact absurd hc a
    | some jj => exact (late jj hc).2.1⟩
  have here : ∀ r, r = chVal C wr M ch l2 → P (some (vi r)) x := fun r er => hP r x hH ⟨⟨ch, hch, er⟩, KR_rf⟩
  have n1 : ∀ {a b : Int32}, ¬ a = b → l2 = a → ¬ l2 = b := fun h e z => h (e.symm.trans z)
  rw [t_cl]
  refine ⟨v84, v84, fun c => here _ ?_, fun c => ⟨fun z => here _ ?_, fun z => here _ ?_⟩, fun c => ⟨fun z => here _ ?_, fun z => ?_⟩, fun c => ⟨fun z => ?_, fun z => ?_⟩, fun c => ⟨v84, here _ ?_⟩⟩
  · unfold chVal; rw [if_pos c]; exact e131
  · unfold chVal; rw [if_neg (n1 (by decide) c), if_pos c, if_neg (nn.mp z)]
  · unfold chVal; rw [if_neg (n1 (by decide) c), if_pos c, if_pos (Classical.not_not.mp (fun a => nn.mpr a z))]
  · unfold chVal; rw [if_neg (n1 (by decide) c), if_neg (n1 (by decide) c), if_pos c, if_neg (nn.mp z)]
  · have cn : ch.2.1 = none := Classical.not_not.mp (fun a => nn.mpr a z)
    have ev : chVal C wr M ch l2 = Int32.ofNat (soM C (M.2.2 ch.1)) := by unfold chVal; rw [if_neg (n1 (by decide) c), if_neg (n1 (by decide) c), if_pos c, if_pos cn]
    obtain ⟨st, s1, s2, s3, s4, s5, kn, ns⟩ := kst_at hR.1 j.2.1 gc.1.1 i1 gT
    have w3 := kst_w3 hR.1 j.2.1 gc.1.1 i1 gT
    refine kp_sortOf hq hm hR.1.1 hR.1.2.1 _ eT hT6 hA (fun c3 => here _ ?_) (fun c3 => here _ ?_)
    · rw [ev, s3]
      unfold soM
      rw [if_pos (w3.mp c3), s2]
      exact kn.1
    · rw [ev]
      unfold soM
      rw [if_neg (fun z9 => c3 (w3.mpr z9))]
      rfl
  · obtain ⟨jj, hj⟩ : ∃ jj, ch.2.1 = some jj := by
      cases hc : ch.2.1 with
      | none => exact absurd hc (nn.mp z)
      | some jj => exact ⟨jj, rfl⟩
    obtain ⟨j8, -, ej⟩ := late jj hj
    have h8 := i3 jj hj
    have hg := List.getElem?_eq_getElem h8
    have qq := (q7.2 jj _ hg).1
    refine kp_lateCell hq hm hR.1.1 hR.1.2.1 _ _ eT hT6 ej j8 (here _ ?_)
    unfold chVal
    rw [if_neg (n1 (by decide) c), if_neg (n1 (by decide) c), if_neg (n1 (by decide) c), if_pos c, if_neg (nn.mp z), hj]
    show _ = Int32.ofNat (((M.2.2 ch.1).2.2.2.2.2.2.1[jj]?).getD (0, 0)).1
    rw [hg]
    exact i32_of qq
  · have cn : ch.2.1 = none := Classical.not_not.mp (fun a => nn.mpr a z)
    have ev : chVal C wr M ch l2 = (lkM C wr M ch.1).2.1 := by unfold chVal; rw [if_neg (n1 (by decide) c), if_neg (n1 (by decide) c), if_neg (n1 (by decide) c), if_pos c, if_pos cn]
    obtain ⟨st, s1, s2, s3, s4, s5, kn, ns⟩ := kst_at hR.1 j.2.1 gc.1.1 i1 gT
    have u1 := (i2 cn).1
    have tg := (hR.1.2.2 ch.1 (by omega)).2 (by rw [gT.1.1, u1]; rfl)
    rw [s3] at tg
    have o16 : st.1 < 16 := by have := tg.1; omega
    refine kh_objectOf hq hm hR.1 j.2.1 gc.1.1 r2 _ eT i1 u1 (fun r9 y9 fy a1 a2 => ?_)
    have fk : KRd x y9 := fm_w fy (fun c k q => by unfold sLk at q; unfold sRd; omega)
    refine hP r9 y9 (HOI_run (fm_w fy (fun c k => rn_Lk)) (RUN_Lk fy hR) hH) ⟨⟨ch, hch, ?_⟩, fk⟩
    rw [ev]
    by_cases so : soM C (M.2.2 ch.1) ≤ 4
    · have w0 : (M.2.2 ch.1).2.2.2.1 = 0 := by
        apply Classical.byContradiction
        intro z9
        unfold soM at so
        rw [if_neg z9] at so
        omega
      rw [lkM_0 w0]
      rcases a1 so with ⟨-, b2, -⟩ | ⟨b1, b2⟩
      · exact b2
      · rw [b2, lkI_m1 b1]
    · have r9e : r9 = st.2.2.2.2.1 := by
        rcases a2 so with b | b
        · rw [b, s2]
        · rw [s2] at b; omega
      by_cases w0 : (M.2.2 ch.1).2.2.2.1 = 0
      · have ix : st.2.2.2.2.2.2.2.1 = none := by
          apply Classical.byContradiction
          intro z9
          have := (gc.1.2.1 _ st s1).1 z9
          unfold soM at so
          rw [if_pos w0, s2] at so
          omega
        rw [lkM_0 w0, lkI_no (by rw [s2]; exact ix), s2]; exact r9e
      · rw [lkM_w w0, s2]; exact r9e
  · unfold chVal
    rw [if_neg (c 0 (by decide)), if_neg (c 1 (by decide)), if_neg (c 2 (by decide)), if_neg (c 3 (by decide))]
    exact e133
theorem ja_choice {l1 l2 r9 r : Int32} (h : JH C wr n lm x w) (hH : HOI y q) (k : ansK (e1Ch x) (e2Ci x l1 l2) (sCi C wr n (c96 w) x l1 l2) x r9 y) (m : ansM C wr (f1Ch w) (f2Ci w l1 l2) (tCi C wr n w l1 l2) w r w') : JR3 y w' ∧ ansE r9 r y w' := by
  have e9 := JH_10 h
  refine ans_eq h hH e9 ⟨fun z => ⟨fun a => z.1 (e9.mpr a), by rw [← JH_84 h z.1]; exact z.2⟩, fun z => ⟨fun a => z.1 (e9.mp a), by rw [JH_84 h (fun a => z.1 (e9.mp a))]; exact z.2⟩⟩ (fun a z => z.1 a) k m (fun c _ r' s t => ⟨JQ_rd h hH s.2 t.2, chR_eq s.1 t.1⟩)
end KCI
section MCI
variable {G : mG} {d D : Nat} {x w : gd} {F : Int32 → gd → Prop} {C : gCo} {wr n : Nat} {lm : Nat → Nat} {q : kP}
theorem ma_choice (h : JH C wr n lm x w) (hH : HOI x q) (hm : MI w) (i k : Int32) (hD : 4 ≤ D) (hF : ∀ r w', ansM C wr (f1Ch w) (f2Ci w i k) (tCi C wr n w i k) w r w' → F r w') : MT G D z_choice 0 [(0, vr 0), (1, vi i), (2, vi k)] [] w (ri F) := by
  obtain ⟨D, rfl⟩ : ∃ D', D = D' + 2 := ⟨D - 2, by omega⟩
  have k0 : (0 : Int32).toInt = 0 := rfl
  refine sg_choice_0 _ _ (fun y e => ?_)
  have hy := z0_s e
  have e67 : y.1 0 67 = w.1 0 67 := hy.1.1 67 (by decide)
  have qy := (MI_0 hy.1 hm).1
  refine sc_noRunk hy (fun hr => ⟨fun q => absurd rfl q, fun _ => ?_⟩) (fun c y' m => ⟨fun _ => ri_i (hF _ y' (an_1 hm (show w.1 0 67 = 0 by rw [← e67]; exact c) m)), fun q => absurd q (by decide)⟩)
  have hc := (qy.2.2.1 hr).1
  rw [e67] at hr
  obtain ⟨-, hh, e94⟩ := JH_M h hr
  have gc := (JH_gc h hH).1
  have w01 := HistC_w hh
  have e84w : y.1 0 84 = w.1 0 84 := hy.1.1 84 (by decide)
  obtain ⟨s, n', q1, q2, q3, q4, q5, q6, q7⟩ := HistC_0 hy.1 hh
  have cy : c96 y = c96 w := by unfold c96; rw [hy.1.2 96 (by decide) (by simp)]
  have en : n' = n := by rw [hy.1.1 94 (by decide), e94] at q1; omega
  subst en
  have am := q2 n' (Nat.le_refl _)
  rw [cy] at am
  obtain ⟨M, eM⟩ : ∃ M, M = runM C wr (c96 w) n' := ⟨_, rfl⟩
  rw [← eM] at am
  have hF := hF
  unfold tCi chR at hF
  rw [← eM] at hF
  have av := am.1
  have e84 : y.1 0 84 = (s n').1 0 84 := q4 0 84 (Or.inr (Or.inl ⟨rfl, rfl⟩))
  have c0 := av.2.2.2.1
  have c84 := av.2.2.2.2.1
  have len := AM_n am
  have p41 : ∀ b : Int32, (b = 0 → inCh (y.1 0 84).toInt i k) → (¬ b = 0 → ¬ inCh (y.1 0 84).toInt i k) → MT G (D + 2) z_choice 41 [(0, vr 0), (1, vi i), (2, vi k)] [vi b, vr 0] y (ri F) := by
    intro b hb hb2
    refine sg_choice_41 _ _ _ (sc_refk b 2 hy (by decide) (fun b0 => ⟨fun _ => ?_, fun q => absurd rfl q⟩) (fun nb y' m => ⟨fun q => absurd q (by decide), fun _ => ri_i (hF _ y' (an_2 hm ⟨hr, by rw [← e84w]; exact hb2 nb⟩ m))⟩))
    have hin := hb b0
    have nE2 : ¬ f2Ci w i k := fun z => z.2 (by rw [← e84w]; exact hin)
    obtain ⟨hi, hk⟩ := hin
    rw [e84] at hi
    have ci := cl_i hi.1
    have iv : vp_in i 200 := by rw [vp_in_iff]; omega
    have hl : i.toInt.toNat < (chM C wr M).length := by omega
    obtain ⟨ch, hch⟩ : ∃ ch, (chM C wr M)[i.toInt.toNat]? = some ch := ⟨_, List.getElem?_eq_getElem hl⟩
    have cm := List.mem_of_getElem? hch
    obtain ⟨j1, j2, j3⟩ := ch_in cm
    obtain ⟨m86, m87, m88⟩ := am.2.2.2.2.2.2 _ _ hch
    obtain ⟨u86, u87, u88, ⟨t0, t6⟩, co⟩ := av.2.2.1 i.toNatClampNeg (by omega)
    have e86 := q4 _ _ (Or.inr u86)
    have e87 := q4 _ _ (Or.inr u87)
    have e88 := q4 _ _ (Or.inr u88)
    rw [t_cl] at e86 e87 e88
    rw [m86] at e86
    rw [m87] at e87
    rw [m88] at e88
    have lt6 : ch.1 < 6 := by have := gc.2.2; omega
    have e6 : (Int32.ofNat ch.1).toInt = (ch.1 : Nat) := Int32.toInt_ofNat_of_lt (by omega)
    have tv : vp_in (Int32.ofNat ch.1) 6 := by rw [vp_in_iff]; omega
    have ct : (Int32.ofNat ch.1).toNatClampNeg = ch.1 := by rw [t_cl, e6]; rfl
    have rr := (av.1.2 ch.1 lt6)
    have a74 : vp_in (y.1 74 (Int32.ofNat ch.1).toNatClampNeg) 1500 := by
      rw [ct, cA q4 (c := 74) (n := 6) (by decide) lt6, vp_in_iff]
      exact ⟨rr.1.1, rr.1.2.1⟩
    have lq := (am.2.2.1.2.2 ch.1 lt6).2.2.2.2.2.2.2.2.1
    have op8 : ∀ jj, jj < 9 → ¬ Int32.ofNat jj = -1 := by decide +kernel
    have lt9 : ∀ jj, ch.2.1 = some jj → jj < 8 := fun jj hj => by
      have := j3 jj hj
      have := lq.1
      have := rr.2.2.2.1
      omega
    have nn : y.1 87 i.toInt.toNat = -1 ↔ ch.2.1 = none := by
      rw [e87]
      cases hcc : ch.2.1 with
      | none => exact ⟨fun _ => rfl, fun _ => rfl⟩
      | some jj => exact ⟨fun z => absurd z (op8 jj (by have := lt9 jj hcc; omega)), fun z => nomatch z⟩
    have ok : ∀ r, r = chVal C wr M ch k → ri F (some (vi r)) y := fun r er => ri_i (hF _ y (an_3 qy hr nE2 hy.2 ⟨⟨ch, hch, er⟩, rd_0 hy.1 hm⟩))
    have n1 : ∀ {a b : Int32}, ¬ a = b → k = a → ¬ k = b := fun h e z => h (e.symm.trans z)
    rw [t_cl]
    refine ⟨iv, iv, fun n0 => ⟨fun c => ?_, fun c => ?_⟩, fun z0' => ok _ ?_⟩
    · have cn := nn.mp c
      refine ⟨fun n3 => ⟨fun n1' => ⟨fun n2 => ⟨iv, ok _ ?_⟩, fun e2 => ?_⟩, fun e1 => ok _ ?_⟩, fun e3 => ?_⟩
      · unfold chVal; rw [if_neg n0, if_neg n1', if_neg n2, if_neg n3]; exact e88
      · have u1 := (j2 cn).1
        have h1 : (s n').1 73 ch.1 = 1 := by rw [(am.2.2.1.2.2 ch.1 lt6).1, u1]; rfl
        have h2 : ¬ (s n').1 77 ch.1 = 1 := fun z => (j2 cn).2.1 (by
          have e77 := (am.2.2.1.2.2 ch.1 lt6).2.2.2.2.1
          have l77 := (am.2.2.1.2.2 ch.1 lt6).2.2.2.2.2.1
          rw [e77] at z
          exact (wai_2 _ (by omega)).2.1.mp z)
        rw [e86]
        refine sp_sortOf _ tv a74 ?_
        rw [ct, srt_eq (eqS_w (Sl_Sm _) q4) av.1 lt6, (srt_so gc.1 am lt6 h1 h2).1]
        exact ok _ (by unfold chVal; rw [if_neg n0, if_neg (n1 (by decide) e2), if_pos e2, if_pos cn])
      · unfold chVal; rw [if_neg n0, if_pos e1, if_pos cn]
      · have u1 := (j2 cn).1
        have h1 : (s n').1 73 ch.1 = 1 := by rw [(am.2.2.1.2.2 ch.1 lt6).1, u1]; rfl
        have h2 : ¬ (s n').1 77 ch.1 = 1 := fun z => (j2 cn).2.1 (by
          have e77 := (am.2.2.1.2.2 ch.1 lt6).2.2.2.2.1
          have l77 := (am.2.2.1.2.2 ch.1 lt6).2.2.2.2.2.1
          rw [e77] at z
          exact (wai_2 _ (by omega)).2.1.mp z)
        rw [e86]
        refine sp_lookAt3 gc.1 gc.2.1 w01 am q4 _ tv (by rw [ct]; exact h1) (by rw [ct]; exact h2) (by omega) (fun y' x' e' m' _ _ _ _ v88 => ri_i (hF _ y' ?_))
        rw [ct] at v88
        have mm := mi_of m'
        have cy' : c96 y' = c96 y := by unfold c96; rw [mm.2 96 (by decide) (by decide)]
        have histc : HistC C wr y' := ⟨s, n', by rw [mm.1 94 (by decide)]; exact q1, by rw [cy']; exact q2, by rw [cy', mm.2 96 (by decide) (by decide)]; exact q3, e', by rw [mm.1 68 (by decide)]; exact St_pr (prE_mi (prE_rf y) mm rfl rfl) q5, by rw [mm.1 68 (by decide)]; exact q6, HA_mi mm rfl rfl q7⟩
        have p := MI_new mm rfl rfl hc (HistC_H histc) qy
        refine an_3 p.1 hr nE2 (by rw [mm.1 0 (by decide)]; exact hy.2) ⟨⟨ch, hch, ?_⟩, rd_tr hy.1 ⟨p, ⟨mm.1 67 (by decide), mm.1 94 (by decide), mm.2 96 (by decide) (by decide)⟩, mm.2 119 (by decide) (by decide), fun _ => histc, fun w T h => TYc_mi mm rfl h⟩⟩
        rw [v88]
        unfold chVal
        rw [if_neg n0, if_neg (n1 (by decide) e3), if_neg (n1 (by decide) e3), if_pos e3, if_pos cn]
    · have cs : ¬ ch.2.1 = none := fun z => c (nn.mpr z)
      obtain ⟨jj, hj⟩ : ∃ jj, ch.2.1 = some jj := by
        cases hcc : ch.2.1 with
        | none => exact absurd hcc cs
        | some jj => exact ⟨jj, rfl⟩
      have h8 := lt9 jj hj
      have ej : y.1 87 i.toInt.toNat = Int32.ofNat jj := by rw [e87, hj]; rfl
      have ejj : (Int32.ofNat jj).toInt = (jj : Nat) := Int32.toInt_ofNat_of_lt (by omega)
      refine ⟨fun e1 => ok _ ?_, fun n1' => ⟨fun n2 => ⟨fun n3 => ok _ ?_, fun e3 => ?_⟩, fun e2 => ok _ ?_⟩⟩
      · unfold chVal; rw [if_neg n0, if_pos e1, if_neg cs]
      · unfold chVal; rw [if_neg n0, if_neg n1', if_neg n2, if_neg n3, ch_lt cm cs]; rfl
      · rw [e86, ej]
        obtain ⟨ta, tb⟩ := t10 tv (i := Int32.ofNat jj) (by omega) (by omega)
        refine ⟨ta, ok _ ?_⟩
        rw [tb, ct, t_cl, ejj]
        have hg := List.getElem?_eq_getElem (j3 jj hj)
        have b1 := (lq.2 jj _ hg).1
        have ey : y.1 81 (10 * ch.1 + jj) = (s n').1 81 (10 * ch.1 + jj) := q4 81 _ (Or.inr (Or.inr (Or.inr ⟨Or.inl rfl, ch.1, jj, lt6, by rw [lq.1]; have := j3 jj hj; omega, rfl⟩)))
        unfold chVal
        rw [if_neg n0, if_neg n1', if_neg n2, if_pos e3, if_neg cs, hj]
        show y.1 81 (10 * ch.1 + ((jj : Nat) : Int).toNat) = Int32.ofNat (((M.2.2 ch.1).2.2.2.2.2.2.1[jj]?).getD (0, 0)).1
        rw [hg, Int.toNat_natCast, ey]
        exact b1
      · unfold chVal; rw [if_neg n0, if_neg n1', if_pos e2, if_neg cs]
    · unfold chVal; rw [if_pos z0', e86]
  refine sp_in _ _ _ ⟨fun c1 => p41 1 (fun q => absurd q (by decide)) (fun _ z => in_ge (bi_eq.mp c1) (by rw [e84]; exact c0) z.1), fun c1 => sp_in _ _ _ ⟨fun c2 => p41 0 (fun _ => ⟨in_lt (bi_ne.mp c1) (by rw [e84]; exact c0), ?_⟩) (fun z => absurd rfl z), fun c2 => p41 1 (fun q => absurd q (by decide)) (fun _ z => ?_)⟩⟩
  · obtain ⟨a1, a2⟩ := bi_ne.mp c2
    have k4 : (4 : Int32).toInt = 4 := rfl
    rw [t_le, k0] at a1
    rw [t_le, k4] at a2
    omega
  · have k4 : (4 : Int32).toInt = 4 := rfl
    have := z.2
    exact bi_eq.mp c2 ⟨t_le.mpr (by rw [k0]; exact z.2.1), t_le.mpr (by rw [k4]; omega)⟩
end MCI
