section
/-! act: what an act was -/
def acVal (e : gDe) (k : Int32) : Int32 :=
  if k = 0 then Int32.ofNat e.1
  else if k = 1 then Int32.ofNat e.2.1
  else if k = 2 then e.2.2.1
  else if k = 3 then e.2.2.2.1
  else e.2.2.2.2.1
abbrev e2Ac (x : gd) (l1 l2 : Int32) : Prop := ¬ x.1 0 10 = 0 ∧ ¬ inCh (x.1 160 3).toInt l1 l2
def acR (C : gCo) (wr n : Nat) (c : Nat → Nat) (l1 l2 r : Int32) : Prop := ∃ e, (joM C wr c n)[l1.toInt.toNat]? = some e ∧ r = acVal e l2
def sAc (C : gCo) (wr n : Nat) (c : Nat → Nat) (x : gd) (l1 l2 r : Int32) (y : gd) : Prop := acR C wr n c l1 l2 r ∧ KRd x y
abbrev f2Ac (w : gd) (l1 l2 : Int32) : Prop := ¬ w.1 0 67 = 0 ∧ ¬ inCh (w.1 0 96).toInt l1 l2
def tAc (C : gCo) (wr n : Nat) (w : gd) (l1 l2 r : Int32) (w' : gd) : Prop := acR C wr n (c96 w) l1 l2 r ∧ rdM C wr w w'
theorem acR_eq {C : gCo} {wr n : Nat} {c : Nat → Nat} {l1 l2 r r' : Int32} (h : acR C wr n c l1 l2 r) (g : acR C wr n c l1 l2 r') : r = r' := by
  obtain ⟨e, a1, a2⟩ := h
  obtain ⟨e', b1, b2⟩ := g
  rw [a1] at b1
  rw [a2, b2, Option.some.inj b1]
section KAC
variable {G : kG} {q : kP} {d : Nat} {x y w w' : gd} {Fv : gd → Prop} {P : Option gv → gd → Prop} {X : String → gd → Prop} {C : gCo} {wr n : Nat} {lm : Nat → Nat}
/-- both hold the same row of acts -/
theorem JH_jo (h : JH C wr n lm x w) (h10 : ¬ x.1 0 10 = 0) : (x.1 160 3).toInt = (w.1 0 96).toInt ∧ KJo x (joM C wr (c96 w) n) ∧ MJo w (joM C wr (c96 w) n) ∧ (w.1 0 96).toInt ≤ 400 := by
  obtain ⟨-, r, hh, e94⟩ := JH_R h h10
  have a : KJo x (joM C wr (c96 w) n) := r.2.2.2.2.2.1
  have b : MJo w (joM C wr (c96 w) (w.1 0 94).toInt.toNat) := hh.2.1
  rw [e94, Int.toNat_natCast] at b
  have e := a.1.trans b.1.symm
  have j := r.1.2.2.1
  exact ⟨e, a, b, by omega⟩
theorem ka_actq (h : JH C wr n lm x w) (hq : kV q) (hH : HOI x q) (l1 l2 : Int32) (hX1 : e1Ch x → X iSE x) (hX2 : e2Ac x l1 l2 → X iOE x) (hP : ¬ e1Ch x → ¬ e2Ac x l1 l2 → ∀ r y, HOI y q → sAc C wr n (c96 w) x l1 l2 r y → P (some (vi r)) y) : KE G q (d + 7) zk_X11_act 0 [(0, vr 0), (1, vi l1), (2, vi l2)] [] x P X := by
  have k5 : (5 : Int32).toInt = 5 := rfl
  refine kg_X11_act_0 hq l1 l2 (kh_run hq hH hX1 (fun h10 hR => kh_ix hq l1 _ (fun hn => hX2 ⟨h10, fun z => hn z.1⟩) (fun l0 l9 => kh_what hq l2 5 (fun hn => hX2 ⟨h10, fun z => hn (by rw [k5]; exact z.2)⟩) (fun g0 g9 => ?_))))
  rw [k5] at g9
  obtain ⟨-, ⟨j1, -, j3⟩, -⟩ := JH_jo h h10
  have hl : l1.toInt.toNat < (joM C wr (c96 w) n).length := by omega
  obtain ⟨e, he⟩ : ∃ e, (joM C wr (c96 w) n)[l1.toInt.toNat]? = some e := ⟨_, List.getElem?_eq_getElem hl⟩
  obtain ⟨c0, c1, c2, c3, c4, -⟩ := j3 _ e he
  have b4 := hR.2.2.1
  have iv : vp_in l1 400 := by rw [vp_in_iff]; omega
  have here : ∀ r, r = acVal e l2 → P (some (vi r)) x := fun r er => hP h10 (fun z => z.2 ⟨⟨l0, l9⟩, g0, g9⟩) r x hH ⟨⟨e, he, er⟩, KR_rf⟩
  have n1 : ∀ {a b : Int32}, ¬ a = b → l2 = a → ¬ l2 = b := fun h e z => h (e.symm.trans z)
  rw [t_cl]
  refine ⟨fun c => ⟨iv, here _ ?_⟩, fun c => ⟨iv, here _ ?_⟩, fun c => ⟨iv, here _ ?_⟩, fun c => ⟨iv, here _ ?_⟩, fun c => ⟨iv, here _ ?_⟩⟩
  · unfold acVal; rw [if_pos c]; exact c0
  · unfold acVal; rw [if_neg (n1 (by decide) c), if_pos c]; exact c1
  · unfold acVal; rw [if_neg (n1 (by decide) c), if_neg (n1 (by decide) c), if_pos c]; exact c2
  · unfold acVal; rw [if_neg (n1 (by decide) c), if_neg (n1 (by decide) c), if_neg (n1 (by decide) c), if_pos c]; exact c3
  · unfold acVal; rw [if_neg (c 0 (by decide)), if_neg (c 1 (by decide)), if_neg (c 2 (by decide)), if_neg (c 3 (by decide))]; exact c4
theorem ja_act {l1 l2 r9 r : Int32} (h : JH C wr n lm x w) (hH : HOI y q) (k : ansK (e1Ch x) (e2Ac x l1 l2) (sAc C wr n (c96 w) x l1 l2) x r9 y) (m : ansM C wr (f1Ch w) (f2Ac w l1 l2) (tAc C wr n w l1 l2) w r w') : JR3 y w' ∧ ansE r9 r y w' := by
  have e9 := JH_10 h
  refine ans_eq h hH e9 ⟨fun z => ⟨fun a => z.1 (e9.mpr a), by rw [← (JH_jo h z.1).1]; exact z.2⟩, fun z => ⟨fun a => z.1 (e9.mp a), by rw [(JH_jo h (fun a => z.1 (e9.mp a))).1]; exact z.2⟩⟩ (fun a z => z.1 a) k m (fun c _ r' s t => ⟨JQ_rd h hH s.2 t.2, acR_eq s.1 t.1⟩)
end KAC
section MAC
variable {G : mG} {d D : Nat} {x w : gd} {F : Int32 → gd → Prop} {C : gCo} {wr n : Nat} {lm : Nat → Nat} {q : kP}
theorem ma_act (h : JH C wr n lm x w) (hH : HOI x q) (hm : MI w) (i k : Int32) (hD : 3 ≤ D) (hF : ∀ r w', ansM C wr (f1Ch w) (f2Ac w i k) (tAc C wr n w i k) w r w' → F r w') : MT G D z_act 0 [(0, vr 0), (1, vi i), (2, vi k)] [] w (ri F) := by
  obtain ⟨D, rfl⟩ : ∃ D', D = D' + 2 := ⟨D - 2, by omega⟩
  have k0 : (0 : Int32).toInt = 0 := rfl
  refine sg_act_0 _ _ (fun y e => ?_)
  have hy := z0_s e
  have e67 : y.1 0 67 = w.1 0 67 := hy.1.1 67 (by decide)
  have qy := (MI_0 hy.1 hm).1
  refine sc_noRunk hy (fun hr => ⟨fun q => absurd rfl q, fun _ => ?_⟩) (fun c y' m => ⟨fun _ => ri_i (hF _ y' (an_1 hm (show w.1 0 67 = 0 by rw [← e67]; exact c) m)), fun q => absurd q (by decide)⟩)
  rw [e67] at hr
  obtain ⟨-, -, ⟨j1, j2⟩, j4⟩ := JH_jo h (fun z => hr ((JH_10 h).mp z))
  have e96 : y.1 0 96 = w.1 0 96 := hy.1.1 96 (by decide)
  have c0 : 0 ≤ (y.1 0 96).toInt := by rw [e96]; omega
  have p41 : ∀ b : Int32, (b = 0 → inCh (y.1 0 96).toInt i k) → (¬ b = 0 → ¬ inCh (y.1 0 96).toInt i k) → MT G (D + 2) z_act 41 [(0, vr 0), (1, vi i), (2, vi k)] [vi b, vr 0] y (ri F) := by
    intro b hb hb2
    refine sg_act_41 _ _ _ (sc_refk b 2 hy (by decide) (fun b0 => ⟨fun _ => ?_, fun q => absurd rfl q⟩) (fun nb y' m => ⟨fun q => absurd q (by decide), fun _ => ri_i (hF _ y' (an_2 hm ⟨hr, by rw [← e96]; exact hb2 nb⟩ m))⟩))
    have hin := hb b0
    have nE2 : ¬ f2Ac w i k := fun z => z.2 (by rw [← e96]; exact hin)
    obtain ⟨hi, hk⟩ := hin
    rw [e96] at hi
    have iv : vp_in i 400 := by rw [vp_in_iff]; omega
    have hl : i.toInt.toNat < (joM C wr (c96 w) n).length := by omega
    obtain ⟨e, he⟩ : ∃ e, (joM C wr (c96 w) n)[i.toInt.toNat]? = some e := ⟨_, List.getElem?_eq_getElem hl⟩
    obtain ⟨c0, c1, c2, c3, c4, -⟩ := j2 _ e he
    have ok : ∀ r, r = acVal e k → ri F (some (vi r)) y := fun r er => ri_i (hF _ y (an_3 qy hr nE2 hy.2 ⟨⟨e, he, er⟩, rd_0 hy.1 hm⟩))
    have g : ∀ c, 98 ≤ c → y.1 c = w.1 c := fun c hc => hy.1.2.1 c (by omega) (by simp)
    rw [t_cl]
    refine ⟨fun n0 => ⟨fun n1 => ⟨fun n2 => ⟨fun n3 => ⟨iv, ok _ ?_⟩, fun e3 => ⟨iv, ok _ ?_⟩⟩, fun e2 => ⟨iv, ok _ ?_⟩⟩, fun e1 => ⟨iv, ok _ ?_⟩⟩, fun e0 => ⟨iv, ok _ ?_⟩⟩
    · unfold acVal; rw [if_neg n0, if_neg n1, if_neg n2, if_neg n3, g 102 (by omega)]; exact c4
    · unfold acVal; rw [if_neg n0, if_neg n1, if_neg n2, if_pos e3, g 101 (by omega)]; exact c3
    · unfold acVal; rw [if_neg n0, if_neg n1, if_pos e2, g 100 (by omega)]; exact c2
    · unfold acVal; rw [if_neg n0, if_pos e1, g 99 (by omega)]; exact c1
    · unfold acVal; rw [if_pos e0, g 98 (by omega)]; exact c0
  refine sp_in _ _ _ ⟨fun c1 => p41 1 (fun q => absurd q (by decide)) (fun _ z => in_ge (bi_eq.mp c1) c0 z.1), fun c1 => sp_in _ _ _ ⟨fun c2 => p41 0 (fun _ => ⟨in_lt (bi_ne.mp c1) c0, ?_⟩) (fun z => absurd rfl z), fun c2 => p41 1 (fun q => absurd q (by decide)) (fun _ z => ?_)⟩⟩
  · obtain ⟨a1, a2⟩ := bi_ne.mp c2
    have k4 : (4 : Int32).toInt = 4 := rfl
    rw [t_le, k0] at a1
    rw [t_le, k4] at a2
    omega
  · have k4 : (4 : Int32).toInt = 4 := rfl
    have := z.2
    exact bi_eq.mp c2 ⟨t_le.mpr (by rw [k0]; exact z.2.1), t_le.mpr (by rw [k4]; omega)⟩
end MAC
end
section
/-! before: what happens before what -/
abbrev inAc (na : Int) (l1 l2 : Int32) : Prop := (0 ≤ l1.toInt ∧ l1.toInt < na) ∧ 0 ≤ l2.toInt ∧ l2.toInt < na
abbrev e2Be (x : gd) (l1 l2 : Int32) : Prop := ¬ x.1 0 10 = 0 ∧ ¬ inAc (x.1 160 3).toInt l1 l2
def beR (C : gCo) (wr n : Nat) (c : Nat → Nat) (l1 l2 r : Int32) : Prop := (bf (suC C) (joM C wr c n) l2.toInt.toNat l1.toInt.toNat ∧ r = 1) ∨ (¬ bf (suC C) (joM C wr c n) l2.toInt.toNat l1.toInt.toNat ∧ r = 0)
def sBe (C : gCo) (wr n : Nat) (c : Nat → Nat) (x : gd) (l1 l2 r : Int32) (y : gd) : Prop := beR C wr n c l1 l2 r ∧ KRd x y
abbrev f2Be (w : gd) (l1 l2 : Int32) : Prop := ¬ w.1 0 67 = 0 ∧ ¬ inAc (w.1 0 96).toInt l1 l2
def tBe (C : gCo) (wr n : Nat) (w : gd) (l1 l2 r : Int32) (w' : gd) : Prop := beR C wr n (c96 w) l1 l2 r ∧ rdM C wr w w'
theorem beR_eq {C : gCo} {wr n : Nat} {c : Nat → Nat} {l1 l2 r r' : Int32} (h : beR C wr n c l1 l2 r) (g : beR C wr n c l1 l2 r') : r = r' := by
  rcases h with ⟨a1, a2⟩ | ⟨a1, a2⟩ <;> rcases g with ⟨b1, b2⟩ | ⟨b1, b2⟩
  · rw [a2, b2]
  · exact absurd a1 b1
  · exact absurd b1 a1
  · rw [a2, b2]
theorem be_b {C : gCo} {wr n : Nat} {c : Nat → Nat} {x y : gd} {l1 l2 r : Int32} (h : sBe C wr n c x l1 l2 r y) : r = 0 ∨ r = 1 := by
  rcases h.1 with h | h
  · exact Or.inr h.2
  · exact Or.inl h.2
section KBE
variable {G : kG} {q : kP} {d : Nat} {x y w w' : gd} {Fv : gd → Prop} {P : Option gv → gd → Prop} {X : String → gd → Prop} {C : gCo} {wr n : Nat} {lm : Nat → Nat}
/-- what both hold of the acts -/
theorem JH_ja (h : JH C wr n lm x w) (hH : HOI x q) (h10 : ¬ x.1 0 10 = 0) : KJA C x (joM C wr (c96 w) n) ∧ KAs x (joM C wr (c96 w) n) ∧ KSu (suC C) x ∧ MJc (suC C) w (joM C wr (c96 w) n) ∧ WJ C (runM C wr (c96 w) n) (joM C wr (c96 w) n) := by
  obtain ⟨j, r, hh, e94⟩ := JH_R h h10
  have gc := (JH_gc h hH).1
  have wj := WJ_run gc (fun k hk => (r.2.2.2.2.1 k hk).1)
  have a : KJA C x (joM C wr (c96 w) n) := r.2.2.2.2.2
  have b : MJc (suC C) w (joM C wr (c96 w) (w.1 0 94).toInt.toNat) := hh.2.2.1
  rw [e94, Int.toNat_natCast] at b
  exact ⟨a, KAs_of j.2.1 gc.2.2.1 a.1 wj, KSu_CK j.2.1 gc.2.2.2.2.2, b, wj⟩
theorem ka_before (h : JH C wr n lm x w) (hq : kV q) (hH : HOI x q) (l1 l2 : Int32) (hX1 : e1Ch x → X iSE x) (hX2 : e2Be x l1 l2 → X iOE x) (hP : ¬ e1Ch x → ¬ e2Be x l1 l2 → ∀ r y, HOI y q → sBe C wr n (c96 w) x l1 l2 r y → P (some (vi r)) y) : KE G q (d + 7) zk_X11_before 0 [(0, vr 0), (1, vi l1), (2, vi l2)] [] x P X := by
  refine kg_X11_before_0 hq l1 l2 (kh_run hq hH hX1 (fun h10 hR => kh_ix hq l1 _ (fun hn => hX2 ⟨h10, fun z => hn z.1⟩) (fun a0 a9 => kh_ix hq l2 _ (fun hn => hX2 ⟨h10, fun z => hn z.2⟩) (fun b0 b9 => ?_))))
  obtain ⟨ja, ka, -, -, -⟩ := JH_ja h hH h10
  have l0 := ka.1
  obtain ⟨J, eJ⟩ : ∃ J, J = joM C wr (c96 w) n := ⟨_, rfl⟩
  rw [← eJ] at ja ka l0
  obtain ⟨ea, gA⟩ : ∃ ea, J[l1.toInt.toNat]? = some ea := ⟨_, List.getElem?_eq_getElem (by omega)⟩
  obtain ⟨eb, gB⟩ : ∃ eb, J[l2.toInt.toNat]? = some eb := ⟨_, List.getElem?_eq_getElem (by omega)⟩
  have hP := hP h10 (fun z => z.2 ⟨⟨a0, a9⟩, b0, b9⟩)
  unfold sBe beR at hP
  rw [← eJ] at hP
  exact kj_isBefore3 hq hR.2.2 ja.2.1 ka l1 l2 (by omega) (by omega) gA gB (fun nb => ⟨gbool_0, hP 0 x hH ⟨Or.inr ⟨nb, rfl⟩, KR_rf⟩⟩) (fun yb => ⟨gbool_1, hP 1 x hH ⟨Or.inl ⟨yb, rfl⟩, KR_rf⟩⟩)
theorem ja_before {l1 l2 r9 r : Int32} (h : JH C wr n lm x w) (hH : HOI y q) (k : ansK (e1Ch x) (e2Be x l1 l2) (sBe C wr n (c96 w) x l1 l2) x r9 y) (m : ansM C wr (f1Ch w) (f2Be w l1 l2) (tBe C wr n w l1 l2) w r w') : JR3 y w' ∧ ansE r9 r y w' := by
  have e9 := JH_10 h
  refine ans_eq h hH e9 ⟨fun z => ⟨fun a => z.1 (e9.mpr a), by rw [← (JH_jo h z.1).1]; exact z.2⟩, fun z => ⟨fun a => z.1 (e9.mp a), by rw [(JH_jo h (fun a => z.1 (e9.mp a))).1]; exact z.2⟩⟩ (fun a z => z.1 a) k m (fun c _ r' s t => ⟨JQ_rd h hH s.2 t.2, beR_eq s.1 t.1⟩)
end KBE
section MBE
variable {G : mG} {d D : Nat} {x w : gd} {F : Int32 → gd → Prop} {C : gCo} {wr n : Nat} {lm : Nat → Nat} {q : kP}
theorem ma_before (h : JH C wr n lm x w) (hH : HOI x q) (hm : MI w) (i k : Int32) (hD : 3 ≤ D) (hF : ∀ r w', ansM C wr (f1Ch w) (f2Be w i k) (tBe C wr n w i k) w r w' → F r w') : MT G D z_before 0 [(0, vr 0), (1, vi i), (2, vi k)] [] w (ri F) := by
  obtain ⟨D, rfl⟩ : ∃ D', D = D' + 2 := ⟨D - 2, by omega⟩
  refine sg_before_0 _ _ (fun y e => ?_)
  have hy := z0_s e
  have e67 : y.1 0 67 = w.1 0 67 := hy.1.1 67 (by decide)
  have qy := (MI_0 hy.1 hm).1
  refine sc_noRunk hy (fun hr => ⟨fun q => absurd rfl q, fun _ => ?_⟩) (fun c y' m => ⟨fun _ => ri_i (hF _ y' (an_1 hm (show w.1 0 67 = 0 by rw [← e67]; exact c) m)), fun q => absurd q (by decide)⟩)
  rw [e67] at hr
  have h10 : ¬ x.1 0 10 = 0 := fun z => hr ((JH_10 h).mp z)
  obtain ⟨-, -, ⟨j1, -⟩, j4⟩ := JH_jo h h10
  obtain ⟨-, -, -, mc, -⟩ := JH_ja h hH h10
  have e96 : y.1 0 96 = w.1 0 96 := hy.1.1 96 (by decide)
  have c0 : 0 ≤ (y.1 0 96).toInt := by rw [e96]; omega
  have y2 : y.2 = w.2 := hy.1.2.2 (by simp)
  have p46 : ∀ b : Int32, (b = 0 → inAc (y.1 0 96).toInt i k) → (¬ b = 0 → ¬ inAc (y.1 0 96).toInt i k) → MT G (D + 2) z_before 46 [(0, vr 0), (1, vi i), (2, vi k)] [vi b, vr 0] y (ri F) := by
    intro b hb hb2
    refine sg_before_46 _ _ _ (sc_refk b 2 hy (by decide) (fun b0 => ⟨fun q => absurd rfl q, fun _ => ?_⟩) (fun nb y' m => ⟨fun _ => ri_i (hF _ y' (an_2 hm ⟨hr, by rw [← e96]; exact hb2 nb⟩ m)), fun q => absurd q (by decide)⟩))
    have hin := hb b0
    have nE2 : ¬ f2Be w i k := fun z => z.2 (by rw [← e96]; exact hin)
    obtain ⟨hi, hk⟩ := hin
    rw [e96] at hi hk
    obtain ⟨eb, gB⟩ : ∃ eb, (joM C wr (c96 w) n)[k.toInt.toNat]? = some eb := ⟨_, List.getElem?_eq_getElem (by omega)⟩
    have bit : bS y k.toInt.toNat i.toInt.toNat = true ↔ bf (suC C) (joM C wr (c96 w) n) k.toInt.toNat i.toInt.toNat := by
      have := mc.1 _ eb gB i.toInt.toNat (by omega)
      unfold bS at this ⊢
      rw [y2]; exact this
    have ok : ∀ r, beR C wr n (c96 w) i k r → ri F (some (vi r)) y := fun r er => ri_i (hF _ y (an_3 qy hr nE2 hy.2 ⟨er, rd_0 hy.1 hm⟩))
    exact sp_isSooner9 i k (by omega) (by omega) (by omega) (by omega) (fun nb => ⟨fun _ => ok _ (Or.inr ⟨fun z => nb (bit.mpr z), rfl⟩), fun q => absurd rfl q⟩) (fun yb => ⟨fun q => absurd q (by decide), fun _ => ok _ (Or.inl ⟨bit.mp yb, rfl⟩)⟩)
  exact sp_in _ _ _ ⟨fun c1 => p46 1 (fun q => absurd q (by decide)) (fun _ z => in_ge (bi_eq.mp c1) c0 z.1), fun c1 => sp_in _ _ _ ⟨fun c2 => p46 0 (fun _ => ⟨in_lt (bi_ne.mp c1) c0, in_lt (bi_ne.mp c2) c0⟩) (fun z => absurd rfl z), fun c2 => p46 1 (fun q => absurd q (by decide)) (fun _ z => in_ge (bi_eq.mp c2) c0 z.2)⟩⟩
end MBE
end
section
/-! race: the races of a run -/
abbrev inRa (nr : Int) (l1 l2 : Int32) : Prop := (0 ≤ l1.toInt ∧ l1.toInt < nr) ∧ 0 ≤ l2.toInt ∧ l2.toInt < 2
noncomputable abbrev nRa (C : gCo) (wr n : Nat) (c : Nat → Nat) : Nat := ru (suC C) (joM C wr c n) (joM C wr c n).length
abbrev e2Ra (C : gCo) (wr n : Nat) (c : Nat → Nat) (x : gd) (l1 l2 : Int32) : Prop := ¬ x.1 0 10 = 0 ∧ ¬ inRa (nRa C wr n c : Nat) l1 l2
def raR (C : gCo) (wr n : Nat) (c : Nat → Nat) (l1 l2 r : Int32) : Prop := ∃ b a : Nat, rP (suC C) (joM C wr c n) l1.toInt.toNat b a ∧ ((l2 = 1 ∧ r.toInt = (b : Nat)) ∨ (¬ l2 = 1 ∧ r.toInt = (a : Nat)))
def sRa (C : gCo) (wr n : Nat) (c : Nat → Nat) (x : gd) (l1 l2 r : Int32) (y : gd) : Prop := raR C wr n c l1 l2 r ∧ KRd x y
abbrev f2Ra (C : gCo) (wr n : Nat) (w : gd) (l1 l2 : Int32) : Prop := ¬ w.1 0 67 = 0 ∧ ¬ inRa (nRa C wr n (c96 w) : Nat) l1 l2
def tRa (C : gCo) (wr n : Nat) (w : gd) (l1 l2 r : Int32) (w' : gd) : Prop := raR C wr n (c96 w) l1 l2 r ∧ rdM C wr w w'
theorem raR_eq {C : gCo} {wr n : Nat} {c : Nat → Nat} {l1 l2 r r' : Int32} (h : raR C wr n c l1 l2 r) (g : raR C wr n c l1 l2 r') : r = r' := by
  obtain ⟨b, a, h1, h2⟩ := h
  obtain ⟨b', a', g1, g2⟩ := g
  obtain ⟨e1, e2⟩ := rP_un h1 g1
  rw [t_eq]
  rcases h2 with ⟨h2, h3⟩ | ⟨h2, h3⟩ <;> rcases g2 with ⟨g2, g3⟩ | ⟨g2, g3⟩
  · rw [h3, g3, e1]
  · exact absurd h2 g2
  · exact absurd g2 h2
  · rw [h3, g3, e2]
section KRA
variable {G : kG} {q : kP} {d : Nat} {x y w w' : gd} {Fv : gd → Prop} {P : Option gv → gd → Prop} {X : String → gd → Prop} {C : gCo} {wr n : Nat} {lm : Nat → Nat}
theorem ka_race (h : JH C wr n lm x w) (hq : kV q) (hH : HOI x q) (l1 l2 : Int32) (hX1 : e1Ch x → X iSE x) (hX2 : e2Ra C wr n (c96 w) x l1 l2 → X iOE x) (hP : ¬ e1Ch x → ¬ e2Ra C wr n (c96 w) x l1 l2 → ∀ r y, HOI y q → sRa C wr n (c96 w) x l1 l2 r y → P (some (vi r)) y) : KE G q (d + 7) zk_X11_race 0 [(0, vr 0), (1, vi l1), (2, vi l2)] [] x P X := by
  have k2 : (2 : Int32).toInt = 2 := rfl
  refine kg_X11_race_0 hq l1 l2 (kh_run hq hH hX1 (fun h10 hR => ?_))
  obtain ⟨ja, ka, ks, -, -⟩ := JH_ja h hH h10
  have hP := hP h10
  unfold sRa raR at hP
  obtain ⟨J, eJ⟩ : ∃ J, J = joM C wr (c96 w) n := ⟨_, rfl⟩
  have hX2 : ¬ inRa (ru (suC C) J J.length : Nat) l1 l2 → X iOE x := fun hn => hX2 ⟨h10, by rw [eJ] at hn; exact hn⟩
  have hP : inRa (ru (suC C) J J.length : Nat) l1 l2 → ∀ (r : Int32) (y : gd), HOI y q → (∃ b a : Nat, rP (suC C) J l1.toInt.toNat b a ∧ ((l2 = 1 ∧ r.toInt = (b : Nat)) ∨ (¬ l2 = 1 ∧ r.toInt = (a : Nat)))) ∧ KRd x y → P (some (vi r)) y := fun hi r y a b => hP (fun z => z.2 (by rw [eJ] at hi; exact hi)) r y a (by rw [eJ] at b; exact b)
  rw [← eJ] at ja ka
  refine kj_races3 hq hR.2.2 ka ja.2.2 (fun r3 e3 => ?_)
  refine kh_ix hq l1 r3 (fun hn => hX2 (fun z => hn (by rw [e3]; exact z.1))) (fun a0 a9 => kh_what hq l2 2 (fun hn => hX2 (fun z => hn (by rw [k2]; exact z.2))) (fun b0 b9 => ?_))
  rw [k2] at b9
  rw [e3] at a9
  have hP := hP ⟨⟨a0, a9⟩, b0, b9⟩
  have eI : l1.toInt = (l1.toInt.toNat : Nat) := by omega
  refine kj_laterOfRace3 hq hR.2.2 ka ja.2.2 l1 eI (by omega) (fun r7 B e7 lB u1 u2 => ⟨fun c => ?_, fun c => ?_⟩)
  · obtain ⟨eb, gB⟩ : ∃ eb, J[B]? = some eb := ⟨_, List.getElem?_eq_getElem lB⟩
    exact kj_earlierOfRace3 hq hR.2.2 ja.2.1 ks ka ja.2.2 l1 r7 eI e7 gB u1 u2 (fun r A eA hr => hP r x hH ⟨⟨B, A, hr, Or.inr ⟨c, eA⟩⟩, KR_rf⟩)
  · rw [ru_s] at u2
    obtain ⟨A, A1, A2, A3⟩ := rn_in (su := suC C) (J := J) (b := B) (a := B) (n := l1.toInt.toNat - ru (suC C) J B) (by omega)
    exact hP r7 x hH ⟨⟨B, A, ⟨A1, lB, A2, by omega⟩, Or.inl ⟨c, e7⟩⟩, KR_rf⟩
theorem ja_race {l1 l2 r9 r : Int32} (h : JH C wr n lm x w) (hH : HOI y q) (k : ansK (e1Ch x) (e2Ra C wr n (c96 w) x l1 l2) (sRa C wr n (c96 w) x l1 l2) x r9 y) (m : ansM C wr (f1Ch w) (f2Ra C wr n w l1 l2) (tRa C wr n w l1 l2) w r w') : JR3 y w' ∧ ansE r9 r y w' := by
  have e9 := JH_10 h
  refine ans_eq h hH e9 ⟨fun z => ⟨fun a => z.1 (e9.mpr a), z.2⟩, fun z => ⟨fun a => z.1 (e9.mp a), z.2⟩⟩ (fun a z => z.1 a) k m (fun c _ r' s t => ⟨JQ_rd h hH s.2 t.2, raR_eq s.1 t.1⟩)
end KRA
section MRA
variable {G : mG} {d D : Nat} {x y w : gd} {F : Int32 → gd → Prop} {P : Option gv → gd → Prop} {C : gCo} {wr n : Nat} {lm : Nat → Nat} {q : kP} {su : Int32 → Bool} {J : List gDe} {ea eb : gDe}
theorem sp_isAtomic9 (s : Int32) (h0 : ¬ (2 ≤ s.toInt ∧ s.toInt ≤ 4) → F 0 x) (h1 : 2 ≤ s.toInt ∧ s.toInt ≤ 4 → F 1 x) : MT G d z_isAtomic 0 [(0, vr 0), (1, vi s)] [] x (ri F) := by
  have yy : ∀ k : Int32, s = k → 2 ≤ k.toInt → k.toInt ≤ 4 → ri F (some (vi 1)) x := fun k e a b => ri_i (h1 (by rw [e]; exact ⟨a, b⟩))
  refine sg_isAtomic_0 _ ⟨fun e => yy _ e (by decide) (by decide), fun n2 => ⟨fun e => yy _ e (by decide) (by decide), fun n3 => ⟨fun n4 => ri_i (h0 (fun q => ?_)), fun e => yy _ e (by decide) (by decide)⟩⟩⟩
  rw [t_eq] at n2 n3 n4
  have a2 : (2 : Int32).toInt = 2 := rfl
  have a3 : (3 : Int32).toInt = 3 := rfl
  have a4 : (4 : Int32).toInt = 4 := rfl
  omega
theorem sp_mayRace9 (s u : Int32) {A B : Nat} (es : s.toInt = (A : Nat)) (eu : u.toInt = (B : Nat)) (h0 : ¬ ((A ≤ 4 ∧ B ≤ 4) ∧ ¬ (A = 0 ∧ B = 0) ∧ ¬ (2 ≤ A ∧ 2 ≤ B)) → F 0 x) (h1 : ((A ≤ 4 ∧ B ≤ 4) ∧ ¬ (A = 0 ∧ B = 0) ∧ ¬ (2 ≤ A ∧ 2 ≤ B)) → F 1 x) : MT G (d + 1) z_mayRace 0 [(0, vr 0), (1, vi s), (2, vi u)] [] x (ri F) := by
  have k0 : (0 : Int32).toInt = 0 := rfl
  have p24 : (A ≤ 4 ∧ B ≤ 4) → ¬ (A = 0 ∧ B = 0) → MT G (d + 1) z_mayRace 24 [(0, vr 0), (1, vi s), (2, vi u)] [] x (ri F) := fun h4 hz => sg_mayRace_24 _ _ (sp_isAtomic9 _ (fun c => ⟨fun _ => ri_i (h1 ⟨h4, hz, fun z => c (by omega)⟩), fun z => absurd rfl z⟩) (fun c => ⟨fun z => absurd z (by decide), fun _ => sp_isAtomic9 _ (fun c2 => ⟨fun z => absurd rfl z, fun _ => ri_i (h1 ⟨h4, hz, fun z => c2 (by omega)⟩)⟩) (fun c2 => ⟨fun _ => ri_i (h0 (fun z => z.2.2 (by omega))), fun z => absurd z (by decide)⟩)⟩))
  refine sg_mayRace_0 _ _ (sp_isAccess _ (fun c => ⟨fun _ => ri_i (h0 (fun z => c (by omega))), fun z => absurd rfl z⟩) (fun c => ⟨fun z => absurd z (by decide), fun _ => sp_isAccess _ (fun c2 => ⟨fun _ => ri_i (h0 (fun z => c2 (by omega))), fun z => absurd rfl z⟩) (fun c2 => ⟨fun z => absurd z (by decide), fun _ => ⟨fun c3 => p24 (by omega) (fun z => c3 (t_eq.mpr (by rw [k0]; omega))), fun c3 => ⟨fun c4 => ri_i (h0 (fun z => z.2.1 ?_)), fun c4 => p24 (by omega) (fun z => c4 (t_eq.mpr (by rw [k0]; omega)))⟩⟩⟩)⟩))
  rw [t_eq, k0] at c3 c4
  omega
/-- the acts' cells in the model, with all that races look at -/
def MAs (y : gd) (su : Int32 → Bool) (J : List gDe) (nc : Nat) : Prop := MJo y J ∧ MJc su y J ∧ (∀ o : Nat, o < nc → (¬ y.1 37 o = 0 ↔ su (Int32.ofNat o) = true)) ∧ nc ≤ 24 ∧ ∀ (a : Nat) (e : gDe), J[a]? = some e → (e.1 < 6 ∧ e.2.1 < 22) ∧ (e.2.1 ≤ 4 → e.2.2.2.2.2.1 = false → 0 ≤ e.2.2.1.toInt ∧ e.2.2.1.toNatClampNeg < nc)
theorem sp_isRace9 {nc : Nat} (hs : MAs y su J nc) (a b : Int32) {A B : Nat} (ha : a.toInt = (A : Nat)) (hb : b.toInt = (B : Nat)) (l4 : J.length ≤ 400) (gA : J[A]? = some ea) (gB : J[B]? = some eb) (h0 : ¬ rc su J B A → F 0 y) (h1 : rc su J B A → F 1 y) : MT G (d + 2) z_isRace 0 [(0, vr 0), (1, vi a), (2, vi b)] [] y (ri F) := by
  obtain ⟨⟨-, j2⟩, ⟨m1, -⟩, hsu, n24, hob⟩ := hs
  have lA := gt_lt gA
  have lB := gt_lt gB
  have va : vp_in a 400 := by rw [vp_in_iff]; omega
  have vb : vp_in b 400 := by rw [vp_in_iff]; omega
  have cA : a.toNatClampNeg = A := by rw [t_cl, ha]; rfl
  have cB : b.toNatClampNeg = B := by rw [t_cl, hb]; rfl
  obtain ⟨a0, a1, a2, -, -, a5⟩ := j2 A ea gA
  obtain ⟨b0, b1, b2, -, -, b5⟩ := j2 B eb gB
  obtain ⟨⟨oa6, oa22⟩, oa⟩ := hob A ea gA
  obtain ⟨⟨ob6, ob22⟩, -⟩ := hob B eb gB
  have ia : (y.1 99 A).toInt = (ea.2.1 : Nat) := by rw [a1]; exact Int32.toInt_ofNat_of_lt (by omega)
  have ib : (y.1 99 B).toInt = (eb.2.1 : Nat) := by rw [b1]; exact Int32.toInt_ofNat_of_lt (by omega)
  have fF : ∀ {v : Int32} {t : Bool}, (v = if t = true then 1 else 0) → (v = 0 ↔ t = false) := fun {v t} hv => by
    rw [hv]
    by_cases c : t = true
    · rw [if_pos c, c]; exact ⟨fun z => absurd z (by decide), fun z => nomatch z⟩
    · rw [if_neg c]; exact ⟨fun _ => Bool.eq_false_iff.mpr c, fun _ => rfl⟩
  have key : rc su J B A ↔ rcE su eb ea ∧ ¬ bf su J B A := ⟨fun ⟨eb', ea', g1, g2, g3⟩ => by
    rw [gB] at g1
    rw [gA] at g2
    cases g1
    cases g2
    exact g3, fun g => ⟨eb, ea, gB, gA, g⟩⟩
  rw [key] at h0 h1
  refine sg_isRace_0 _ _ ⟨va, ?_⟩
  rw [cA, cB]
  refine ⟨fun c => ri_i (h0 (fun z => c ((fF a5).mpr z.1.2.2.1.2.1))), fun ca => ⟨vb, fun c => ri_i (h0 (fun z => c ((fF b5).mpr z.1.2.2.2.1.2))), fun cb => ⟨va, vb, ?_⟩⟩⟩
  refine sp_mayRace9 _ _ ia ib (fun c => ⟨fun _ => ri_i (h0 (fun z => c ⟨⟨z.1.2.2.1.1, z.1.2.2.2.1.1⟩, z.1.2.2.2.2.1, z.1.2.2.2.2.2⟩)), fun z => absurd rfl z⟩) (fun cm => ⟨fun z => absurd z (by decide), fun _ => ⟨va, vb, fun c => ri_i (h0 (fun z => c (by rw [a2, b2]; exact z.1.1))), fun co => ?_⟩⟩)
  have ob9 := oa cm.1.1 ((fF a5).mp ca)
  obtain ⟨O, O1⟩ : ∃ O : Nat, (y.1 100 A).toInt = (O : Nat) := ⟨(y.1 100 A).toInt.toNat, by rw [a2]; omega⟩
  have cO : (y.1 100 A).toNatClampNeg = O := by rw [t_cl, O1]; rfl
  have eO : ea.2.2.1 = Int32.ofNat O := by rw [← a2]; exact i32_of O1
  have onc : O < nc := by
    have := ob9.2
    rw [← a2, cO] at this
    exact this
  have sO := hsu O onc
  rw [cO]
  refine ⟨va, by rw [vp_in_iff]; omega, fun c => ri_i (h0 (fun z => ?_)), fun cs => ⟨va, vb, fun c => ri_i (h0 (fun z => z.1.2.1 ?_)), fun ct9 => ?_⟩⟩
  · have z2 := z.1.2.2.1.2.2
    rw [eO, sO.mp c] at z2
    exact nomatch z2
  · rw [a0, b0] at c
    exact (of_inj (by omega) (by omega)).mp c
  · have bit := m1 B eb gB A (by omega)
    refine sp_isSooner9 a b ha hb (by omega) (by omega) (fun nb => ⟨fun z => absurd rfl z, fun _ => ri_i (h1 ⟨⟨?_, ?_, ⟨cm.1.1, (fF a5).mp ca, ?_⟩, ⟨cm.1.2, (fF b5).mp cb⟩, cm.2.1, cm.2.2⟩, fun z => nb (bit.mpr z)⟩)⟩) (fun yb => ⟨fun _ => ri_i (h0 (fun z => z.2 (bit.mp yb))), fun z => absurd z (by decide)⟩)
    · rw [a2, b2] at co; exact co
    · intro z
      exact ct9 (by rw [a0, b0, z])
    · rw [eO]
      exact Bool.eq_false_iff.mpr (fun z => sO.mpr z cs)
/-- what a call that looks at the acts has before it -/
theorem JH_mas (h : JH C wr n lm x w) (hH : HOI x q) (hr : ¬ w.1 0 67 = 0) (hy : mi [0] [] w y) : MAs y (suC C) (joM C wr (c96 w) n) C.2.2.1.length ∧ (joM C wr (c96 w) n).length ≤ 400 := by
  have h10 : ¬ x.1 0 10 = 0 := fun z => hr ((JH_10 h).mp z)
  obtain ⟨-, -, j3, j4⟩ := JH_jo h h10
  obtain ⟨-, ka, -, mc, wj⟩ := JH_ja h hH h10
  obtain ⟨j, r, -, -⟩ := JH_R h h10
  have gc := (JH_gc h hH).1
  have l24 := gc.2.2.2.2.2
  have e1 := j3.1
  refine ⟨⟨MJo_mi hy rfl rfl j3, MJc_mi hy rfl mc, fun o ho => ?_, l24, fun a e ha => ?_⟩, by omega⟩
  · have hg := List.getElem?_eq_getElem ho
    have e := (j.2.2.1.2.2.1.2 o _ hg).2
    have co : (Int32.ofNat o).toNatClampNeg = o := by rw [t_cl, Int32.toInt_ofNat_of_lt (by omega)]; rfl
    unfold suC suM
    rw [hy.2.1 37 (by decide) (by simp), co, hg, e]
    show ¬ (if (C.2.2.1[o]).2 = true then (1 : Int32) else 0) = 0 ↔ (C.2.2.1[o]).2 = true
    by_cases c : (C.2.2.1[o]).2 = true
    · rw [if_pos c]; exact ⟨fun _ => c, fun _ z => absurd z (by decide)⟩
    · rw [if_neg c]; exact ⟨fun z => absurd rfl z, fun z => absurd z c⟩
  · obtain ⟨c6, c7, c8, cf, k6, k22, -⟩ := ka.2 a e ha
    have aj := r.1.2.2.2.1 a (by have := ka.1; have := gt_lt ha; omega)
    refine ⟨⟨k6, k22⟩, fun h4 hf => ⟨?_, wj.2.2.2.2.2.2 a e ha h4 hf⟩⟩
    have o := (aj.2.2 (by rw [cf, hf]; rfl)).1 (by rw [c7, Int32.toInt_ofNat_of_lt (by omega)]; omega)
    rw [← c8]; exact o.1
theorem ma_race (h : JH C wr n lm x w) (hH : HOI x q) (hm : MI w) (i k : Int32) (hD : 4 ≤ D) (hF : ∀ r w', ansM C wr (f1Ch w) (f2Ra C wr n w i k) (tRa C wr n w i k) w r w' → F r w') : MT G D z_race 0 [(0, vr 0), (1, vi i), (2, vi k)] [] w (ri F) := by
  obtain ⟨D, rfl⟩ : ∃ D', D = D' + 3 := ⟨D - 3, by omega⟩
  have k0 : (0 : Int32).toInt = 0 := rfl
  have k1 : (1 : Int32).toInt = 1 := rfl
  refine sg_race_0 _ _ (fun y e => ?_)
  have hy := z0_s e
  have e67 : y.1 0 67 = w.1 0 67 := hy.1.1 67 (by decide)
  have qy := (MI_0 hy.1 hm).1
  refine sc_noRunk hy (fun hr => ⟨fun _ => ?_, fun q => absurd rfl q⟩) (fun c y' m => ⟨fun q => absurd q (by decide), fun _ => ri_i (hF _ y' (an_1 hm (show w.1 0 67 = 0 by rw [← e67]; exact c) m))⟩)
  rw [e67] at hr
  obtain ⟨hs, l4⟩ := JH_mas h hH hr hy.1
  obtain ⟨J, eJ⟩ : ∃ J, J = joM C wr (c96 w) n := ⟨_, rfl⟩
  have hF := hF
  unfold tRa raR at hF
  have nr : (nRa C wr n (c96 w) : Nat) = ru (suC C) J J.length := by rw [eJ]
  rw [← eJ] at hs l4 hF
  have e96 : (y.1 0 96).toInt = (J.length : Nat) := hs.1.1
  have p90 : ¬ inRa (ru (suC C) J J.length : Nat) i k → MT G (D + 3) z_race 90 [(0, vr 0)] [] y (ri F) := fun hn => sg_race_90 (sc_refk 1 2 hy (by decide) (fun z => absurd z (by decide)) (fun nb y' m => ri_i (hF _ y' (an_2 hm ⟨hr, by rw [nr]; exact hn⟩ m))))
  have p19 : ∀ (m B : Nat) (l3 b : Int32), b.toInt = (B : Nat) → J.length - B ≤ m → B ≤ J.length → l3.toInt = (ru (suC C) J B : Nat) → (0 ≤ i.toInt → (ru (suC C) J B : Nat) ≤ i.toInt) → MT G (D + 3) z_race 19 [(0, vr 0), (1, vi i), (2, vi k), (3, vi l3), (4, vi b)] [] y (ri F) := by
    intro m
    have last : ∀ B, B = J.length → (0 ≤ i.toInt → (ru (suC C) J B : Nat) ≤ i.toInt) → MT G (D + 3) z_race 90 [(0, vr 0)] [] y (ri F) := fun B eB hi => p90 (fun z => by
      have := hi z.1.1
      rw [eB] at this
      have := z.1.2
      omega)
    induction m with
    | zero =>
      intro B l3 b eb hm9 hB h3 hi
      exact sg_race_19 _ _ _ _ ⟨fun _ => last B (by omega) hi, fun c => absurd (t_le.mpr (by omega)) c⟩
    | succ m ih =>
      intro B l3 b eb hm9 hB h3 hi
      refine sg_race_19 _ _ _ _ ⟨fun c => last B (by rw [t_le] at c; omega) hi, fun c => ?_⟩
      rw [t_le] at c
      have lB : B < J.length := by omega
      obtain ⟨eB, gB⟩ : ∃ eB, J[B]? = some eB := ⟨_, List.getElem?_eq_getElem lB⟩
      have b1 : (b + 1).toInt = ((B + 1 : Nat) : Int) := by rw [t_add (by rw [k1]; omega) (by rw [k1]; omega), k1, eb]; rfl
      have ul := ru_le (su := suC C) (J := J) (b := B) (by omega)
      refine sp_in _ _ _ ⟨fun c1 => p90 (fun z => ?_), fun c1 => ?_⟩
      · exact bi_eq.mp c1 ⟨t_le.mpr (by rw [k0]; exact z.2.1), t_le.mpr (by rw [k1]; have := z.2.2; omega)⟩
      obtain ⟨kk0, kk1⟩ := bi_ne.mp c1
      rw [t_le, k0] at kk0
      rw [t_le, k1] at kk1
      have p40 : ∀ (m9 A : Nat) (l3 a : Int32), a.toInt = (A : Nat) → B - A ≤ m9 → A ≤ B → l3.toInt = (ru (suC C) J B : Nat) + (rn (suC C) J B A : Nat) → (0 ≤ i.toInt → ((ru (suC C) J B : Nat) : Int) + (rn (suC C) J B A : Nat) ≤ i.toInt) → MT G (D + 3) z_race 40 [(0, vr 0), (1, vi i), (2, vi k), (3, vi l3), (4, vi b), (5, vi a)] [] y (ri F) := by
        intro m9
        have next : ∀ (A : Nat) (l3 : Int32), A = B → l3.toInt = (ru (suC C) J B : Nat) + (rn (suC C) J B A : Nat) → (0 ≤ i.toInt → ((ru (suC C) J B : Nat) : Int) + (rn (suC C) J B A : Nat) ≤ i.toInt) → MT G (D + 3) z_race 19 [(0, vr 0), (1, vi i), (2, vi k), (3, vi l3), (4, vi (b + 1))] [] y (ri F) := fun A l3 eA h3 hi => ih (B + 1) l3 (b + 1) b1 (by omega) (by omega) (by rw [ru_s]; rw [eA] at h3; push_cast; exact h3) (fun z => by have := hi z; rw [eA] at this; rw [ru_s]; push_cast; exact this)
        induction m9 with
        | zero =>
          intro A l3 a ea9 hn hA h3 hi
          exact sg_race_40 _ _ _ _ _ ⟨fun _ => next A l3 (by omega) h3 hi, fun c => absurd (t_le.mpr (by omega)) c⟩
        | succ m9 ih9 =>
          intro A l3 a ea9 hn hA h3 hi
          refine sg_race_40 _ _ _ _ _ ⟨fun c => next A l3 (by rw [t_le] at c; omega) h3 hi, fun c => ?_⟩
          rw [t_le] at c
          have lA : A < J.length := by omega
          obtain ⟨eA, gA⟩ : ∃ eA, J[A]? = some eA := ⟨_, List.getElem?_eq_getElem lA⟩
          have a1 : (a + 1).toInt = ((A + 1 : Nat) : Int) := by rw [t_add (by rw [k1]; omega) (by rw [k1]; omega), k1, ea9]; rfl
          have rl := rn_le (su := suC C) (J := J) (b := B) (a := A)
          refine sp_isRace9 hs a b ea9 eb l4 gA gB (fun nr9 => ⟨fun _ => ih9 (A + 1) l3 (a + 1) a1 (by omega) (by omega) (by rw [rn_n nr9]; exact h3) (by rw [rn_n nr9]; exact hi), fun z => absurd rfl z⟩) (fun yr => ⟨fun z => absurd z (by decide), fun _ => ⟨fun c2 => ?_, fun c2 => ?_⟩⟩)
          · refine ih9 (A + 1) (l3 + 1) (a + 1) a1 (by omega) (by omega) ?_ ?_
            · rw [rn_y yr, t_add (by rw [k1]; omega) (by rw [k1]; omega), k1, h3]; push_cast; omega
            · intro z
              have := hi z
              rw [t_eq, h3] at c2
              rw [rn_y yr]; push_cast; omega
          · have ei : l3.toInt = i.toInt := by rw [c2]
            have rp : rP (suC C) J i.toInt.toNat B A := ⟨by omega, lB, yr, by omega⟩
            have up := ru_up (su := suC C) (J := J) (b := B + 1) (b' := J.length) (by omega)
            have up2 := rn_up (su := suC C) (J := J) (b := B) (a := A + 1) (a' := B) (by omega)
            rw [ru_s] at up
            rw [rn_y yr] at up2
            have inr : inRa (ru (suC C) J J.length : Nat) i k := ⟨⟨by omega, by omega⟩, kk0, by omega⟩
            have nE2 : ¬ f2Ra C wr n w i k := fun z => z.2 (by rw [nr]; exact inr)
            refine ⟨fun c3 => ri_i (hF _ y (an_3 qy hr nE2 hy.2 ⟨⟨B, A, rp, Or.inl ⟨?_, eb⟩⟩, rd_0 hy.1 hm⟩)), fun c3 => ri_i (hF _ y (an_3 qy hr nE2 hy.2 ⟨⟨B, A, rp, Or.inr ⟨?_, ea9⟩⟩, rd_0 hy.1 hm⟩))⟩
            · rw [t_eq, k0] at c3
              rw [t_eq, k1]; omega
            · rw [c3]; decide
      exact p40 B 0 l3 0 rfl (by omega) (by omega) (by rw [h3]; show _ = _ + ((0 : Nat) : Int); omega) (fun z => by have := hi z; show _ + ((0 : Nat) : Int) ≤ _; omega)
  exact p19 J.length 0 0 0 rfl (by omega) (by omega) rfl (fun z => z)
end MRA
end
section
/-! run: what is told of a run -/
/-- late writes of the first t threads -/
def laS (M : gMa) : Nat → Nat
  | 0 => 0
  | t + 1 => laS M t + (M.2.2 t).2.2.2.2.2.2.1.length
def ruR (C : gCo) (wr n : Nat) (c : Nat → Nat) (k r : Int32) : Prop :=
  (k = 0 → r.toInt = (wr : Nat)) ∧ (k = 1 → r.toInt = (n : Nat)) ∧ (k = 2 → r.toInt = ((joM C wr c n).length : Nat)) ∧
  (k = 3 → (r = 1 ∧ chM C wr (runM C wr c n) = []) ∨ (r = 0 ∧ ¬ chM C wr (runM C wr c n) = [])) ∧
  (k = 4 → (r = 1 ∧ chM C wr (runM C wr c n) = [] ∧ goM C (runM C wr c n)) ∨ (r = 0 ∧ ¬ (chM C wr (runM C wr c n) = [] ∧ goM C (runM C wr c n)))) ∧
  (k = 5 → r.toInt = (ru (suC C) (joM C wr c n) (joM C wr c n).length : Nat)) ∧ (k = 6 → r.toInt = (nCa (joM C wr c n) : Nat)) ∧
  ((∀ j ∈ [(0 : Int32), (1 : Int32), (2 : Int32), (3 : Int32), (4 : Int32), (5 : Int32), (6 : Int32)], ¬ k = j) → r.toInt = (laS (runM C wr c n) C.2.1.length : Nat))
abbrev e2Ru (x : gd) (l : Int32) : Prop := ¬ x.1 0 10 = 0 ∧ ¬ (0 ≤ l.toInt ∧ l.toInt < 8)
def sRu (C : gCo) (wr n : Nat) (c : Nat → Nat) (x : gd) (l r : Int32) (y : gd) : Prop := ruR C wr n c l r ∧ KRd x y
abbrev f2Ru (w : gd) (l : Int32) : Prop := ¬ w.1 0 67 = 0 ∧ ¬ (0 ≤ l.toInt ∧ l.toInt < 8)
def tRu (C : gCo) (wr n : Nat) (w : gd) (l r : Int32) (w' : gd) : Prop := ruR C wr n (c96 w) l r ∧ rdM C wr w w'
section PRU
variable {C : gCo} {wr n : Nat} {c : Nat → Nat} {k r r' : Int32}
theorem ru_b {p : Prop} (h : (r = 1 ∧ p) ∨ (r = 0 ∧ ¬ p)) (g : (r' = 1 ∧ p) ∨ (r' = 0 ∧ ¬ p)) : r = r' := by
  rcases h with ⟨a, b⟩ | ⟨a, b⟩ <;> rcases g with ⟨a', b'⟩ | ⟨a', b'⟩
  · rw [a, a']
  · exact absurd b b'
  · exact absurd b' b
  · rw [a, a']
theorem ruR_eq (h : ruR C wr n c k r) (g : ruR C wr n c k r') : r = r' := by
  obtain ⟨a0, a1, a2, a3, a4, a5, a6, a7⟩ := h
  obtain ⟨b0, b1, b2, b3, b4, b5, b6, b7⟩ := g
  by_cases c0 : k = 0
  · exact t_eq.mpr ((a0 c0).trans (b0 c0).symm)
  by_cases c1 : k = 1
  · exact t_eq.mpr ((a1 c1).trans (b1 c1).symm)
  by_cases c2 : k = 2
  · exact t_eq.mpr ((a2 c2).trans (b2 c2).symm)
  by_cases c3 : k = 3
  · exact ru_b (a3 c3) (b3 c3)
  by_cases c4 : k = 4
  · exact ru_b (a4 c4) (b4 c4)
  by_cases c5 : k = 5
  · exact t_eq.mpr ((a5 c5).trans (b5 c5).symm)
  by_cases c6 : k = 6
  · exact t_eq.mpr ((a6 c6).trans (b6 c6).symm)
  have c7 : ∀ j ∈ [(0 : Int32), (1 : Int32), (2 : Int32), (3 : Int32), (4 : Int32), (5 : Int32), (6 : Int32)], ¬ k = j := by
    intro j hj e
    rw [← e] at hj
    simp only [List.mem_cons, List.not_mem_nil, or_false] at hj
    rcases hj with z | z | z | z | z | z | z
    · exact c0 z
    · exact c1 z
    · exact c2 z
    · exact c3 z
    · exact c4 z
    · exact c5 z
    · exact c6 z
  exact t_eq.mpr ((a7 c7).trans (b7 c7).symm)
theorem rn_x {a b : Int32} {p : Prop} (h : ¬ a = b) (e : k = a) : k = b → p := fun z => absurd (e.symm.trans z) h
theorem rn_l {a : Int32} {p : Prop} (h : a ∈ [(0 : Int32), (1 : Int32), (2 : Int32), (3 : Int32), (4 : Int32), (5 : Int32), (6 : Int32)]) (e : k = a) : (∀ j ∈ [(0 : Int32), (1 : Int32), (2 : Int32), (3 : Int32), (4 : Int32), (5 : Int32), (6 : Int32)], ¬ k = j) → p := fun z => absurd e (z a h)
theorem ru_0 (e : k = 0) (h : r.toInt = (wr : Nat)) : ruR C wr n c k r := ⟨fun _ => h, rn_x (by decide) e, rn_x (by decide) e, rn_x (by decide) e, rn_x (by decide) e, rn_x (by decide) e, rn_x (by decide) e, rn_l (by decide) e⟩
theorem ru_1 (e : k = 1) (h : r.toInt = (n : Nat)) : ruR C wr n c k r := ⟨rn_x (by decide) e, fun _ => h, rn_x (by decide) e, rn_x (by decide) e, rn_x (by decide) e, rn_x (by decide) e, rn_x (by decide) e, rn_l (by decide) e⟩
theorem ru_2 (e : k = 2) (h : r.toInt = ((joM C wr c n).length : Nat)) : ruR C wr n c k r := ⟨rn_x (by decide) e, rn_x (by decide) e, fun _ => h, rn_x (by decide) e, rn_x (by decide) e, rn_x (by decide) e, rn_x (by decide) e, rn_l (by decide) e⟩
theorem ru_3 (e : k = 3) (h : (r = 1 ∧ chM C wr (runM C wr c n) = []) ∨ (r = 0 ∧ ¬ chM C wr (runM C wr c n) = [])) : ruR C wr n c k r := ⟨rn_x (by decide) e, rn_x (by decide) e, rn_x (by decide) e, fun _ => h, rn_x (by decide) e, rn_x (by decide) e, rn_x (by decide) e, rn_l (by decide) e⟩
theorem ru_4 (e : k = 4) (h : (r = 1 ∧ chM C wr (runM C wr c n) = [] ∧ goM C (runM C wr c n)) ∨ (r = 0 ∧ ¬ (chM C wr (runM C wr c n) = [] ∧ goM C (runM C wr c n)))) : ruR C wr n c k r := ⟨rn_x (by decide) e, rn_x (by decide) e, rn_x (by decide) e, rn_x (by decide) e, fun _ => h, rn_x (by decide) e, rn_x (by decide) e, rn_l (by decide) e⟩
theorem ru_5 (e : k = 5) (h : r.toInt = (ru (suC C) (joM C wr c n) (joM C wr c n).length : Nat)) : ruR C wr n c k r := ⟨rn_x (by decide) e, rn_x (by decide) e, rn_x (by decide) e, rn_x (by decide) e, rn_x (by decide) e, fun _ => h, rn_x (by decide) e, rn_l (by decide) e⟩
theorem ru_6 (e : k = 6) (h : r.toInt = (nCa (joM C wr c n) : Nat)) : ruR C wr n c k r := ⟨rn_x (by decide) e, rn_x (by decide) e, rn_x (by decide) e, rn_x (by decide) e, rn_x (by decide) e, rn_x (by decide) e, fun _ => h, rn_l (by decide) e⟩
theorem ru_7 (e : ∀ j ∈ [(0 : Int32), (1 : Int32), (2 : Int32), (3 : Int32), (4 : Int32), (5 : Int32), (6 : Int32)], ¬ k = j) (h : r.toInt = (laS (runM C wr c n) C.2.1.length : Nat)) : ruR C wr n c k r := ⟨fun z => absurd z (e 0 (by decide)), fun z => absurd z (e 1 (by decide)), fun z => absurd z (e 2 (by decide)), fun z => absurd z (e 3 (by decide)), fun z => absurd z (e 4 (by decide)), fun z => absurd z (e 5 (by decide)), fun z => absurd z (e 6 (by decide)), fun _ => h⟩
theorem laS_le {M : gMa} : ∀ {t : Nat}, (∀ u, u < t → (M.2.2 u).2.2.2.2.2.2.1.length ≤ 9) → laS M t ≤ 9 * t := by
  intro t
  induction t with
  | zero => intro _; exact Nat.le_refl _
  | succ t ih =>
    intro h
    have a := ih (fun u hu => h u (by omega))
    have b := h t (by omega)
    show laS M t + (M.2.2 t).2.2.2.2.2.2.1.length ≤ _
    omega
/-- threads as the memory has them -/
theorem HistC_t {w : gd} (h : HistC C wr w) (en : (w.1 0 94).toInt = (n : Nat)) {t : Nat} (ht : t < 6) : w.1 73 t = Int32.ofNat ((runM C wr (c96 w) n).2.2 t).1 ∧ ((runM C wr (c96 w) n).2.2 t).1 ≤ 3 ∧ (w.1 80 t).toInt = (((runM C wr (c96 w) n).2.2 t).2.2.2.2.2.2.1.length : Nat) ∧ ((runM C wr (c96 w) n).2.2 t).2.2.2.2.2.2.1.length ≤ 9 := by
  obtain ⟨a, n', q1, q2, -, q4, -⟩ := h.1
  have e : n' = n := by omega
  rw [e] at q2 q4
  have am := q2 n (Nat.le_refl _)
  have m := am.2.2.1.2.2 t ht
  have ml := m.2.2.2.2.2.2.2.2.1.1
  have q := (am.1.1.2 t ht).2.2.2.1
  have e73 : w.1 73 t = (a n).1 73 t := cA q4 (c := 73) (n := 6) (by decide) ht
  have e80 : w.1 80 t = (a n).1 80 t := cA q4 (c := 80) (n := 6) (by decide) ht
  exact ⟨by rw [e73]; exact m.1, m.2.1, by rw [e80]; exact ml, by omega⟩
end PRU
section KRN
variable {G : kG} {q : kP} {d : Nat} {x y w w' : gd} {F : Int32 → gd → Prop} {Fv : gd → Prop} {P : Option gv → gd → Prop} {X : String → gd → Prop} {C : gCo} {wr n : Nat} {lm : Nat → Nat} {M : gMa} {o : Nat}
theorem kh_allLate (hq : kV q) (ho : kiM q o) (h : MM x o) (hK : CK x C) (g : KMm x o C M) (l9 : ∀ u, u < C.2.1.length → (M.2.2 u).2.2.2.2.2.2.1.length ≤ 9) (hF : ∀ r : Int32, r.toInt = (laS M C.2.1.length : Nat) → F r x) : KT G q (d + 1) zk_X5_allLate 0 [(0, vr o)] [] x (ri F) := by
  have t6 := h.1.1.2.2.1
  have nT : (x.1 60 10).toInt = C.2.1.length := hK.2.1.1
  have loop : ∀ (n k : Nat) (a i : Int32), i.toInt = k → k ≤ C.2.1.length → a.toInt = (laS M k : Nat) → (x.1 60 10).toInt - k ≤ n → KT G q (d + 1) zk_X5_allLate 4 [(0, vr o), (1, vi a), (2, vi i)] [] x (ri F) := by
    have fin : ∀ (k : Nat) (a i : Int32), i.toInt = k → k ≤ C.2.1.length → a.toInt = (laS M k : Nat) → x.1 60 10 ≤ i → ri F (some (vi a)) x := fun k a i ei hk ha c => by
      rw [t_le] at c
      have e : k = C.2.1.length := by omega
      rw [e] at ha
      exact ri_i (hF a ha)
    intro n
    induction n with
    | zero =>
      intro k a i ei hk ha hn
      refine kg_X5_allLate_4 hq ho _ _ ⟨fun c => fin k a i ei hk ha c, fun c => ?_⟩
      exfalso; rw [t_le] at c; omega
    | succ n ih =>
      intro k a i ei hk ha hn
      refine kg_X5_allLate_4 hq ho _ _ ⟨fun c => fin k a i ei hk ha c, fun c => ?_⟩
      rw [t_le] at c
      have kl : k < C.2.1.length := by omega
      have e1 : (i + 1).toInt = ((k + 1 : Nat) : Int) := by rw [t_add (by show _ ≤ _ + (1 : Int); omega) (by show _ + (1 : Int) ≤ _; omega), ei]; rfl
      have g7 := (g.2 k kl).2.2.2.2.2.2.1.1
      have b1 := laS_le (M := M) (t := k) (fun u hu => l9 u (by omega))
      have b2 := l9 k kl
      refine kp_get hq ho h.1 h.2.1 _ _ ei (show (7 : Int32).toInt = ((7 : Nat) : Int) from rfl) (by omega) (by omega) (ih (k + 1) _ _ e1 kl ?_ (by push_cast; omega))
      rw [t_add (by omega) (by omega), ha, g7]
      show _ = ((laS M k + (M.2.2 k).2.2.2.2.2.2.1.length : Nat) : Int)
      push_cast
      rfl
  exact kg_X5_allLate_0 hq ho (loop 6 0 _ _ rfl (Nat.zero_le _) rfl (by omega))
theorem ka_run (h : JH C wr n lm x w) (hq : kV q) (hH : HOI x q) (l1 : Int32) (hX1 : e1Ch x → X iSE x) (hX2 : e2Ru x l1 → X iOE x) (hP : ¬ e1Ch x → ¬ e2Ru x l1 → ∀ r y, HOI y q → sRu C wr n (c96 w) x l1 r y → P (some (vi r)) y) : KE G q (d + 7) zk_X11_run 0 [(0, vr 0), (1, vi l1)] [] x P X := by
  have k8 : (8 : Int32).toInt = 8 := rfl
  refine kg_X11_run_0 hq l1 (kh_run hq hH hX1 (fun h10 hR => kh_what hq l1 8 (fun hn => hX2 ⟨h10, fun z => hn (by rw [k8]; exact z)⟩) (fun g0 g9 => ?_)))
  rw [k8] at g9
  obtain ⟨j, r, hh, e94⟩ := JH_R h h10
  obtain ⟨ja, ka, -, -, -⟩ := JH_ja h hH h10
  have hm : kiM q 120 := Or.inl rfl
  have here : ∀ r, ruR C wr n (c96 w) l1 r → P (some (vi r)) x := fun r er => hP h10 (fun z => z.2 ⟨g0, g9⟩) r x hH ⟨er, KR_rf⟩
  have n13 : (x.1 120 13).toInt = ((chM C wr (runM C wr (c96 w) n)).length : Nat) := r.2.1.2.2.1
  have nil : x.1 120 13 = 0 ↔ chM C wr (runM C wr (c96 w) n) = [] := by
    have k0 : (0 : Int32).toInt = 0 := rfl
    rw [t_eq, k0, n13]
    constructor
    · intro z; exact List.eq_nil_of_length_eq_zero (by omega)
    · intro z; rw [z]; rfl
  refine ⟨fun c => here _ (ru_0 c ?_), fun c => here _ (ru_1 c r.2.2.2.1), fun c => here _ (ru_2 c ja.1.1), fun c => ⟨fun z => here _ (ru_3 c (Or.inr ⟨rfl, fun e => z (nil.mpr e)⟩)), fun z => here _ (ru_3 c (Or.inl ⟨rfl, nil.mp z⟩))⟩, fun c => ?_, fun c => kj_races3 hq hR.2.2 ka ja.2.2 (fun r hr => here _ (ru_5 c hr)), fun c => here _ (ru_6 c ja.1.2.1), fun c => kh_allLate hq hm hR.1 j.2.1 r.2.1.1 (fun u hu => (HistC_t hh e94 (by have := (JH_gc h hH).1.2.2.1; omega)).2.2.2) (fun r hr => here _ (ru_7 c hr))⟩
  · obtain ⟨w01, e⟩ := r.2.2.1
    rw [e]
    rcases w01 with e | e <;> rw [e] <;> rfl
  · refine kg_X5_isStuck_0 hq hm ⟨fun z => ri_i ⟨fun _ => here _ (ru_4 c (Or.inr ⟨rfl, fun e => z (nil.mpr e.1)⟩)), fun z => absurd rfl z⟩, fun z => kh_anyGoing hq hm hR.1 j.2.1 r.2.1.1 (fun r9 hr => ⟨fun z0 => ri_i ⟨fun _ => here _ (ru_4 c (Or.inr ⟨rfl, fun e => hr.mpr e.2 z0⟩)), fun z => absurd rfl z⟩, fun z0 => ri_i ⟨fun z => absurd z (by decide), fun _ => here _ (ru_4 c (Or.inl ⟨rfl, nil.mp z, hr.mp z0⟩))⟩⟩)⟩
theorem ja_run {l r9 r : Int32} (h : JH C wr n lm x w) (hH : HOI y q) (k : ansK (e1Ch x) (e2Ru x l) (sRu C wr n (c96 w) x l) x r9 y) (m : ansM C wr (f1Ch w) (f2Ru w l) (tRu C wr n w l) w r w') : JR3 y w' ∧ ansE r9 r y w' := by
  have e9 := JH_10 h
  refine ans_eq h hH e9 ⟨fun z => ⟨fun a => z.1 (e9.mpr a), z.2⟩, fun z => ⟨fun a => z.1 (e9.mp a), z.2⟩⟩ (fun a z => z.1 a) k m (fun c _ r' s t => ⟨JQ_rd h hH s.2 t.2, ruR_eq s.1 t.1⟩)
end KRN
section MRN
variable {G : mG} {d D : Nat} {x w z : gd} {F : Int32 → gd → Prop} {C : gCo} {wr n : Nat} {lm : Nat → Nat} {q : kP}
theorem sp_one9 (v : Int32) (h : F (if v = 0 then 0 else 1) x) : MT G d z_one 0 [(0, vi v)] [] x (ri F) := sg_one_0 _ ⟨fun c => ri_i (by first | (rw [if_pos c] at h; exact h) | (rw [if_neg c] at h; exact h)), fun c => ri_i (by first | (rw [if_pos c] at h; exact h) | (rw [if_neg c] at h; exact h))⟩
theorem sp_isStuck9 (h25 : (x.1 0 25).toInt ≤ 6) (h : ∀ r : Int32, ((r = 1 ∧ x.1 0 84 = 0 ∧ ∃ t : Nat, (t : Int) < (x.1 0 25).toInt ∧ x.1 73 t = 1) ∨ (r = 0 ∧ ¬ (x.1 0 84 = 0 ∧ ∃ t : Nat, (t : Int) < (x.1 0 25).toInt ∧ x.1 73 t = 1))) → F r x) : MT G d z_isStuck 0 [(0, vr 0)] [] x (ri F) := by
  have k0 : (0 : Int32).toInt = 0 := rfl
  have k1 : (1 : Int32).toInt = 1 := rfl
  have loop : ∀ (n : Nat) (g t : Int32), 0 ≤ t.toInt → (x.1 0 25).toInt - t.toInt ≤ n → (¬ g = 0 ↔ ∃ u : Nat, (u : Int) < t.toInt ∧ (u : Int) < (x.1 0 25).toInt ∧ x.1 73 u = 1) → MT G d z_isStuck 4 [(0, vr 0), (1, vi g), (2, vi t)] [] x (ri F) := by
    have fin : ∀ (g t : Int32), (¬ g = 0 ↔ ∃ u : Nat, (u : Int) < t.toInt ∧ (u : Int) < (x.1 0 25).toInt ∧ x.1 73 u = 1) → x.1 0 25 ≤ t → ((¬ ((x.1 0 84) = (0 : Int32)) → ri F (some (vi 0)) x) ∧ ((x.1 0 84) = (0 : Int32) → ((g = (0 : Int32) → ri F (some (vi 0)) x) ∧ (¬ (g = (0 : Int32)) → ri F (some (vi 1)) x)))) := fun g t hg c => by
      rw [t_le] at c
      refine ⟨fun z => ri_i (h 0 (Or.inr ⟨rfl, fun e => z e.1⟩)), fun z => ⟨fun g0 => ri_i (h 0 (Or.inr ⟨rfl, fun e => ?_⟩)), fun g1 => ri_i (h 1 (Or.inl ⟨rfl, z, ?_⟩))⟩⟩
      · obtain ⟨u, u1, u2⟩ := e.2
        exact hg.mpr ⟨u, by omega, u1, u2⟩ g0
      · obtain ⟨u, -, u1, u2⟩ := hg.mp g1
        exact ⟨u, u1, u2⟩
    intro n
    induction n with
    | zero =>
      intro g t t0 hn hg
      exact sg_isStuck_4 _ _ ⟨fun c => fin g t hg c, fun c => absurd (t_le.mpr (by omega)) c⟩
    | succ n ih =>
      intro g t t0 hn hg
      refine sg_isStuck_4 _ _ ⟨fun c => fin g t hg c, fun c => ?_⟩
      rw [t_le] at c
      have ti : (t + 1).toInt = t.toInt + 1 := by rw [t_add (by omega) (by omega), k1]
      have ct := cl_i t0
      refine ⟨fun g1 => ih _ _ (by omega) (by omega) ⟨fun _ => ?_, fun _ => by decide⟩, fun g0 => ⟨by rw [vp_in_iff]; omega, fun ns => ih _ _ (by omega) (by omega) ⟨fun z => absurd rfl z, fun z => ?_⟩, fun ys => ih _ _ (by omega) (by omega) ⟨fun _ => ⟨t.toNatClampNeg, by omega, by omega, ys⟩, fun _ => by decide⟩⟩⟩
      · obtain ⟨u, u0, u1, u2⟩ := hg.mp g1
        exact ⟨u, by omega, u1, u2⟩
      · obtain ⟨u, u0, u1, u2⟩ := z
        by_cases cu : u = t.toNatClampNeg
        · rw [cu] at u2; exact absurd u2 ns
        · exact absurd g0 (hg.mpr ⟨u, by omega, u1, u2⟩)
  exact sg_isStuck_0 (loop 6 0 0 (by decide) (by rw [k0]; omega) ⟨fun z => absurd rfl z, fun z => by
    obtain ⟨u, u0, -⟩ := z
    rw [k0] at u0
    omega⟩)
theorem nCa_tk {J : List gDe} {a : Nat} {e : gDe} (h : J[a]? = some e) : nCa (J.take (a + 1)) = nCa (J.take a) + if pCa e = true then 1 else 0 := by
  have e1 : J.take (a + 1) = J.take a ++ [e] := by rw [List.take_succ, h]; rfl
  unfold nCa
  rw [e1, List.filter_append, List.length_append]
  by_cases c : pCa e = true
  · rw [List.filter_cons_of_pos c, if_pos c]; rfl
  · rw [List.filter_cons_of_neg c, if_neg c]; rfl
theorem nCa_le {J : List gDe} : nCa J ≤ J.length := List.length_filter_le _ _
theorem ma_run (h : JH C wr n lm x w) (hH : HOI x q) (hm : MI w) (i : Int32) (hD : 4 ≤ D) (hF : ∀ r w', ansM C wr (f1Ch w) (f2Ru w i) (tRu C wr n w i) w r w' → F r w') : MT G D z_run 0 [(0, vr 0), (1, vi i)] [] w (ri F) := by
  obtain ⟨D, rfl⟩ : ∃ D', D = D' + 3 := ⟨D - 3, by omega⟩
  have k0 : (0 : Int32).toInt = 0 := rfl
  have k1 : (1 : Int32).toInt = 1 := rfl
  have k7 : (7 : Int32).toInt = 7 := rfl
  refine sg_run_0 _ (fun y e => ?_)
  have hy := z0_s e
  have e67 : y.1 0 67 = w.1 0 67 := hy.1.1 67 (by decide)
  have qy := (MI_0 hy.1 hm).1
  refine sc_noRunk hy (fun hr => ⟨fun q => absurd rfl q, fun _ => ?_⟩) (fun c y' m => ⟨fun _ => ri_i (hF _ y' (an_1 hm (show w.1 0 67 = 0 by rw [← e67]; exact c) m)), fun q => absurd q (by decide)⟩)
  rw [e67] at hr
  have h10 : ¬ x.1 0 10 = 0 := fun z => hr ((JH_10 h).mp z)
  obtain ⟨j, r, hh, e94⟩ := JH_R h h10
  obtain ⟨hs, l4⟩ := JH_mas h hH hr hy.1
  have l6 := (JH_gc h hH).1.2.2.1
  have n84 := HistC_n hh
  rw [e94, Int.toNat_natCast] at n84
  have e84 : y.1 0 84 = w.1 0 84 := hy.1.1 84 (by decide)
  have e25 : (y.1 0 25).toInt = C.2.1.length := by rw [hy.1.1 25 (by decide)]; exact j.2.2.1.2.1.1
  have e73 : y.1 73 = w.1 73 := hy.1.2.1 73 (by decide) (by simp)
  have e80 : y.1 80 = w.1 80 := hy.1.2.1 80 (by decide) (by simp)
  obtain ⟨J, eJ⟩ : ∃ J, J = joM C wr (c96 w) n := ⟨_, rfl⟩
  obtain ⟨M, eM⟩ : ∃ M, M = runM C wr (c96 w) n := ⟨_, rfl⟩
  have ht := fun (t : Nat) (ht : t < 6) => HistC_t hh e94 ht
  rw [← eM] at ht n84
  rw [← eJ] at hs l4
  have e96 : (y.1 0 96).toInt = (J.length : Nat) := hs.1.1
  have nil : y.1 0 84 = 0 ↔ chM C wr M = [] := by
    rw [t_eq, k0, e84, n84]
    constructor
    · intro z; exact List.eq_nil_of_length_eq_zero (by omega)
    · intro z; rw [z]; rfl
  have p28 : ∀ b : Int32, (b = 0 → 0 ≤ i.toInt ∧ i.toInt < 8) → (¬ b = 0 → ¬ (0 ≤ i.toInt ∧ i.toInt < 8)) → MT G (D + 3) z_run 28 [(0, vr 0), (1, vi i)] [vi b, vr 0] y (ri F) := by
    intro b hb hb2
    refine sg_run_28 _ _ (sc_refk b 2 hy (by decide) (fun b0 => ⟨fun _ => ?_, fun q => absurd rfl q⟩) (fun nb y' m => ⟨fun q => absurd q (by decide), fun _ => ri_i (hF _ y' (an_2 hm ⟨hr, hb2 nb⟩ m))⟩))
    have nE2 : ¬ f2Ru w i := fun z => z.2 (hb b0)
    have ok : ∀ r, ruR C wr n (c96 w) i r → ri F (some (vi r)) y := fun r er => ri_i (hF _ y (an_3 qy hr nE2 hy.2 ⟨er, rd_0 hy.1 hm⟩))
    have p125 : i = 5 → ∀ (m B : Nat) (s b : Int32), b.toInt = (B : Nat) → J.length - B ≤ m → B ≤ J.length → s.toInt = (ru (suC C) J B : Nat) → MT G (D + 3) z_run 125 [(0, vr 0), (2, vi s), (3, vi b)] [] y (ri F) := by
      intro i5 m
      have fin : ∀ (B : Nat) (s : Int32), B = J.length → s.toInt = (ru (suC C) J B : Nat) → ri F (some (vi s)) y := fun B s eB hs => ok s (ru_5 i5 (by rw [← eJ, hs, eB]))
      induction m with
      | zero =>
        intro B s b eb hm9 hB h3
        exact sg_run_125 _ _ ⟨fun _ => fin B s (by omega) h3, fun c => absurd (t_le.mpr (by omega)) c⟩
      | succ m ih =>
        intro B s b eb hm9 hB h3
        refine sg_run_125 _ _ ⟨fun c => fin B s (by rw [t_le] at c; omega) h3, fun c => ?_⟩
        rw [t_le] at c
        have lB : B < J.length := by omega
        obtain ⟨eB, gB⟩ : ∃ eB, J[B]? = some eB := ⟨_, List.getElem?_eq_getElem lB⟩
        have b1 : (b + 1).toInt = ((B + 1 : Nat) : Int) := by rw [t_add (by rw [k1]; omega) (by rw [k1]; omega), k1, eb]; rfl
        have ul := ru_le (su := suC C) (J := J) (b := B) (by omega)
        have p136 : ∀ (m9 A : Nat) (s a : Int32), a.toInt = (A : Nat) → B - A ≤ m9 → A ≤ B → s.toInt = (ru (suC C) J B : Nat) + (rn (suC C) J B A : Nat) → MT G (D + 3) z_run 136 [(0, vr 0), (2, vi s), (3, vi b), (4, vi a)] [] y (ri F) := by
          intro m9
          have next : ∀ (A : Nat) (s : Int32), A = B → s.toInt = (ru (suC C) J B : Nat) + (rn (suC C) J B A : Nat) → MT G (D + 3) z_run 125 [(0, vr 0), (2, vi s), (3, vi (b + 1))] [] y (ri F) := fun A s eA h3 => ih (B + 1) s (b + 1) b1 (by omega) (by omega) (by rw [ru_s]; rw [eA] at h3; push_cast; exact h3)
          induction m9 with
          | zero =>
            intro A s a ea9 hn hA h3
            exact sg_run_136 _ _ _ ⟨fun _ => next A s (by omega) h3, fun c => absurd (t_le.mpr (by omega)) c⟩
          | succ m9 ih9 =>
            intro A s a ea9 hn hA h3
            refine sg_run_136 _ _ _ ⟨fun c => next A s (by rw [t_le] at c; omega) h3, fun c => ?_⟩
            rw [t_le] at c
            have lA : A < J.length := by omega
            obtain ⟨eA, gA⟩ : ∃ eA, J[A]? = some eA := ⟨_, List.getElem?_eq_getElem lA⟩
            have a1 : (a + 1).toInt = ((A + 1 : Nat) : Int) := by rw [t_add (by rw [k1]; omega) (by rw [k1]; omega), k1, ea9]; rfl
            have rl := rn_le (su := suC C) (J := J) (b := B) (a := A)
            refine sp_isRace9 hs a b ea9 eb l4 gA gB (fun nr9 => sp_one9 _ (ih9 (A + 1) _ (a + 1) a1 (by omega) (by omega) ?_)) (fun yr => sp_one9 _ (ih9 (A + 1) _ (a + 1) a1 (by omega) (by omega) ?_))
            · rw [if_pos rfl, rn_n nr9, t_add (by rw [k0]; omega) (by rw [k0]; omega), k0, h3]; omega
            · rw [if_neg (by decide), rn_y yr, t_add (by rw [k1]; omega) (by rw [k1]; omega), k1, h3]; push_cast; omega
        exact p136 B 0 s 0 rfl (by omega) (by omega) (by rw [h3]; show _ = _ + ((0 : Nat) : Int); omega)
    have p171 : i = 6 → ∀ (m B : Nat) (s b : Int32), b.toInt = (B : Nat) → J.length - B ≤ m → B ≤ J.length → s.toInt = (nCa (J.take B) : Nat) → MT G (D + 3) z_run 171 [(0, vr 0), (2, vi s), (3, vi b)] [] y (ri F) := by
      intro i6 m
      have fin : ∀ (B : Nat) (s : Int32), B = J.length → s.toInt = (nCa (J.take B) : Nat) → ri F (some (vi s)) y := fun B s eB hs => ok s (ru_6 i6 (by rw [← eJ, hs, eB, List.take_length]))
      induction m with
      | zero =>
        intro B s b eb hm9 hB h3
        exact sg_run_171 _ _ ⟨fun _ => fin B s (by omega) h3, fun c => absurd (t_le.mpr (by omega)) c⟩
      | succ m ih =>
        intro B s b eb hm9 hB h3
        refine sg_run_171 _ _ ⟨fun c => fin B s (by rw [t_le] at c; omega) h3, fun c => ?_⟩
        rw [t_le] at c
        have lB : B < J.length := by omega
        obtain ⟨eB, gB⟩ : ∃ eB, J[B]? = some eB := ⟨_, List.getElem?_eq_getElem lB⟩
        have bv : vp_in b 400 := by rw [vp_in_iff]; omega
        have cb : b.toNatClampNeg = B := by rw [t_cl, eb]; rfl
        have b1 : (b + 1).toInt = ((B + 1 : Nat) : Int) := by rw [t_add (by rw [k1]; omega) (by rw [k1]; omega), k1, eb]; rfl
        obtain ⟨-, c99, -, -, -, c103⟩ := hs.1.2 B eB gB
        have tk := nCa_tk gB
        have nl : nCa (J.take B) ≤ B := Nat.le_trans nCa_le (by rw [List.length_take]; omega)
        have p205 : ∀ v : Int32, (pCa eB = true → ¬ v = 0) → (¬ pCa eB = true → v = 0) → MT G (D + 3) z_run 205 [(0, vr 0), (3, vi b)] [vi v, vi s] y (ri F) := by
          intro v hv1 hv0
          refine sg_run_205 _ _ _ (sp_one9 _ (ih (B + 1) _ (b + 1) b1 (by omega) (by omega) ?_))
          by_cases cp : pCa eB = true
          · rw [if_neg (hv1 cp), tk, if_pos cp, t_add (by rw [k1]; omega) (by rw [k1]; omega), k1, h3]; rfl
          · rw [if_pos (hv0 cp), tk, if_neg cp, t_add (by rw [k0]; omega) (by rw [k0]; omega), k0, h3]; omega
        rw [cb, c99, c103]
        have f0 : (if eB.2.2.2.2.2.1 = true then (1 : Int32) else 0) = 0 ↔ eB.2.2.2.2.2.1 = false := by
          cases eB.2.2.2.2.2.1 with
          | true => exact ⟨fun z => absurd z (by decide), fun z => nomatch z⟩
          | false => exact ⟨fun _ => rfl, fun _ => rfl⟩
        have pc : pCa eB = true ↔ Int32.ofNat eB.2.1 = 13 ∧ eB.2.2.2.2.2.1 = false := decide_eq_true_iff
        exact ⟨bv, fun n13 => p205 0 (fun z => absurd (pc.mp z).1 n13) (fun _ => rfl), fun y13 => ⟨bv, fun nf => p205 0 (fun z => absurd (f0.mpr (pc.mp z).2) nf) (fun _ => rfl), fun yf => p205 1 (fun _ => by decide) (fun z => absurd (pc.mpr ⟨y13, f0.mp yf⟩) z)⟩⟩
    have p220 : (∀ j ∈ [(0 : Int32), (1 : Int32), (2 : Int32), (3 : Int32), (4 : Int32), (5 : Int32), (6 : Int32)], ¬ i = j) → ∀ (m B : Nat) (s b : Int32), b.toInt = (B : Nat) → C.2.1.length - B ≤ m → B ≤ C.2.1.length → s.toInt = (laS M B : Nat) → MT G (D + 3) z_run 220 [(0, vr 0), (2, vi s), (3, vi b)] [] y (ri F) := by
      intro i7 m
      have fin : ∀ (B : Nat) (s : Int32), B = C.2.1.length → s.toInt = (laS M B : Nat) → ri F (some (vi s)) y := fun B s eB hs => ok s (ru_7 i7 (by rw [← eM, hs, eB]))
      induction m with
      | zero =>
        intro B s b eb hm9 hB h3
        exact sg_run_220 _ _ ⟨fun _ => fin B s (by omega) h3, fun c => absurd (t_le.mpr (by omega)) c⟩
      | succ m ih =>
        intro B s b eb hm9 hB h3
        refine sg_run_220 _ _ ⟨fun c => fin B s (by rw [t_le] at c; omega) h3, fun c => ?_⟩
        rw [t_le] at c
        have b1 : (b + 1).toInt = ((B + 1 : Nat) : Int) := by rw [t_add (by rw [k1]; omega) (by rw [k1]; omega), k1, eb]; rfl
        have cb : b.toNatClampNeg = B := by rw [t_cl, eb]; rfl
        obtain ⟨-, -, a3, a4⟩ := ht B (by omega)
        have la := laS_le (M := M) (t := B) (fun u hu => (ht u (by omega)).2.2.2)
        refine ⟨by rw [vp_in_iff]; omega, ih (B + 1) _ (b + 1) b1 (by omega) (by omega) ?_⟩
        rw [cb, e80, t_add (by omega) (by omega), h3, a3]
        show _ = ((laS M B + (M.2.2 B).2.2.2.2.2.2.1.length : Nat) : Int)
        push_cast
        rfl
    have p111 : i = 3 → ∀ v : Int32, ((¬ v = 0 ∧ chM C wr M = []) ∨ (v = 0 ∧ ¬ chM C wr M = [])) → MT G (D + 3) z_run 111 [(0, vr 0)] [vi v] y (ri F) := fun i3 v hv => sg_run_111 _ (sp_one9 _ (ok _ (ru_3 i3 (by
      rw [← eM]
      rcases hv with ⟨a, b⟩ | ⟨a, b⟩
      · exact Or.inl ⟨if_neg a, b⟩
      · exact Or.inr ⟨if_pos a, b⟩))))
    refine ⟨fun c => ok _ (ru_0 c ?_), fun c => ok _ (ru_1 c (by rw [hy.1.1 94 (by decide)]; exact e94)), fun c => ok _ (ru_2 c (by rw [← eJ]; exact e96)), fun c => ⟨fun z => p111 c 0 (Or.inr ⟨rfl, fun e => z (nil.mpr e)⟩), fun z => p111 c 1 (Or.inl ⟨by decide, nil.mp z⟩)⟩, fun c => sp_isStuck9 (by omega) (fun r hr => sp_one9 _ (ok _ (ru_4 c ?_))), fun c => p125 c J.length 0 0 0 rfl (by omega) (by omega) rfl, fun c => p171 c J.length 0 0 0 rfl (by omega) (by omega) rfl, fun c => p220 c C.2.1.length 0 0 0 rfl (by omega) (by omega) rfl⟩
    · obtain ⟨_, _, -, -, -, -, -, ⟨w01, e68⟩, -⟩ := hh.1
      rw [hy.1.1 68 (by decide), e68]
      rcases w01 with e | e <;> rw [e] <;> rfl
    · have go : (∃ t : Nat, (t : Int) < (y.1 0 25).toInt ∧ y.1 73 t = 1) ↔ goM C M := by
        constructor
        · rintro ⟨t, t1, t2⟩
          obtain ⟨a1, a2, -⟩ := ht t (by omega)
          rw [e73, a1] at t2
          exact ⟨t, by omega, (of_inj (n := _) (m := 1) (by omega) (by omega)).mp t2⟩
        · rintro ⟨t, t1, t2⟩
          obtain ⟨a1, a2, -⟩ := ht t (by omega)
          exact ⟨t, by omega, by rw [e73, a1, t2]; rfl⟩
      rw [go, nil] at hr
      rw [← eM]
      rcases hr with ⟨a, b⟩ | ⟨a, b⟩
      · exact Or.inl ⟨by rw [a]; rfl, b⟩
      · exact Or.inr ⟨by rw [a]; rfl, b⟩
  refine sp_in _ _ _ ⟨fun c => p28 0 (fun _ => ?_) (fun z => absurd rfl z), fun c => p28 1 (fun q => absurd q (by decide)) (fun _ z => ?_)⟩
  · obtain ⟨a1, a2⟩ := bi_ne.mp c
    rw [t_le, k0] at a1
    rw [t_le, k7] at a2
    omega
  · exact bi_eq.mp c ⟨t_le.mpr (by rw [k0]; exact z.1), t_le.mpr (by rw [k7]; have := z.2; omega)⟩
end MRN
end
section
/-! the law's helpers: the class's world, and beside it the cell 299 (a long) -/
def wE (E : gE) : gE := (E.1, E.2.1, E.2.2.1, fun c => if c = 299 then .inr (.long, 1) else E.2.2.2.1 c, E.2.2.2.2)
theorem wE_k {E : gE} {c : Nat} (h : ¬ c = 299) : (wE E).2.2.2.1 c = E.2.2.2.1 c := if_neg h
theorem wE_9 {E : gE} : (wE E).2.2.2.1 299 = .inr (.long, 1) := by
  show (if (299 : Nat) = 299 then (.inr (.long, 1) : gk) else E.2.2.2.1 299) = _
  exact if_pos rfl
def fo (f : gf) : gf := (f.1, f.2.1 ++ [299], f.2.2)
def fO (f : gf) : gf := (f.1, [299], f.2.2)
/-- two worlds apart -/
def gdis (f1 : gf) (ad1 : Nat → Nat) (f2 : gf) (ad2 : Nat → Nat) : Prop := ∀ c ∈ f1.2.1, ∀ c' ∈ f2.2.1, ad1 c ≠ ad2 c'
theorem gwl_in {E : gE} {x : gd} {f : gf} {ad : Nat → Nat} {k : Nat} {q : Nat × va_E} (h : (gwl E x f ad)[k]? = some q) : ∃ c, f.2.1[k]? = some c ∧ q = (ad c, gce E x f ad c) := by
  rw [gwl, List.getElem?_map] at h
  cases hc : f.2.1[k]? with
  | none => rw [hc] at h; cases h
  | some c => rw [hc] at h; cases h; exact ⟨c, rfl, rfl⟩
/-- behind a call: the other world stands, and stays apart -/
theorem keep2 {E1 E2 : gE} {x2 y1 : gd} {f1 f2 g1 : gf} {ad1 ad2 b1 : Nat → Nat} {A : Nat → Prop} {H H2 : Heap} (hP2 : gP E2 x2 f2 ad2 A H) (hd : gdis f1 ad1 f2 ad2) (hk : ∀ q : Nat, q < H.size → ¬ gA f1 ad1 H.size q → H2[q]? = H[q]?) (hP1 : gP E1 y1 g1 b1 (gA f1 ad1 H.size) H2) : gP E2 x2 f2 ad2 A H2 ∧ gdis g1 b1 f2 ad2 := by
  have lt : ∀ c ∈ f2.2.1, ad2 c < H.size := fun c hc => by
    obtain ⟨i, -, hi⟩ := gwl_at (E := E2) (x := x2) (ad := ad2) hc
    exact (hP2.1.1 i _ hi).lt
  refine ⟨⟨⟨hP2.1.1.kept (fun k q hq => ?_), hP2.1.2⟩, hP2.2⟩, fun c hc c' hc' e => ?_⟩
  · obtain ⟨c, hc, rfl⟩ := gwl_in hq
    have hc := List.mem_of_getElem? hc
    refine hk _ (lt c hc) (fun z => ?_)
    rcases z with ⟨c1, h1, e1⟩ | z
    · exact hd c1 h1 c hc e1
    · have := lt c hc
      omega
  · obtain ⟨i, -, hi⟩ := gwl_at (E := E1) (x := y1) (ad := b1) hc
    have hA := hP1.1.2.2 i _ hi
    have l2 := lt c' hc'
    rcases hA with ⟨c1, h1, e1⟩ | z
    · exact hd c1 h1 c' hc' (e1.trans e)
    · have z : H.size ≤ b1 c := z
      omega
theorem gce_ag {E E' : gE} {x y : gd} {f g : gf} {ad bd : Nat → Nat} {c : Nat} (hk : E'.2.2.2.1 c = E.2.2.2.1 c) (ha : E'.2.2.1 = E.2.2.1) (h1 : y.1 c = x.1 c) (h2 : y.2 c = x.2 c) (hr : ∀ j, (g.1 c j).map bd = (f.1 c j).map ad) : gce E' y g bd c = gce E x f ad c := by
  unfold gce gfl gar
  rw [hk, ha, h1, h2]
  simp only [hr]
theorem gwl_ag {E E' : gE} {x y : gd} {f g : gf} {ad bd : Nat → Nat} (hL : g.2.1 = f.2.1) (hk : ∀ c ∈ f.2.1, E'.2.2.2.1 c = E.2.2.2.1 c) (ha : E'.2.2.1 = E.2.2.1) (h1 : ∀ c ∈ f.2.1, y.1 c = x.1 c) (h2 : ∀ c ∈ f.2.1, y.2 c = x.2 c) (hd : ∀ c ∈ f.2.1, bd c = ad c) (hr : ∀ c ∈ f.2.1, ∀ j, (g.1 c j).map bd = (f.1 c j).map ad) : gwl E' y g bd = gwl E x f ad := by
  unfold gwl
  rw [hL]
  apply List.map_congr_left
  intro c hc
  rw [hd c hc, gce_ag (hk c hc) ha (h1 c hc) (h2 c hc) (hr c hc)]
/-- the two parts of it -/
theorem fo_sp {E : gE} {x : gd} {f : gf} {ad : Nat → Nat} {A : Nat → Prop} {H : Heap} (hn : 299 ∉ f.2.1) (h : gP (wE E) x (fo f) ad A H) : gP E x f ad A H ∧ gP (wE E) x (fO f) ad A H ∧ gdis f ad (fO f) ad := by
  obtain ⟨⟨hP, hD⟩, hg⟩ := h
  have e1 : gwl (wE E) x (fo f) ad = gwl (wE E) x f ad ++ gwl (wE E) x (fO f) ad := by
    unfold gwl
    show (f.2.1 ++ [299]).map _ = _
    rw [List.map_append]; rfl
  have e2 : gwl (wE E) x f ad = gwl E x f ad := gwl_ag rfl (fun c hc => wE_k (fun e : c = 299 => hn (e ▸ hc))) rfl (fun _ _ => rfl) (fun _ _ => rfl) (fun _ _ => rfl) (fun _ _ _ => rfl)
  rw [e1, e2] at hP hD
  have l1 : ∀ (k : Nat) (q : Nat × va_E), (gwl E x f ad)[k]? = some q → (gwl E x f ad ++ gwl (wE E) x (fO f) ad)[k]? = some q := fun k q hk => by
    rw [List.getElem?_append_left (List.getElem?_eq_some_iff.mp hk).1]; exact hk
  have l2 : ∀ (k : Nat) (q : Nat × va_E), (gwl (wE E) x (fO f) ad)[k]? = some q → (gwl E x f ad ++ gwl (wE E) x (fO f) ad)[(gwl E x f ad).length + k]? = some q := fun k q hk => by
    rw [List.getElem?_append_right (Nat.le_add_right _ _), Nat.add_sub_cancel_left]; exact hk
  refine ⟨⟨⟨fun k q hk => hP k q (l1 k q hk), ⟨fun i j p q hi hj e => hD.1 i j p q (l1 i p hi) (l1 j q hj) e, fun k q hk => hD.2 k q (l1 k q hk)⟩⟩, hg⟩, ⟨⟨fun k q hk => hP _ q (l2 k q hk), ⟨fun i j p q hi hj e => ?_, fun k q hk => hD.2 _ q (l2 k q hk)⟩⟩, hg⟩, fun c hc c' hc' e => ?_⟩
  · have := hD.1 _ _ p q (l2 i p hi) (l2 j q hj) e
    omega
  · obtain ⟨i, -, hi⟩ := gwl_at (E := E) (x := x) (ad := ad) hc
    obtain ⟨j, -, hj⟩ := gwl_at (E := wE E) (x := x) (f := fO f) (ad := ad) hc'
    have := hD.1 _ _ _ _ (l1 i _ hi) (l2 j _ hj) e
    have := (List.getElem?_eq_some_iff.mp hi).1
    omega
theorem fo_gl {E : gE} {x : gd} {f : gf} {ad : Nat → Nat} {A : Nat → Prop} {H : Heap} (hn : 299 ∉ f.2.1) (h1 : gP E x f ad A H) (h2 : gP (wE E) x (fO f) ad A H) (hd : gdis f ad (fO f) ad) : gP (wE E) x (fo f) ad A H := by
  have e1 : gwl (wE E) x (fo f) ad = gwl (wE E) x f ad ++ gwl (wE E) x (fO f) ad := by
    unfold gwl
    show (f.2.1 ++ [299]).map _ = _
    rw [List.map_append]; rfl
  have e2 : gwl (wE E) x f ad = gwl E x f ad := gwl_ag rfl (fun c hc => wE_k (fun e : c = 299 => hn (e ▸ hc))) rfl (fun _ _ => rfl) (fun _ _ => rfl) (fun _ _ => rfl) (fun _ _ _ => rfl)
  refine ⟨⟨?_, ?_⟩, h1.2⟩
  · rw [e1, e2]; exact h1.1.1.app h2.1.1
  · rw [e1, e2]
    refine h1.1.2.app h2.1.2 (fun i j p q hi hj e => ?_)
    obtain ⟨c, hc, rfl⟩ := gwl_in hi
    obtain ⟨c', hc', rfl⟩ := gwl_in hj
    exact hd c (List.mem_of_getElem? hc) c' (List.mem_of_getElem? hc') e
/-- what a call leaves of the cell 299 -/
def xo (x x1 : gd) : gd := (x1.1, fun c => if c = 299 then x.2 299 else x1.2 c)
def ao (ad ad1 : Nat → Nat) : Nat → Nat := fun c => if c = 299 then ad 299 else ad1 c
theorem fo_mv {E : gE} {x x1 : gd} {f f1 : gf} {ad ad1 : Nat → Nat} {A A1 : Nat → Prop} {H : Heap} (hn1 : 299 ∉ f1.2.1) (hr1 : NR f1 299) (h1 : gP E x1 f1 ad1 A1 H) (hA : ∀ q, A1 q → A q) (h2 : gP (wE E) x (fO f) ad A H) (hd : gdis f1 ad1 (fO f) ad) : gP (wE E) (xo x x1) (fo f1) (ao ad ad1) A H := by
  have ne : ∀ c ∈ f1.2.1, ¬ c = 299 := fun c hc e => hn1 (e ▸ hc)
  have e1 : gwl E (xo x x1) f1 (ao ad ad1) = gwl E x1 f1 ad1 := gwl_ag rfl (fun _ _ => rfl) rfl (fun _ _ => rfl) (fun c hc => if_neg (ne c hc)) (fun c hc => if_neg (ne c hc)) (fun c hc j => by
    cases hr : f1.1 c j with
    | none => rfl
    | some b =>
      show some (ao ad ad1 b) = some (ad1 b)
      rw [show ao ad ad1 b = ad1 b from if_neg (fun e => hr1 c hc j (by rw [hr, e]))])
  have e2 : gwl (wE E) (xo x x1) (fO f1) (ao ad ad1) = gwl (wE E) x (fO f) ad := by
    show [(ao ad ad1 299, gce (wE E) (xo x x1) (fO f1) (ao ad ad1) 299)] = [(ad 299, gce (wE E) x (fO f) ad 299)]
    rw [show ao ad ad1 299 = ad 299 from if_pos rfl, gce_arr (n := 1) (ty := .long) wE_9, gce_arr (n := 1) (ty := .long) wE_9]
    show [(ad 299, Sum.inl (_, 1, Sum.inr (Sum.inl ((xo x x1).2 299))))] = [(ad 299, Sum.inl (_, 1, Sum.inr (Sum.inl (x.2 299))))]
    rw [show (xo x x1).2 299 = x.2 299 by show (if (299 : Nat) = 299 then x.2 299 else x1.2 299) = _; exact if_pos rfl]
  have hg : gad E (ao ad ad1) := fun i hi => by
    show (if 900 + i = 299 then ad 299 else ad1 (900 + i)) = _
    rw [if_neg (by omega)]; exact h1.2 i hi
  refine fo_gl hn1 ⟨⟨by rw [e1]; exact h1.1.1, by rw [e1]; exact ⟨h1.1.2.1, fun k q hk => hA _ (h1.1.2.2 k q hk)⟩⟩, hg⟩ ⟨⟨by rw [e2]; exact h2.1.1, by rw [e2]; exact h2.1.2⟩, hg⟩ (fun c hc c' hc' e => ?_)
  have : c' = 299 := List.mem_singleton.mp hc'
  subst this
  rw [show ao ad ad1 c = ad1 c from if_neg (ne c hc), show ao ad ad1 299 = ad 299 from if_pos rfl] at e
  exact hd c hc 299 (List.mem_singleton.mpr rfl) e
/-- an exception finds its handler -/
def gCat (y : gy) (pc : Nat) (X : String) (e9 : ExceptionTableEntry) : Prop := (∃ pre suf, tableOf y.2.2.2.2 = pre ++ e9 :: suf ∧ ∀ z ∈ pre, z.catchType ≠ 0 ∧ ∃ nm, Cond.classLink y.1.cls z.catchType nm ∈ W0 ∧ (X, nm) ∈ ev_no) ∧ covers e9 pc = true ∧ e9.catchType ≠ 0 ∧ Cond.classLink y.1.cls e9.catchType X ∈ W0 ∧ Cond.castable X X ∈ ev_tab
def gHs (y : gy) (hpc i ln : Nat) : Prop := (∃ n3 : Fin 4, (n3 : Nat) = i ∧ ln = 1 ∧ decode y.2.1 hpc = .ok (.astore_n n3, 1)) ∨ (ln = 2 ∧ decode y.2.1 hpc = .ok (.astore i, 2))
def gtry (E : gE) (d : Nat) (y : gy) (pc : Nat) (lv : List (Nat × gv)) (rest : List gv) (Q : gr → gd → gf → Prop) (x : gd) (o : gr) (x1 : gd) (f1 : gf) : Prop := (299 ∉ f1.2.1 ∧ NR f1 299) ∧ match o with
  | .inl v => (∃ r : Int32, v = some (vi r)) ∧ T (wE E) d y (pc + 3) lv (v.toList ++ rest) (xo x x1) (fo f1) Q
  | .inr X => ∃ (e9 : ExceptionTableEntry) (i ln : Nat), gCat y pc X e9 ∧ gHs y e9.handlerPc i ln ∧ i < y.2.2.1 ∧ gst1 i lv = lv ∧ T (wE E) d y (e9.handlerPc + ln) lv [] (xo x x1) (fo f1) Q
section GTR
variable {E : gE} {d : Nat} {y : gy} {pc : Nat} {lv : List (Nat × gv)} {st : List gv} {x : gd} {f : gf} {Q : gr → gd → gf → Prop}
theorem T_tryF {z : gy} {c ci idx n : Nat} {sl : List Bool} (As rest : List gv) (d1 : Nat) (hst : st = As.reverse ++ vr c :: rest) (hd : decode y.2.1 pc = .ok (.invokevirtual idx, 3)) (hM : gMv y.1.cls idx z n) (hn : As.length = n) (hK : E.2.2.2.1 c = .inl (ci, sl)) (hcl : (vwCl[ci]?).map (fun r => r.1) = some z.1.cls) (hc : c ∈ f.2.1) (hd1 : d1 + 1 ≤ d)
    (hfit : gsz (vr c :: As) ≤ z.2.2.1) (hcat : gsz rest ≤ 8) (hok : gok (fo f).2.1 lv rest = true) (hz : z.2.2.2.2 = []) (hn9 : 299 ∉ f.2.1)
    (k : T E d1 z 0 (glv 0 (vr c :: As)) [] x f (gtry E d y pc lv rest Q x)) : T (wE E) d y pc lv st x (fo f) Q := by
  obtain ⟨⟨m1, m2, m3, m4, m5⟩, m6, m7, m8⟩ := hM
  obtain ⟨o1, x1, f1, ⟨⟨hn1, hr1⟩, hk⟩, hle, hw1⟩ := k
  have hlv : lv.all (fun q => gokv (fo f).2.1 q.2) = true := (Bool.and_eq_true _ _ ▸ hok).1
  have hrs : rest.all (gokv (fo f).2.1) = true := (Bool.and_eq_true _ _ ▸ hok).2
  have hlo : gle (fo f) (fo f1) := ⟨fun c hc => by
    rcases List.mem_append.mp hc with h | h
    · exact List.mem_append_left _ (hle.1 c h)
    · exact List.mem_append_right _ h, hle.2⟩
  have hrun : ∀ (p : Program) (e : Env) (R : Room) (s : State) (m : MethodId) (args : Array Value) (below : List Frame) (meth : Method) (c0 : Code) (A : Nat → Prop) (H : Heap) (locs : List Loc) (cells slots : Nat) (ls : Array Slot) (ad : Nat → Nat), gC (wE E) d y p R s m args meth c0 A → gP E x f ad A H → va_S A s.heap H locs → lv_has ls y.2.2.1 (glc ad lv) → cells + (f1.2.2.1 - f.2.2.1) ≤ R.cells → slots + (f1.2.2.2 - f.2.2.2) ≤ R.slots →
      vx_Run p E.1 e R s m args below meth c0 H locs cells slots (f1.2.2.1 - f.2.2.1) (f1.2.2.2 - f.2.2.2) (F0 m pc ls (st.map (gcv ad))) (rest.map (gcv ad)) (gQc E (gA f ad H.size) f ad o1 x1 f1 ((vr c :: As).map (gcv ad)).toArray) (gXC E (gA f ad H.size) f ad o1 x1 f1) (gA f ad H.size) := by
    intro p e R s m args below meth c0 A H locs cells slots ls ad C0 hP hS hl hc1 hs1
    have C : gC E d y p R s m args meth c0 A := C0
    obtain ⟨i, hi0, hi⟩ := gwl_at (E := E) (x := x) (ad := ad) hc
    rw [gce_obj hK] at hi
    have hr9 : ∃ r : vw_C, vwCl[ci]? = some r ∧ r.1 = z.1.cls := by
      cases h9 : vwCl[ci]? with
      | none => rw [h9] at hcl; cases hcl
      | some r => rw [h9] at hcl; exact ⟨r, rfl, Option.some.inj hcl⟩
    obtain ⟨r, hr1, hr2⟩ := hr9
    have hrec := va_recv C.2.2.2.1.1 hP.1.1 hr1 hi
    rw [hr2] at hrec
    have hG : GoodIn W0 (wsV y.1.cls idx z.1.cls z.1 (gws z)) := by
      intro w hw
      rcases List.mem_append.mp hw with h | h
      · refine W0_good w ?_
        simp only [List.mem_cons, List.not_mem_nil, or_false] at h
        rcases h with rfl | rfl | rfl | rfl
        · exact m1
        · exact m2
        · exact m3
        · exact m4
      · exact gwsz m5 w h
    have hroom : 8 + (z.2.2.1 + 11) + 41 * d1 ≤ R.locals := by
      have hq := C.2.2.1.2
      omega
    have hstk : st.map (gcv ad) = (As.map (gcv ad)).reverse ++ Value.ref (ad c) :: rest.map (gcv ad) := by
      rw [hst, List.map_append, List.map_reverse]
      rfl
    exact vx_runV (As := As.map (gcv ad)) (C := z.1.cls) (b := ad c) (Pc := va_Pc ((vr c :: As).map (gcv ad)) (gst E x f ad H.size)) ⟨C.1.1, C.1.2.1, C.1.2.2.1, C.1.2.2.2.1, C.1.2.2.2.2⟩ (gM_of C.2.2.2.1.2.2.2 m7 hfit hw1 ad H.size)
      (cwV (bytes := z.2.1) (maxL := z.2.2.1) (ret := z.2.2.2.1) (ws' := W0) n C.1.2.2.2.2 hG (by rw [gws, gcw, hz]) rfl rfl ⟨rfl, m6⟩ ⟨Nat.le_trans hd1 C.2.2.1.1, hroom⟩) ⟨gst_blind, hrec, fun U hU hW => ⟨rfl, gst_in C hP hS hU hW⟩⟩ rfl (by rw [List.length_map]; exact hn) hl.1 hstk (lv_room (by rw [gsz_c]; exact hcat)) hd ⟨hc1, hs1⟩
  have exo : ∀ {ad ad1 : Nat → Nat}, gex f ad ad1 → gex (fo f) ad (ao ad ad1) := fun {ad ad1} hex => ⟨fun c hc => by
    rcases List.mem_append.mp hc with h | h
    · show (if c = 299 then ad 299 else ad1 c) = ad c
      rw [if_neg (fun e : c = 299 => hn9 (e ▸ h))]; exact hex.1 c h
    · rw [List.mem_singleton.mp h]; exact if_pos rfl, fun i hi => by
    show (if 900 + i = 299 then ad 299 else ad1 (900 + i)) = _
    rw [if_neg (by omega)]; exact hex.2 i hi⟩
  cases o1 with
  | inl v =>
    obtain ⟨⟨r9, hr9⟩, o, x', f', hQ, hle2, hw2⟩ := hk
    refine ⟨o, x', f', hQ, gle_tr hlo hle2, ?_⟩
    intro p e R s m args below meth c0 A H locs cells slots ls ad C hPo hS hl hc hs T9 hT X
    obtain ⟨hP, hPO, hdis⟩ := fo_sp hn9 hPo
    have a1 := hle.2.1
    have a2 := hle.2.2
    have b1 : f1.2.2.1 ≤ f'.2.2.1 := hle2.2.1
    have b2 : f1.2.2.2 ≤ f'.2.2.2 := hle2.2.2
    have hc : cells + (f'.2.2.1 - f.2.2.1) ≤ R.cells := hc
    have hs : slots + (f'.2.2.2 - f.2.2.2) ≤ R.slots := hs
    rcases hrun p e R s m args below meth c0 A H locs cells slots ls ad C hP hS hl (by omega) (by omega) T9 hT X with ⟨v', st₀, t, T', L, h0, X', hL, e1, e2, ⟨ad1, hex, ⟨v2, ev1, ev2⟩, hP1, hF⟩, stp⟩ | ⟨q, st₀, t, T', L, X0, ce, h0, X', hL, e1, e2, ⟨ad1, hex, hn, -⟩, -⟩
    · cases ev1
      cases ev2
      have hin := gA_in (sz := H.size) hP (fun q hq => C.2.2.2.2 q (Nat.le_trans hS.1 hq))
      obtain ⟨k1, k2, k3⟩ := vx_keep h0 e1 hS (fun q _ h => hin q h) hin hL hF
      rw [← e1] at hP1
      obtain ⟨kp1, kp2⟩ := keep2 hPO hdis k2 hP1
      have hP2 : gP (wE E) (xo x x1) (fo f1) (ao ad ad1) A T'.heap := fo_mv hn1 hr1 hP1 hin kp1 kp2
      have hexo := exo hex
      have hl2 : lv_has ls y.2.2.1 (glc (ao ad ad1) lv) := by rw [glc_live hexo hlv]; exact hl
      have hw3 := hw2 p e R s m args below meth c0 A T'.heap (locs ++ L) (cells + (f1.2.2.1 - f.2.2.1)) (slots + (f1.2.2.2 - f.2.2.2)) ls (ao ad ad1) C hP2 k3 hl2 (by show _ + (f'.2.2.1 - f1.2.2.1) ≤ _; omega) (by show _ + (f'.2.2.2 - f1.2.2.2) ≤ _; omega)
      rw [List.map_append, gst_live hexo hrs] at hw3
      have hv : (v.toList).map (gcv (ao ad ad1)) = (v.map (gcv ad1)).toList := by rw [hr9]; rfl
      rw [hv] at hw3
      rw [show cells + (f1.2.2.1 - f.2.2.1) + (f'.2.2.1 - (fo f1).2.2.1) = cells + (f'.2.2.1 - (fo f).2.2.1) by show cells + (f1.2.2.1 - f.2.2.1) + (f'.2.2.1 - f1.2.2.1) = cells + (f'.2.2.1 - f.2.2.1); omega, show slots + (f1.2.2.2 - f.2.2.2) + (f'.2.2.2 - (fo f1).2.2.2) = slots + (f'.2.2.2 - (fo f).2.2.2) by show slots + (f1.2.2.2 - f.2.2.2) + (f'.2.2.2 - f1.2.2.2) = slots + (f'.2.2.2 - f.2.2.2); omega] at hw3
      obtain ⟨t2, s1, s2⟩ := hw3 T' rfl X'
      refine ⟨t2, stp t2 s1, vx_MQ_mono s2 (fun _ _ _ _ q => ?_) (fun _ _ _ q => ?_)⟩
      · obtain ⟨ad2, g1, g2⟩ := q; exact ⟨ad2, gex_tr hlo hexo g1, g2⟩
      · obtain ⟨ad2, g1, g2⟩ := q; exact ⟨ad2, gex_tr hlo hexo g1, g2⟩
    · cases hn
  | inr X1 =>
    obtain ⟨e9, i3, ln, ⟨⟨pre, suf, htab, hpass⟩, hcov, h0c, hlink, hcast⟩, hhs, hn3, h9, o, x', f', hQ, hle2, hw2⟩ := hk
    refine ⟨o, x', f', hQ, gle_tr hlo hle2, ?_⟩
    intro p e R s m args below meth c0 A H locs cells slots ls ad C hPo hS hl hc hs T9 hT X
    obtain ⟨hP, hPO, hdis⟩ := fo_sp hn9 hPo
    have a1 := hle.2.1
    have a2 := hle.2.2
    have b1 : f1.2.2.1 ≤ f'.2.2.1 := hle2.2.1
    have b2 : f1.2.2.2 ≤ f'.2.2.2 := hle2.2.2
    have hc : cells + (f'.2.2.1 - f.2.2.1) ≤ R.cells := hc
    have hs : slots + (f'.2.2.2 - f.2.2.2) ≤ R.slots := hs
    rcases hrun p e R s m args below meth c0 A H locs cells slots ls ad C hP hS hl (by omega) (by omega) T9 hT X with ⟨v', st₀, t, T', L, h0, X', hL, e1, e2, ⟨ad1, hex, ⟨v2, ev1, -⟩, -⟩, -⟩ | ⟨q, st₀, t, T', L, X0, ce, h00, X', hL, e1, e2, ⟨ad1, hex, hn, hP1, hF⟩, hce, hcv, hcl, stp⟩
    · cases ev1
    · cases hn
      have hin := gA_in (sz := H.size) hP (fun q hq => C.2.2.2.2 q (Nat.le_trans hS.1 hq))
      obtain ⟨k1, k2, k3⟩ := vx_keep h00 e1 hS (fun q _ h => hin q h) hin hL hF
      rw [← e1] at hP1
      obtain ⟨kp1, kp2⟩ := keep2 hPO hdis k2 hP1
      have hP2 : gP (wE E) (xo x x1) (fo f1) (ao ad ad1) A T'.heap := fo_mv hn1 hr1 hP1 hin kp1 kp2
      have hexo := exo hex
      have hl2 : lv_has ls y.2.2.1 (glc (ao ad ad1) lv) := by rw [glc_live hexo hlv]; exact hl
      have hw3 := fun (ls2 : Array Slot) (hl3 : lv_has ls2 y.2.2.1 (glc (ao ad ad1) lv)) => hw2 p e R s m args below meth c0 A T'.heap (locs ++ L) (cells + (f1.2.2.1 - f.2.2.1)) (slots + (f1.2.2.2 - f.2.2.2)) ls2 (ao ad ad1) C hP2 k3 hl3 (by show _ + (f'.2.2.1 - f1.2.2.1) ≤ _; omega) (by show _ + (f'.2.2.2 - f1.2.2.2) ≤ _; omega)
      rw [show cells + (f1.2.2.1 - f.2.2.1) + (f'.2.2.1 - (fo f1).2.2.1) = cells + (f'.2.2.1 - (fo f).2.2.1) by show cells + (f1.2.2.1 - f.2.2.1) + (f'.2.2.1 - f1.2.2.1) = cells + (f'.2.2.1 - f.2.2.1); omega, show slots + (f1.2.2.2 - f.2.2.2) + (f'.2.2.2 - (fo f1).2.2.2) = slots + (f'.2.2.2 - (fo f).2.2.2) by show slots + (f1.2.2.2 - f.2.2.2) + (f'.2.2.2 - f1.2.2.2) = slots + (f'.2.2.2 - f.2.2.2); omega] at hw3
      have hfl : (i3, Value.ref q) :: (glc (ao ad ad1) lv).filter (fun q => !(q.1 == i3) && !(q.1 + 1 == i3 && q.2.category == 2)) = (i3, Value.ref q) :: glc (ao ad ad1) lv := by
        have := gst1_c (ad := ao ad ad1) (i := i3) (v := vi 0) (lv := lv) rfl
        rw [h9] at this
        have h5 := (List.cons.inj this).2
        rw [h5]; rfl
      have hdrop : ∀ ls2, lv_has ls2 y.2.2.1 ((i3, Value.ref q) :: glc (ao ad ad1) lv) → lv_has ls2 y.2.2.1 (glc (ao ad ad1) lv) := fun ls2 hl3 => ⟨hl3.1, hl3.2.1, fun z hz => hl3.2.2 z (List.mem_cons_of_mem _ hz)⟩
      have hwh : W p E.1 e R s m args below meth c0 T'.heap (locs ++ L) (cells + (f1.2.2.1 - f.2.2.1)) (slots + (f1.2.2.2 - f.2.2.2)) (vx_MQ below (gQc (wE E) A (fo f1) (ao ad ad1) o x' f') (gXC (wE E) A (fo f1) (ao ad ad1) o x' f') args s (cells + (f'.2.2.1 - (fo f).2.2.1)) (slots + (f'.2.2.2 - (fo f).2.2.2)) A) (F0 m e9.handlerPc ls [.ref q]) := by
        rcases hhs with ⟨n3, hi3, rfl, hd2⟩ | ⟨rfl, hd2⟩
        · exact lv_astore_n (x := q) C.1.1 C.1.2.1 hd2 hi3 hl2 hn3 hfl (fun ls2 hl3 => hw3 ls2 (hdrop ls2 hl3))
        · exact lv_astore (x := q) C.1.1 C.1.2.1 hd2 hl2 hn3 hfl (fun ls2 hl3 => hw3 ls2 (hdrop ls2 hl3))
      have hcat9 := vx_catch (own := y.1.cls) (name := X1) (E := X1) (ce := ce) (q := q) (pc := pc) (ls := ls) (rest := rest.map (gcv ad)) C.1.2.2.2.1 pre e9 suf (by rw [C.2.1.2.2.1, htab]) (fun z hz => Or.inr (by obtain ⟨q1, nm, q2, q3⟩ := hpass z hz; exact ⟨q1, nm, C.1.2.2.2.2 _ q2, C.2.2.2.1.2.1.2.2.1 (X1, nm) q3⟩)) hcov h0c (C.1.2.2.2.2 _ hlink) (show (Cond.castable X1 X1).before args s = true from C.2.2.2.1.2.1.2.1 (.castable X1 X1) hcast) (by rw [e1]; exact hce) hcv hcl hwh
      obtain ⟨t2, s1, s2⟩ := hcat9 T' rfl X'
      refine ⟨t2, stp.trans s1, vx_MQ_mono s2 (fun _ _ _ _ q => ?_) (fun _ _ _ q => ?_)⟩
      · obtain ⟨ad2, g1, g2⟩ := q; exact ⟨ad2, gex_tr hlo hexo g1, g2⟩
      · obtain ⟨ad2, g1, g2⟩ := q; exact ⟨ad2, gex_tr hlo hexo g1, g2⟩
end GTR
theorem n299 {q : kP} (hu : kU q) : 299 ∉ q.L := fun h => kmd_no (q := q) (c := 299) (by decide) (fun _ => by decide) (fun _ => by decide) (fun _ => by decide) (fun _ => by decide) (by omega) (by omega) (by omega) (hu.2.1 299 h)
/-- how much a call makes: what its shape says, and an exception -/
def kst (q q1 : kP) : Prop := q1.ce + wC q ≤ q.ce + wC q1 + 1 ∧ q1.sl + wS q ≤ q.sl + wS q1 + 6
theorem kst_rf (q : kP) : kst q q := ⟨by omega, by omega⟩
theorem kst_th (q : kP) : kst q (kTh q) := ⟨by show q.ce + 1 + wC q ≤ q.ce + wC q + 1; omega, by show q.sl + 6 + wS q ≤ q.sl + wS q + 6; omega⟩
theorem kst_le {q q1 : kP} (h : kle q q1) : kst q q1 := ⟨by have := h.2.2.2.1; omega, by have := h.2.2.2.2; omega⟩
theorem HOI_1 {x y : gd} {q : kP} (e : y.1 = x.1) (hu : kU q) (h : HOI x q) : HOI y q := HOI_mk (kle_rf q) hu (fun c k _ => by rw [e]) h
def wq (q : kP) (P : Int32 → gd → kP → Prop) : gr → gd → gf → Prop := fun o x f => ∃ (r : Int32) (q1 : kP), o = .inl (some (vi r)) ∧ f = fo (kf q1) ∧ kU q1 ∧ kst q q1 ∧ HOI x q1 ∧ P r x q1
def okk (x : gd) (n : Int32) : Prop := 1 ≤ n.toInt ∧ n.toInt ≤ 8 ∧ (x.1 20 1).toInt + n.toInt ≤ 3000
end
section
abbrev zw_feed : gy := (yL_feed, cL_feed, 6, (some .int), [(0, 11, 14, 13)])
set_option maxRecDepth 100000 in
theorem dtk_L_feed : dck cL_feed [(0, .aload 4, 2), (2, .iconst 0, 1), (3, .aload_n 0, 1), (4, .iload_n 1, 1), (5, .lload_n 2, 1), (6, .invokevirtual 7, 3), (9, .i2l, 1), (10, .lastore, 1), (11, .goto 7, 3), (14, .astore 5, 2), (16, .iconst 1, 1), (17, .ireturn, 1), (18, .iconst 0, 1), (19, .ireturn, 1)] = true := by decide +kernel
set_option maxRecDepth 100000 in
theorem wca_feed : tables_1_5[43]? = some (Cond.codeWith yL_feed cL_feed 6 (some .int) [(0, 11, 14, 13)]) := rfl
theorem wcw_feed : Cond.codeWith yL_feed cL_feed 6 (some .int) [(0, 11, 14, 13)] ∈ W0 := W0_in (tp_5 (List.mem_of_getElem? wca_feed)) rfl
theorem kcv_L_7 : gMv RL 7 zk_X11_feed 2 := ⟨⟨W0_in (tp_5 (List.mem_of_getElem? (i := 45) (by decide +kernel))) rfl, W0_in (tp_5 (List.mem_of_getElem? (i := 46) (by decide +kernel))) rfl, W0_in (tp_5 (List.mem_of_getElem? (i := 47) (by decide +kernel))) rfl, W0_in (tp_1 (List.mem_of_getElem? (i := 1) (by decide +kernel))) rfl, kcw_X11_feed⟩, ⟨by decide, by decide, by decide +kernel⟩, by decide, by decide⟩
theorem wct_feed_iAE : gCat zw_feed 6 iAE ⟨0, 11, 14, 13⟩ := ⟨⟨[], [], rfl, fun z hz => nomatch hz⟩, rfl, by decide, (W0_in (tp_5 (List.mem_of_getElem? (i := 44) (by decide +kernel))) rfl), by decide⟩
set_option maxRecDepth 100000 in
set_option maxHeartbeats 4000000 in
theorem kw_feed {G : kG} {q : kP} {d : Nat} {x : gd} (hu : kU q) (hH : HOI x q) (l1 : Int32) (l2 : Int64) : T (wE (kE G)) (d + 30) zw_feed 0 [(0, vr 0), (1, vi l1), (2, vl l2), (4, vr 299)] [] x (fo (kf q)) (wq q (fun _ y q1 => (okk x l1 → ((y.1 20 1).toInt = (x.1 20 1).toInt + l1.toInt ∧ y.1 0 9 = 0 ∧ FBc x l2 l1.toInt.toNat y) ∧ ZR y) ∧ (¬ okk x l1 → KRd x y))) := by
  have m0 : 0 ∈ (fo (kf q)).2.1 := List.mem_append_left _ (kl_0 hu.1)
  have m9 : 299 ∈ (fo (kf q)).2.1 := List.mem_append_right _ (List.mem_singleton.mpr rfl)
  have n9 := n299 hu
  have r9 : NR (kf q) 299 := kU_NR hu n9
  refine T_aload 3 (dk dtk_L_feed 0 rfl) rfl ?_
  refine T_iconst (v := 0) (dk dtk_L_feed 1 rfl) (by decide +kernel) ?_
  refine T_aload_n 0 (dk dtk_L_feed 2 rfl) rfl rfl ?_
  refine T_iload_n 1 (dk dtk_L_feed 3 rfl) rfl rfl ?_
  refine T_lload_n 2 (dk dtk_L_feed 4 rfl) rfl rfl ?_
  have hend : ∀ (r : Int32) (y : gd) (q1 : kP), kU q1 → kst q q1 → HOI y q1 → (fun _ y q1 => (okk x l1 → ((y.1 20 1).toInt = (x.1 20 1).toInt + l1.toInt ∧ y.1 0 9 = 0 ∧ FBc x l2 l1.toInt.toNat y) ∧ ZR y) ∧ (¬ okk x l1 → KRd x y)) 0 y q1 → T (wE (kE G)) (d + 30) zw_feed 9 [(0, vr 0), (1, vi l1), (2, vl l2), (4, vr 299)] [vi r, vi 0, vr 299] y (fo (kf q1)) (wq q (fun _ y q1 => (okk x l1 → ((y.1 20 1).toInt = (x.1 20 1).toInt + l1.toInt ∧ y.1 0 9 = 0 ∧ FBc x l2 l1.toInt.toNat y) ∧ ZR y) ∧ (¬ okk x l1 → KRd x y))) := by
    intro r y q1 hu1 hk1 hH1 hp1
    have n91 : 299 ∈ (fo (kf q1)).2.1 := List.mem_append_right _ (List.mem_singleton.mpr rfl)
    refine T_i2l (dk dtk_L_feed 6 rfl) ?_
    refine T_last 299 1 (dk dtk_L_feed 7 rfl) wE_9 n91 (vin0 (by omega)) ?_
    refine T_goto 18 (dk dtk_L_feed 8 rfl) (by decide) ?_
    refine T_iconst (v := 0) (dk dtk_L_feed 12 rfl) (by decide +kernel) ?_
    exact T_iret (dk dtk_L_feed 13 rfl) rfl rfl ⟨0, q1, rfl, rfl, hu1, hk1, HOI_1 rfl hu1 hH1, hp1⟩
  have hxiAE : ¬ okk x l1 → gtry (kE G) (d + 30) zw_feed 6 [(0, vr 0), (1, vi l1), (2, vl l2), (4, vr 299)] [vi 0, vr 299] (wq q (fun _ y q1 => (okk x l1 → ((y.1 20 1).toInt = (x.1 20 1).toInt + l1.toInt ∧ y.1 0 9 = 0 ∧ FBc x l2 l1.toInt.toNat y) ∧ ZR y) ∧ (¬ okk x l1 → KRd x y))) x (.inr iAE) x (gth (kf q)) := by
    intro hno
    refine ⟨⟨n9, r9⟩, ⟨0, 11, 14, 13⟩, 5, 2, wct_feed_iAE, Or.inr ⟨rfl, (dk dtk_L_feed 9 rfl)⟩, by decide, rfl, ?_⟩
    refine T_iconst (v := 1) (dk dtk_L_feed 10 rfl) (by decide +kernel) ?_
    exact T_iret (dk dtk_L_feed 11 rfl) rfl rfl ⟨1, kTh q, rfl, rfl, kTh_U hu, kst_th q, HOI_1 rfl (kTh_U hu) (HOI_th hH), ⟨fun e => absurd e hno, fun _ => KR_rf⟩⟩
  refine T_tryF (E := kE G) [vi l1, vl l2] [vi 0, vr 299] (d + 7) rfl (dk dtk_L_feed 5 rfl) kcv_L_7 rfl kk_0 rfl (kl_0 hu.1) (by omega) (Nat.le_of_ble_eq_true rfl) (Nat.le_of_ble_eq_true rfl) (gok_i (av_c (gkr m0) (av_c rfl (av_c rfl (av_c (gkr m9) av_n)))) (as_c rfl (as_c (gkr m9) as_n))) rfl n9 ?_
  refine T_mono (kr_feed (d := d) hu.1 hH l1 l2 (P := fun v9 y9 => okk x l1 ∧ ∃ r, v9 = some (vi r) ∧ HOI y9 q ∧ (((y9.1 20 1).toInt = (x.1 20 1).toInt + l1.toInt ∧ y9.1 0 9 = 0 ∧ FBc x l2 l1.toInt.toNat y9) ∧ ZR y9)) (X := fun c9 y9 => c9 = iAE ∧ y9 = x ∧ ¬ okk x l1) (fun hn => ⟨rfl, rfl, hn⟩) (fun hy y h1 h2 => ⟨hy, _, rfl, h1, h2⟩)) (fun o9 x9 f9 w9 => ?_)
  rcases w9 with ⟨rfl, v, rfl, hy, r, rfl, h1, h2⟩ | ⟨rfl, c9, rfl, rfl, rfl, hno⟩
  · exact ⟨⟨n9, r9⟩, ⟨r, rfl⟩, hend r (xo x x9) q hu (kst_rf q) (HOI_1 rfl hu h1) ⟨fun _ => h2, fun e => absurd hy e⟩⟩
  · exact hxiAE hno
abbrev zw_fault : gy := (yL_fault, cL_fault, 4, (some .int), [(0, 9, 12, 19)])
set_option maxRecDepth 100000 in
theorem dtk_L_fault : dck cL_fault [(0, .aload_n 2, 1), (1, .iconst 0, 1), (2, .aload_n 0, 1), (3, .iload_n 1, 1), (4, .invokevirtual 15, 3), (7, .i2l, 1), (8, .lastore, 1), (9, .goto 6, 3), (12, .astore_n 3, 1), (13, .iconst 1, 1), (14, .ireturn, 1), (15, .iconst 0, 1), (16, .ireturn, 1)] = true := by decide +kernel
set_option maxRecDepth 100000 in
theorem wca_fault : tables_1_5[72]? = some (Cond.codeWith yL_fault cL_fault 4 (some .int) [(0, 9, 12, 19)]) := rfl
theorem wcw_fault : Cond.codeWith yL_fault cL_fault 4 (some .int) [(0, 9, 12, 19)] ∈ W0 := W0_in (tp_5 (List.mem_of_getElem? wca_fault)) rfl
theorem kcv_L_15 : gMv RL 15 zk_X11_fault 1 := ⟨⟨W0_in (tp_5 (List.mem_of_getElem? (i := 74) (by decide +kernel))) rfl, W0_in (tp_5 (List.mem_of_getElem? (i := 75) (by decide +kernel))) rfl, W0_in (tp_5 (List.mem_of_getElem? (i := 76) (by decide +kernel))) rfl, W0_in (tp_1 (List.mem_of_getElem? (i := 1) (by decide +kernel))) rfl, kcw_X11_fault⟩, ⟨by decide, by decide, by decide +kernel⟩, by decide, by decide⟩
theorem wct_fault_iOE : gCat zw_fault 4 iOE ⟨0, 9, 12, 19⟩ := ⟨⟨[], [], rfl, fun z hz => nomatch hz⟩, rfl, by decide, (W0_in (tp_5 (List.mem_of_getElem? (i := 73) (by decide +kernel))) rfl), by decide⟩
set_option maxRecDepth 100000 in
set_option maxHeartbeats 4000000 in
theorem kw_fault {G : kG} {q : kP} {d : Nat} {x : gd} (hu : kU q) (hH : HOI x q) (l1 : Int32) : T (wE (kE G)) (d + 30) zw_fault 0 [(0, vr 0), (1, vi l1), (2, vr 299)] [] x (fo (kf q)) (wq q (fun _ y q1 => KRd x y)) := by
  have m0 : 0 ∈ (fo (kf q)).2.1 := List.mem_append_left _ (kl_0 hu.1)
  have m9 : 299 ∈ (fo (kf q)).2.1 := List.mem_append_right _ (List.mem_singleton.mpr rfl)
  have n9 := n299 hu
  have r9 : NR (kf q) 299 := kU_NR hu n9
  refine T_aload_n 2 (dk dtk_L_fault 0 rfl) rfl rfl ?_
  refine T_iconst (v := 0) (dk dtk_L_fault 1 rfl) (by decide +kernel) ?_
  refine T_aload_n 0 (dk dtk_L_fault 2 rfl) rfl rfl ?_
  refine T_iload_n 1 (dk dtk_L_fault 3 rfl) rfl rfl ?_
  have hend : ∀ (r : Int32) (y : gd) (q1 : kP), kU q1 → kst q q1 → HOI y q1 → (fun _ y q1 => KRd x y) 0 y q1 → T (wE (kE G)) (d + 30) zw_fault 7 [(0, vr 0), (1, vi l1), (2, vr 299)] [vi r, vi 0, vr 299] y (fo (kf q1)) (wq q (fun _ y q1 => KRd x y)) := by
    intro r y q1 hu1 hk1 hH1 hp1
    have n91 : 299 ∈ (fo (kf q1)).2.1 := List.mem_append_right _ (List.mem_singleton.mpr rfl)
    refine T_i2l (dk dtk_L_fault 5 rfl) ?_
    refine T_last 299 1 (dk dtk_L_fault 6 rfl) wE_9 n91 (vin0 (by omega)) ?_
    refine T_goto 15 (dk dtk_L_fault 7 rfl) (by decide) ?_
    refine T_iconst (v := 0) (dk dtk_L_fault 11 rfl) (by decide +kernel) ?_
    exact T_iret (dk dtk_L_fault 12 rfl) rfl rfl ⟨0, q1, rfl, rfl, hu1, hk1, HOI_1 rfl hu1 hH1, hp1⟩
  have hxiOE : gtry (kE G) (d + 30) zw_fault 4 [(0, vr 0), (1, vi l1), (2, vr 299)] [vi 0, vr 299] (wq q (fun _ y q1 => KRd x y)) x (.inr iOE) x (gth (kf q)) := by
    refine ⟨⟨n9, r9⟩, ⟨0, 9, 12, 19⟩, 3, 1, wct_fault_iOE, Or.inl ⟨3, rfl, rfl, (dk dtk_L_fault 8 rfl)⟩, by decide, rfl, ?_⟩
    refine T_iconst (v := 1) (dk dtk_L_fault 9 rfl) (by decide +kernel) ?_
    exact T_iret (dk dtk_L_fault 10 rfl) rfl rfl ⟨1, kTh q, rfl, rfl, kTh_U hu, kst_th q, HOI_1 rfl (kTh_U hu) (HOI_th hH), KR_rf⟩
  refine T_tryF (E := kE G) [vi l1] [vi 0, vr 299] (d + 6) rfl (dk dtk_L_fault 4 rfl) kcv_L_15 rfl kk_0 rfl (kl_0 hu.1) (by omega) (Nat.le_of_ble_eq_true rfl) (Nat.le_of_ble_eq_true rfl) (gok_i (av_c (gkr m0) (av_c rfl (av_c (gkr m9) av_n))) (as_c rfl (as_c (gkr m9) as_n))) rfl n9 ?_
  refine T_mono (kr_fault (d := d) hu.1 hH l1 (P := fun v9 y9 => ∃ r, v9 = some (vi r) ∧ HOI y9 q ∧ KRd x y9) (X := fun c9 y9 => (c9 = iOE) ∧ y9 = x) ⟨rfl, rfl⟩ (fun r y h1 h2 => ⟨r, rfl, h1, h2⟩)) (fun o9 x9 f9 w9 => ?_)
  rcases w9 with ⟨rfl, v, rfl, r, rfl, h1, h2⟩ | ⟨rfl, c9, rfl, hc, rfl⟩
  · exact ⟨⟨n9, r9⟩, ⟨r, rfl⟩, hend r (xo x x9) q hu (kst_rf q) (HOI_1 rfl hu h1) h2⟩
  · rw [hc]; exact hxiOE
abbrev zw_count : gy := (yL_count, cL_count, 4, (some .int), [(0, 9, 12, 19)])
set_option maxRecDepth 100000 in
theorem dtk_L_count : dck cL_count [(0, .aload_n 2, 1), (1, .iconst 0, 1), (2, .aload_n 0, 1), (3, .iload_n 1, 1), (4, .invokevirtual 21, 3), (7, .i2l, 1), (8, .lastore, 1), (9, .goto 6, 3), (12, .astore_n 3, 1), (13, .iconst 1, 1), (14, .ireturn, 1), (15, .iconst 0, 1), (16, .ireturn, 1)] = true := by decide +kernel
set_option maxRecDepth 100000 in
theorem wca_count : tables_1_5[96]? = some (Cond.codeWith yL_count cL_count 4 (some .int) [(0, 9, 12, 19)]) := rfl
theorem wcw_count : Cond.codeWith yL_count cL_count 4 (some .int) [(0, 9, 12, 19)] ∈ W0 := W0_in (tp_5 (List.mem_of_getElem? wca_count)) rfl
theorem kcv_L_21 : gMv RL 21 zk_X11_count 1 := ⟨⟨W0_in (tp_5 (List.mem_of_getElem? (i := 97) (by decide +kernel))) rfl, W0_in (tp_5 (List.mem_of_getElem? (i := 98) (by decide +kernel))) rfl, W0_in (tp_5 (List.mem_of_getElem? (i := 99) (by decide +kernel))) rfl, W0_in (tp_1 (List.mem_of_getElem? (i := 1) (by decide +kernel))) rfl, kcw_X11_count⟩, ⟨by decide, by decide, by decide +kernel⟩, by decide, by decide⟩
theorem wct_count_iOE : gCat zw_count 4 iOE ⟨0, 9, 12, 19⟩ := ⟨⟨[], [], rfl, fun z hz => nomatch hz⟩, rfl, by decide, (W0_in (tp_5 (List.mem_of_getElem? (i := 73) (by decide +kernel))) rfl), by decide⟩
set_option maxRecDepth 100000 in
set_option maxHeartbeats 4000000 in
theorem kw_count {G : kG} {q : kP} {d : Nat} {x : gd} (hu : kU q) (hH : HOI x q) (l1 : Int32) : T (wE (kE G)) (d + 30) zw_count 0 [(0, vr 0), (1, vi l1), (2, vr 299)] [] x (fo (kf q)) (wq q (fun _ y q1 => KRd x y)) := by
  have m0 : 0 ∈ (fo (kf q)).2.1 := List.mem_append_left _ (kl_0 hu.1)
  have m9 : 299 ∈ (fo (kf q)).2.1 := List.mem_append_right _ (List.mem_singleton.mpr rfl)
  have n9 := n299 hu
  have r9 : NR (kf q) 299 := kU_NR hu n9
  refine T_aload_n 2 (dk dtk_L_count 0 rfl) rfl rfl ?_
  refine T_iconst (v := 0) (dk dtk_L_count 1 rfl) (by decide +kernel) ?_
  refine T_aload_n 0 (dk dtk_L_count 2 rfl) rfl rfl ?_
  refine T_iload_n 1 (dk dtk_L_count 3 rfl) rfl rfl ?_
  have hend : ∀ (r : Int32) (y : gd) (q1 : kP), kU q1 → kst q q1 → HOI y q1 → (fun _ y q1 => KRd x y) 0 y q1 → T (wE (kE G)) (d + 30) zw_count 7 [(0, vr 0), (1, vi l1), (2, vr 299)] [vi r, vi 0, vr 299] y (fo (kf q1)) (wq q (fun _ y q1 => KRd x y)) := by
    intro r y q1 hu1 hk1 hH1 hp1
    have n91 : 299 ∈ (fo (kf q1)).2.1 := List.mem_append_right _ (List.mem_singleton.mpr rfl)
    refine T_i2l (dk dtk_L_count 5 rfl) ?_
    refine T_last 299 1 (dk dtk_L_count 6 rfl) wE_9 n91 (vin0 (by omega)) ?_
    refine T_goto 15 (dk dtk_L_count 7 rfl) (by decide) ?_
    refine T_iconst (v := 0) (dk dtk_L_count 11 rfl) (by decide +kernel) ?_
    exact T_iret (dk dtk_L_count 12 rfl) rfl rfl ⟨0, q1, rfl, rfl, hu1, hk1, HOI_1 rfl hu1 hH1, hp1⟩
  have hxiOE : gtry (kE G) (d + 30) zw_count 4 [(0, vr 0), (1, vi l1), (2, vr 299)] [vi 0, vr 299] (wq q (fun _ y q1 => KRd x y)) x (.inr iOE) x (gth (kf q)) := by
    refine ⟨⟨n9, r9⟩, ⟨0, 9, 12, 19⟩, 3, 1, wct_count_iOE, Or.inl ⟨3, rfl, rfl, (dk dtk_L_count 8 rfl)⟩, by decide, rfl, ?_⟩
    refine T_iconst (v := 1) (dk dtk_L_count 9 rfl) (by decide +kernel) ?_
    exact T_iret (dk dtk_L_count 10 rfl) rfl rfl ⟨1, kTh q, rfl, rfl, kTh_U hu, kst_th q, HOI_1 rfl (kTh_U hu) (HOI_th hH), KR_rf⟩
  refine T_tryF (E := kE G) [vi l1] [vi 0, vr 299] (d + 7) rfl (dk dtk_L_count 4 rfl) kcv_L_21 rfl kk_0 rfl (kl_0 hu.1) (by omega) (Nat.le_of_ble_eq_true rfl) (Nat.le_of_ble_eq_true rfl) (gok_i (av_c (gkr m0) (av_c rfl (av_c (gkr m9) av_n))) (as_c rfl (as_c (gkr m9) as_n))) rfl n9 ?_
  refine T_mono (kz_count (d := d) hu.1 hH l1 (P := fun v9 y9 => ∃ r, v9 = some (vi r) ∧ HOI y9 q ∧ KRd x y9) (X := fun c9 y9 => c9 = iOE ∧ y9 = x) (fun hn => ⟨rfl, rfl⟩) (fun hy r y h1 h2 h3 => ⟨r, rfl, h1, by rw [h2]; exact KR_rf⟩)) (fun o9 x9 f9 w9 => ?_)
  rcases w9 with ⟨rfl, v, rfl, r, rfl, h1, h2⟩ | ⟨rfl, c9, rfl, rfl, rfl⟩
  · exact ⟨⟨n9, r9⟩, ⟨r, rfl⟩, hend r (xo x x9) q hu (kst_rf q) (HOI_1 rfl hu h1) h2⟩
  · exact hxiOE
abbrev zw_begin : gy := (yL_begin, cL_begin, 4, (some .int), [(0, 9, 12, 27), (0, 9, 15, 13)])
set_option maxRecDepth 100000 in
theorem dtk_L_begin : dck cL_begin [(0, .aload_n 2, 1), (1, .iconst 0, 1), (2, .aload_n 0, 1), (3, .iload_n 1, 1), (4, .invokevirtual 24, 3), (7, .i2l, 1), (8, .lastore, 1), (9, .goto 9, 3), (12, .astore_n 3, 1), (13, .iconst 1, 1), (14, .ireturn, 1), (15, .astore_n 3, 1), (16, .iconst 2, 1), (17, .ireturn, 1), (18, .iconst 0, 1), (19, .ireturn, 1)] = true := by decide +kernel
set_option maxRecDepth 100000 in
theorem wca_begin : tables_1_5[106]? = some (Cond.codeWith yL_begin cL_begin 4 (some .int) [(0, 9, 12, 27), (0, 9, 15, 13)]) := rfl
theorem wcw_begin : Cond.codeWith yL_begin cL_begin 4 (some .int) [(0, 9, 12, 27), (0, 9, 15, 13)] ∈ W0 := W0_in (tp_5 (List.mem_of_getElem? wca_begin)) rfl
theorem kcv_L_24 : gMv RL 24 zk_X11_begin 1 := ⟨⟨W0_in (tp_5 (List.mem_of_getElem? (i := 108) (by decide +kernel))) rfl, W0_in (tp_5 (List.mem_of_getElem? (i := 109) (by decide +kernel))) rfl, W0_in (tp_5 (List.mem_of_getElem? (i := 110) (by decide +kernel))) rfl, W0_in (tp_1 (List.mem_of_getElem? (i := 1) (by decide +kernel))) rfl, kcw_X11_begin⟩, ⟨by decide, by decide, by decide +kernel⟩, by decide, by decide⟩
theorem wct_begin_iSE : gCat zw_begin 4 iSE ⟨0, 9, 12, 27⟩ := ⟨⟨[], [⟨0, 9, 15, 13⟩], rfl, fun z hz => nomatch hz⟩, rfl, by decide, (W0_in (tp_5 (List.mem_of_getElem? (i := 107) (by decide +kernel))) rfl), by decide⟩
theorem wct_begin_iAE : gCat zw_begin 4 iAE ⟨0, 9, 15, 13⟩ := ⟨⟨[⟨0, 9, 12, 27⟩], [], rfl, fun z hz => by
  cases hz with
  | head => exact ⟨by decide, iSE, (W0_in (tp_5 (List.mem_of_getElem? (i := 107) (by decide +kernel))) rfl), by decide⟩
  | tail _ hz => cases hz⟩, rfl, by decide, (W0_in (tp_5 (List.mem_of_getElem? (i := 44) (by decide +kernel))) rfl), by decide⟩
set_option maxRecDepth 100000 in
set_option maxHeartbeats 4000000 in
theorem kw_begin {G : kG} {q : kP} {d : Nat} {x : gd} {C : gCo} {wr n : Nat} {lm : Nat → Nat} {w : gd} (hj : JH C wr n lm x w) (hu : kU q) (hH : HOI x q) (l1 : Int32) : T (wE (kE G)) (d + 30) zw_begin 0 [(0, vr 0), (1, vi l1), (2, vr 299)] [] x (fo (kf q)) (wq q (fun r9 y q1 => ansK (e1Bg x) (e2Bg x l1) (sBg C x l1) x r9 y)) := by
  have m0 : 0 ∈ (fo (kf q)).2.1 := List.mem_append_left _ (kl_0 hu.1)
  have m9 : 299 ∈ (fo (kf q)).2.1 := List.mem_append_right _ (List.mem_singleton.mpr rfl)
  have n9 := n299 hu
  have r9 : NR (kf q) 299 := kU_NR hu n9
  refine T_aload_n 2 (dk dtk_L_begin 0 rfl) rfl rfl ?_
  refine T_iconst (v := 0) (dk dtk_L_begin 1 rfl) (by decide +kernel) ?_
  refine T_aload_n 0 (dk dtk_L_begin 2 rfl) rfl rfl ?_
  refine T_iload_n 1 (dk dtk_L_begin 3 rfl) rfl rfl ?_
  have hend : ∀ (r : Int32) (y : gd) (q1 : kP), kU q1 → kst q q1 → HOI y q1 → ¬ (e1Bg x) ∧ ¬ (e2Bg x l1) ∧ sBg C x l1 r y → T (wE (kE G)) (d + 30) zw_begin 7 [(0, vr 0), (1, vi l1), (2, vr 299)] [vi r, vi 0, vr 299] y (fo (kf q1)) (wq q (fun r9 y q1 => ansK (e1Bg x) (e2Bg x l1) (sBg C x l1) x r9 y)) := by
    intro r y q1 hu1 hk1 hH1 hp1
    have n91 : 299 ∈ (fo (kf q1)).2.1 := List.mem_append_right _ (List.mem_singleton.mpr rfl)
    refine T_i2l (dk dtk_L_begin 5 rfl) ?_
    refine T_last 299 1 (dk dtk_L_begin 6 rfl) wE_9 n91 (vin0 (by omega)) ?_
    refine T_goto 18 (dk dtk_L_begin 7 rfl) (by decide) ?_
    refine T_iconst (v := 0) (dk dtk_L_begin 14 rfl) (by decide +kernel) ?_
    exact T_iret (dk dtk_L_begin 15 rfl) rfl rfl ⟨0, q1, rfl, rfl, hu1, hk1, HOI_1 rfl hu1 hH1, Or.inr (Or.inr ⟨hp1.1, hp1.2.1, rfl, r, by rw [sL_c]; exact if_pos rfl, hp1.2.2⟩)⟩
  have hxiSE : e1Bg x → gtry (kE G) (d + 30) zw_begin 4 [(0, vr 0), (1, vi l1), (2, vr 299)] [vi 0, vr 299] (wq q (fun r9 y q1 => ansK (e1Bg x) (e2Bg x l1) (sBg C x l1) x r9 y)) x (.inr iSE) x (gth (kf q)) := by
    intro hno
    refine ⟨⟨n9, r9⟩, ⟨0, 9, 12, 27⟩, 3, 1, wct_begin_iSE, Or.inl ⟨3, rfl, rfl, (dk dtk_L_begin 8 rfl)⟩, by decide, rfl, ?_⟩
    refine T_iconst (v := 1) (dk dtk_L_begin 9 rfl) (by decide +kernel) ?_
    exact T_iret (dk dtk_L_begin 10 rfl) rfl rfl ⟨1, kTh q, rfl, rfl, kTh_U hu, kst_th q, HOI_1 rfl (kTh_U hu) (HOI_th hH), Or.inl ⟨hno, rfl, KR_rf⟩⟩
  have hxiAE : e2Bg x l1 → gtry (kE G) (d + 30) zw_begin 4 [(0, vr 0), (1, vi l1), (2, vr 299)] [vi 0, vr 299] (wq q (fun r9 y q1 => ansK (e1Bg x) (e2Bg x l1) (sBg C x l1) x r9 y)) x (.inr iAE) x (gth (kf q)) := by
    intro hno
    refine ⟨⟨n9, r9⟩, ⟨0, 9, 15, 13⟩, 3, 1, wct_begin_iAE, Or.inl ⟨3, rfl, rfl, (dk dtk_L_begin 11 rfl)⟩, by decide, rfl, ?_⟩
    refine T_iconst (v := 2) (dk dtk_L_begin 12 rfl) (by decide +kernel) ?_
    exact T_iret (dk dtk_L_begin 13 rfl) rfl rfl ⟨2, kTh q, rfl, rfl, kTh_U hu, kst_th q, HOI_1 rfl (kTh_U hu) (HOI_th hH), Or.inr (Or.inl ⟨hno, rfl, KR_rf⟩)⟩
  refine T_tryF (E := kE G) [vi l1] [vi 0, vr 299] (d + 7) rfl (dk dtk_L_begin 4 rfl) kcv_L_24 rfl kk_0 rfl (kl_0 hu.1) (by omega) (Nat.le_of_ble_eq_true rfl) (Nat.le_of_ble_eq_true rfl) (gok_i (av_c (gkr m0) (av_c rfl (av_c (gkr m9) av_n))) (as_c rfl (as_c (gkr m9) as_n))) rfl n9 ?_
  refine T_mono (ka_begin (d := d) hj hu.1 hH l1 (P := fun v9 y9 => ∃ r, v9 = some (vi r) ∧ HOI y9 q ∧ ¬ (e1Bg x) ∧ ¬ (e2Bg x l1) ∧ sBg C x l1 r y9) (X := fun c9 y9 => ((c9 = iSE ∧ e1Bg x) ∨ (c9 = iAE ∧ e2Bg x l1)) ∧ y9 = x) (fun h9 => ⟨Or.inl ⟨rfl, h9⟩, rfl⟩) (fun h9 => ⟨Or.inr ⟨rfl, h9⟩, rfl⟩) (fun h8 h9 r y h1 h2 => ⟨r, rfl, h1, h8, h9, h2⟩)) (fun o9 x9 f9 w9 => ?_)
  rcases w9 with ⟨rfl, v, rfl, r, rfl, h1, h2⟩ | ⟨rfl, c9, rfl, hc, rfl⟩
  · exact ⟨⟨n9, r9⟩, ⟨r, rfl⟩, hend r (xo x x9) q hu (kst_rf q) (HOI_1 rfl hu h1) h2⟩
  · rcases hc with ⟨rfl, hno⟩ | ⟨rfl, hno⟩
    · exact hxiSE hno
    · exact hxiAE hno
abbrev zw_choices : gy := (yL_choices, cL_choices, 3, (some .int), [(0, 8, 11, 27)])
set_option maxRecDepth 100000 in
theorem dtk_L_choices : dck cL_choices [(0, .aload_n 1, 1), (1, .iconst 0, 1), (2, .aload_n 0, 1), (3, .invokevirtual 29, 3), (6, .i2l, 1), (7, .lastore, 1), (8, .goto 6, 3), (11, .astore_n 2, 1), (12, .iconst 1, 1), (13, .ireturn, 1), (14, .iconst 0, 1), (15, .ireturn, 1)] = true := by decide +kernel
set_option maxRecDepth 100000 in
theorem wca_choices : tables_1_5[227]? = some (Cond.codeWith yL_choices cL_choices 3 (some .int) [(0, 8, 11, 27)]) := rfl
theorem wcw_choices : Cond.codeWith yL_choices cL_choices 3 (some .int) [(0, 8, 11, 27)] ∈ W0 := W0_in (tp_5 (List.mem_of_getElem? wca_choices)) rfl
theorem kcv_L_29 : gMv RL 29 zk_X11_choices 0 := ⟨⟨W0_in (tp_5 (List.mem_of_getElem? (i := 228) (by decide +kernel))) rfl, W0_in (tp_5 (List.mem_of_getElem? (i := 229) (by decide +kernel))) rfl, W0_in (tp_5 (List.mem_of_getElem? (i := 230) (by decide +kernel))) rfl, W0_in (tp_1 (List.mem_of_getElem? (i := 1) (by decide +kernel))) rfl, kcw_X11_choices⟩, ⟨by decide, by decide, by decide +kernel⟩, by decide, by decide⟩
theorem wct_choices_iSE : gCat zw_choices 3 iSE ⟨0, 8, 11, 27⟩ := ⟨⟨[], [], rfl, fun z hz => nomatch hz⟩, rfl, by decide, (W0_in (tp_5 (List.mem_of_getElem? (i := 107) (by decide +kernel))) rfl), by decide⟩
set_option maxRecDepth 100000 in
set_option maxHeartbeats 4000000 in
theorem kw_choices {G : kG} {q : kP} {d : Nat} {x : gd} (hu : kU q) (hH : HOI x q)  : T (wE (kE G)) (d + 30) zw_choices 0 [(0, vr 0), (1, vr 299)] [] x (fo (kf q)) (wq q (fun r9 y q1 => ansK (e1Ch x) (False) (sCh x) x r9 y)) := by
  have m0 : 0 ∈ (fo (kf q)).2.1 := List.mem_append_left _ (kl_0 hu.1)
  have m9 : 299 ∈ (fo (kf q)).2.1 := List.mem_append_right _ (List.mem_singleton.mpr rfl)
  have n9 := n299 hu
  have r9 : NR (kf q) 299 := kU_NR hu n9
  refine T_aload_n 1 (dk dtk_L_choices 0 rfl) rfl rfl ?_
  refine T_iconst (v := 0) (dk dtk_L_choices 1 rfl) (by decide +kernel) ?_
  refine T_aload_n 0 (dk dtk_L_choices 2 rfl) rfl rfl ?_
  have hend : ∀ (r : Int32) (y : gd) (q1 : kP), kU q1 → kst q q1 → HOI y q1 → ¬ (e1Ch x) ∧ ¬ (False) ∧ sCh x r y → T (wE (kE G)) (d + 30) zw_choices 6 [(0, vr 0), (1, vr 299)] [vi r, vi 0, vr 299] y (fo (kf q1)) (wq q (fun r9 y q1 => ansK (e1Ch x) (False) (sCh x) x r9 y)) := by
    intro r y q1 hu1 hk1 hH1 hp1
    have n91 : 299 ∈ (fo (kf q1)).2.1 := List.mem_append_right _ (List.mem_singleton.mpr rfl)
    refine T_i2l (dk dtk_L_choices 4 rfl) ?_
    refine T_last 299 1 (dk dtk_L_choices 5 rfl) wE_9 n91 (vin0 (by omega)) ?_
    refine T_goto 14 (dk dtk_L_choices 6 rfl) (by decide) ?_
    refine T_iconst (v := 0) (dk dtk_L_choices 10 rfl) (by decide +kernel) ?_
    exact T_iret (dk dtk_L_choices 11 rfl) rfl rfl ⟨0, q1, rfl, rfl, hu1, hk1, HOI_1 rfl hu1 hH1, Or.inr (Or.inr ⟨hp1.1, hp1.2.1, rfl, r, by rw [sL_c]; exact if_pos rfl, hp1.2.2⟩)⟩
  have hxiSE : e1Ch x → gtry (kE G) (d + 30) zw_choices 3 [(0, vr 0), (1, vr 299)] [vi 0, vr 299] (wq q (fun r9 y q1 => ansK (e1Ch x) (False) (sCh x) x r9 y)) x (.inr iSE) x (gth (kf q)) := by
    intro hno
    refine ⟨⟨n9, r9⟩, ⟨0, 8, 11, 27⟩, 2, 1, wct_choices_iSE, Or.inl ⟨2, rfl, rfl, (dk dtk_L_choices 7 rfl)⟩, by decide, rfl, ?_⟩
    refine T_iconst (v := 1) (dk dtk_L_choices 8 rfl) (by decide +kernel) ?_
    exact T_iret (dk dtk_L_choices 9 rfl) rfl rfl ⟨1, kTh q, rfl, rfl, kTh_U hu, kst_th q, HOI_1 rfl (kTh_U hu) (HOI_th hH), Or.inl ⟨hno, rfl, KR_rf⟩⟩
  refine T_tryF (E := kE G) [] [vi 0, vr 299] (d + 7) rfl (dk dtk_L_choices 3 rfl) kcv_L_29 rfl kk_0 rfl (kl_0 hu.1) (by omega) (Nat.le_of_ble_eq_true rfl) (Nat.le_of_ble_eq_true rfl) (gok_i (av_c (gkr m0) (av_c (gkr m9) av_n)) (as_c rfl (as_c (gkr m9) as_n))) rfl n9 ?_
  refine T_mono (ka_choices (d := d) hu.1 hH  (P := fun v9 y9 => ∃ r, v9 = some (vi r) ∧ HOI y9 q ∧ ¬ (e1Ch x) ∧ ¬ (False) ∧ sCh x r y9) (X := fun c9 y9 => ((c9 = iSE ∧ e1Ch x)) ∧ y9 = x) (fun h9 => ⟨⟨rfl, h9⟩, rfl⟩) (fun h8 h9 r y h1 h2 => ⟨r, rfl, h1, h8, h9, h2⟩)) (fun o9 x9 f9 w9 => ?_)
  rcases w9 with ⟨rfl, v, rfl, r, rfl, h1, h2⟩ | ⟨rfl, c9, rfl, hc, rfl⟩
  · exact ⟨⟨n9, r9⟩, ⟨r, rfl⟩, hend r (xo x x9) q hu (kst_rf q) (HOI_1 rfl hu h1) h2⟩
  · obtain ⟨rfl, hno⟩ := hc
    exact hxiSE hno
abbrev zw_choice : gy := (yL_choice, cL_choice, 5, (some .int), [(0, 10, 13, 27), (0, 10, 17, 19)])
set_option maxRecDepth 100000 in
theorem dtk_L_choice : dck cL_choice [(0, .aload_n 3, 1), (1, .iconst 0, 1), (2, .aload_n 0, 1), (3, .iload_n 1, 1), (4, .iload_n 2, 1), (5, .invokevirtual 33, 3), (8, .i2l, 1), (9, .lastore, 1), (10, .goto 11, 3), (13, .astore 4, 2), (15, .iconst 1, 1), (16, .ireturn, 1), (17, .astore 4, 2), (19, .iconst 2, 1), (20, .ireturn, 1), (21, .iconst 0, 1), (22, .ireturn, 1)] = true := by decide +kernel
set_option maxRecDepth 100000 in
theorem wca_choice : tables_1_5[239]? = some (Cond.codeWith yL_choice cL_choice 5 (some .int) [(0, 10, 13, 27), (0, 10, 17, 19)]) := rfl
theorem wcw_choice : Cond.codeWith yL_choice cL_choice 5 (some .int) [(0, 10, 13, 27), (0, 10, 17, 19)] ∈ W0 := W0_in (tp_5 (List.mem_of_getElem? wca_choice)) rfl
theorem kcv_L_33 : gMv RL 33 zk_X11_choice 2 := ⟨⟨W0_in (tp_6 (List.mem_of_getElem? (i := 0) (by decide +kernel))) rfl, W0_in (tp_6 (List.mem_of_getElem? (i := 1) (by decide +kernel))) rfl, W0_in (tp_6 (List.mem_of_getElem? (i := 2) (by decide +kernel))) rfl, W0_in (tp_1 (List.mem_of_getElem? (i := 1) (by decide +kernel))) rfl, kcw_X11_choice⟩, ⟨by decide, by decide, by decide +kernel⟩, by decide, by decide⟩
theorem wct_choice_iSE : gCat zw_choice 5 iSE ⟨0, 10, 13, 27⟩ := ⟨⟨[], [⟨0, 10, 17, 19⟩], rfl, fun z hz => nomatch hz⟩, rfl, by decide, (W0_in (tp_5 (List.mem_of_getElem? (i := 107) (by decide +kernel))) rfl), by decide⟩
theorem wct_choice_iOE : gCat zw_choice 5 iOE ⟨0, 10, 17, 19⟩ := ⟨⟨[⟨0, 10, 13, 27⟩], [], rfl, fun z hz => by
  cases hz with
  | head => exact ⟨by decide, iSE, (W0_in (tp_5 (List.mem_of_getElem? (i := 107) (by decide +kernel))) rfl), by decide⟩
  | tail _ hz => cases hz⟩, rfl, by decide, (W0_in (tp_5 (List.mem_of_getElem? (i := 73) (by decide +kernel))) rfl), by decide⟩
set_option maxRecDepth 100000 in
set_option maxHeartbeats 4000000 in
theorem kw_choice {G : kG} {q : kP} {d : Nat} {x : gd} {C : gCo} {wr n : Nat} {lm : Nat → Nat} {w : gd} (hj : JH C wr n lm x w) (hu : kU q) (hH : HOI x q) (l1 : Int32) (l2 : Int32) : T (wE (kE G)) (d + 30) zw_choice 0 [(0, vr 0), (1, vi l1), (2, vi l2), (3, vr 299)] [] x (fo (kf q)) (wq q (fun r9 y q1 => ansK (e1Ch x) (e2Ci x l1 l2) (sCi C wr n (c96 w) x l1 l2) x r9 y)) := by
  have m0 : 0 ∈ (fo (kf q)).2.1 := List.mem_append_left _ (kl_0 hu.1)
  have m9 : 299 ∈ (fo (kf q)).2.1 := List.mem_append_right _ (List.mem_singleton.mpr rfl)
  have n9 := n299 hu
  have r9 : NR (kf q) 299 := kU_NR hu n9
  refine T_aload_n 3 (dk dtk_L_choice 0 rfl) rfl rfl ?_
  refine T_iconst (v := 0) (dk dtk_L_choice 1 rfl) (by decide +kernel) ?_
  refine T_aload_n 0 (dk dtk_L_choice 2 rfl) rfl rfl ?_
  refine T_iload_n 1 (dk dtk_L_choice 3 rfl) rfl rfl ?_
  refine T_iload_n 2 (dk dtk_L_choice 4 rfl) rfl rfl ?_
  have hend : ∀ (r : Int32) (y : gd) (q1 : kP), kU q1 → kst q q1 → HOI y q1 → ¬ (e1Ch x) ∧ ¬ (e2Ci x l1 l2) ∧ sCi C wr n (c96 w) x l1 l2 r y → T (wE (kE G)) (d + 30) zw_choice 8 [(0, vr 0), (1, vi l1), (2, vi l2), (3, vr 299)] [vi r, vi 0, vr 299] y (fo (kf q1)) (wq q (fun r9 y q1 => ansK (e1Ch x) (e2Ci x l1 l2) (sCi C wr n (c96 w) x l1 l2) x r9 y)) := by
    intro r y q1 hu1 hk1 hH1 hp1
    have n91 : 299 ∈ (fo (kf q1)).2.1 := List.mem_append_right _ (List.mem_singleton.mpr rfl)
    refine T_i2l (dk dtk_L_choice 6 rfl) ?_
    refine T_last 299 1 (dk dtk_L_choice 7 rfl) wE_9 n91 (vin0 (by omega)) ?_
    refine T_goto 21 (dk dtk_L_choice 8 rfl) (by decide) ?_
    refine T_iconst (v := 0) (dk dtk_L_choice 15 rfl) (by decide +kernel) ?_
    exact T_iret (dk dtk_L_choice 16 rfl) rfl rfl ⟨0, q1, rfl, rfl, hu1, hk1, HOI_1 rfl hu1 hH1, Or.inr (Or.inr ⟨hp1.1, hp1.2.1, rfl, r, by rw [sL_c]; exact if_pos rfl, hp1.2.2⟩)⟩
  have hxiSE : e1Ch x → gtry (kE G) (d + 30) zw_choice 5 [(0, vr 0), (1, vi l1), (2, vi l2), (3, vr 299)] [vi 0, vr 299] (wq q (fun r9 y q1 => ansK (e1Ch x) (e2Ci x l1 l2) (sCi C wr n (c96 w) x l1 l2) x r9 y)) x (.inr iSE) x (gth (kf q)) := by
    intro hno
    refine ⟨⟨n9, r9⟩, ⟨0, 10, 13, 27⟩, 4, 2, wct_choice_iSE, Or.inr ⟨rfl, (dk dtk_L_choice 9 rfl)⟩, by decide, rfl, ?_⟩
    refine T_iconst (v := 1) (dk dtk_L_choice 10 rfl) (by decide +kernel) ?_
    exact T_iret (dk dtk_L_choice 11 rfl) rfl rfl ⟨1, kTh q, rfl, rfl, kTh_U hu, kst_th q, HOI_1 rfl (kTh_U hu) (HOI_th hH), Or.inl ⟨hno, rfl, KR_rf⟩⟩
  have hxiOE : e2Ci x l1 l2 → gtry (kE G) (d + 30) zw_choice 5 [(0, vr 0), (1, vi l1), (2, vi l2), (3, vr 299)] [vi 0, vr 299] (wq q (fun r9 y q1 => ansK (e1Ch x) (e2Ci x l1 l2) (sCi C wr n (c96 w) x l1 l2) x r9 y)) x (.inr iOE) x (gth (kf q)) := by
    intro hno
    refine ⟨⟨n9, r9⟩, ⟨0, 10, 17, 19⟩, 4, 2, wct_choice_iOE, Or.inr ⟨rfl, (dk dtk_L_choice 12 rfl)⟩, by decide, rfl, ?_⟩
    refine T_iconst (v := 2) (dk dtk_L_choice 13 rfl) (by decide +kernel) ?_
    exact T_iret (dk dtk_L_choice 14 rfl) rfl rfl ⟨2, kTh q, rfl, rfl, kTh_U hu, kst_th q, HOI_1 rfl (kTh_U hu) (HOI_th hH), Or.inr (Or.inl ⟨hno, rfl, KR_rf⟩)⟩
  refine T_tryF (E := kE G) [vi l1, vi l2] [vi 0, vr 299] (d + 7) rfl (dk dtk_L_choice 5 rfl) kcv_L_33 rfl kk_0 rfl (kl_0 hu.1) (by omega) (Nat.le_of_ble_eq_true rfl) (Nat.le_of_ble_eq_true rfl) (gok_i (av_c (gkr m0) (av_c rfl (av_c rfl (av_c (gkr m9) av_n)))) (as_c rfl (as_c (gkr m9) as_n))) rfl n9 ?_
  refine T_mono (ka_choice (d := d) hj hu.1 hH l1 l2 (P := fun v9 y9 => ∃ r, v9 = some (vi r) ∧ HOI y9 q ∧ ¬ (e1Ch x) ∧ ¬ (e2Ci x l1 l2) ∧ sCi C wr n (c96 w) x l1 l2 r y9) (X := fun c9 y9 => ((c9 = iSE ∧ e1Ch x) ∨ (c9 = iOE ∧ e2Ci x l1 l2)) ∧ y9 = x) (fun h9 => ⟨Or.inl ⟨rfl, h9⟩, rfl⟩) (fun h9 => ⟨Or.inr ⟨rfl, h9⟩, rfl⟩) (fun h8 h9 r y h1 h2 => ⟨r, rfl, h1, h8, h9, h2⟩)) (fun o9 x9 f9 w9 => ?_)
  rcases w9 with ⟨rfl, v, rfl, r, rfl, h1, h2⟩ | ⟨rfl, c9, rfl, hc, rfl⟩
  · exact ⟨⟨n9, r9⟩, ⟨r, rfl⟩, hend r (xo x x9) q hu (kst_rf q) (HOI_1 rfl hu h1) h2⟩
  · rcases hc with ⟨rfl, hno⟩ | ⟨rfl, hno⟩
    · exact hxiSE hno
    · exact hxiOE hno
abbrev zw_go : gy := (yL_go, cL_go, 4, (some .int), [(0, 9, 12, 27), (0, 9, 15, 19)])
set_option maxRecDepth 100000 in
theorem dtk_L_go : dck cL_go [(0, .aload_n 2, 1), (1, .iconst 0, 1), (2, .aload_n 0, 1), (3, .iload_n 1, 1), (4, .invokevirtual 37, 3), (7, .i2l, 1), (8, .lastore, 1), (9, .goto 9, 3), (12, .astore_n 3, 1), (13, .iconst 1, 1), (14, .ireturn, 1), (15, .astore_n 3, 1), (16, .iconst 2, 1), (17, .ireturn, 1), (18, .iconst 0, 1), (19, .ireturn, 1)] = true := by decide +kernel
set_option maxRecDepth 100000 in
theorem wca_go : tables_1_6[20]? = some (Cond.codeWith yL_go cL_go 4 (some .int) [(0, 9, 12, 27), (0, 9, 15, 19)]) := rfl
theorem wcw_go : Cond.codeWith yL_go cL_go 4 (some .int) [(0, 9, 12, 27), (0, 9, 15, 19)] ∈ W0 := W0_in (tp_6 (List.mem_of_getElem? wca_go)) rfl
theorem kcv_L_37 : gMv RL 37 zk_X11_go 1 := ⟨⟨W0_in (tp_6 (List.mem_of_getElem? (i := 21) (by decide +kernel))) rfl, W0_in (tp_6 (List.mem_of_getElem? (i := 22) (by decide +kernel))) rfl, W0_in (tp_6 (List.mem_of_getElem? (i := 23) (by decide +kernel))) rfl, W0_in (tp_1 (List.mem_of_getElem? (i := 1) (by decide +kernel))) rfl, kcw_X11_go⟩, ⟨by decide, by decide, by decide +kernel⟩, by decide, by decide⟩
theorem wct_go_iSE : gCat zw_go 4 iSE ⟨0, 9, 12, 27⟩ := ⟨⟨[], [⟨0, 9, 15, 19⟩], rfl, fun z hz => nomatch hz⟩, rfl, by decide, (W0_in (tp_5 (List.mem_of_getElem? (i := 107) (by decide +kernel))) rfl), by decide⟩
theorem wct_go_iOE : gCat zw_go 4 iOE ⟨0, 9, 15, 19⟩ := ⟨⟨[⟨0, 9, 12, 27⟩], [], rfl, fun z hz => by
  cases hz with
  | head => exact ⟨by decide, iSE, (W0_in (tp_5 (List.mem_of_getElem? (i := 107) (by decide +kernel))) rfl), by decide⟩
  | tail _ hz => cases hz⟩, rfl, by decide, (W0_in (tp_5 (List.mem_of_getElem? (i := 73) (by decide +kernel))) rfl), by decide⟩
set_option maxRecDepth 100000 in
set_option maxHeartbeats 4000000 in
theorem kw_go {G : kG} {q : kP} {d : Nat} {x : gd} {C : gCo} {wr n : Nat} {lm : Nat → Nat} {w : gd} (hj : JH C wr n lm x w) (hu : kU q) (hH : HOI x q) (l1 : Int32) : T (wE (kE G)) (d + 30) zw_go 0 [(0, vr 0), (1, vi l1), (2, vr 299)] [] x (fo (kf q)) (wq q (fun r9 y q1 => ansK (e1Go n x) (e2Go n x l1) (sGo C wr n (c96 w) x l1) x r9 y)) := by
  have m0 : 0 ∈ (fo (kf q)).2.1 := List.mem_append_left _ (kl_0 hu.1)
  have m9 : 299 ∈ (fo (kf q)).2.1 := List.mem_append_right _ (List.mem_singleton.mpr rfl)
  have n9 := n299 hu
  have r9 : NR (kf q) 299 := kU_NR hu n9
  refine T_aload_n 2 (dk dtk_L_go 0 rfl) rfl rfl ?_
  refine T_iconst (v := 0) (dk dtk_L_go 1 rfl) (by decide +kernel) ?_
  refine T_aload_n 0 (dk dtk_L_go 2 rfl) rfl rfl ?_
  refine T_iload_n 1 (dk dtk_L_go 3 rfl) rfl rfl ?_
  have hend : ∀ (r : Int32) (y : gd) (q1 : kP), kU q1 → kst q q1 → HOI y q1 → ¬ (e1Go n x) ∧ ¬ (e2Go n x l1) ∧ sGo C wr n (c96 w) x l1 r y → T (wE (kE G)) (d + 30) zw_go 7 [(0, vr 0), (1, vi l1), (2, vr 299)] [vi r, vi 0, vr 299] y (fo (kf q1)) (wq q (fun r9 y q1 => ansK (e1Go n x) (e2Go n x l1) (sGo C wr n (c96 w) x l1) x r9 y)) := by
    intro r y q1 hu1 hk1 hH1 hp1
    have n91 : 299 ∈ (fo (kf q1)).2.1 := List.mem_append_right _ (List.mem_singleton.mpr rfl)
    refine T_i2l (dk dtk_L_go 5 rfl) ?_
    refine T_last 299 1 (dk dtk_L_go 6 rfl) wE_9 n91 (vin0 (by omega)) ?_
    refine T_goto 18 (dk dtk_L_go 7 rfl) (by decide) ?_
    refine T_iconst (v := 0) (dk dtk_L_go 14 rfl) (by decide +kernel) ?_
    exact T_iret (dk dtk_L_go 15 rfl) rfl rfl ⟨0, q1, rfl, rfl, hu1, hk1, HOI_1 rfl hu1 hH1, Or.inr (Or.inr ⟨hp1.1, hp1.2.1, rfl, r, by rw [sL_c]; exact if_pos rfl, hp1.2.2⟩)⟩
  have hxiSE : e1Go n x → gtry (kE G) (d + 30) zw_go 4 [(0, vr 0), (1, vi l1), (2, vr 299)] [vi 0, vr 299] (wq q (fun r9 y q1 => ansK (e1Go n x) (e2Go n x l1) (sGo C wr n (c96 w) x l1) x r9 y)) x (.inr iSE) x (gth (kf q)) := by
    intro hno
    refine ⟨⟨n9, r9⟩, ⟨0, 9, 12, 27⟩, 3, 1, wct_go_iSE, Or.inl ⟨3, rfl, rfl, (dk dtk_L_go 8 rfl)⟩, by decide, rfl, ?_⟩
    refine T_iconst (v := 1) (dk dtk_L_go 9 rfl) (by decide +kernel) ?_
    exact T_iret (dk dtk_L_go 10 rfl) rfl rfl ⟨1, kTh q, rfl, rfl, kTh_U hu, kst_th q, HOI_1 rfl (kTh_U hu) (HOI_th hH), Or.inl ⟨hno, rfl, KR_rf⟩⟩
  have hxiOE : e2Go n x l1 → gtry (kE G) (d + 30) zw_go 4 [(0, vr 0), (1, vi l1), (2, vr 299)] [vi 0, vr 299] (wq q (fun r9 y q1 => ansK (e1Go n x) (e2Go n x l1) (sGo C wr n (c96 w) x l1) x r9 y)) x (.inr iOE) x (gth (kf q)) := by
    intro hno
    refine ⟨⟨n9, r9⟩, ⟨0, 9, 15, 19⟩, 3, 1, wct_go_iOE, Or.inl ⟨3, rfl, rfl, (dk dtk_L_go 11 rfl)⟩, by decide, rfl, ?_⟩
    refine T_iconst (v := 2) (dk dtk_L_go 12 rfl) (by decide +kernel) ?_
    exact T_iret (dk dtk_L_go 13 rfl) rfl rfl ⟨2, kTh q, rfl, rfl, kTh_U hu, kst_th q, HOI_1 rfl (kTh_U hu) (HOI_th hH), Or.inr (Or.inl ⟨hno, rfl, KR_rf⟩)⟩
  refine T_tryF (E := kE G) [vi l1] [vi 0, vr 299] (d + 7) rfl (dk dtk_L_go 4 rfl) kcv_L_37 rfl kk_0 rfl (kl_0 hu.1) (by omega) (Nat.le_of_ble_eq_true rfl) (Nat.le_of_ble_eq_true rfl) (gok_i (av_c (gkr m0) (av_c rfl (av_c (gkr m9) av_n))) (as_c rfl (as_c (gkr m9) as_n))) rfl n9 ?_
  refine T_mono (ka_go (d := d) hj hu.1 hH l1 (P := fun v9 y9 => ∃ r, v9 = some (vi r) ∧ HOI y9 q ∧ ¬ (e1Go n x) ∧ ¬ (e2Go n x l1) ∧ sGo C wr n (c96 w) x l1 r y9) (X := fun c9 y9 => ((c9 = iSE ∧ e1Go n x) ∨ (c9 = iOE ∧ e2Go n x l1)) ∧ y9 = x) (fun h9 => ⟨Or.inl ⟨rfl, h9⟩, rfl⟩) (fun h9 => ⟨Or.inr ⟨rfl, h9⟩, rfl⟩) (fun h8 h9 r y h1 h2 => ⟨r, rfl, h1, h8, h9, h2⟩)) (fun o9 x9 f9 w9 => ?_)
  rcases w9 with ⟨rfl, v, rfl, r, rfl, h1, h2⟩ | ⟨rfl, c9, rfl, hc, rfl⟩
  · exact ⟨⟨n9, r9⟩, ⟨r, rfl⟩, hend r (xo x x9) q hu (kst_rf q) (HOI_1 rfl hu h1) h2⟩
  · rcases hc with ⟨rfl, hno⟩ | ⟨rfl, hno⟩
    · exact hxiSE hno
    · exact hxiOE hno
abbrev zw_draw : gy := (yL_draw, cL_draw, 5, (some .int), [(0, 10, 13, 27), (0, 10, 17, 13)])
set_option maxRecDepth 100000 in
theorem dtk_L_draw : dck cL_draw [(0, .aload_n 3, 1), (1, .iconst 0, 1), (2, .aload_n 0, 1), (3, .iload_n 1, 1), (4, .iload_n 2, 1), (5, .invokevirtual 40, 3), (8, .i2l, 1), (9, .lastore, 1), (10, .goto 11, 3), (13, .astore 4, 2), (15, .iconst 1, 1), (16, .ireturn, 1), (17, .astore 4, 2), (19, .iconst 2, 1), (20, .ireturn, 1), (21, .iconst 0, 1), (22, .ireturn, 1)] = true := by decide +kernel
set_option maxRecDepth 100000 in
theorem wca_draw : tables_1_6[139]? = some (Cond.codeWith yL_draw cL_draw 5 (some .int) [(0, 10, 13, 27), (0, 10, 17, 13)]) := rfl
theorem wcw_draw : Cond.codeWith yL_draw cL_draw 5 (some .int) [(0, 10, 13, 27), (0, 10, 17, 13)] ∈ W0 := W0_in (tp_6 (List.mem_of_getElem? wca_draw)) rfl
theorem kcv_L_40 : gMv RL 40 zk_X11_draw 2 := ⟨⟨W0_in (tp_6 (List.mem_of_getElem? (i := 140) (by decide +kernel))) rfl, W0_in (tp_6 (List.mem_of_getElem? (i := 141) (by decide +kernel))) rfl, W0_in (tp_6 (List.mem_of_getElem? (i := 142) (by decide +kernel))) rfl, W0_in (tp_1 (List.mem_of_getElem? (i := 1) (by decide +kernel))) rfl, kcw_X11_draw⟩, ⟨by decide, by decide, by decide +kernel⟩, by decide, by decide⟩
theorem wct_draw_iSE : gCat zw_draw 5 iSE ⟨0, 10, 13, 27⟩ := ⟨⟨[], [⟨0, 10, 17, 13⟩], rfl, fun z hz => nomatch hz⟩, rfl, by decide, (W0_in (tp_5 (List.mem_of_getElem? (i := 107) (by decide +kernel))) rfl), by decide⟩
theorem wct_draw_iAE : gCat zw_draw 5 iAE ⟨0, 10, 17, 13⟩ := ⟨⟨[⟨0, 10, 13, 27⟩], [], rfl, fun z hz => by
  cases hz with
  | head => exact ⟨by decide, iSE, (W0_in (tp_5 (List.mem_of_getElem? (i := 107) (by decide +kernel))) rfl), by decide⟩
  | tail _ hz => cases hz⟩, rfl, by decide, (W0_in (tp_5 (List.mem_of_getElem? (i := 44) (by decide +kernel))) rfl), by decide⟩
set_option maxRecDepth 100000 in
set_option maxHeartbeats 4000000 in
theorem kw_draw {G : kG} {q : kP} {d : Nat} {x : gd} {C : gCo} {wr n : Nat} {lm : Nat → Nat} {w : gd} (hj : JH C wr n lm x w) (hu : kU q) (hH : HOI x q) (l1 : Int32) (l2 : Int32) : T (wE (kE G)) (d + 30) zw_draw 0 [(0, vr 0), (1, vi l1), (2, vi l2), (3, vr 299)] [] x (fo (kf q)) (wq q (fun r9 y q1 => ansK (e1Ch x) (e2Dr x l2) (sDr C wr n (c96 w) x l1 l2) x r9 y)) := by
  have m0 : 0 ∈ (fo (kf q)).2.1 := List.mem_append_left _ (kl_0 hu.1)
  have m9 : 299 ∈ (fo (kf q)).2.1 := List.mem_append_right _ (List.mem_singleton.mpr rfl)
  have n9 := n299 hu
  have r9 : NR (kf q) 299 := kU_NR hu n9
  refine T_aload_n 3 (dk dtk_L_draw 0 rfl) rfl rfl ?_
  refine T_iconst (v := 0) (dk dtk_L_draw 1 rfl) (by decide +kernel) ?_
  refine T_aload_n 0 (dk dtk_L_draw 2 rfl) rfl rfl ?_
  refine T_iload_n 1 (dk dtk_L_draw 3 rfl) rfl rfl ?_
  refine T_iload_n 2 (dk dtk_L_draw 4 rfl) rfl rfl ?_
  have hend : ∀ (r : Int32) (y : gd) (q1 : kP), kU q1 → kst q q1 → HOI y q1 → ¬ (e1Ch x) ∧ ¬ (e2Dr x l2) ∧ sDr C wr n (c96 w) x l1 l2 r y → T (wE (kE G)) (d + 30) zw_draw 8 [(0, vr 0), (1, vi l1), (2, vi l2), (3, vr 299)] [vi r, vi 0, vr 299] y (fo (kf q1)) (wq q (fun r9 y q1 => ansK (e1Ch x) (e2Dr x l2) (sDr C wr n (c96 w) x l1 l2) x r9 y)) := by
    intro r y q1 hu1 hk1 hH1 hp1
    have n91 : 299 ∈ (fo (kf q1)).2.1 := List.mem_append_right _ (List.mem_singleton.mpr rfl)
    refine T_i2l (dk dtk_L_draw 6 rfl) ?_
    refine T_last 299 1 (dk dtk_L_draw 7 rfl) wE_9 n91 (vin0 (by omega)) ?_
    refine T_goto 21 (dk dtk_L_draw 8 rfl) (by decide) ?_
    refine T_iconst (v := 0) (dk dtk_L_draw 15 rfl) (by decide +kernel) ?_
    exact T_iret (dk dtk_L_draw 16 rfl) rfl rfl ⟨0, q1, rfl, rfl, hu1, hk1, HOI_1 rfl hu1 hH1, Or.inr (Or.inr ⟨hp1.1, hp1.2.1, rfl, r, by rw [sL_c]; exact if_pos rfl, hp1.2.2⟩)⟩
  have hxiSE : e1Ch x → gtry (kE G) (d + 30) zw_draw 5 [(0, vr 0), (1, vi l1), (2, vi l2), (3, vr 299)] [vi 0, vr 299] (wq q (fun r9 y q1 => ansK (e1Ch x) (e2Dr x l2) (sDr C wr n (c96 w) x l1 l2) x r9 y)) x (.inr iSE) x (gth (kf q)) := by
    intro hno
    refine ⟨⟨n9, r9⟩, ⟨0, 10, 13, 27⟩, 4, 2, wct_draw_iSE, Or.inr ⟨rfl, (dk dtk_L_draw 9 rfl)⟩, by decide, rfl, ?_⟩
    refine T_iconst (v := 1) (dk dtk_L_draw 10 rfl) (by decide +kernel) ?_
    exact T_iret (dk dtk_L_draw 11 rfl) rfl rfl ⟨1, kTh q, rfl, rfl, kTh_U hu, kst_th q, HOI_1 rfl (kTh_U hu) (HOI_th hH), Or.inl ⟨hno, rfl, KR_rf⟩⟩
  have hxiAE : e2Dr x l2 → gtry (kE G) (d + 30) zw_draw 5 [(0, vr 0), (1, vi l1), (2, vi l2), (3, vr 299)] [vi 0, vr 299] (wq q (fun r9 y q1 => ansK (e1Ch x) (e2Dr x l2) (sDr C wr n (c96 w) x l1 l2) x r9 y)) x (.inr iAE) x (gth (kf q)) := by
    intro hno
    refine ⟨⟨n9, r9⟩, ⟨0, 10, 17, 13⟩, 4, 2, wct_draw_iAE, Or.inr ⟨rfl, (dk dtk_L_draw 12 rfl)⟩, by decide, rfl, ?_⟩
    refine T_iconst (v := 2) (dk dtk_L_draw 13 rfl) (by decide +kernel) ?_
    exact T_iret (dk dtk_L_draw 14 rfl) rfl rfl ⟨2, kTh q, rfl, rfl, kTh_U hu, kst_th q, HOI_1 rfl (kTh_U hu) (HOI_th hH), Or.inr (Or.inl ⟨hno, rfl, KR_rf⟩)⟩
  refine T_tryF (E := kE G) [vi l1, vi l2] [vi 0, vr 299] (d + 7) rfl (dk dtk_L_draw 5 rfl) kcv_L_40 rfl kk_0 rfl (kl_0 hu.1) (by omega) (Nat.le_of_ble_eq_true rfl) (Nat.le_of_ble_eq_true rfl) (gok_i (av_c (gkr m0) (av_c rfl (av_c rfl (av_c (gkr m9) av_n)))) (as_c rfl (as_c (gkr m9) as_n))) rfl n9 ?_
  refine T_mono (ka_draw (d := d) hj hu.1 hH l1 l2 (P := fun v9 y9 => ∃ r, v9 = some (vi r) ∧ HOI y9 q ∧ ¬ (e1Ch x) ∧ ¬ (e2Dr x l2) ∧ sDr C wr n (c96 w) x l1 l2 r y9) (X := fun c9 y9 => ((c9 = iSE ∧ e1Ch x) ∨ (c9 = iAE ∧ e2Dr x l2)) ∧ y9 = x) (fun h9 => ⟨Or.inl ⟨rfl, h9⟩, rfl⟩) (fun h9 => ⟨Or.inr ⟨rfl, h9⟩, rfl⟩) (fun h8 h9 r y h1 h2 => ⟨r, rfl, h1, h8, h9, h2⟩)) (fun o9 x9 f9 w9 => ?_)
  rcases w9 with ⟨rfl, v, rfl, r, rfl, h1, h2⟩ | ⟨rfl, c9, rfl, hc, rfl⟩
  · exact ⟨⟨n9, r9⟩, ⟨r, rfl⟩, hend r (xo x x9) q hu (kst_rf q) (HOI_1 rfl hu h1) h2⟩
  · rcases hc with ⟨rfl, hno⟩ | ⟨rfl, hno⟩
    · exact hxiSE hno
    · exact hxiAE hno
abbrev zw_again : gy := (yL_again, cL_again, 4, (some .int), [(0, 9, 12, 27), (0, 9, 15, 13)])
set_option maxRecDepth 100000 in
theorem dtk_L_again : dck cL_again [(0, .aload_n 2, 1), (1, .iconst 0, 1), (2, .aload_n 0, 1), (3, .iload_n 1, 1), (4, .invokevirtual 43, 3), (7, .i2l, 1), (8, .lastore, 1), (9, .goto 9, 3), (12, .astore_n 3, 1), (13, .iconst 1, 1), (14, .ireturn, 1), (15, .astore_n 3, 1), (16, .iconst 2, 1), (17, .ireturn, 1), (18, .iconst 0, 1), (19, .ireturn, 1)] = true := by decide +kernel
set_option maxRecDepth 100000 in
theorem wca_again : tables_1_6[148]? = some (Cond.codeWith yL_again cL_again 4 (some .int) [(0, 9, 12, 27), (0, 9, 15, 13)]) := rfl
theorem wcw_again : Cond.codeWith yL_again cL_again 4 (some .int) [(0, 9, 12, 27), (0, 9, 15, 13)] ∈ W0 := W0_in (tp_6 (List.mem_of_getElem? wca_again)) rfl
theorem kcv_L_43 : gMv RL 43 zk_X11_again 1 := ⟨⟨W0_in (tp_6 (List.mem_of_getElem? (i := 149) (by decide +kernel))) rfl, W0_in (tp_6 (List.mem_of_getElem? (i := 150) (by decide +kernel))) rfl, W0_in (tp_6 (List.mem_of_getElem? (i := 151) (by decide +kernel))) rfl, W0_in (tp_1 (List.mem_of_getElem? (i := 1) (by decide +kernel))) rfl, kcw_X11_again⟩, ⟨by decide, by decide, by decide +kernel⟩, by decide, by decide⟩
theorem wct_again_iSE : gCat zw_again 4 iSE ⟨0, 9, 12, 27⟩ := ⟨⟨[], [⟨0, 9, 15, 13⟩], rfl, fun z hz => nomatch hz⟩, rfl, by decide, (W0_in (tp_5 (List.mem_of_getElem? (i := 107) (by decide +kernel))) rfl), by decide⟩
theorem wct_again_iAE : gCat zw_again 4 iAE ⟨0, 9, 15, 13⟩ := ⟨⟨[⟨0, 9, 12, 27⟩], [], rfl, fun z hz => by
  cases hz with
  | head => exact ⟨by decide, iSE, (W0_in (tp_5 (List.mem_of_getElem? (i := 107) (by decide +kernel))) rfl), by decide⟩
  | tail _ hz => cases hz⟩, rfl, by decide, (W0_in (tp_5 (List.mem_of_getElem? (i := 44) (by decide +kernel))) rfl), by decide⟩
set_option maxRecDepth 100000 in
set_option maxHeartbeats 4000000 in
theorem kw_again {G : kG} {q : kP} {d : Nat} {x : gd} {C : gCo} {wr n : Nat} {lm : Nat → Nat} {w : gd} (hj : JH C wr n lm x w) (hu : kU q) (hH : HOI x q) (l1 : Int32) : T (wE (kE G)) (d + 30) zw_again 0 [(0, vr 0), (1, vi l1), (2, vr 299)] [] x (fo (kf q)) (wq q (fun r9 y q1 => ansK (e1Ch x) (e2Ag n x l1) (sAg C wr (c96 w) x l1) x r9 y)) := by
  have m0 : 0 ∈ (fo (kf q)).2.1 := List.mem_append_left _ (kl_0 hu.1)
  have m9 : 299 ∈ (fo (kf q)).2.1 := List.mem_append_right _ (List.mem_singleton.mpr rfl)
  have n9 := n299 hu
  have r9 : NR (kf q) 299 := kU_NR hu n9
  refine T_aload_n 2 (dk dtk_L_again 0 rfl) rfl rfl ?_
  refine T_iconst (v := 0) (dk dtk_L_again 1 rfl) (by decide +kernel) ?_
  refine T_aload_n 0 (dk dtk_L_again 2 rfl) rfl rfl ?_
  refine T_iload_n 1 (dk dtk_L_again 3 rfl) rfl rfl ?_
  have hend : ∀ (r : Int32) (y : gd) (q1 : kP), kU q1 → kst q q1 → HOI y q1 → ¬ (e1Ch x) ∧ ¬ (e2Ag n x l1) ∧ sAg C wr (c96 w) x l1 r y → T (wE (kE G)) (d + 30) zw_again 7 [(0, vr 0), (1, vi l1), (2, vr 299)] [vi r, vi 0, vr 299] y (fo (kf q1)) (wq q (fun r9 y q1 => ansK (e1Ch x) (e2Ag n x l1) (sAg C wr (c96 w) x l1) x r9 y)) := by
    intro r y q1 hu1 hk1 hH1 hp1
    have n91 : 299 ∈ (fo (kf q1)).2.1 := List.mem_append_right _ (List.mem_singleton.mpr rfl)
    refine T_i2l (dk dtk_L_again 5 rfl) ?_
    refine T_last 299 1 (dk dtk_L_again 6 rfl) wE_9 n91 (vin0 (by omega)) ?_
    refine T_goto 18 (dk dtk_L_again 7 rfl) (by decide) ?_
    refine T_iconst (v := 0) (dk dtk_L_again 14 rfl) (by decide +kernel) ?_
    exact T_iret (dk dtk_L_again 15 rfl) rfl rfl ⟨0, q1, rfl, rfl, hu1, hk1, HOI_1 rfl hu1 hH1, Or.inr (Or.inr ⟨hp1.1, hp1.2.1, rfl, r, by rw [sL_c]; exact if_pos rfl, hp1.2.2⟩)⟩
  have hxiSE : e1Ch x → gtry (kE G) (d + 30) zw_again 4 [(0, vr 0), (1, vi l1), (2, vr 299)] [vi 0, vr 299] (wq q (fun r9 y q1 => ansK (e1Ch x) (e2Ag n x l1) (sAg C wr (c96 w) x l1) x r9 y)) x (.inr iSE) x (gth (kf q)) := by
    intro hno
    refine ⟨⟨n9, r9⟩, ⟨0, 9, 12, 27⟩, 3, 1, wct_again_iSE, Or.inl ⟨3, rfl, rfl, (dk dtk_L_again 8 rfl)⟩, by decide, rfl, ?_⟩
    refine T_iconst (v := 1) (dk dtk_L_again 9 rfl) (by decide +kernel) ?_
    exact T_iret (dk dtk_L_again 10 rfl) rfl rfl ⟨1, kTh q, rfl, rfl, kTh_U hu, kst_th q, HOI_1 rfl (kTh_U hu) (HOI_th hH), Or.inl ⟨hno, rfl, KR_rf⟩⟩
  have hxiAE : e2Ag n x l1 → gtry (kE G) (d + 30) zw_again 4 [(0, vr 0), (1, vi l1), (2, vr 299)] [vi 0, vr 299] (wq q (fun r9 y q1 => ansK (e1Ch x) (e2Ag n x l1) (sAg C wr (c96 w) x l1) x r9 y)) x (.inr iAE) x (gth (kf q)) := by
    intro hno
    refine ⟨⟨n9, r9⟩, ⟨0, 9, 15, 13⟩, 3, 1, wct_again_iAE, Or.inl ⟨3, rfl, rfl, (dk dtk_L_again 11 rfl)⟩, by decide, rfl, ?_⟩
    refine T_iconst (v := 2) (dk dtk_L_again 12 rfl) (by decide +kernel) ?_
    exact T_iret (dk dtk_L_again 13 rfl) rfl rfl ⟨2, kTh q, rfl, rfl, kTh_U hu, kst_th q, HOI_1 rfl (kTh_U hu) (HOI_th hH), Or.inr (Or.inl ⟨hno, rfl, KR_rf⟩)⟩
  refine T_tryF (E := kE G) [vi l1] [vi 0, vr 299] (d + 7) rfl (dk dtk_L_again 4 rfl) kcv_L_43 rfl kk_0 rfl (kl_0 hu.1) (by omega) (Nat.le_of_ble_eq_true rfl) (Nat.le_of_ble_eq_true rfl) (gok_i (av_c (gkr m0) (av_c rfl (av_c (gkr m9) av_n))) (as_c rfl (as_c (gkr m9) as_n))) rfl n9 ?_
  refine T_mono (ka_again (d := d) hj hu.1 hH l1 (P := fun v9 y9 => ∃ r, v9 = some (vi r) ∧ HOI y9 q ∧ ¬ (e1Ch x) ∧ ¬ (e2Ag n x l1) ∧ sAg C wr (c96 w) x l1 r y9) (X := fun c9 y9 => ((c9 = iSE ∧ e1Ch x) ∨ (c9 = iAE ∧ e2Ag n x l1)) ∧ y9 = x) (fun h9 => ⟨Or.inl ⟨rfl, h9⟩, rfl⟩) (fun h9 => ⟨Or.inr ⟨rfl, h9⟩, rfl⟩) (fun h8 h9 r y h1 h2 => ⟨r, rfl, h1, h8, h9, h2⟩)) (fun o9 x9 f9 w9 => ?_)
  rcases w9 with ⟨rfl, v, rfl, r, rfl, h1, h2⟩ | ⟨rfl, c9, rfl, hc, rfl⟩
  · exact ⟨⟨n9, r9⟩, ⟨r, rfl⟩, hend r (xo x x9) q hu (kst_rf q) (HOI_1 rfl hu h1) h2⟩
  · rcases hc with ⟨rfl, hno⟩ | ⟨rfl, hno⟩
    · exact hxiSE hno
    · exact hxiAE hno
abbrev zw_run : gy := (yL_run, cL_run, 4, (some .int), [(0, 9, 12, 27), (0, 9, 15, 19)])
set_option maxRecDepth 100000 in
theorem dtk_L_run : dck cL_run [(0, .aload_n 2, 1), (1, .iconst 0, 1), (2, .aload_n 0, 1), (3, .iload_n 1, 1), (4, .invokevirtual 46, 3), (7, .i2l, 1), (8, .lastore, 1), (9, .goto 9, 3), (12, .astore_n 3, 1), (13, .iconst 1, 1), (14, .ireturn, 1), (15, .astore_n 3, 1), (16, .iconst 2, 1), (17, .ireturn, 1), (18, .iconst 0, 1), (19, .ireturn, 1)] = true := by decide +kernel
set_option maxRecDepth 100000 in
theorem wca_run : tables_1_6[156]? = some (Cond.codeWith yL_run cL_run 4 (some .int) [(0, 9, 12, 27), (0, 9, 15, 19)]) := rfl
theorem wcw_run : Cond.codeWith yL_run cL_run 4 (some .int) [(0, 9, 12, 27), (0, 9, 15, 19)] ∈ W0 := W0_in (tp_6 (List.mem_of_getElem? wca_run)) rfl
theorem kcv_L_46 : gMv RL 46 zk_X11_run 1 := ⟨⟨W0_in (tp_6 (List.mem_of_getElem? (i := 157) (by decide +kernel))) rfl, W0_in (tp_6 (List.mem_of_getElem? (i := 158) (by decide +kernel))) rfl, W0_in (tp_6 (List.mem_of_getElem? (i := 159) (by decide +kernel))) rfl, W0_in (tp_1 (List.mem_of_getElem? (i := 1) (by decide +kernel))) rfl, kcw_X11_run⟩, ⟨by decide, by decide, by decide +kernel⟩, by decide, by decide⟩
theorem wct_run_iSE : gCat zw_run 4 iSE ⟨0, 9, 12, 27⟩ := ⟨⟨[], [⟨0, 9, 15, 19⟩], rfl, fun z hz => nomatch hz⟩, rfl, by decide, (W0_in (tp_5 (List.mem_of_getElem? (i := 107) (by decide +kernel))) rfl), by decide⟩
theorem wct_run_iOE : gCat zw_run 4 iOE ⟨0, 9, 15, 19⟩ := ⟨⟨[⟨0, 9, 12, 27⟩], [], rfl, fun z hz => by
  cases hz with
  | head => exact ⟨by decide, iSE, (W0_in (tp_5 (List.mem_of_getElem? (i := 107) (by decide +kernel))) rfl), by decide⟩
  | tail _ hz => cases hz⟩, rfl, by decide, (W0_in (tp_5 (List.mem_of_getElem? (i := 73) (by decide +kernel))) rfl), by decide⟩
set_option maxRecDepth 100000 in
set_option maxHeartbeats 4000000 in
theorem kw_run {G : kG} {q : kP} {d : Nat} {x : gd} {C : gCo} {wr n : Nat} {lm : Nat → Nat} {w : gd} (hj : JH C wr n lm x w) (hu : kU q) (hH : HOI x q) (l1 : Int32) : T (wE (kE G)) (d + 30) zw_run 0 [(0, vr 0), (1, vi l1), (2, vr 299)] [] x (fo (kf q)) (wq q (fun r9 y q1 => ansK (e1Ch x) (e2Ru x l1) (sRu C wr n (c96 w) x l1) x r9 y)) := by
  have m0 : 0 ∈ (fo (kf q)).2.1 := List.mem_append_left _ (kl_0 hu.1)
  have m9 : 299 ∈ (fo (kf q)).2.1 := List.mem_append_right _ (List.mem_singleton.mpr rfl)
  have n9 := n299 hu
  have r9 : NR (kf q) 299 := kU_NR hu n9
  refine T_aload_n 2 (dk dtk_L_run 0 rfl) rfl rfl ?_
  refine T_iconst (v := 0) (dk dtk_L_run 1 rfl) (by decide +kernel) ?_
  refine T_aload_n 0 (dk dtk_L_run 2 rfl) rfl rfl ?_
  refine T_iload_n 1 (dk dtk_L_run 3 rfl) rfl rfl ?_
  have hend : ∀ (r : Int32) (y : gd) (q1 : kP), kU q1 → kst q q1 → HOI y q1 → ¬ (e1Ch x) ∧ ¬ (e2Ru x l1) ∧ sRu C wr n (c96 w) x l1 r y → T (wE (kE G)) (d + 30) zw_run 7 [(0, vr 0), (1, vi l1), (2, vr 299)] [vi r, vi 0, vr 299] y (fo (kf q1)) (wq q (fun r9 y q1 => ansK (e1Ch x) (e2Ru x l1) (sRu C wr n (c96 w) x l1) x r9 y)) := by
    intro r y q1 hu1 hk1 hH1 hp1
    have n91 : 299 ∈ (fo (kf q1)).2.1 := List.mem_append_right _ (List.mem_singleton.mpr rfl)
    refine T_i2l (dk dtk_L_run 5 rfl) ?_
    refine T_last 299 1 (dk dtk_L_run 6 rfl) wE_9 n91 (vin0 (by omega)) ?_
    refine T_goto 18 (dk dtk_L_run 7 rfl) (by decide) ?_
    refine T_iconst (v := 0) (dk dtk_L_run 14 rfl) (by decide +kernel) ?_
    exact T_iret (dk dtk_L_run 15 rfl) rfl rfl ⟨0, q1, rfl, rfl, hu1, hk1, HOI_1 rfl hu1 hH1, Or.inr (Or.inr ⟨hp1.1, hp1.2.1, rfl, r, by rw [sL_c]; exact if_pos rfl, hp1.2.2⟩)⟩
  have hxiSE : e1Ch x → gtry (kE G) (d + 30) zw_run 4 [(0, vr 0), (1, vi l1), (2, vr 299)] [vi 0, vr 299] (wq q (fun r9 y q1 => ansK (e1Ch x) (e2Ru x l1) (sRu C wr n (c96 w) x l1) x r9 y)) x (.inr iSE) x (gth (kf q)) := by
    intro hno
    refine ⟨⟨n9, r9⟩, ⟨0, 9, 12, 27⟩, 3, 1, wct_run_iSE, Or.inl ⟨3, rfl, rfl, (dk dtk_L_run 8 rfl)⟩, by decide, rfl, ?_⟩
    refine T_iconst (v := 1) (dk dtk_L_run 9 rfl) (by decide +kernel) ?_
    exact T_iret (dk dtk_L_run 10 rfl) rfl rfl ⟨1, kTh q, rfl, rfl, kTh_U hu, kst_th q, HOI_1 rfl (kTh_U hu) (HOI_th hH), Or.inl ⟨hno, rfl, KR_rf⟩⟩
  have hxiOE : e2Ru x l1 → gtry (kE G) (d + 30) zw_run 4 [(0, vr 0), (1, vi l1), (2, vr 299)] [vi 0, vr 299] (wq q (fun r9 y q1 => ansK (e1Ch x) (e2Ru x l1) (sRu C wr n (c96 w) x l1) x r9 y)) x (.inr iOE) x (gth (kf q)) := by
    intro hno
    refine ⟨⟨n9, r9⟩, ⟨0, 9, 15, 19⟩, 3, 1, wct_run_iOE, Or.inl ⟨3, rfl, rfl, (dk dtk_L_run 11 rfl)⟩, by decide, rfl, ?_⟩
    refine T_iconst (v := 2) (dk dtk_L_run 12 rfl) (by decide +kernel) ?_
    exact T_iret (dk dtk_L_run 13 rfl) rfl rfl ⟨2, kTh q, rfl, rfl, kTh_U hu, kst_th q, HOI_1 rfl (kTh_U hu) (HOI_th hH), Or.inr (Or.inl ⟨hno, rfl, KR_rf⟩)⟩
  refine T_tryF (E := kE G) [vi l1] [vi 0, vr 299] (d + 7) rfl (dk dtk_L_run 4 rfl) kcv_L_46 rfl kk_0 rfl (kl_0 hu.1) (by omega) (Nat.le_of_ble_eq_true rfl) (Nat.le_of_ble_eq_true rfl) (gok_i (av_c (gkr m0) (av_c rfl (av_c (gkr m9) av_n))) (as_c rfl (as_c (gkr m9) as_n))) rfl n9 ?_
  refine T_mono (ka_run (d := d) hj hu.1 hH l1 (P := fun v9 y9 => ∃ r, v9 = some (vi r) ∧ HOI y9 q ∧ ¬ (e1Ch x) ∧ ¬ (e2Ru x l1) ∧ sRu C wr n (c96 w) x l1 r y9) (X := fun c9 y9 => ((c9 = iSE ∧ e1Ch x) ∨ (c9 = iOE ∧ e2Ru x l1)) ∧ y9 = x) (fun h9 => ⟨Or.inl ⟨rfl, h9⟩, rfl⟩) (fun h9 => ⟨Or.inr ⟨rfl, h9⟩, rfl⟩) (fun h8 h9 r y h1 h2 => ⟨r, rfl, h1, h8, h9, h2⟩)) (fun o9 x9 f9 w9 => ?_)
  rcases w9 with ⟨rfl, v, rfl, r, rfl, h1, h2⟩ | ⟨rfl, c9, rfl, hc, rfl⟩
  · exact ⟨⟨n9, r9⟩, ⟨r, rfl⟩, hend r (xo x x9) q hu (kst_rf q) (HOI_1 rfl hu h1) h2⟩
  · rcases hc with ⟨rfl, hno⟩ | ⟨rfl, hno⟩
    · exact hxiSE hno
    · exact hxiOE hno
abbrev zw_cell : gy := (yL_cell, cL_cell, 4, (some .int), [(0, 9, 12, 27), (0, 9, 15, 19)])
set_option maxRecDepth 100000 in
theorem dtk_L_cell : dck cL_cell [(0, .aload_n 2, 1), (1, .iconst 0, 1), (2, .aload_n 0, 1), (3, .iload_n 1, 1), (4, .invokevirtual 49, 3), (7, .i2l, 1), (8, .lastore, 1), (9, .goto 9, 3), (12, .astore_n 3, 1), (13, .iconst 1, 1), (14, .ireturn, 1), (15, .astore_n 3, 1), (16, .iconst 2, 1), (17, .ireturn, 1), (18, .iconst 0, 1), (19, .ireturn, 1)] = true := by decide +kernel
set_option maxRecDepth 100000 in
theorem wca_cell : tables_1_6[179]? = some (Cond.codeWith yL_cell cL_cell 4 (some .int) [(0, 9, 12, 27), (0, 9, 15, 19)]) := rfl
theorem wcw_cell : Cond.codeWith yL_cell cL_cell 4 (some .int) [(0, 9, 12, 27), (0, 9, 15, 19)] ∈ W0 := W0_in (tp_6 (List.mem_of_getElem? wca_cell)) rfl
theorem kcv_L_49 : gMv RL 49 zk_X11_cell 1 := ⟨⟨W0_in (tp_6 (List.mem_of_getElem? (i := 180) (by decide +kernel))) rfl, W0_in (tp_6 (List.mem_of_getElem? (i := 181) (by decide +kernel))) rfl, W0_in (tp_6 (List.mem_of_getElem? (i := 182) (by decide +kernel))) rfl, W0_in (tp_1 (List.mem_of_getElem? (i := 1) (by decide +kernel))) rfl, kcw_X11_cell⟩, ⟨by decide, by decide, by decide +kernel⟩, by decide, by decide⟩
theorem wct_cell_iSE : gCat zw_cell 4 iSE ⟨0, 9, 12, 27⟩ := ⟨⟨[], [⟨0, 9, 15, 19⟩], rfl, fun z hz => nomatch hz⟩, rfl, by decide, (W0_in (tp_5 (List.mem_of_getElem? (i := 107) (by decide +kernel))) rfl), by decide⟩
theorem wct_cell_iOE : gCat zw_cell 4 iOE ⟨0, 9, 15, 19⟩ := ⟨⟨[⟨0, 9, 12, 27⟩], [], rfl, fun z hz => by
  cases hz with
  | head => exact ⟨by decide, iSE, (W0_in (tp_5 (List.mem_of_getElem? (i := 107) (by decide +kernel))) rfl), by decide⟩
  | tail _ hz => cases hz⟩, rfl, by decide, (W0_in (tp_5 (List.mem_of_getElem? (i := 73) (by decide +kernel))) rfl), by decide⟩
set_option maxRecDepth 100000 in
set_option maxHeartbeats 4000000 in
theorem kw_cell {G : kG} {q : kP} {d : Nat} {x : gd} {C : gCo} {wr n : Nat} {lm : Nat → Nat} {w : gd} (hj : JH C wr n lm x w) (hu : kU q) (hH : HOI x q) (l1 : Int32) : T (wE (kE G)) (d + 30) zw_cell 0 [(0, vr 0), (1, vi l1), (2, vr 299)] [] x (fo (kf q)) (wq q (fun r9 y q1 => ansK (e1Ch x) (e2Ce x l1) (sCe C wr n (c96 w) x l1) x r9 y)) := by
  have m0 : 0 ∈ (fo (kf q)).2.1 := List.mem_append_left _ (kl_0 hu.1)
  have m9 : 299 ∈ (fo (kf q)).2.1 := List.mem_append_right _ (List.mem_singleton.mpr rfl)
  have n9 := n299 hu
  have r9 : NR (kf q) 299 := kU_NR hu n9
  refine T_aload_n 2 (dk dtk_L_cell 0 rfl) rfl rfl ?_
  refine T_iconst (v := 0) (dk dtk_L_cell 1 rfl) (by decide +kernel) ?_
  refine T_aload_n 0 (dk dtk_L_cell 2 rfl) rfl rfl ?_
  refine T_iload_n 1 (dk dtk_L_cell 3 rfl) rfl rfl ?_
  have hend : ∀ (r : Int32) (y : gd) (q1 : kP), kU q1 → kst q q1 → HOI y q1 → ¬ (e1Ch x) ∧ ¬ (e2Ce x l1) ∧ sCe C wr n (c96 w) x l1 r y → T (wE (kE G)) (d + 30) zw_cell 7 [(0, vr 0), (1, vi l1), (2, vr 299)] [vi r, vi 0, vr 299] y (fo (kf q1)) (wq q (fun r9 y q1 => ansK (e1Ch x) (e2Ce x l1) (sCe C wr n (c96 w) x l1) x r9 y)) := by
    intro r y q1 hu1 hk1 hH1 hp1
    have n91 : 299 ∈ (fo (kf q1)).2.1 := List.mem_append_right _ (List.mem_singleton.mpr rfl)
    refine T_i2l (dk dtk_L_cell 5 rfl) ?_
    refine T_last 299 1 (dk dtk_L_cell 6 rfl) wE_9 n91 (vin0 (by omega)) ?_
    refine T_goto 18 (dk dtk_L_cell 7 rfl) (by decide) ?_
    refine T_iconst (v := 0) (dk dtk_L_cell 14 rfl) (by decide +kernel) ?_
    exact T_iret (dk dtk_L_cell 15 rfl) rfl rfl ⟨0, q1, rfl, rfl, hu1, hk1, HOI_1 rfl hu1 hH1, Or.inr (Or.inr ⟨hp1.1, hp1.2.1, rfl, r, by rw [sL_c]; exact if_pos rfl, hp1.2.2⟩)⟩
  have hxiSE : e1Ch x → gtry (kE G) (d + 30) zw_cell 4 [(0, vr 0), (1, vi l1), (2, vr 299)] [vi 0, vr 299] (wq q (fun r9 y q1 => ansK (e1Ch x) (e2Ce x l1) (sCe C wr n (c96 w) x l1) x r9 y)) x (.inr iSE) x (gth (kf q)) := by
    intro hno
    refine ⟨⟨n9, r9⟩, ⟨0, 9, 12, 27⟩, 3, 1, wct_cell_iSE, Or.inl ⟨3, rfl, rfl, (dk dtk_L_cell 8 rfl)⟩, by decide, rfl, ?_⟩
    refine T_iconst (v := 1) (dk dtk_L_cell 9 rfl) (by decide +kernel) ?_
    exact T_iret (dk dtk_L_cell 10 rfl) rfl rfl ⟨1, kTh q, rfl, rfl, kTh_U hu, kst_th q, HOI_1 rfl (kTh_U hu) (HOI_th hH), Or.inl ⟨hno, rfl, KR_rf⟩⟩
  have hxiOE : e2Ce x l1 → gtry (kE G) (d + 30) zw_cell 4 [(0, vr 0), (1, vi l1), (2, vr 299)] [vi 0, vr 299] (wq q (fun r9 y q1 => ansK (e1Ch x) (e2Ce x l1) (sCe C wr n (c96 w) x l1) x r9 y)) x (.inr iOE) x (gth (kf q)) := by
    intro hno
    refine ⟨⟨n9, r9⟩, ⟨0, 9, 15, 19⟩, 3, 1, wct_cell_iOE, Or.inl ⟨3, rfl, rfl, (dk dtk_L_cell 11 rfl)⟩, by decide, rfl, ?_⟩
    refine T_iconst (v := 2) (dk dtk_L_cell 12 rfl) (by decide +kernel) ?_
    exact T_iret (dk dtk_L_cell 13 rfl) rfl rfl ⟨2, kTh q, rfl, rfl, kTh_U hu, kst_th q, HOI_1 rfl (kTh_U hu) (HOI_th hH), Or.inr (Or.inl ⟨hno, rfl, KR_rf⟩)⟩
  refine T_tryF (E := kE G) [vi l1] [vi 0, vr 299] (d + 7) rfl (dk dtk_L_cell 4 rfl) kcv_L_49 rfl kk_0 rfl (kl_0 hu.1) (by omega) (Nat.le_of_ble_eq_true rfl) (Nat.le_of_ble_eq_true rfl) (gok_i (av_c (gkr m0) (av_c rfl (av_c (gkr m9) av_n))) (as_c rfl (as_c (gkr m9) as_n))) rfl n9 ?_
  refine T_mono (ka_cell (d := d) hj hu.1 hH l1 (P := fun v9 y9 => ∃ r, v9 = some (vi r) ∧ HOI y9 q ∧ ¬ (e1Ch x) ∧ ¬ (e2Ce x l1) ∧ sCe C wr n (c96 w) x l1 r y9) (X := fun c9 y9 => ((c9 = iSE ∧ e1Ch x) ∨ (c9 = iOE ∧ e2Ce x l1)) ∧ y9 = x) (fun h9 => ⟨Or.inl ⟨rfl, h9⟩, rfl⟩) (fun h9 => ⟨Or.inr ⟨rfl, h9⟩, rfl⟩) (fun h8 h9 r y h1 h2 => ⟨r, rfl, h1, h8, h9, h2⟩)) (fun o9 x9 f9 w9 => ?_)
  rcases w9 with ⟨rfl, v, rfl, r, rfl, h1, h2⟩ | ⟨rfl, c9, rfl, hc, rfl⟩
  · exact ⟨⟨n9, r9⟩, ⟨r, rfl⟩, hend r (xo x x9) q hu (kst_rf q) (HOI_1 rfl hu h1) h2⟩
  · rcases hc with ⟨rfl, hno⟩ | ⟨rfl, hno⟩
    · exact hxiSE hno
    · exact hxiOE hno
abbrev zw_seen : gy := (yL_seen, cL_seen, 5, (some .int), [(0, 10, 13, 27), (0, 10, 17, 19)])
set_option maxRecDepth 100000 in
theorem dtk_L_seen : dck cL_seen [(0, .aload_n 3, 1), (1, .iconst 0, 1), (2, .aload_n 0, 1), (3, .iload_n 1, 1), (4, .iload_n 2, 1), (5, .invokevirtual 52, 3), (8, .i2l, 1), (9, .lastore, 1), (10, .goto 11, 3), (13, .astore 4, 2), (15, .iconst 1, 1), (16, .ireturn, 1), (17, .astore 4, 2), (19, .iconst 2, 1), (20, .ireturn, 1), (21, .iconst 0, 1), (22, .ireturn, 1)] = true := by decide +kernel
set_option maxRecDepth 100000 in
theorem wca_seen : tables_1_6[186]? = some (Cond.codeWith yL_seen cL_seen 5 (some .int) [(0, 10, 13, 27), (0, 10, 17, 19)]) := rfl
theorem wcw_seen : Cond.codeWith yL_seen cL_seen 5 (some .int) [(0, 10, 13, 27), (0, 10, 17, 19)] ∈ W0 := W0_in (tp_6 (List.mem_of_getElem? wca_seen)) rfl
theorem kcv_L_52 : gMv RL 52 zk_X11_seen 2 := ⟨⟨W0_in (tp_6 (List.mem_of_getElem? (i := 187) (by decide +kernel))) rfl, W0_in (tp_6 (List.mem_of_getElem? (i := 188) (by decide +kernel))) rfl, W0_in (tp_6 (List.mem_of_getElem? (i := 189) (by decide +kernel))) rfl, W0_in (tp_1 (List.mem_of_getElem? (i := 1) (by decide +kernel))) rfl, kcw_X11_seen⟩, ⟨by decide, by decide, by decide +kernel⟩, by decide, by decide⟩
theorem wct_seen_iSE : gCat zw_seen 5 iSE ⟨0, 10, 13, 27⟩ := ⟨⟨[], [⟨0, 10, 17, 19⟩], rfl, fun z hz => nomatch hz⟩, rfl, by decide, (W0_in (tp_5 (List.mem_of_getElem? (i := 107) (by decide +kernel))) rfl), by decide⟩
theorem wct_seen_iOE : gCat zw_seen 5 iOE ⟨0, 10, 17, 19⟩ := ⟨⟨[⟨0, 10, 13, 27⟩], [], rfl, fun z hz => by
  cases hz with
  | head => exact ⟨by decide, iSE, (W0_in (tp_5 (List.mem_of_getElem? (i := 107) (by decide +kernel))) rfl), by decide⟩
  | tail _ hz => cases hz⟩, rfl, by decide, (W0_in (tp_5 (List.mem_of_getElem? (i := 73) (by decide +kernel))) rfl), by decide⟩
set_option maxRecDepth 100000 in
set_option maxHeartbeats 4000000 in
theorem kw_seen {G : kG} {q : kP} {d : Nat} {x : gd} {C : gCo} {wr n : Nat} {lm : Nat → Nat} {w : gd} (hj : JH C wr n lm x w) (hu : kU q) (hH : HOI x q) (l1 : Int32) (l2 : Int32) : T (wE (kE G)) (d + 30) zw_seen 0 [(0, vr 0), (1, vi l1), (2, vi l2), (3, vr 299)] [] x (fo (kf q)) (wq q (fun r9 y q1 => ansK (e1Ch x) (e2Se x l1 l2) (sSe C wr n (c96 w) x l1 l2) x r9 y)) := by
  have m0 : 0 ∈ (fo (kf q)).2.1 := List.mem_append_left _ (kl_0 hu.1)
  have m9 : 299 ∈ (fo (kf q)).2.1 := List.mem_append_right _ (List.mem_singleton.mpr rfl)
  have n9 := n299 hu
  have r9 : NR (kf q) 299 := kU_NR hu n9
  refine T_aload_n 3 (dk dtk_L_seen 0 rfl) rfl rfl ?_
  refine T_iconst (v := 0) (dk dtk_L_seen 1 rfl) (by decide +kernel) ?_
  refine T_aload_n 0 (dk dtk_L_seen 2 rfl) rfl rfl ?_
  refine T_iload_n 1 (dk dtk_L_seen 3 rfl) rfl rfl ?_
  refine T_iload_n 2 (dk dtk_L_seen 4 rfl) rfl rfl ?_
  have hend : ∀ (r : Int32) (y : gd) (q1 : kP), kU q1 → kst q q1 → HOI y q1 → ¬ (e1Ch x) ∧ ¬ (e2Se x l1 l2) ∧ sSe C wr n (c96 w) x l1 l2 r y → T (wE (kE G)) (d + 30) zw_seen 8 [(0, vr 0), (1, vi l1), (2, vi l2), (3, vr 299)] [vi r, vi 0, vr 299] y (fo (kf q1)) (wq q (fun r9 y q1 => ansK (e1Ch x) (e2Se x l1 l2) (sSe C wr n (c96 w) x l1 l2) x r9 y)) := by
    intro r y q1 hu1 hk1 hH1 hp1
    have n91 : 299 ∈ (fo (kf q1)).2.1 := List.mem_append_right _ (List.mem_singleton.mpr rfl)
    refine T_i2l (dk dtk_L_seen 6 rfl) ?_
    refine T_last 299 1 (dk dtk_L_seen 7 rfl) wE_9 n91 (vin0 (by omega)) ?_
    refine T_goto 21 (dk dtk_L_seen 8 rfl) (by decide) ?_
    refine T_iconst (v := 0) (dk dtk_L_seen 15 rfl) (by decide +kernel) ?_
    exact T_iret (dk dtk_L_seen 16 rfl) rfl rfl ⟨0, q1, rfl, rfl, hu1, hk1, HOI_1 rfl hu1 hH1, Or.inr (Or.inr ⟨hp1.1, hp1.2.1, rfl, r, by rw [sL_c]; exact if_pos rfl, hp1.2.2⟩)⟩
  have hxiSE : e1Ch x → gtry (kE G) (d + 30) zw_seen 5 [(0, vr 0), (1, vi l1), (2, vi l2), (3, vr 299)] [vi 0, vr 299] (wq q (fun r9 y q1 => ansK (e1Ch x) (e2Se x l1 l2) (sSe C wr n (c96 w) x l1 l2) x r9 y)) x (.inr iSE) x (gth (kf q)) := by
    intro hno
    refine ⟨⟨n9, r9⟩, ⟨0, 10, 13, 27⟩, 4, 2, wct_seen_iSE, Or.inr ⟨rfl, (dk dtk_L_seen 9 rfl)⟩, by decide, rfl, ?_⟩
    refine T_iconst (v := 1) (dk dtk_L_seen 10 rfl) (by decide +kernel) ?_
    exact T_iret (dk dtk_L_seen 11 rfl) rfl rfl ⟨1, kTh q, rfl, rfl, kTh_U hu, kst_th q, HOI_1 rfl (kTh_U hu) (HOI_th hH), Or.inl ⟨hno, rfl, KR_rf⟩⟩
  have hxiOE : e2Se x l1 l2 → gtry (kE G) (d + 30) zw_seen 5 [(0, vr 0), (1, vi l1), (2, vi l2), (3, vr 299)] [vi 0, vr 299] (wq q (fun r9 y q1 => ansK (e1Ch x) (e2Se x l1 l2) (sSe C wr n (c96 w) x l1 l2) x r9 y)) x (.inr iOE) x (gth (kf q)) := by
    intro hno
    refine ⟨⟨n9, r9⟩, ⟨0, 10, 17, 19⟩, 4, 2, wct_seen_iOE, Or.inr ⟨rfl, (dk dtk_L_seen 12 rfl)⟩, by decide, rfl, ?_⟩
    refine T_iconst (v := 2) (dk dtk_L_seen 13 rfl) (by decide +kernel) ?_
    exact T_iret (dk dtk_L_seen 14 rfl) rfl rfl ⟨2, kTh q, rfl, rfl, kTh_U hu, kst_th q, HOI_1 rfl (kTh_U hu) (HOI_th hH), Or.inr (Or.inl ⟨hno, rfl, KR_rf⟩)⟩
  refine T_tryF (E := kE G) [vi l1, vi l2] [vi 0, vr 299] (d + 7) rfl (dk dtk_L_seen 5 rfl) kcv_L_52 rfl kk_0 rfl (kl_0 hu.1) (by omega) (Nat.le_of_ble_eq_true rfl) (Nat.le_of_ble_eq_true rfl) (gok_i (av_c (gkr m0) (av_c rfl (av_c rfl (av_c (gkr m9) av_n)))) (as_c rfl (as_c (gkr m9) as_n))) rfl n9 ?_
  refine T_mono (ka_seen (d := d) hj hu.1 hH l1 l2 (P := fun v9 y9 => ∃ r, v9 = some (vi r) ∧ HOI y9 q ∧ ¬ (e1Ch x) ∧ ¬ (e2Se x l1 l2) ∧ sSe C wr n (c96 w) x l1 l2 r y9) (X := fun c9 y9 => ((c9 = iSE ∧ e1Ch x) ∨ (c9 = iOE ∧ e2Se x l1 l2)) ∧ y9 = x) (fun h9 => ⟨Or.inl ⟨rfl, h9⟩, rfl⟩) (fun h9 => ⟨Or.inr ⟨rfl, h9⟩, rfl⟩) (fun h8 h9 r y h1 h2 => ⟨r, rfl, h1, h8, h9, h2⟩)) (fun o9 x9 f9 w9 => ?_)
  rcases w9 with ⟨rfl, v, rfl, r, rfl, h1, h2⟩ | ⟨rfl, c9, rfl, hc, rfl⟩
  · exact ⟨⟨n9, r9⟩, ⟨r, rfl⟩, hend r (xo x x9) q hu (kst_rf q) (HOI_1 rfl hu h1) h2⟩
  · rcases hc with ⟨rfl, hno⟩ | ⟨rfl, hno⟩
    · exact hxiSE hno
    · exact hxiOE hno
abbrev zw_lock : gy := (yL_lock, cL_lock, 5, (some .int), [(0, 10, 13, 27), (0, 10, 17, 19)])
set_option maxRecDepth 100000 in
theorem dtk_L_lock : dck cL_lock [(0, .aload_n 3, 1), (1, .iconst 0, 1), (2, .aload_n 0, 1), (3, .iload_n 1, 1), (4, .iload_n 2, 1), (5, .invokevirtual 55, 3), (8, .i2l, 1), (9, .lastore, 1), (10, .goto 11, 3), (13, .astore 4, 2), (15, .iconst 1, 1), (16, .ireturn, 1), (17, .astore 4, 2), (19, .iconst 2, 1), (20, .ireturn, 1), (21, .iconst 0, 1), (22, .ireturn, 1)] = true := by decide +kernel
set_option maxRecDepth 100000 in
theorem wca_lock : tables_1_6[194]? = some (Cond.codeWith yL_lock cL_lock 5 (some .int) [(0, 10, 13, 27), (0, 10, 17, 19)]) := rfl
theorem wcw_lock : Cond.codeWith yL_lock cL_lock 5 (some .int) [(0, 10, 13, 27), (0, 10, 17, 19)] ∈ W0 := W0_in (tp_6 (List.mem_of_getElem? wca_lock)) rfl
theorem kcv_L_55 : gMv RL 55 zk_X11_lock 2 := ⟨⟨W0_in (tp_6 (List.mem_of_getElem? (i := 195) (by decide +kernel))) rfl, W0_in (tp_6 (List.mem_of_getElem? (i := 196) (by decide +kernel))) rfl, W0_in (tp_6 (List.mem_of_getElem? (i := 197) (by decide +kernel))) rfl, W0_in (tp_1 (List.mem_of_getElem? (i := 1) (by decide +kernel))) rfl, kcw_X11_lock⟩, ⟨by decide, by decide, by decide +kernel⟩, by decide, by decide⟩
theorem wct_lock_iSE : gCat zw_lock 5 iSE ⟨0, 10, 13, 27⟩ := ⟨⟨[], [⟨0, 10, 17, 19⟩], rfl, fun z hz => nomatch hz⟩, rfl, by decide, (W0_in (tp_5 (List.mem_of_getElem? (i := 107) (by decide +kernel))) rfl), by decide⟩
theorem wct_lock_iOE : gCat zw_lock 5 iOE ⟨0, 10, 17, 19⟩ := ⟨⟨[⟨0, 10, 13, 27⟩], [], rfl, fun z hz => by
  cases hz with
  | head => exact ⟨by decide, iSE, (W0_in (tp_5 (List.mem_of_getElem? (i := 107) (by decide +kernel))) rfl), by decide⟩
  | tail _ hz => cases hz⟩, rfl, by decide, (W0_in (tp_5 (List.mem_of_getElem? (i := 73) (by decide +kernel))) rfl), by decide⟩
set_option maxRecDepth 100000 in
set_option maxHeartbeats 4000000 in
theorem kw_lock {G : kG} {q : kP} {d : Nat} {x : gd} (hu : kU q) (hH : HOI x q) (l1 : Int32) (l2 : Int32) : T (wE (kE G)) (d + 30) zw_lock 0 [(0, vr 0), (1, vi l1), (2, vi l2), (3, vr 299)] [] x (fo (kf q)) (wq q (fun _ y q1 => KRd x y)) := by
  have m0 : 0 ∈ (fo (kf q)).2.1 := List.mem_append_left _ (kl_0 hu.1)
  have m9 : 299 ∈ (fo (kf q)).2.1 := List.mem_append_right _ (List.mem_singleton.mpr rfl)
  have n9 := n299 hu
  have r9 : NR (kf q) 299 := kU_NR hu n9
  refine T_aload_n 3 (dk dtk_L_lock 0 rfl) rfl rfl ?_
  refine T_iconst (v := 0) (dk dtk_L_lock 1 rfl) (by decide +kernel) ?_
  refine T_aload_n 0 (dk dtk_L_lock 2 rfl) rfl rfl ?_
  refine T_iload_n 1 (dk dtk_L_lock 3 rfl) rfl rfl ?_
  refine T_iload_n 2 (dk dtk_L_lock 4 rfl) rfl rfl ?_
  have hend : ∀ (r : Int32) (y : gd) (q1 : kP), kU q1 → kst q q1 → HOI y q1 → (fun _ y q1 => KRd x y) 0 y q1 → T (wE (kE G)) (d + 30) zw_lock 8 [(0, vr 0), (1, vi l1), (2, vi l2), (3, vr 299)] [vi r, vi 0, vr 299] y (fo (kf q1)) (wq q (fun _ y q1 => KRd x y)) := by
    intro r y q1 hu1 hk1 hH1 hp1
    have n91 : 299 ∈ (fo (kf q1)).2.1 := List.mem_append_right _ (List.mem_singleton.mpr rfl)
    refine T_i2l (dk dtk_L_lock 6 rfl) ?_
    refine T_last 299 1 (dk dtk_L_lock 7 rfl) wE_9 n91 (vin0 (by omega)) ?_
    refine T_goto 21 (dk dtk_L_lock 8 rfl) (by decide) ?_
    refine T_iconst (v := 0) (dk dtk_L_lock 15 rfl) (by decide +kernel) ?_
    exact T_iret (dk dtk_L_lock 16 rfl) rfl rfl ⟨0, q1, rfl, rfl, hu1, hk1, HOI_1 rfl hu1 hH1, hp1⟩
  have hxiSE : gtry (kE G) (d + 30) zw_lock 5 [(0, vr 0), (1, vi l1), (2, vi l2), (3, vr 299)] [vi 0, vr 299] (wq q (fun _ y q1 => KRd x y)) x (.inr iSE) x (gth (kf q)) := by
    refine ⟨⟨n9, r9⟩, ⟨0, 10, 13, 27⟩, 4, 2, wct_lock_iSE, Or.inr ⟨rfl, (dk dtk_L_lock 9 rfl)⟩, by decide, rfl, ?_⟩
    refine T_iconst (v := 1) (dk dtk_L_lock 10 rfl) (by decide +kernel) ?_
    exact T_iret (dk dtk_L_lock 11 rfl) rfl rfl ⟨1, kTh q, rfl, rfl, kTh_U hu, kst_th q, HOI_1 rfl (kTh_U hu) (HOI_th hH), KR_rf⟩
  have hxiOE : gtry (kE G) (d + 30) zw_lock 5 [(0, vr 0), (1, vi l1), (2, vi l2), (3, vr 299)] [vi 0, vr 299] (wq q (fun _ y q1 => KRd x y)) x (.inr iOE) x (gth (kf q)) := by
    refine ⟨⟨n9, r9⟩, ⟨0, 10, 17, 19⟩, 4, 2, wct_lock_iOE, Or.inr ⟨rfl, (dk dtk_L_lock 12 rfl)⟩, by decide, rfl, ?_⟩
    refine T_iconst (v := 2) (dk dtk_L_lock 13 rfl) (by decide +kernel) ?_
    exact T_iret (dk dtk_L_lock 14 rfl) rfl rfl ⟨2, kTh q, rfl, rfl, kTh_U hu, kst_th q, HOI_1 rfl (kTh_U hu) (HOI_th hH), KR_rf⟩
  refine T_tryF (E := kE G) [vi l1, vi l2] [vi 0, vr 299] (d + 7) rfl (dk dtk_L_lock 5 rfl) kcv_L_55 rfl kk_0 rfl (kl_0 hu.1) (by omega) (Nat.le_of_ble_eq_true rfl) (Nat.le_of_ble_eq_true rfl) (gok_i (av_c (gkr m0) (av_c rfl (av_c rfl (av_c (gkr m9) av_n)))) (as_c rfl (as_c (gkr m9) as_n))) rfl n9 ?_
  refine T_mono (kr_lock (d := d) hu.1 hH l1 l2 (P := fun v9 y9 => ∃ r, v9 = some (vi r) ∧ HOI y9 q ∧ KRd x y9) (X := fun c9 y9 => (c9 = iSE ∨ c9 = iOE) ∧ y9 = x) ⟨Or.inl rfl, rfl⟩ ⟨Or.inr rfl, rfl⟩ (fun r y h1 h2 => ⟨r, rfl, h1, h2⟩)) (fun o9 x9 f9 w9 => ?_)
  rcases w9 with ⟨rfl, v, rfl, r, rfl, h1, h2⟩ | ⟨rfl, c9, rfl, hc, rfl⟩
  · exact ⟨⟨n9, r9⟩, ⟨r, rfl⟩, hend r (xo x x9) q hu (kst_rf q) (HOI_1 rfl hu h1) h2⟩
  · rcases hc with rfl | rfl
    · exact hxiSE
    · exact hxiOE
abbrev zw_thread : gy := (yL_thread, cL_thread, 5, (some .int), [(0, 10, 13, 27), (0, 10, 17, 19)])
set_option maxRecDepth 100000 in
theorem dtk_L_thread : dck cL_thread [(0, .aload_n 3, 1), (1, .iconst 0, 1), (2, .aload_n 0, 1), (3, .iload_n 1, 1), (4, .iload_n 2, 1), (5, .invokevirtual 58, 3), (8, .i2l, 1), (9, .lastore, 1), (10, .goto 11, 3), (13, .astore 4, 2), (15, .iconst 1, 1), (16, .ireturn, 1), (17, .astore 4, 2), (19, .iconst 2, 1), (20, .ireturn, 1), (21, .iconst 0, 1), (22, .ireturn, 1)] = true := by decide +kernel
set_option maxRecDepth 100000 in
theorem wca_thread : tables_1_6[210]? = some (Cond.codeWith yL_thread cL_thread 5 (some .int) [(0, 10, 13, 27), (0, 10, 17, 19)]) := rfl
theorem wcw_thread : Cond.codeWith yL_thread cL_thread 5 (some .int) [(0, 10, 13, 27), (0, 10, 17, 19)] ∈ W0 := W0_in (tp_6 (List.mem_of_getElem? wca_thread)) rfl
theorem kcv_L_58 : gMv RL 58 zk_X11_thread 2 := ⟨⟨W0_in (tp_6 (List.mem_of_getElem? (i := 211) (by decide +kernel))) rfl, W0_in (tp_6 (List.mem_of_getElem? (i := 212) (by decide +kernel))) rfl, W0_in (tp_6 (List.mem_of_getElem? (i := 213) (by decide +kernel))) rfl, W0_in (tp_1 (List.mem_of_getElem? (i := 1) (by decide +kernel))) rfl, kcw_X11_thread⟩, ⟨by decide, by decide, by decide +kernel⟩, by decide, by decide⟩
theorem wct_thread_iSE : gCat zw_thread 5 iSE ⟨0, 10, 13, 27⟩ := ⟨⟨[], [⟨0, 10, 17, 19⟩], rfl, fun z hz => nomatch hz⟩, rfl, by decide, (W0_in (tp_5 (List.mem_of_getElem? (i := 107) (by decide +kernel))) rfl), by decide⟩
theorem wct_thread_iOE : gCat zw_thread 5 iOE ⟨0, 10, 17, 19⟩ := ⟨⟨[⟨0, 10, 13, 27⟩], [], rfl, fun z hz => by
  cases hz with
  | head => exact ⟨by decide, iSE, (W0_in (tp_5 (List.mem_of_getElem? (i := 107) (by decide +kernel))) rfl), by decide⟩
  | tail _ hz => cases hz⟩, rfl, by decide, (W0_in (tp_5 (List.mem_of_getElem? (i := 73) (by decide +kernel))) rfl), by decide⟩
set_option maxRecDepth 100000 in
set_option maxHeartbeats 4000000 in
theorem kw_thread {G : kG} {q : kP} {d : Nat} {x : gd} (hu : kU q) (hH : HOI x q) (l1 : Int32) (l2 : Int32) : T (wE (kE G)) (d + 30) zw_thread 0 [(0, vr 0), (1, vi l1), (2, vi l2), (3, vr 299)] [] x (fo (kf q)) (wq q (fun _ y q1 => KRd x y)) := by
  have m0 : 0 ∈ (fo (kf q)).2.1 := List.mem_append_left _ (kl_0 hu.1)
  have m9 : 299 ∈ (fo (kf q)).2.1 := List.mem_append_right _ (List.mem_singleton.mpr rfl)
  have n9 := n299 hu
  have r9 : NR (kf q) 299 := kU_NR hu n9
  refine T_aload_n 3 (dk dtk_L_thread 0 rfl) rfl rfl ?_
  refine T_iconst (v := 0) (dk dtk_L_thread 1 rfl) (by decide +kernel) ?_
  refine T_aload_n 0 (dk dtk_L_thread 2 rfl) rfl rfl ?_
  refine T_iload_n 1 (dk dtk_L_thread 3 rfl) rfl rfl ?_
  refine T_iload_n 2 (dk dtk_L_thread 4 rfl) rfl rfl ?_
  have hend : ∀ (r : Int32) (y : gd) (q1 : kP), kU q1 → kst q q1 → HOI y q1 → (fun _ y q1 => KRd x y) 0 y q1 → T (wE (kE G)) (d + 30) zw_thread 8 [(0, vr 0), (1, vi l1), (2, vi l2), (3, vr 299)] [vi r, vi 0, vr 299] y (fo (kf q1)) (wq q (fun _ y q1 => KRd x y)) := by
    intro r y q1 hu1 hk1 hH1 hp1
    have n91 : 299 ∈ (fo (kf q1)).2.1 := List.mem_append_right _ (List.mem_singleton.mpr rfl)
    refine T_i2l (dk dtk_L_thread 6 rfl) ?_
    refine T_last 299 1 (dk dtk_L_thread 7 rfl) wE_9 n91 (vin0 (by omega)) ?_
    refine T_goto 21 (dk dtk_L_thread 8 rfl) (by decide) ?_
    refine T_iconst (v := 0) (dk dtk_L_thread 15 rfl) (by decide +kernel) ?_
    exact T_iret (dk dtk_L_thread 16 rfl) rfl rfl ⟨0, q1, rfl, rfl, hu1, hk1, HOI_1 rfl hu1 hH1, hp1⟩
  have hxiSE : gtry (kE G) (d + 30) zw_thread 5 [(0, vr 0), (1, vi l1), (2, vi l2), (3, vr 299)] [vi 0, vr 299] (wq q (fun _ y q1 => KRd x y)) x (.inr iSE) x (gth (kf q)) := by
    refine ⟨⟨n9, r9⟩, ⟨0, 10, 13, 27⟩, 4, 2, wct_thread_iSE, Or.inr ⟨rfl, (dk dtk_L_thread 9 rfl)⟩, by decide, rfl, ?_⟩
    refine T_iconst (v := 1) (dk dtk_L_thread 10 rfl) (by decide +kernel) ?_
    exact T_iret (dk dtk_L_thread 11 rfl) rfl rfl ⟨1, kTh q, rfl, rfl, kTh_U hu, kst_th q, HOI_1 rfl (kTh_U hu) (HOI_th hH), KR_rf⟩
  have hxiOE : gtry (kE G) (d + 30) zw_thread 5 [(0, vr 0), (1, vi l1), (2, vi l2), (3, vr 299)] [vi 0, vr 299] (wq q (fun _ y q1 => KRd x y)) x (.inr iOE) x (gth (kf q)) := by
    refine ⟨⟨n9, r9⟩, ⟨0, 10, 17, 19⟩, 4, 2, wct_thread_iOE, Or.inr ⟨rfl, (dk dtk_L_thread 12 rfl)⟩, by decide, rfl, ?_⟩
    refine T_iconst (v := 2) (dk dtk_L_thread 13 rfl) (by decide +kernel) ?_
    exact T_iret (dk dtk_L_thread 14 rfl) rfl rfl ⟨2, kTh q, rfl, rfl, kTh_U hu, kst_th q, HOI_1 rfl (kTh_U hu) (HOI_th hH), KR_rf⟩
  refine T_tryF (E := kE G) [vi l1, vi l2] [vi 0, vr 299] (d + 7) rfl (dk dtk_L_thread 5 rfl) kcv_L_58 rfl kk_0 rfl (kl_0 hu.1) (by omega) (Nat.le_of_ble_eq_true rfl) (Nat.le_of_ble_eq_true rfl) (gok_i (av_c (gkr m0) (av_c rfl (av_c rfl (av_c (gkr m9) av_n)))) (as_c rfl (as_c (gkr m9) as_n))) rfl n9 ?_
  refine T_mono (kr_thread (d := d) hu.1 hH l1 l2 (P := fun v9 y9 => ∃ r, v9 = some (vi r) ∧ HOI y9 q ∧ KRd x y9) (X := fun c9 y9 => (c9 = iSE ∨ c9 = iOE) ∧ y9 = x) ⟨Or.inl rfl, rfl⟩ ⟨Or.inr rfl, rfl⟩ (fun r y h1 h2 => ⟨r, rfl, h1, h2⟩)) (fun o9 x9 f9 w9 => ?_)
  rcases w9 with ⟨rfl, v, rfl, r, rfl, h1, h2⟩ | ⟨rfl, c9, rfl, hc, rfl⟩
  · exact ⟨⟨n9, r9⟩, ⟨r, rfl⟩, hend r (xo x x9) q hu (kst_rf q) (HOI_1 rfl hu h1) h2⟩
  · rcases hc with rfl | rfl
    · exact hxiSE
    · exact hxiOE
abbrev zw_local : gy := (yL_local, cL_local, 5, (some .int), [(0, 10, 13, 27), (0, 10, 17, 19)])
set_option maxRecDepth 100000 in
theorem dtk_L_local : dck cL_local [(0, .aload_n 3, 1), (1, .iconst 0, 1), (2, .aload_n 0, 1), (3, .iload_n 1, 1), (4, .iload_n 2, 1), (5, .invokevirtual 61, 3), (8, .i2l, 1), (9, .lastore, 1), (10, .goto 11, 3), (13, .astore 4, 2), (15, .iconst 1, 1), (16, .ireturn, 1), (17, .astore 4, 2), (19, .iconst 2, 1), (20, .ireturn, 1), (21, .iconst 0, 1), (22, .ireturn, 1)] = true := by decide +kernel
set_option maxRecDepth 100000 in
theorem wca_local : tables_1_6[223]? = some (Cond.codeWith yL_local cL_local 5 (some .int) [(0, 10, 13, 27), (0, 10, 17, 19)]) := rfl
theorem wcw_local : Cond.codeWith yL_local cL_local 5 (some .int) [(0, 10, 13, 27), (0, 10, 17, 19)] ∈ W0 := W0_in (tp_6 (List.mem_of_getElem? wca_local)) rfl
theorem kcv_L_61 : gMv RL 61 zk_X11_local 2 := ⟨⟨W0_in (tp_6 (List.mem_of_getElem? (i := 224) (by decide +kernel))) rfl, W0_in (tp_6 (List.mem_of_getElem? (i := 225) (by decide +kernel))) rfl, W0_in (tp_6 (List.mem_of_getElem? (i := 226) (by decide +kernel))) rfl, W0_in (tp_1 (List.mem_of_getElem? (i := 1) (by decide +kernel))) rfl, kcw_X11_local⟩, ⟨by decide, by decide, by decide +kernel⟩, by decide, by decide⟩
theorem wct_local_iSE : gCat zw_local 5 iSE ⟨0, 10, 13, 27⟩ := ⟨⟨[], [⟨0, 10, 17, 19⟩], rfl, fun z hz => nomatch hz⟩, rfl, by decide, (W0_in (tp_5 (List.mem_of_getElem? (i := 107) (by decide +kernel))) rfl), by decide⟩
theorem wct_local_iOE : gCat zw_local 5 iOE ⟨0, 10, 17, 19⟩ := ⟨⟨[⟨0, 10, 13, 27⟩], [], rfl, fun z hz => by
  cases hz with
  | head => exact ⟨by decide, iSE, (W0_in (tp_5 (List.mem_of_getElem? (i := 107) (by decide +kernel))) rfl), by decide⟩
  | tail _ hz => cases hz⟩, rfl, by decide, (W0_in (tp_5 (List.mem_of_getElem? (i := 73) (by decide +kernel))) rfl), by decide⟩
set_option maxRecDepth 100000 in
set_option maxHeartbeats 4000000 in
theorem kw_local {G : kG} {q : kP} {d : Nat} {x : gd} {C : gCo} {wr n : Nat} {lm : Nat → Nat} {w : gd} (hj : JH C wr n lm x w) (hu : kU q) (hH : HOI x q) (l1 : Int32) (l2 : Int32) : T (wE (kE G)) (d + 30) zw_local 0 [(0, vr 0), (1, vi l1), (2, vi l2), (3, vr 299)] [] x (fo (kf q)) (wq q (fun r9 y q1 => ansK (e1Ch x) (e2Lo C wr n (c96 w) x l1 l2) (sLo C wr n (c96 w) x l1 l2) x r9 y)) := by
  have m0 : 0 ∈ (fo (kf q)).2.1 := List.mem_append_left _ (kl_0 hu.1)
  have m9 : 299 ∈ (fo (kf q)).2.1 := List.mem_append_right _ (List.mem_singleton.mpr rfl)
  have n9 := n299 hu
  have r9 : NR (kf q) 299 := kU_NR hu n9
  refine T_aload_n 3 (dk dtk_L_local 0 rfl) rfl rfl ?_
  refine T_iconst (v := 0) (dk dtk_L_local 1 rfl) (by decide +kernel) ?_
  refine T_aload_n 0 (dk dtk_L_local 2 rfl) rfl rfl ?_
  refine T_iload_n 1 (dk dtk_L_local 3 rfl) rfl rfl ?_
  refine T_iload_n 2 (dk dtk_L_local 4 rfl) rfl rfl ?_
  have hend : ∀ (r : Int32) (y : gd) (q1 : kP), kU q1 → kst q q1 → HOI y q1 → ¬ (e1Ch x) ∧ ¬ (e2Lo C wr n (c96 w) x l1 l2) ∧ sLo C wr n (c96 w) x l1 l2 r y → T (wE (kE G)) (d + 30) zw_local 8 [(0, vr 0), (1, vi l1), (2, vi l2), (3, vr 299)] [vi r, vi 0, vr 299] y (fo (kf q1)) (wq q (fun r9 y q1 => ansK (e1Ch x) (e2Lo C wr n (c96 w) x l1 l2) (sLo C wr n (c96 w) x l1 l2) x r9 y)) := by
    intro r y q1 hu1 hk1 hH1 hp1
    have n91 : 299 ∈ (fo (kf q1)).2.1 := List.mem_append_right _ (List.mem_singleton.mpr rfl)
    refine T_i2l (dk dtk_L_local 6 rfl) ?_
    refine T_last 299 1 (dk dtk_L_local 7 rfl) wE_9 n91 (vin0 (by omega)) ?_
    refine T_goto 21 (dk dtk_L_local 8 rfl) (by decide) ?_
    refine T_iconst (v := 0) (dk dtk_L_local 15 rfl) (by decide +kernel) ?_
    exact T_iret (dk dtk_L_local 16 rfl) rfl rfl ⟨0, q1, rfl, rfl, hu1, hk1, HOI_1 rfl hu1 hH1, Or.inr (Or.inr ⟨hp1.1, hp1.2.1, rfl, r, by rw [sL_c]; exact if_pos rfl, hp1.2.2⟩)⟩
  have hxiSE : e1Ch x → gtry (kE G) (d + 30) zw_local 5 [(0, vr 0), (1, vi l1), (2, vi l2), (3, vr 299)] [vi 0, vr 299] (wq q (fun r9 y q1 => ansK (e1Ch x) (e2Lo C wr n (c96 w) x l1 l2) (sLo C wr n (c96 w) x l1 l2) x r9 y)) x (.inr iSE) x (gth (kf q)) := by
    intro hno
    refine ⟨⟨n9, r9⟩, ⟨0, 10, 13, 27⟩, 4, 2, wct_local_iSE, Or.inr ⟨rfl, (dk dtk_L_local 9 rfl)⟩, by decide, rfl, ?_⟩
    refine T_iconst (v := 1) (dk dtk_L_local 10 rfl) (by decide +kernel) ?_
    exact T_iret (dk dtk_L_local 11 rfl) rfl rfl ⟨1, kTh q, rfl, rfl, kTh_U hu, kst_th q, HOI_1 rfl (kTh_U hu) (HOI_th hH), Or.inl ⟨hno, rfl, KR_rf⟩⟩
  have hxiOE : e2Lo C wr n (c96 w) x l1 l2 → gtry (kE G) (d + 30) zw_local 5 [(0, vr 0), (1, vi l1), (2, vi l2), (3, vr 299)] [vi 0, vr 299] (wq q (fun r9 y q1 => ansK (e1Ch x) (e2Lo C wr n (c96 w) x l1 l2) (sLo C wr n (c96 w) x l1 l2) x r9 y)) x (.inr iOE) x (gth (kf q)) := by
    intro hno
    refine ⟨⟨n9, r9⟩, ⟨0, 10, 17, 19⟩, 4, 2, wct_local_iOE, Or.inr ⟨rfl, (dk dtk_L_local 12 rfl)⟩, by decide, rfl, ?_⟩
    refine T_iconst (v := 2) (dk dtk_L_local 13 rfl) (by decide +kernel) ?_
    exact T_iret (dk dtk_L_local 14 rfl) rfl rfl ⟨2, kTh q, rfl, rfl, kTh_U hu, kst_th q, HOI_1 rfl (kTh_U hu) (HOI_th hH), Or.inr (Or.inl ⟨hno, rfl, KR_rf⟩)⟩
  refine T_tryF (E := kE G) [vi l1, vi l2] [vi 0, vr 299] (d + 7) rfl (dk dtk_L_local 5 rfl) kcv_L_61 rfl kk_0 rfl (kl_0 hu.1) (by omega) (Nat.le_of_ble_eq_true rfl) (Nat.le_of_ble_eq_true rfl) (gok_i (av_c (gkr m0) (av_c rfl (av_c rfl (av_c (gkr m9) av_n)))) (as_c rfl (as_c (gkr m9) as_n))) rfl n9 ?_
  refine T_mono (ka_local (d := d) hj hu.1 hH l1 l2 (P := fun v9 y9 => ∃ r, v9 = some (vi r) ∧ HOI y9 q ∧ ¬ (e1Ch x) ∧ ¬ (e2Lo C wr n (c96 w) x l1 l2) ∧ sLo C wr n (c96 w) x l1 l2 r y9) (X := fun c9 y9 => ((c9 = iSE ∧ e1Ch x) ∨ (c9 = iOE ∧ e2Lo C wr n (c96 w) x l1 l2)) ∧ y9 = x) (fun h9 => ⟨Or.inl ⟨rfl, h9⟩, rfl⟩) (fun h9 => ⟨Or.inr ⟨rfl, h9⟩, rfl⟩) (fun h8 h9 r y h1 h2 => ⟨r, rfl, h1, h8, h9, h2⟩)) (fun o9 x9 f9 w9 => ?_)
  rcases w9 with ⟨rfl, v, rfl, r, rfl, h1, h2⟩ | ⟨rfl, c9, rfl, hc, rfl⟩
  · exact ⟨⟨n9, r9⟩, ⟨r, rfl⟩, hend r (xo x x9) q hu (kst_rf q) (HOI_1 rfl hu h1) h2⟩
  · rcases hc with ⟨rfl, hno⟩ | ⟨rfl, hno⟩
    · exact hxiSE hno
    · exact hxiOE hno
abbrev zw_act : gy := (yL_act, cL_act, 5, (some .int), [(0, 10, 13, 27), (0, 10, 17, 19)])
set_option maxRecDepth 100000 in
theorem dtk_L_act : dck cL_act [(0, .aload_n 3, 1), (1, .iconst 0, 1), (2, .aload_n 0, 1), (3, .iload_n 1, 1), (4, .iload_n 2, 1), (5, .invokevirtual 64, 3), (8, .i2l, 1), (9, .lastore, 1), (10, .goto 11, 3), (13, .astore 4, 2), (15, .iconst 1, 1), (16, .ireturn, 1), (17, .astore 4, 2), (19, .iconst 2, 1), (20, .ireturn, 1), (21, .iconst 0, 1), (22, .ireturn, 1)] = true := by decide +kernel
set_option maxRecDepth 100000 in
theorem wca_act : tables_1_6[230]? = some (Cond.codeWith yL_act cL_act 5 (some .int) [(0, 10, 13, 27), (0, 10, 17, 19)]) := rfl
theorem wcw_act : Cond.codeWith yL_act cL_act 5 (some .int) [(0, 10, 13, 27), (0, 10, 17, 19)] ∈ W0 := W0_in (tp_6 (List.mem_of_getElem? wca_act)) rfl
theorem kcv_L_64 : gMv RL 64 zk_X11_act 2 := ⟨⟨W0_in (tp_6 (List.mem_of_getElem? (i := 231) (by decide +kernel))) rfl, W0_in (tp_6 (List.mem_of_getElem? (i := 232) (by decide +kernel))) rfl, W0_in (tp_6 (List.mem_of_getElem? (i := 233) (by decide +kernel))) rfl, W0_in (tp_1 (List.mem_of_getElem? (i := 1) (by decide +kernel))) rfl, kcw_X11_act⟩, ⟨by decide, by decide, by decide +kernel⟩, by decide, by decide⟩
theorem wct_act_iSE : gCat zw_act 5 iSE ⟨0, 10, 13, 27⟩ := ⟨⟨[], [⟨0, 10, 17, 19⟩], rfl, fun z hz => nomatch hz⟩, rfl, by decide, (W0_in (tp_5 (List.mem_of_getElem? (i := 107) (by decide +kernel))) rfl), by decide⟩
theorem wct_act_iOE : gCat zw_act 5 iOE ⟨0, 10, 17, 19⟩ := ⟨⟨[⟨0, 10, 13, 27⟩], [], rfl, fun z hz => by
  cases hz with
  | head => exact ⟨by decide, iSE, (W0_in (tp_5 (List.mem_of_getElem? (i := 107) (by decide +kernel))) rfl), by decide⟩
  | tail _ hz => cases hz⟩, rfl, by decide, (W0_in (tp_5 (List.mem_of_getElem? (i := 73) (by decide +kernel))) rfl), by decide⟩
set_option maxRecDepth 100000 in
set_option maxHeartbeats 4000000 in
theorem kw_act {G : kG} {q : kP} {d : Nat} {x : gd} {C : gCo} {wr n : Nat} {lm : Nat → Nat} {w : gd} (hj : JH C wr n lm x w) (hu : kU q) (hH : HOI x q) (l1 : Int32) (l2 : Int32) : T (wE (kE G)) (d + 30) zw_act 0 [(0, vr 0), (1, vi l1), (2, vi l2), (3, vr 299)] [] x (fo (kf q)) (wq q (fun r9 y q1 => ansK (e1Ch x) (e2Ac x l1 l2) (sAc C wr n (c96 w) x l1 l2) x r9 y)) := by
  have m0 : 0 ∈ (fo (kf q)).2.1 := List.mem_append_left _ (kl_0 hu.1)
  have m9 : 299 ∈ (fo (kf q)).2.1 := List.mem_append_right _ (List.mem_singleton.mpr rfl)
  have n9 := n299 hu
  have r9 : NR (kf q) 299 := kU_NR hu n9
  refine T_aload_n 3 (dk dtk_L_act 0 rfl) rfl rfl ?_
  refine T_iconst (v := 0) (dk dtk_L_act 1 rfl) (by decide +kernel) ?_
  refine T_aload_n 0 (dk dtk_L_act 2 rfl) rfl rfl ?_
  refine T_iload_n 1 (dk dtk_L_act 3 rfl) rfl rfl ?_
  refine T_iload_n 2 (dk dtk_L_act 4 rfl) rfl rfl ?_
  have hend : ∀ (r : Int32) (y : gd) (q1 : kP), kU q1 → kst q q1 → HOI y q1 → ¬ (e1Ch x) ∧ ¬ (e2Ac x l1 l2) ∧ sAc C wr n (c96 w) x l1 l2 r y → T (wE (kE G)) (d + 30) zw_act 8 [(0, vr 0), (1, vi l1), (2, vi l2), (3, vr 299)] [vi r, vi 0, vr 299] y (fo (kf q1)) (wq q (fun r9 y q1 => ansK (e1Ch x) (e2Ac x l1 l2) (sAc C wr n (c96 w) x l1 l2) x r9 y)) := by
    intro r y q1 hu1 hk1 hH1 hp1
    have n91 : 299 ∈ (fo (kf q1)).2.1 := List.mem_append_right _ (List.mem_singleton.mpr rfl)
    refine T_i2l (dk dtk_L_act 6 rfl) ?_
    refine T_last 299 1 (dk dtk_L_act 7 rfl) wE_9 n91 (vin0 (by omega)) ?_
    refine T_goto 21 (dk dtk_L_act 8 rfl) (by decide) ?_
    refine T_iconst (v := 0) (dk dtk_L_act 15 rfl) (by decide +kernel) ?_
    exact T_iret (dk dtk_L_act 16 rfl) rfl rfl ⟨0, q1, rfl, rfl, hu1, hk1, HOI_1 rfl hu1 hH1, Or.inr (Or.inr ⟨hp1.1, hp1.2.1, rfl, r, by rw [sL_c]; exact if_pos rfl, hp1.2.2⟩)⟩
  have hxiSE : e1Ch x → gtry (kE G) (d + 30) zw_act 5 [(0, vr 0), (1, vi l1), (2, vi l2), (3, vr 299)] [vi 0, vr 299] (wq q (fun r9 y q1 => ansK (e1Ch x) (e2Ac x l1 l2) (sAc C wr n (c96 w) x l1 l2) x r9 y)) x (.inr iSE) x (gth (kf q)) := by
    intro hno
    refine ⟨⟨n9, r9⟩, ⟨0, 10, 13, 27⟩, 4, 2, wct_act_iSE, Or.inr ⟨rfl, (dk dtk_L_act 9 rfl)⟩, by decide, rfl, ?_⟩
    refine T_iconst (v := 1) (dk dtk_L_act 10 rfl) (by decide +kernel) ?_
    exact T_iret (dk dtk_L_act 11 rfl) rfl rfl ⟨1, kTh q, rfl, rfl, kTh_U hu, kst_th q, HOI_1 rfl (kTh_U hu) (HOI_th hH), Or.inl ⟨hno, rfl, KR_rf⟩⟩
  have hxiOE : e2Ac x l1 l2 → gtry (kE G) (d + 30) zw_act 5 [(0, vr 0), (1, vi l1), (2, vi l2), (3, vr 299)] [vi 0, vr 299] (wq q (fun r9 y q1 => ansK (e1Ch x) (e2Ac x l1 l2) (sAc C wr n (c96 w) x l1 l2) x r9 y)) x (.inr iOE) x (gth (kf q)) := by
    intro hno
    refine ⟨⟨n9, r9⟩, ⟨0, 10, 17, 19⟩, 4, 2, wct_act_iOE, Or.inr ⟨rfl, (dk dtk_L_act 12 rfl)⟩, by decide, rfl, ?_⟩
    refine T_iconst (v := 2) (dk dtk_L_act 13 rfl) (by decide +kernel) ?_
    exact T_iret (dk dtk_L_act 14 rfl) rfl rfl ⟨2, kTh q, rfl, rfl, kTh_U hu, kst_th q, HOI_1 rfl (kTh_U hu) (HOI_th hH), Or.inr (Or.inl ⟨hno, rfl, KR_rf⟩)⟩
  refine T_tryF (E := kE G) [vi l1, vi l2] [vi 0, vr 299] (d + 7) rfl (dk dtk_L_act 5 rfl) kcv_L_64 rfl kk_0 rfl (kl_0 hu.1) (by omega) (Nat.le_of_ble_eq_true rfl) (Nat.le_of_ble_eq_true rfl) (gok_i (av_c (gkr m0) (av_c rfl (av_c rfl (av_c (gkr m9) av_n)))) (as_c rfl (as_c (gkr m9) as_n))) rfl n9 ?_
  refine T_mono (ka_actq (d := d) hj hu.1 hH l1 l2 (P := fun v9 y9 => ∃ r, v9 = some (vi r) ∧ HOI y9 q ∧ ¬ (e1Ch x) ∧ ¬ (e2Ac x l1 l2) ∧ sAc C wr n (c96 w) x l1 l2 r y9) (X := fun c9 y9 => ((c9 = iSE ∧ e1Ch x) ∨ (c9 = iOE ∧ e2Ac x l1 l2)) ∧ y9 = x) (fun h9 => ⟨Or.inl ⟨rfl, h9⟩, rfl⟩) (fun h9 => ⟨Or.inr ⟨rfl, h9⟩, rfl⟩) (fun h8 h9 r y h1 h2 => ⟨r, rfl, h1, h8, h9, h2⟩)) (fun o9 x9 f9 w9 => ?_)
  rcases w9 with ⟨rfl, v, rfl, r, rfl, h1, h2⟩ | ⟨rfl, c9, rfl, hc, rfl⟩
  · exact ⟨⟨n9, r9⟩, ⟨r, rfl⟩, hend r (xo x x9) q hu (kst_rf q) (HOI_1 rfl hu h1) h2⟩
  · rcases hc with ⟨rfl, hno⟩ | ⟨rfl, hno⟩
    · exact hxiSE hno
    · exact hxiOE hno
abbrev zw_before : gy := (yL_before, cL_before, 5, (some .int), [(0, 17, 20, 27), (0, 17, 24, 19)])
set_option maxRecDepth 100000 in
theorem dtk_L_before : dck cL_before [(0, .aload_n 3, 1), (1, .iconst 0, 1), (2, .aload_n 0, 1), (3, .iload_n 1, 1), (4, .iload_n 2, 1), (5, .invokevirtual 67, 3), (8, .ifCond .eq 7, 3), (11, .lconst 1, 1), (12, .goto 4, 3), (15, .lconst 0, 1), (16, .lastore, 1), (17, .goto 11, 3), (20, .astore 4, 2), (22, .iconst 1, 1), (23, .ireturn, 1), (24, .astore 4, 2), (26, .iconst 2, 1), (27, .ireturn, 1), (28, .iconst 0, 1), (29, .ireturn, 1)] = true := by decide +kernel
set_option maxRecDepth 100000 in
theorem wca_before : tables_1_6[237]? = some (Cond.codeWith yL_before cL_before 5 (some .int) [(0, 17, 20, 27), (0, 17, 24, 19)]) := rfl
theorem wcw_before : Cond.codeWith yL_before cL_before 5 (some .int) [(0, 17, 20, 27), (0, 17, 24, 19)] ∈ W0 := W0_in (tp_6 (List.mem_of_getElem? wca_before)) rfl
theorem kcv_L_67 : gMv RL 67 zk_X11_before 2 := ⟨⟨W0_in (tp_6 (List.mem_of_getElem? (i := 238) (by decide +kernel))) rfl, W0_in (tp_6 (List.mem_of_getElem? (i := 239) (by decide +kernel))) rfl, W0_in (tp_7 (List.mem_of_getElem? (i := 0) (by decide +kernel))) rfl, W0_in (tp_1 (List.mem_of_getElem? (i := 1) (by decide +kernel))) rfl, kcw_X11_before⟩, ⟨by decide, by decide, by decide +kernel⟩, by decide, by decide⟩
theorem wct_before_iSE : gCat zw_before 5 iSE ⟨0, 17, 20, 27⟩ := ⟨⟨[], [⟨0, 17, 24, 19⟩], rfl, fun z hz => nomatch hz⟩, rfl, by decide, (W0_in (tp_5 (List.mem_of_getElem? (i := 107) (by decide +kernel))) rfl), by decide⟩
theorem wct_before_iOE : gCat zw_before 5 iOE ⟨0, 17, 24, 19⟩ := ⟨⟨[⟨0, 17, 20, 27⟩], [], rfl, fun z hz => by
  cases hz with
  | head => exact ⟨by decide, iSE, (W0_in (tp_5 (List.mem_of_getElem? (i := 107) (by decide +kernel))) rfl), by decide⟩
  | tail _ hz => cases hz⟩, rfl, by decide, (W0_in (tp_5 (List.mem_of_getElem? (i := 73) (by decide +kernel))) rfl), by decide⟩
set_option maxRecDepth 100000 in
set_option maxHeartbeats 4000000 in
theorem kw_before {G : kG} {q : kP} {d : Nat} {x : gd} {C : gCo} {wr n : Nat} {lm : Nat → Nat} {w : gd} (hj : JH C wr n lm x w) (hu : kU q) (hH : HOI x q) (l1 : Int32) (l2 : Int32) : T (wE (kE G)) (d + 30) zw_before 0 [(0, vr 0), (1, vi l1), (2, vi l2), (3, vr 299)] [] x (fo (kf q)) (wq q (fun r9 y q1 => ansK (e1Ch x) (e2Be x l1 l2) (sBe C wr n (c96 w) x l1 l2) x r9 y)) := by
  have m0 : 0 ∈ (fo (kf q)).2.1 := List.mem_append_left _ (kl_0 hu.1)
  have m9 : 299 ∈ (fo (kf q)).2.1 := List.mem_append_right _ (List.mem_singleton.mpr rfl)
  have n9 := n299 hu
  have r9 : NR (kf q) 299 := kU_NR hu n9
  refine T_aload_n 3 (dk dtk_L_before 0 rfl) rfl rfl ?_
  refine T_iconst (v := 0) (dk dtk_L_before 1 rfl) (by decide +kernel) ?_
  refine T_aload_n 0 (dk dtk_L_before 2 rfl) rfl rfl ?_
  refine T_iload_n 1 (dk dtk_L_before 3 rfl) rfl rfl ?_
  refine T_iload_n 2 (dk dtk_L_before 4 rfl) rfl rfl ?_
  have hend : ∀ (r : Int32) (y : gd) (q1 : kP), kU q1 → kst q q1 → HOI y q1 → ¬ (e1Ch x) ∧ ¬ (e2Be x l1 l2) ∧ sBe C wr n (c96 w) x l1 l2 r y → T (wE (kE G)) (d + 30) zw_before 8 [(0, vr 0), (1, vi l1), (2, vi l2), (3, vr 299)] [vi r, vi 0, vr 299] y (fo (kf q1)) (wq q (fun r9 y q1 => ansK (e1Ch x) (e2Be x l1 l2) (sBe C wr n (c96 w) x l1 l2) x r9 y)) := by
    intro r y q1 hu1 hk1 hH1 hp1
    have n91 : 299 ∈ (fo (kf q1)).2.1 := List.mem_append_right _ (List.mem_singleton.mpr rfl)
    have h01 := be_b hp1.2.2
    refine T_if_eq 15 (dk dtk_L_before 6 rfl) (by decide) (fun b0 => ?_) (fun b1 => ?_)
    · subst b0
      skip
      refine T_lconst (v := 0) (dk dtk_L_before 9 rfl) (by decide +kernel) ?_
      refine T_last 299 1 (dk dtk_L_before 10 rfl) wE_9 n91 (vin0 (by omega)) ?_
      refine T_goto 28 (dk dtk_L_before 11 rfl) (by decide) ?_
      refine T_iconst (v := 0) (dk dtk_L_before 18 rfl) (by decide +kernel) ?_
      exact T_iret (dk dtk_L_before 19 rfl) rfl rfl ⟨0, q1, rfl, rfl, hu1, hk1, HOI_1 rfl hu1 hH1, Or.inr (Or.inr ⟨hp1.1, hp1.2.1, rfl, _, by rw [sL_c]; exact (if_pos rfl).trans (by decide), hp1.2.2⟩)⟩
    · have b2 := h01.resolve_left b1
      subst b2
      refine T_lconst (v := 1) (dk dtk_L_before 7 rfl) (by decide +kernel) ?_
      refine T_goto 16 (dk dtk_L_before 8 rfl) (by decide) ?_
      refine T_last 299 1 (dk dtk_L_before 10 rfl) wE_9 n91 (vin0 (by omega)) ?_
      refine T_goto 28 (dk dtk_L_before 11 rfl) (by decide) ?_
      refine T_iconst (v := 0) (dk dtk_L_before 18 rfl) (by decide +kernel) ?_
      exact T_iret (dk dtk_L_before 19 rfl) rfl rfl ⟨0, q1, rfl, rfl, hu1, hk1, HOI_1 rfl hu1 hH1, Or.inr (Or.inr ⟨hp1.1, hp1.2.1, rfl, _, by rw [sL_c]; exact (if_pos rfl).trans (by decide), hp1.2.2⟩)⟩
  have hxiSE : e1Ch x → gtry (kE G) (d + 30) zw_before 5 [(0, vr 0), (1, vi l1), (2, vi l2), (3, vr 299)] [vi 0, vr 299] (wq q (fun r9 y q1 => ansK (e1Ch x) (e2Be x l1 l2) (sBe C wr n (c96 w) x l1 l2) x r9 y)) x (.inr iSE) x (gth (kf q)) := by
    intro hno
    refine ⟨⟨n9, r9⟩, ⟨0, 17, 20, 27⟩, 4, 2, wct_before_iSE, Or.inr ⟨rfl, (dk dtk_L_before 12 rfl)⟩, by decide, rfl, ?_⟩
    refine T_iconst (v := 1) (dk dtk_L_before 13 rfl) (by decide +kernel) ?_
    exact T_iret (dk dtk_L_before 14 rfl) rfl rfl ⟨1, kTh q, rfl, rfl, kTh_U hu, kst_th q, HOI_1 rfl (kTh_U hu) (HOI_th hH), Or.inl ⟨hno, rfl, KR_rf⟩⟩
  have hxiOE : e2Be x l1 l2 → gtry (kE G) (d + 30) zw_before 5 [(0, vr 0), (1, vi l1), (2, vi l2), (3, vr 299)] [vi 0, vr 299] (wq q (fun r9 y q1 => ansK (e1Ch x) (e2Be x l1 l2) (sBe C wr n (c96 w) x l1 l2) x r9 y)) x (.inr iOE) x (gth (kf q)) := by
    intro hno
    refine ⟨⟨n9, r9⟩, ⟨0, 17, 24, 19⟩, 4, 2, wct_before_iOE, Or.inr ⟨rfl, (dk dtk_L_before 15 rfl)⟩, by decide, rfl, ?_⟩
    refine T_iconst (v := 2) (dk dtk_L_before 16 rfl) (by decide +kernel) ?_
    exact T_iret (dk dtk_L_before 17 rfl) rfl rfl ⟨2, kTh q, rfl, rfl, kTh_U hu, kst_th q, HOI_1 rfl (kTh_U hu) (HOI_th hH), Or.inr (Or.inl ⟨hno, rfl, KR_rf⟩)⟩
  refine T_tryF (E := kE G) [vi l1, vi l2] [vi 0, vr 299] (d + 7) rfl (dk dtk_L_before 5 rfl) kcv_L_67 rfl kk_0 rfl (kl_0 hu.1) (by omega) (Nat.le_of_ble_eq_true rfl) (Nat.le_of_ble_eq_true rfl) (gok_i (av_c (gkr m0) (av_c rfl (av_c rfl (av_c (gkr m9) av_n)))) (as_c rfl (as_c (gkr m9) as_n))) rfl n9 ?_
  refine T_mono (ka_before (d := d) hj hu.1 hH l1 l2 (P := fun v9 y9 => ∃ r, v9 = some (vi r) ∧ HOI y9 q ∧ ¬ (e1Ch x) ∧ ¬ (e2Be x l1 l2) ∧ sBe C wr n (c96 w) x l1 l2 r y9) (X := fun c9 y9 => ((c9 = iSE ∧ e1Ch x) ∨ (c9 = iOE ∧ e2Be x l1 l2)) ∧ y9 = x) (fun h9 => ⟨Or.inl ⟨rfl, h9⟩, rfl⟩) (fun h9 => ⟨Or.inr ⟨rfl, h9⟩, rfl⟩) (fun h8 h9 r y h1 h2 => ⟨r, rfl, h1, h8, h9, h2⟩)) (fun o9 x9 f9 w9 => ?_)
  rcases w9 with ⟨rfl, v, rfl, r, rfl, h1, h2⟩ | ⟨rfl, c9, rfl, hc, rfl⟩
  · exact ⟨⟨n9, r9⟩, ⟨r, rfl⟩, hend r (xo x x9) q hu (kst_rf q) (HOI_1 rfl hu h1) h2⟩
  · rcases hc with ⟨rfl, hno⟩ | ⟨rfl, hno⟩
    · exact hxiSE hno
    · exact hxiOE hno
abbrev zw_race : gy := (yL_race, cL_race, 5, (some .int), [(0, 10, 13, 27), (0, 10, 17, 19)])
set_option maxRecDepth 100000 in
theorem dtk_L_race : dck cL_race [(0, .aload_n 3, 1), (1, .iconst 0, 1), (2, .aload_n 0, 1), (3, .iload_n 1, 1), (4, .iload_n 2, 1), (5, .invokevirtual 71, 3), (8, .i2l, 1), (9, .lastore, 1), (10, .goto 11, 3), (13, .astore 4, 2), (15, .iconst 1, 1), (16, .ireturn, 1), (17, .astore 4, 2), (19, .iconst 2, 1), (20, .ireturn, 1), (21, .iconst 0, 1), (22, .ireturn, 1)] = true := by decide +kernel
set_option maxRecDepth 100000 in
theorem wca_race : tables_1_7[5]? = some (Cond.codeWith yL_race cL_race 5 (some .int) [(0, 10, 13, 27), (0, 10, 17, 19)]) := rfl
theorem wcw_race : Cond.codeWith yL_race cL_race 5 (some .int) [(0, 10, 13, 27), (0, 10, 17, 19)] ∈ W0 := W0_in (tp_7 (List.mem_of_getElem? wca_race)) rfl
theorem kcv_L_71 : gMv RL 71 zk_X11_race 2 := ⟨⟨W0_in (tp_7 (List.mem_of_getElem? (i := 6) (by decide +kernel))) rfl, W0_in (tp_7 (List.mem_of_getElem? (i := 7) (by decide +kernel))) rfl, W0_in (tp_7 (List.mem_of_getElem? (i := 8) (by decide +kernel))) rfl, W0_in (tp_1 (List.mem_of_getElem? (i := 1) (by decide +kernel))) rfl, kcw_X11_race⟩, ⟨by decide, by decide, by decide +kernel⟩, by decide, by decide⟩
theorem wct_race_iSE : gCat zw_race 5 iSE ⟨0, 10, 13, 27⟩ := ⟨⟨[], [⟨0, 10, 17, 19⟩], rfl, fun z hz => nomatch hz⟩, rfl, by decide, (W0_in (tp_5 (List.mem_of_getElem? (i := 107) (by decide +kernel))) rfl), by decide⟩
theorem wct_race_iOE : gCat zw_race 5 iOE ⟨0, 10, 17, 19⟩ := ⟨⟨[⟨0, 10, 13, 27⟩], [], rfl, fun z hz => by
  cases hz with
  | head => exact ⟨by decide, iSE, (W0_in (tp_5 (List.mem_of_getElem? (i := 107) (by decide +kernel))) rfl), by decide⟩
  | tail _ hz => cases hz⟩, rfl, by decide, (W0_in (tp_5 (List.mem_of_getElem? (i := 73) (by decide +kernel))) rfl), by decide⟩
set_option maxRecDepth 100000 in
set_option maxHeartbeats 4000000 in
theorem kw_race {G : kG} {q : kP} {d : Nat} {x : gd} {C : gCo} {wr n : Nat} {lm : Nat → Nat} {w : gd} (hj : JH C wr n lm x w) (hu : kU q) (hH : HOI x q) (l1 : Int32) (l2 : Int32) : T (wE (kE G)) (d + 30) zw_race 0 [(0, vr 0), (1, vi l1), (2, vi l2), (3, vr 299)] [] x (fo (kf q)) (wq q (fun r9 y q1 => ansK (e1Ch x) (e2Ra C wr n (c96 w) x l1 l2) (sRa C wr n (c96 w) x l1 l2) x r9 y)) := by
  have m0 : 0 ∈ (fo (kf q)).2.1 := List.mem_append_left _ (kl_0 hu.1)
  have m9 : 299 ∈ (fo (kf q)).2.1 := List.mem_append_right _ (List.mem_singleton.mpr rfl)
  have n9 := n299 hu
  have r9 : NR (kf q) 299 := kU_NR hu n9
  refine T_aload_n 3 (dk dtk_L_race 0 rfl) rfl rfl ?_
  refine T_iconst (v := 0) (dk dtk_L_race 1 rfl) (by decide +kernel) ?_
  refine T_aload_n 0 (dk dtk_L_race 2 rfl) rfl rfl ?_
  refine T_iload_n 1 (dk dtk_L_race 3 rfl) rfl rfl ?_
  refine T_iload_n 2 (dk dtk_L_race 4 rfl) rfl rfl ?_
  have hend : ∀ (r : Int32) (y : gd) (q1 : kP), kU q1 → kst q q1 → HOI y q1 → ¬ (e1Ch x) ∧ ¬ (e2Ra C wr n (c96 w) x l1 l2) ∧ sRa C wr n (c96 w) x l1 l2 r y → T (wE (kE G)) (d + 30) zw_race 8 [(0, vr 0), (1, vi l1), (2, vi l2), (3, vr 299)] [vi r, vi 0, vr 299] y (fo (kf q1)) (wq q (fun r9 y q1 => ansK (e1Ch x) (e2Ra C wr n (c96 w) x l1 l2) (sRa C wr n (c96 w) x l1 l2) x r9 y)) := by
    intro r y q1 hu1 hk1 hH1 hp1
    have n91 : 299 ∈ (fo (kf q1)).2.1 := List.mem_append_right _ (List.mem_singleton.mpr rfl)
    refine T_i2l (dk dtk_L_race 6 rfl) ?_
    refine T_last 299 1 (dk dtk_L_race 7 rfl) wE_9 n91 (vin0 (by omega)) ?_
    refine T_goto 21 (dk dtk_L_race 8 rfl) (by decide) ?_
    refine T_iconst (v := 0) (dk dtk_L_race 15 rfl) (by decide +kernel) ?_
    exact T_iret (dk dtk_L_race 16 rfl) rfl rfl ⟨0, q1, rfl, rfl, hu1, hk1, HOI_1 rfl hu1 hH1, Or.inr (Or.inr ⟨hp1.1, hp1.2.1, rfl, r, by rw [sL_c]; exact if_pos rfl, hp1.2.2⟩)⟩
  have hxiSE : e1Ch x → gtry (kE G) (d + 30) zw_race 5 [(0, vr 0), (1, vi l1), (2, vi l2), (3, vr 299)] [vi 0, vr 299] (wq q (fun r9 y q1 => ansK (e1Ch x) (e2Ra C wr n (c96 w) x l1 l2) (sRa C wr n (c96 w) x l1 l2) x r9 y)) x (.inr iSE) x (gth (kf q)) := by
    intro hno
    refine ⟨⟨n9, r9⟩, ⟨0, 10, 13, 27⟩, 4, 2, wct_race_iSE, Or.inr ⟨rfl, (dk dtk_L_race 9 rfl)⟩, by decide, rfl, ?_⟩
    refine T_iconst (v := 1) (dk dtk_L_race 10 rfl) (by decide +kernel) ?_
    exact T_iret (dk dtk_L_race 11 rfl) rfl rfl ⟨1, kTh q, rfl, rfl, kTh_U hu, kst_th q, HOI_1 rfl (kTh_U hu) (HOI_th hH), Or.inl ⟨hno, rfl, KR_rf⟩⟩
  have hxiOE : e2Ra C wr n (c96 w) x l1 l2 → gtry (kE G) (d + 30) zw_race 5 [(0, vr 0), (1, vi l1), (2, vi l2), (3, vr 299)] [vi 0, vr 299] (wq q (fun r9 y q1 => ansK (e1Ch x) (e2Ra C wr n (c96 w) x l1 l2) (sRa C wr n (c96 w) x l1 l2) x r9 y)) x (.inr iOE) x (gth (kf q)) := by
    intro hno
    refine ⟨⟨n9, r9⟩, ⟨0, 10, 17, 19⟩, 4, 2, wct_race_iOE, Or.inr ⟨rfl, (dk dtk_L_race 12 rfl)⟩, by decide, rfl, ?_⟩
    refine T_iconst (v := 2) (dk dtk_L_race 13 rfl) (by decide +kernel) ?_
    exact T_iret (dk dtk_L_race 14 rfl) rfl rfl ⟨2, kTh q, rfl, rfl, kTh_U hu, kst_th q, HOI_1 rfl (kTh_U hu) (HOI_th hH), Or.inr (Or.inl ⟨hno, rfl, KR_rf⟩)⟩
  refine T_tryF (E := kE G) [vi l1, vi l2] [vi 0, vr 299] (d + 7) rfl (dk dtk_L_race 5 rfl) kcv_L_71 rfl kk_0 rfl (kl_0 hu.1) (by omega) (Nat.le_of_ble_eq_true rfl) (Nat.le_of_ble_eq_true rfl) (gok_i (av_c (gkr m0) (av_c rfl (av_c rfl (av_c (gkr m9) av_n)))) (as_c rfl (as_c (gkr m9) as_n))) rfl n9 ?_
  refine T_mono (ka_race (d := d) hj hu.1 hH l1 l2 (P := fun v9 y9 => ∃ r, v9 = some (vi r) ∧ HOI y9 q ∧ ¬ (e1Ch x) ∧ ¬ (e2Ra C wr n (c96 w) x l1 l2) ∧ sRa C wr n (c96 w) x l1 l2 r y9) (X := fun c9 y9 => ((c9 = iSE ∧ e1Ch x) ∨ (c9 = iOE ∧ e2Ra C wr n (c96 w) x l1 l2)) ∧ y9 = x) (fun h9 => ⟨Or.inl ⟨rfl, h9⟩, rfl⟩) (fun h9 => ⟨Or.inr ⟨rfl, h9⟩, rfl⟩) (fun h8 h9 r y h1 h2 => ⟨r, rfl, h1, h8, h9, h2⟩)) (fun o9 x9 f9 w9 => ?_)
  rcases w9 with ⟨rfl, v, rfl, r, rfl, h1, h2⟩ | ⟨rfl, c9, rfl, hc, rfl⟩
  · exact ⟨⟨n9, r9⟩, ⟨r, rfl⟩, hend r (xo x x9) q hu (kst_rf q) (HOI_1 rfl hu h1) h2⟩
  · rcases hc with ⟨rfl, hno⟩ | ⟨rfl, hno⟩
    · exact hxiSE hno
    · exact hxiOE hno
abbrev zw_linear : gy := (yL_linear, cL_linear, 4, (some .int), [(0, 9, 12, 27), (0, 9, 15, 13)])
set_option maxRecDepth 100000 in
theorem dtk_L_linear : dck cL_linear [(0, .aload_n 2, 1), (1, .iconst 0, 1), (2, .aload_n 0, 1), (3, .iload_n 1, 1), (4, .invokevirtual 74, 3), (7, .i2l, 1), (8, .lastore, 1), (9, .goto 9, 3), (12, .astore_n 3, 1), (13, .iconst 1, 1), (14, .ireturn, 1), (15, .astore_n 3, 1), (16, .iconst 2, 1), (17, .ireturn, 1), (18, .iconst 0, 1), (19, .ireturn, 1)] = true := by decide +kernel
set_option maxRecDepth 100000 in
theorem wca_linear : tables_1_7[20]? = some (Cond.codeWith yL_linear cL_linear 4 (some .int) [(0, 9, 12, 27), (0, 9, 15, 13)]) := rfl
theorem wcw_linear : Cond.codeWith yL_linear cL_linear 4 (some .int) [(0, 9, 12, 27), (0, 9, 15, 13)] ∈ W0 := W0_in (tp_7 (List.mem_of_getElem? wca_linear)) rfl
theorem kcv_L_74 : gMv RL 74 zk_X11_linear 1 := ⟨⟨W0_in (tp_7 (List.mem_of_getElem? (i := 21) (by decide +kernel))) rfl, W0_in (tp_7 (List.mem_of_getElem? (i := 22) (by decide +kernel))) rfl, W0_in (tp_7 (List.mem_of_getElem? (i := 23) (by decide +kernel))) rfl, W0_in (tp_1 (List.mem_of_getElem? (i := 1) (by decide +kernel))) rfl, kcw_X11_linear⟩, ⟨by decide, by decide, by decide +kernel⟩, by decide, by decide⟩
theorem wct_linear_iSE : gCat zw_linear 4 iSE ⟨0, 9, 12, 27⟩ := ⟨⟨[], [⟨0, 9, 15, 13⟩], rfl, fun z hz => nomatch hz⟩, rfl, by decide, (W0_in (tp_5 (List.mem_of_getElem? (i := 107) (by decide +kernel))) rfl), by decide⟩
theorem wct_linear_iAE : gCat zw_linear 4 iAE ⟨0, 9, 15, 13⟩ := ⟨⟨[⟨0, 9, 12, 27⟩], [], rfl, fun z hz => by
  cases hz with
  | head => exact ⟨by decide, iSE, (W0_in (tp_5 (List.mem_of_getElem? (i := 107) (by decide +kernel))) rfl), by decide⟩
  | tail _ hz => cases hz⟩, rfl, by decide, (W0_in (tp_5 (List.mem_of_getElem? (i := 44) (by decide +kernel))) rfl), by decide⟩
set_option maxRecDepth 100000 in
set_option maxHeartbeats 4000000 in
theorem kw_linear {G : kG} {q : kP} {d : Nat} {x : gd} (hu : kU q) (hH : HOI x q) (l1 : Int32) : T (wE (kE G)) (d + 30) zw_linear 0 [(0, vr 0), (1, vi l1), (2, vr 299)] [] x (fo (kf q)) (wq q (fun _ y q1 => KRd x y)) := by
  have m0 : 0 ∈ (fo (kf q)).2.1 := List.mem_append_left _ (kl_0 hu.1)
  have m9 : 299 ∈ (fo (kf q)).2.1 := List.mem_append_right _ (List.mem_singleton.mpr rfl)
  have n9 := n299 hu
  have r9 : NR (kf q) 299 := kU_NR hu n9
  refine T_aload_n 2 (dk dtk_L_linear 0 rfl) rfl rfl ?_
  refine T_iconst (v := 0) (dk dtk_L_linear 1 rfl) (by decide +kernel) ?_
  refine T_aload_n 0 (dk dtk_L_linear 2 rfl) rfl rfl ?_
  refine T_iload_n 1 (dk dtk_L_linear 3 rfl) rfl rfl ?_
  have hend : ∀ (r : Int32) (y : gd) (q1 : kP), kU q1 → kst q q1 → HOI y q1 → (fun _ y q1 => KRd x y) 0 y q1 → T (wE (kE G)) (d + 30) zw_linear 7 [(0, vr 0), (1, vi l1), (2, vr 299)] [vi r, vi 0, vr 299] y (fo (kf q1)) (wq q (fun _ y q1 => KRd x y)) := by
    intro r y q1 hu1 hk1 hH1 hp1
    have n91 : 299 ∈ (fo (kf q1)).2.1 := List.mem_append_right _ (List.mem_singleton.mpr rfl)
    refine T_i2l (dk dtk_L_linear 5 rfl) ?_
    refine T_last 299 1 (dk dtk_L_linear 6 rfl) wE_9 n91 (vin0 (by omega)) ?_
    refine T_goto 18 (dk dtk_L_linear 7 rfl) (by decide) ?_
    refine T_iconst (v := 0) (dk dtk_L_linear 14 rfl) (by decide +kernel) ?_
    exact T_iret (dk dtk_L_linear 15 rfl) rfl rfl ⟨0, q1, rfl, rfl, hu1, hk1, HOI_1 rfl hu1 hH1, hp1⟩
  have hxiSE : gtry (kE G) (d + 30) zw_linear 4 [(0, vr 0), (1, vi l1), (2, vr 299)] [vi 0, vr 299] (wq q (fun _ y q1 => KRd x y)) x (.inr iSE) x (gth (kf q)) := by
    refine ⟨⟨n9, r9⟩, ⟨0, 9, 12, 27⟩, 3, 1, wct_linear_iSE, Or.inl ⟨3, rfl, rfl, (dk dtk_L_linear 8 rfl)⟩, by decide, rfl, ?_⟩
    refine T_iconst (v := 1) (dk dtk_L_linear 9 rfl) (by decide +kernel) ?_
    exact T_iret (dk dtk_L_linear 10 rfl) rfl rfl ⟨1, kTh q, rfl, rfl, kTh_U hu, kst_th q, HOI_1 rfl (kTh_U hu) (HOI_th hH), KR_rf⟩
  have hxiAE : gtry (kE G) (d + 30) zw_linear 4 [(0, vr 0), (1, vi l1), (2, vr 299)] [vi 0, vr 299] (wq q (fun _ y q1 => KRd x y)) x (.inr iAE) x (gth (kf q)) := by
    refine ⟨⟨n9, r9⟩, ⟨0, 9, 15, 13⟩, 3, 1, wct_linear_iAE, Or.inl ⟨3, rfl, rfl, (dk dtk_L_linear 11 rfl)⟩, by decide, rfl, ?_⟩
    refine T_iconst (v := 2) (dk dtk_L_linear 12 rfl) (by decide +kernel) ?_
    exact T_iret (dk dtk_L_linear 13 rfl) rfl rfl ⟨2, kTh q, rfl, rfl, kTh_U hu, kst_th q, HOI_1 rfl (kTh_U hu) (HOI_th hH), KR_rf⟩
  refine T_tryF (E := kE G) [vi l1] [vi 0, vr 299] (d + 18) rfl (dk dtk_L_linear 4 rfl) kcv_L_74 rfl kk_0 rfl (kl_0 hu.1) (by omega) (Nat.le_of_ble_eq_true rfl) (Nat.le_of_ble_eq_true rfl) (gok_i (av_c (gkr m0) (av_c rfl (av_c (gkr m9) av_n))) (as_c rfl (as_c (gkr m9) as_n))) rfl n9 ?_
  refine T_mono (kr_linear (d := d) hu hH l1 (P := fun v9 y9 q9 => ∃ r, v9 = some (vi r) ∧ kU q9 ∧ kle q q9 ∧ HOI y9 q9 ∧ KRd x y9) (X := fun c9 y9 q9 => (c9 = iSE ∨ c9 = iAE) ∧ y9 = x ∧ q9 = q) ⟨Or.inl rfl, rfl, rfl⟩ ⟨Or.inr rfl, rfl, rfl⟩ (fun r y q1 g1 g2 g3 g4 => ⟨r, rfl, g1, g2, g3, g4⟩)) (fun o9 x9 f9 w9 => ?_)
  obtain ⟨q9, ⟨rfl, v, rfl, r, rfl, g1, g2, h1, h2⟩ | ⟨rfl, c9, rfl, hc, rfl, rfl⟩⟩ := w9
  · exact ⟨⟨n299 g1, kU_NR g1 (n299 g1)⟩, ⟨r, rfl⟩, hend r (xo x x9) q9 g1 (kst_le g2) (HOI_1 rfl g1 h1) h2⟩
  · rcases hc with rfl | rfl
    · exact hxiSE
    · exact hxiAE
abbrev zw_attempt : gy := (yL_attempt, cL_attempt, 5, (some .int), [(0, 10, 13, 27), (0, 10, 17, 13)])
set_option maxRecDepth 100000 in
theorem dtk_L_attempt : dck cL_attempt [(0, .aload_n 3, 1), (1, .iconst 0, 1), (2, .aload_n 0, 1), (3, .iload_n 1, 1), (4, .iload_n 2, 1), (5, .invokevirtual 77, 3), (8, .i2l, 1), (9, .lastore, 1), (10, .goto 11, 3), (13, .astore 4, 2), (15, .iconst 1, 1), (16, .ireturn, 1), (17, .astore 4, 2), (19, .iconst 2, 1), (20, .ireturn, 1), (21, .iconst 0, 1), (22, .ireturn, 1)] = true := by decide +kernel
set_option maxRecDepth 100000 in
theorem wca_attempt : tables_1_7[128]? = some (Cond.codeWith yL_attempt cL_attempt 5 (some .int) [(0, 10, 13, 27), (0, 10, 17, 13)]) := rfl
theorem wcw_attempt : Cond.codeWith yL_attempt cL_attempt 5 (some .int) [(0, 10, 13, 27), (0, 10, 17, 13)] ∈ W0 := W0_in (tp_7 (List.mem_of_getElem? wca_attempt)) rfl
theorem kcv_L_77 : gMv RL 77 zk_X11_attempt 2 := ⟨⟨W0_in (tp_7 (List.mem_of_getElem? (i := 129) (by decide +kernel))) rfl, W0_in (tp_7 (List.mem_of_getElem? (i := 130) (by decide +kernel))) rfl, W0_in (tp_7 (List.mem_of_getElem? (i := 131) (by decide +kernel))) rfl, W0_in (tp_1 (List.mem_of_getElem? (i := 1) (by decide +kernel))) rfl, kcw_X11_attempt⟩, ⟨by decide, by decide, by decide +kernel⟩, by decide, by decide⟩
theorem wct_attempt_iSE : gCat zw_attempt 5 iSE ⟨0, 10, 13, 27⟩ := ⟨⟨[], [⟨0, 10, 17, 13⟩], rfl, fun z hz => nomatch hz⟩, rfl, by decide, (W0_in (tp_5 (List.mem_of_getElem? (i := 107) (by decide +kernel))) rfl), by decide⟩
theorem wct_attempt_iAE : gCat zw_attempt 5 iAE ⟨0, 10, 17, 13⟩ := ⟨⟨[⟨0, 10, 13, 27⟩], [], rfl, fun z hz => by
  cases hz with
  | head => exact ⟨by decide, iSE, (W0_in (tp_5 (List.mem_of_getElem? (i := 107) (by decide +kernel))) rfl), by decide⟩
  | tail _ hz => cases hz⟩, rfl, by decide, (W0_in (tp_5 (List.mem_of_getElem? (i := 44) (by decide +kernel))) rfl), by decide⟩
set_option maxRecDepth 100000 in
set_option maxHeartbeats 4000000 in
theorem kw_attempt {G : kG} {q : kP} {d : Nat} {x : gd} {C : gCo} {wr n : Nat} {lm : Nat → Nat} {w : gd} (hj : JH C wr n lm x w) (hu : kU q) (hH : HOI x q) (l1 : Int32) (l2 : Int32) : T (wE (kE G)) (d + 30) zw_attempt 0 [(0, vr 0), (1, vi l1), (2, vi l2), (3, vr 299)] [] x (fo (kf q)) (wq q (fun r9 y q1 => ansK (e1Bg x) (e2At x l1 l2) (sAq C x l1 l2) x r9 y)) := by
  have m0 : 0 ∈ (fo (kf q)).2.1 := List.mem_append_left _ (kl_0 hu.1)
  have m9 : 299 ∈ (fo (kf q)).2.1 := List.mem_append_right _ (List.mem_singleton.mpr rfl)
  have n9 := n299 hu
  have r9 : NR (kf q) 299 := kU_NR hu n9
  refine T_aload_n 3 (dk dtk_L_attempt 0 rfl) rfl rfl ?_
  refine T_iconst (v := 0) (dk dtk_L_attempt 1 rfl) (by decide +kernel) ?_
  refine T_aload_n 0 (dk dtk_L_attempt 2 rfl) rfl rfl ?_
  refine T_iload_n 1 (dk dtk_L_attempt 3 rfl) rfl rfl ?_
  refine T_iload_n 2 (dk dtk_L_attempt 4 rfl) rfl rfl ?_
  have hend : ∀ (r : Int32) (y : gd) (q1 : kP), kU q1 → kst q q1 → HOI y q1 → ¬ (e1Bg x) ∧ ¬ (e2At x l1 l2) ∧ sAq C x l1 l2 r y → T (wE (kE G)) (d + 30) zw_attempt 8 [(0, vr 0), (1, vi l1), (2, vi l2), (3, vr 299)] [vi r, vi 0, vr 299] y (fo (kf q1)) (wq q (fun r9 y q1 => ansK (e1Bg x) (e2At x l1 l2) (sAq C x l1 l2) x r9 y)) := by
    intro r y q1 hu1 hk1 hH1 hp1
    have n91 : 299 ∈ (fo (kf q1)).2.1 := List.mem_append_right _ (List.mem_singleton.mpr rfl)
    refine T_i2l (dk dtk_L_attempt 6 rfl) ?_
    refine T_last 299 1 (dk dtk_L_attempt 7 rfl) wE_9 n91 (vin0 (by omega)) ?_
    refine T_goto 21 (dk dtk_L_attempt 8 rfl) (by decide) ?_
    refine T_iconst (v := 0) (dk dtk_L_attempt 15 rfl) (by decide +kernel) ?_
    exact T_iret (dk dtk_L_attempt 16 rfl) rfl rfl ⟨0, q1, rfl, rfl, hu1, hk1, HOI_1 rfl hu1 hH1, Or.inr (Or.inr ⟨hp1.1, hp1.2.1, rfl, r, by rw [sL_c]; exact if_pos rfl, hp1.2.2⟩)⟩
  have hxiSE : e1Bg x → gtry (kE G) (d + 30) zw_attempt 5 [(0, vr 0), (1, vi l1), (2, vi l2), (3, vr 299)] [vi 0, vr 299] (wq q (fun r9 y q1 => ansK (e1Bg x) (e2At x l1 l2) (sAq C x l1 l2) x r9 y)) x (.inr iSE) x (gth (kf q)) := by
    intro hno
    refine ⟨⟨n9, r9⟩, ⟨0, 10, 13, 27⟩, 4, 2, wct_attempt_iSE, Or.inr ⟨rfl, (dk dtk_L_attempt 9 rfl)⟩, by decide, rfl, ?_⟩
    refine T_iconst (v := 1) (dk dtk_L_attempt 10 rfl) (by decide +kernel) ?_
    exact T_iret (dk dtk_L_attempt 11 rfl) rfl rfl ⟨1, kTh q, rfl, rfl, kTh_U hu, kst_th q, HOI_1 rfl (kTh_U hu) (HOI_th hH), Or.inl ⟨hno, rfl, KR_rf⟩⟩
  have hxiAE : e2At x l1 l2 → gtry (kE G) (d + 30) zw_attempt 5 [(0, vr 0), (1, vi l1), (2, vi l2), (3, vr 299)] [vi 0, vr 299] (wq q (fun r9 y q1 => ansK (e1Bg x) (e2At x l1 l2) (sAq C x l1 l2) x r9 y)) x (.inr iAE) x (gth (kf q)) := by
    intro hno
    refine ⟨⟨n9, r9⟩, ⟨0, 10, 17, 13⟩, 4, 2, wct_attempt_iAE, Or.inr ⟨rfl, (dk dtk_L_attempt 12 rfl)⟩, by decide, rfl, ?_⟩
    refine T_iconst (v := 2) (dk dtk_L_attempt 13 rfl) (by decide +kernel) ?_
    exact T_iret (dk dtk_L_attempt 14 rfl) rfl rfl ⟨2, kTh q, rfl, rfl, kTh_U hu, kst_th q, HOI_1 rfl (kTh_U hu) (HOI_th hH), Or.inr (Or.inl ⟨hno, rfl, KR_rf⟩)⟩
  refine T_tryF (E := kE G) [vi l1, vi l2] [vi 0, vr 299] (d + 7) rfl (dk dtk_L_attempt 5 rfl) kcv_L_77 rfl kk_0 rfl (kl_0 hu.1) (by omega) (Nat.le_of_ble_eq_true rfl) (Nat.le_of_ble_eq_true rfl) (gok_i (av_c (gkr m0) (av_c rfl (av_c rfl (av_c (gkr m9) av_n)))) (as_c rfl (as_c (gkr m9) as_n))) rfl n9 ?_
  refine T_mono (ka_attempt (d := d) hj hu hH l1 l2 (P := fun v9 y9 q9 => ∃ r, v9 = some (vi r) ∧ kU q9 ∧ kle q q9 ∧ HOI y9 q9 ∧ ¬ (e1Bg x) ∧ ¬ (e2At x l1 l2) ∧ sAq C x l1 l2 r y9) (X := fun c9 y9 q9 => ((c9 = iSE ∧ e1Bg x) ∨ (c9 = iAE ∧ e2At x l1 l2)) ∧ y9 = x ∧ q9 = q) (fun h9 => ⟨Or.inl ⟨rfl, h9⟩, rfl, rfl⟩) (fun h9 => ⟨Or.inr ⟨rfl, h9⟩, rfl, rfl⟩) (fun h8 h9 r y q1 g1 g2 g3 g4 => ⟨r, rfl, g1, g2, g3, h8, h9, g4⟩)) (fun o9 x9 f9 w9 => ?_)
  obtain ⟨q9, ⟨rfl, v, rfl, r, rfl, g1, g2, h1, h2⟩ | ⟨rfl, c9, rfl, hc, rfl, rfl⟩⟩ := w9
  · exact ⟨⟨n299 g1, kU_NR g1 (n299 g1)⟩, ⟨r, rfl⟩, hend r (xo x x9) q9 g1 (kst_le g2) (HOI_1 rfl g1 h1) h2⟩
  · rcases hc with ⟨rfl, hno⟩ | ⟨rfl, hno⟩
    · exact hxiSE hno
    · exact hxiAE hno
abbrev zw_tried : gy := (yL_tried, cL_tried, 5, (some .int), [(0, 10, 13, 13), (0, 10, 17, 19)])
set_option maxRecDepth 100000 in
theorem dtk_L_tried : dck cL_tried [(0, .aload_n 3, 1), (1, .iconst 0, 1), (2, .aload_n 0, 1), (3, .iload_n 1, 1), (4, .iload_n 2, 1), (5, .invokevirtual 80, 3), (8, .i2l, 1), (9, .lastore, 1), (10, .goto 11, 3), (13, .astore 4, 2), (15, .iconst 1, 1), (16, .ireturn, 1), (17, .astore 4, 2), (19, .iconst 2, 1), (20, .ireturn, 1), (21, .iconst 0, 1), (22, .ireturn, 1)] = true := by decide +kernel
set_option maxRecDepth 100000 in
theorem wca_tried : tables_1_8[114]? = some (Cond.codeWith yL_tried cL_tried 5 (some .int) [(0, 10, 13, 13), (0, 10, 17, 19)]) := rfl
theorem wcw_tried : Cond.codeWith yL_tried cL_tried 5 (some .int) [(0, 10, 13, 13), (0, 10, 17, 19)] ∈ W0 := W0_in (tp_8 (List.mem_of_getElem? wca_tried)) rfl
theorem kcv_L_80 : gMv RL 80 zk_X11_tried 2 := ⟨⟨W0_in (tp_8 (List.mem_of_getElem? (i := 115) (by decide +kernel))) rfl, W0_in (tp_8 (List.mem_of_getElem? (i := 116) (by decide +kernel))) rfl, W0_in (tp_8 (List.mem_of_getElem? (i := 117) (by decide +kernel))) rfl, W0_in (tp_1 (List.mem_of_getElem? (i := 1) (by decide +kernel))) rfl, kcw_X11_tried⟩, ⟨by decide, by decide, by decide +kernel⟩, by decide, by decide⟩
theorem wct_tried_iAE : gCat zw_tried 5 iAE ⟨0, 10, 13, 13⟩ := ⟨⟨[], [⟨0, 10, 17, 19⟩], rfl, fun z hz => nomatch hz⟩, rfl, by decide, (W0_in (tp_5 (List.mem_of_getElem? (i := 44) (by decide +kernel))) rfl), by decide⟩
theorem wct_tried_iOE : gCat zw_tried 5 iOE ⟨0, 10, 17, 19⟩ := ⟨⟨[⟨0, 10, 13, 13⟩], [], rfl, fun z hz => by
  cases hz with
  | head => exact ⟨by decide, iAE, (W0_in (tp_5 (List.mem_of_getElem? (i := 44) (by decide +kernel))) rfl), by decide⟩
  | tail _ hz => cases hz⟩, rfl, by decide, (W0_in (tp_5 (List.mem_of_getElem? (i := 73) (by decide +kernel))) rfl), by decide⟩
set_option maxRecDepth 100000 in
set_option maxHeartbeats 4000000 in
theorem kw_tried {G : kG} {q : kP} {d : Nat} {x : gd} (hu : kU q) (hH : HOI x q) (l1 : Int32) (l2 : Int32) : T (wE (kE G)) (d + 30) zw_tried 0 [(0, vr 0), (1, vi l1), (2, vi l2), (3, vr 299)] [] x (fo (kf q)) (wq q (fun _ y q1 => KRd x y)) := by
  have m0 : 0 ∈ (fo (kf q)).2.1 := List.mem_append_left _ (kl_0 hu.1)
  have m9 : 299 ∈ (fo (kf q)).2.1 := List.mem_append_right _ (List.mem_singleton.mpr rfl)
  have n9 := n299 hu
  have r9 : NR (kf q) 299 := kU_NR hu n9
  refine T_aload_n 3 (dk dtk_L_tried 0 rfl) rfl rfl ?_
  refine T_iconst (v := 0) (dk dtk_L_tried 1 rfl) (by decide +kernel) ?_
  refine T_aload_n 0 (dk dtk_L_tried 2 rfl) rfl rfl ?_
  refine T_iload_n 1 (dk dtk_L_tried 3 rfl) rfl rfl ?_
  refine T_iload_n 2 (dk dtk_L_tried 4 rfl) rfl rfl ?_
  have hend : ∀ (r : Int32) (y : gd) (q1 : kP), kU q1 → kst q q1 → HOI y q1 → (fun _ y q1 => KRd x y) 0 y q1 → T (wE (kE G)) (d + 30) zw_tried 8 [(0, vr 0), (1, vi l1), (2, vi l2), (3, vr 299)] [vi r, vi 0, vr 299] y (fo (kf q1)) (wq q (fun _ y q1 => KRd x y)) := by
    intro r y q1 hu1 hk1 hH1 hp1
    have n91 : 299 ∈ (fo (kf q1)).2.1 := List.mem_append_right _ (List.mem_singleton.mpr rfl)
    refine T_i2l (dk dtk_L_tried 6 rfl) ?_
    refine T_last 299 1 (dk dtk_L_tried 7 rfl) wE_9 n91 (vin0 (by omega)) ?_
    refine T_goto 21 (dk dtk_L_tried 8 rfl) (by decide) ?_
    refine T_iconst (v := 0) (dk dtk_L_tried 15 rfl) (by decide +kernel) ?_
    exact T_iret (dk dtk_L_tried 16 rfl) rfl rfl ⟨0, q1, rfl, rfl, hu1, hk1, HOI_1 rfl hu1 hH1, hp1⟩
  have hxiAE : gtry (kE G) (d + 30) zw_tried 5 [(0, vr 0), (1, vi l1), (2, vi l2), (3, vr 299)] [vi 0, vr 299] (wq q (fun _ y q1 => KRd x y)) x (.inr iAE) x (gth (kf q)) := by
    refine ⟨⟨n9, r9⟩, ⟨0, 10, 13, 13⟩, 4, 2, wct_tried_iAE, Or.inr ⟨rfl, (dk dtk_L_tried 9 rfl)⟩, by decide, rfl, ?_⟩
    refine T_iconst (v := 1) (dk dtk_L_tried 10 rfl) (by decide +kernel) ?_
    exact T_iret (dk dtk_L_tried 11 rfl) rfl rfl ⟨1, kTh q, rfl, rfl, kTh_U hu, kst_th q, HOI_1 rfl (kTh_U hu) (HOI_th hH), KR_rf⟩
  have hxiOE : gtry (kE G) (d + 30) zw_tried 5 [(0, vr 0), (1, vi l1), (2, vi l2), (3, vr 299)] [vi 0, vr 299] (wq q (fun _ y q1 => KRd x y)) x (.inr iOE) x (gth (kf q)) := by
    refine ⟨⟨n9, r9⟩, ⟨0, 10, 17, 19⟩, 4, 2, wct_tried_iOE, Or.inr ⟨rfl, (dk dtk_L_tried 12 rfl)⟩, by decide, rfl, ?_⟩
    refine T_iconst (v := 2) (dk dtk_L_tried 13 rfl) (by decide +kernel) ?_
    exact T_iret (dk dtk_L_tried 14 rfl) rfl rfl ⟨2, kTh q, rfl, rfl, kTh_U hu, kst_th q, HOI_1 rfl (kTh_U hu) (HOI_th hH), KR_rf⟩
  refine T_tryF (E := kE G) [vi l1, vi l2] [vi 0, vr 299] (d + 7) rfl (dk dtk_L_tried 5 rfl) kcv_L_80 rfl kk_0 rfl (kl_0 hu.1) (by omega) (Nat.le_of_ble_eq_true rfl) (Nat.le_of_ble_eq_true rfl) (gok_i (av_c (gkr m0) (av_c rfl (av_c rfl (av_c (gkr m9) av_n)))) (as_c rfl (as_c (gkr m9) as_n))) rfl n9 ?_
  refine T_mono (kr_tried (d := d) hu.1 hH l1 l2 (P := fun v9 y9 => ∃ r, v9 = some (vi r) ∧ HOI y9 q ∧ KRd x y9) (X := fun c9 y9 => (c9 = iAE ∨ c9 = iOE) ∧ y9 = x) ⟨Or.inl rfl, rfl⟩ ⟨Or.inr rfl, rfl⟩ (fun r y h1 h2 => ⟨r, rfl, h1, h2⟩)) (fun o9 x9 f9 w9 => ?_)
  rcases w9 with ⟨rfl, v, rfl, r, rfl, h1, h2⟩ | ⟨rfl, c9, rfl, hc, rfl⟩
  · exact ⟨⟨n9, r9⟩, ⟨r, rfl⟩, hend r (xo x x9) q hu (kst_rf q) (HOI_1 rfl hu h1) h2⟩
  · rcases hc with rfl | rfl
    · exact hxiAE
    · exact hxiOE
abbrev zw_outcome : gy := (yL_outcome, cL_outcome, 6, (some .int), [(0, 12, 15, 13), (0, 12, 19, 19)])
set_option maxRecDepth 100000 in
theorem dtk_L_outcome : dck cL_outcome [(0, .aload 4, 2), (2, .iconst 0, 1), (3, .aload_n 0, 1), (4, .iload_n 1, 1), (5, .iload_n 2, 1), (6, .iload_n 3, 1), (7, .invokevirtual 83, 3), (10, .i2l, 1), (11, .lastore, 1), (12, .goto 11, 3), (15, .astore 5, 2), (17, .iconst 1, 1), (18, .ireturn, 1), (19, .astore 5, 2), (21, .iconst 2, 1), (22, .ireturn, 1), (23, .iconst 0, 1), (24, .ireturn, 1)] = true := by decide +kernel
set_option maxRecDepth 100000 in
theorem wca_outcome : tables_1_8[121]? = some (Cond.codeWith yL_outcome cL_outcome 6 (some .int) [(0, 12, 15, 13), (0, 12, 19, 19)]) := rfl
theorem wcw_outcome : Cond.codeWith yL_outcome cL_outcome 6 (some .int) [(0, 12, 15, 13), (0, 12, 19, 19)] ∈ W0 := W0_in (tp_8 (List.mem_of_getElem? wca_outcome)) rfl
theorem kcv_L_83 : gMv RL 83 zk_X11_outcome 3 := ⟨⟨W0_in (tp_8 (List.mem_of_getElem? (i := 122) (by decide +kernel))) rfl, W0_in (tp_8 (List.mem_of_getElem? (i := 123) (by decide +kernel))) rfl, W0_in (tp_8 (List.mem_of_getElem? (i := 124) (by decide +kernel))) rfl, W0_in (tp_1 (List.mem_of_getElem? (i := 1) (by decide +kernel))) rfl, kcw_X11_outcome⟩, ⟨by decide, by decide, by decide +kernel⟩, by decide, by decide⟩
theorem wct_outcome_iAE : gCat zw_outcome 7 iAE ⟨0, 12, 15, 13⟩ := ⟨⟨[], [⟨0, 12, 19, 19⟩], rfl, fun z hz => nomatch hz⟩, rfl, by decide, (W0_in (tp_5 (List.mem_of_getElem? (i := 44) (by decide +kernel))) rfl), by decide⟩
theorem wct_outcome_iOE : gCat zw_outcome 7 iOE ⟨0, 12, 19, 19⟩ := ⟨⟨[⟨0, 12, 15, 13⟩], [], rfl, fun z hz => by
  cases hz with
  | head => exact ⟨by decide, iAE, (W0_in (tp_5 (List.mem_of_getElem? (i := 44) (by decide +kernel))) rfl), by decide⟩
  | tail _ hz => cases hz⟩, rfl, by decide, (W0_in (tp_5 (List.mem_of_getElem? (i := 73) (by decide +kernel))) rfl), by decide⟩
set_option maxRecDepth 100000 in
set_option maxHeartbeats 4000000 in
theorem kw_outcome {G : kG} {q : kP} {d : Nat} {x : gd} (hu : kU q) (hH : HOI x q) (l1 : Int32) (l2 : Int32) (l3 : Int32) : T (wE (kE G)) (d + 30) zw_outcome 0 [(0, vr 0), (1, vi l1), (2, vi l2), (3, vi l3), (4, vr 299)] [] x (fo (kf q)) (wq q (fun _ y q1 => KRd x y)) := by
  have m0 : 0 ∈ (fo (kf q)).2.1 := List.mem_append_left _ (kl_0 hu.1)
  have m9 : 299 ∈ (fo (kf q)).2.1 := List.mem_append_right _ (List.mem_singleton.mpr rfl)
  have n9 := n299 hu
  have r9 : NR (kf q) 299 := kU_NR hu n9
  refine T_aload 4 (dk dtk_L_outcome 0 rfl) rfl ?_
  refine T_iconst (v := 0) (dk dtk_L_outcome 1 rfl) (by decide +kernel) ?_
  refine T_aload_n 0 (dk dtk_L_outcome 2 rfl) rfl rfl ?_
  refine T_iload_n 1 (dk dtk_L_outcome 3 rfl) rfl rfl ?_
  refine T_iload_n 2 (dk dtk_L_outcome 4 rfl) rfl rfl ?_
  refine T_iload_n 3 (dk dtk_L_outcome 5 rfl) rfl rfl ?_
  have hend : ∀ (r : Int32) (y : gd) (q1 : kP), kU q1 → kst q q1 → HOI y q1 → (fun _ y q1 => KRd x y) 0 y q1 → T (wE (kE G)) (d + 30) zw_outcome 10 [(0, vr 0), (1, vi l1), (2, vi l2), (3, vi l3), (4, vr 299)] [vi r, vi 0, vr 299] y (fo (kf q1)) (wq q (fun _ y q1 => KRd x y)) := by
    intro r y q1 hu1 hk1 hH1 hp1
    have n91 : 299 ∈ (fo (kf q1)).2.1 := List.mem_append_right _ (List.mem_singleton.mpr rfl)
    refine T_i2l (dk dtk_L_outcome 7 rfl) ?_
    refine T_last 299 1 (dk dtk_L_outcome 8 rfl) wE_9 n91 (vin0 (by omega)) ?_
    refine T_goto 23 (dk dtk_L_outcome 9 rfl) (by decide) ?_
    refine T_iconst (v := 0) (dk dtk_L_outcome 16 rfl) (by decide +kernel) ?_
    exact T_iret (dk dtk_L_outcome 17 rfl) rfl rfl ⟨0, q1, rfl, rfl, hu1, hk1, HOI_1 rfl hu1 hH1, hp1⟩
  have hxiAE : gtry (kE G) (d + 30) zw_outcome 7 [(0, vr 0), (1, vi l1), (2, vi l2), (3, vi l3), (4, vr 299)] [vi 0, vr 299] (wq q (fun _ y q1 => KRd x y)) x (.inr iAE) x (gth (kf q)) := by
    refine ⟨⟨n9, r9⟩, ⟨0, 12, 15, 13⟩, 5, 2, wct_outcome_iAE, Or.inr ⟨rfl, (dk dtk_L_outcome 10 rfl)⟩, by decide, rfl, ?_⟩
    refine T_iconst (v := 1) (dk dtk_L_outcome 11 rfl) (by decide +kernel) ?_
    exact T_iret (dk dtk_L_outcome 12 rfl) rfl rfl ⟨1, kTh q, rfl, rfl, kTh_U hu, kst_th q, HOI_1 rfl (kTh_U hu) (HOI_th hH), KR_rf⟩
  have hxiOE : gtry (kE G) (d + 30) zw_outcome 7 [(0, vr 0), (1, vi l1), (2, vi l2), (3, vi l3), (4, vr 299)] [vi 0, vr 299] (wq q (fun _ y q1 => KRd x y)) x (.inr iOE) x (gth (kf q)) := by
    refine ⟨⟨n9, r9⟩, ⟨0, 12, 19, 19⟩, 5, 2, wct_outcome_iOE, Or.inr ⟨rfl, (dk dtk_L_outcome 13 rfl)⟩, by decide, rfl, ?_⟩
    refine T_iconst (v := 2) (dk dtk_L_outcome 14 rfl) (by decide +kernel) ?_
    exact T_iret (dk dtk_L_outcome 15 rfl) rfl rfl ⟨2, kTh q, rfl, rfl, kTh_U hu, kst_th q, HOI_1 rfl (kTh_U hu) (HOI_th hH), KR_rf⟩
  refine T_tryF (E := kE G) [vi l1, vi l2, vi l3] [vi 0, vr 299] (d + 7) rfl (dk dtk_L_outcome 6 rfl) kcv_L_83 rfl kk_0 rfl (kl_0 hu.1) (by omega) (Nat.le_of_ble_eq_true rfl) (Nat.le_of_ble_eq_true rfl) (gok_i (av_c (gkr m0) (av_c rfl (av_c rfl (av_c rfl (av_c (gkr m9) av_n))))) (as_c rfl (as_c (gkr m9) as_n))) rfl n9 ?_
  refine T_mono (kr_outcome (d := d) hu.1 hH l1 l2 l3 (P := fun v9 y9 => ∃ r, v9 = some (vi r) ∧ HOI y9 q ∧ KRd x y9) (X := fun c9 y9 => (c9 = iAE ∨ c9 = iOE) ∧ y9 = x) ⟨Or.inl rfl, rfl⟩ ⟨Or.inr rfl, rfl⟩ (fun r y h1 h2 => ⟨r, rfl, h1, h2⟩)) (fun o9 x9 f9 w9 => ?_)
  rcases w9 with ⟨rfl, v, rfl, r, rfl, h1, h2⟩ | ⟨rfl, c9, rfl, hc, rfl⟩
  · exact ⟨⟨n9, r9⟩, ⟨r, rfl⟩, hend r (xo x x9) q hu (kst_rf q) (HOI_1 rfl hu h1) h2⟩
  · rcases hc with rfl | rfl
    · exact hxiAE
    · exact hxiOE
abbrev zw_finding : gy := (yL_finding, cL_finding, 5, (some .int), [(0, 10, 13, 13)])
set_option maxRecDepth 100000 in
theorem dtk_L_finding : dck cL_finding [(0, .aload_n 3, 1), (1, .iconst 0, 1), (2, .aload_n 0, 1), (3, .iload_n 1, 1), (4, .iload_n 2, 1), (5, .invokevirtual 87, 3), (8, .i2l, 1), (9, .lastore, 1), (10, .goto 7, 3), (13, .astore 4, 2), (15, .iconst 1, 1), (16, .ireturn, 1), (17, .iconst 0, 1), (18, .ireturn, 1)] = true := by decide +kernel
set_option maxRecDepth 100000 in
theorem wca_finding : tables_1_8[132]? = some (Cond.codeWith yL_finding cL_finding 5 (some .int) [(0, 10, 13, 13)]) := rfl
theorem wcw_finding : Cond.codeWith yL_finding cL_finding 5 (some .int) [(0, 10, 13, 13)] ∈ W0 := W0_in (tp_8 (List.mem_of_getElem? wca_finding)) rfl
theorem kcv_L_87 : gMv RL 87 zk_X11_finding 2 := ⟨⟨W0_in (tp_8 (List.mem_of_getElem? (i := 133) (by decide +kernel))) rfl, W0_in (tp_8 (List.mem_of_getElem? (i := 134) (by decide +kernel))) rfl, W0_in (tp_8 (List.mem_of_getElem? (i := 135) (by decide +kernel))) rfl, W0_in (tp_1 (List.mem_of_getElem? (i := 1) (by decide +kernel))) rfl, kcw_X11_finding⟩, ⟨by decide, by decide, by decide +kernel⟩, by decide, by decide⟩
theorem wct_finding_iAE : gCat zw_finding 5 iAE ⟨0, 10, 13, 13⟩ := ⟨⟨[], [], rfl, fun z hz => nomatch hz⟩, rfl, by decide, (W0_in (tp_5 (List.mem_of_getElem? (i := 44) (by decide +kernel))) rfl), by decide⟩
set_option maxRecDepth 100000 in
set_option maxHeartbeats 4000000 in
theorem kw_finding {G : kG} {q : kP} {d : Nat} {x : gd} {C : gCo} {wr n : Nat} {lm : Nat → Nat} {w : gd} (hj : JH C wr n lm x w) (hu : kU q) (hH : HOI x q) (l1 : Int32) (l2 : Int32) : T (wE (kE G)) (d + 30) zw_finding 0 [(0, vr 0), (1, vi l1), (2, vi l2), (3, vr 299)] [] x (fo (kf q)) (wq q (fun r9 y q1 => ansK (e1Sh l1 l2) (False) (sFi C lm x l1 l2) x r9 y)) := by
  have m0 : 0 ∈ (fo (kf q)).2.1 := List.mem_append_left _ (kl_0 hu.1)
  have m9 : 299 ∈ (fo (kf q)).2.1 := List.mem_append_right _ (List.mem_singleton.mpr rfl)
  have n9 := n299 hu
  have r9 : NR (kf q) 299 := kU_NR hu n9
  refine T_aload_n 3 (dk dtk_L_finding 0 rfl) rfl rfl ?_
  refine T_iconst (v := 0) (dk dtk_L_finding 1 rfl) (by decide +kernel) ?_
  refine T_aload_n 0 (dk dtk_L_finding 2 rfl) rfl rfl ?_
  refine T_iload_n 1 (dk dtk_L_finding 3 rfl) rfl rfl ?_
  refine T_iload_n 2 (dk dtk_L_finding 4 rfl) rfl rfl ?_
  have hend : ∀ (r : Int32) (y : gd) (q1 : kP), kU q1 → kst q q1 → HOI y q1 → ¬ (e1Sh l1 l2) ∧ ¬ (False) ∧ sFi C lm x l1 l2 r y → T (wE (kE G)) (d + 30) zw_finding 8 [(0, vr 0), (1, vi l1), (2, vi l2), (3, vr 299)] [vi r, vi 0, vr 299] y (fo (kf q1)) (wq q (fun r9 y q1 => ansK (e1Sh l1 l2) (False) (sFi C lm x l1 l2) x r9 y)) := by
    intro r y q1 hu1 hk1 hH1 hp1
    have n91 : 299 ∈ (fo (kf q1)).2.1 := List.mem_append_right _ (List.mem_singleton.mpr rfl)
    refine T_i2l (dk dtk_L_finding 6 rfl) ?_
    refine T_last 299 1 (dk dtk_L_finding 7 rfl) wE_9 n91 (vin0 (by omega)) ?_
    refine T_goto 17 (dk dtk_L_finding 8 rfl) (by decide) ?_
    refine T_iconst (v := 0) (dk dtk_L_finding 12 rfl) (by decide +kernel) ?_
    exact T_iret (dk dtk_L_finding 13 rfl) rfl rfl ⟨0, q1, rfl, rfl, hu1, hk1, HOI_1 rfl hu1 hH1, Or.inr (Or.inr ⟨hp1.1, hp1.2.1, rfl, r, by rw [sL_c]; exact if_pos rfl, hp1.2.2⟩)⟩
  have hxiAE : e1Sh l1 l2 → gtry (kE G) (d + 30) zw_finding 5 [(0, vr 0), (1, vi l1), (2, vi l2), (3, vr 299)] [vi 0, vr 299] (wq q (fun r9 y q1 => ansK (e1Sh l1 l2) (False) (sFi C lm x l1 l2) x r9 y)) x (.inr iAE) x (gth (kf q)) := by
    intro hno
    refine ⟨⟨n9, r9⟩, ⟨0, 10, 13, 13⟩, 4, 2, wct_finding_iAE, Or.inr ⟨rfl, (dk dtk_L_finding 9 rfl)⟩, by decide, rfl, ?_⟩
    refine T_iconst (v := 1) (dk dtk_L_finding 10 rfl) (by decide +kernel) ?_
    exact T_iret (dk dtk_L_finding 11 rfl) rfl rfl ⟨1, kTh q, rfl, rfl, kTh_U hu, kst_th q, HOI_1 rfl (kTh_U hu) (HOI_th hH), Or.inl ⟨hno, rfl, KR_rf⟩⟩
  refine T_tryF (E := kE G) [vi l1, vi l2] [vi 0, vr 299] (d + 7) rfl (dk dtk_L_finding 5 rfl) kcv_L_87 rfl kk_0 rfl (kl_0 hu.1) (by omega) (Nat.le_of_ble_eq_true rfl) (Nat.le_of_ble_eq_true rfl) (gok_i (av_c (gkr m0) (av_c rfl (av_c rfl (av_c (gkr m9) av_n)))) (as_c rfl (as_c (gkr m9) as_n))) rfl n9 ?_
  refine T_mono (ka_finding (d := d) hj hu.1 hH l1 l2 (P := fun v9 y9 => ∃ r, v9 = some (vi r) ∧ HOI y9 q ∧ ¬ (e1Sh l1 l2) ∧ ¬ (False) ∧ sFi C lm x l1 l2 r y9) (X := fun c9 y9 => ((c9 = iAE ∧ e1Sh l1 l2)) ∧ y9 = x) (fun h9 => ⟨⟨rfl, h9⟩, rfl⟩) (fun h8 h9 r y h1 h2 => ⟨r, rfl, h1, h8, h9, h2⟩)) (fun o9 x9 f9 w9 => ?_)
  rcases w9 with ⟨rfl, v, rfl, r, rfl, h1, h2⟩ | ⟨rfl, c9, rfl, hc, rfl⟩
  · exact ⟨⟨n9, r9⟩, ⟨r, rfl⟩, hend r (xo x x9) q hu (kst_rf q) (HOI_1 rfl hu h1) h2⟩
  · obtain ⟨rfl, hno⟩ := hc
    exact hxiAE hno
abbrev zw_show : gy := (yL_show, cL_show, 5, (some .int), [(0, 10, 13, 13), (0, 10, 17, 27)])
set_option maxRecDepth 100000 in
theorem dtk_L_show : dck cL_show [(0, .aload_n 3, 1), (1, .iconst 0, 1), (2, .aload_n 0, 1), (3, .iload_n 1, 1), (4, .iload_n 2, 1), (5, .invokevirtual 90, 3), (8, .i2l, 1), (9, .lastore, 1), (10, .goto 11, 3), (13, .astore 4, 2), (15, .iconst 1, 1), (16, .ireturn, 1), (17, .astore 4, 2), (19, .iconst 2, 1), (20, .ireturn, 1), (21, .iconst 0, 1), (22, .ireturn, 1)] = true := by decide +kernel
set_option maxRecDepth 100000 in
theorem wca_show : tables_1_8[147]? = some (Cond.codeWith yL_show cL_show 5 (some .int) [(0, 10, 13, 13), (0, 10, 17, 27)]) := rfl
theorem wcw_show : Cond.codeWith yL_show cL_show 5 (some .int) [(0, 10, 13, 13), (0, 10, 17, 27)] ∈ W0 := W0_in (tp_8 (List.mem_of_getElem? wca_show)) rfl
theorem kcv_L_90 : gMv RL 90 zk_X11_show 2 := ⟨⟨W0_in (tp_8 (List.mem_of_getElem? (i := 148) (by decide +kernel))) rfl, W0_in (tp_8 (List.mem_of_getElem? (i := 149) (by decide +kernel))) rfl, W0_in (tp_8 (List.mem_of_getElem? (i := 150) (by decide +kernel))) rfl, W0_in (tp_1 (List.mem_of_getElem? (i := 1) (by decide +kernel))) rfl, kcw_X11_show⟩, ⟨by decide, by decide, by decide +kernel⟩, by decide, by decide⟩
theorem wct_show_iAE : gCat zw_show 5 iAE ⟨0, 10, 13, 13⟩ := ⟨⟨[], [⟨0, 10, 17, 27⟩], rfl, fun z hz => nomatch hz⟩, rfl, by decide, (W0_in (tp_5 (List.mem_of_getElem? (i := 44) (by decide +kernel))) rfl), by decide⟩
theorem wct_show_iSE : gCat zw_show 5 iSE ⟨0, 10, 17, 27⟩ := ⟨⟨[⟨0, 10, 13, 13⟩], [], rfl, fun z hz => by
  cases hz with
  | head => exact ⟨by decide, iAE, (W0_in (tp_5 (List.mem_of_getElem? (i := 44) (by decide +kernel))) rfl), by decide⟩
  | tail _ hz => cases hz⟩, rfl, by decide, (W0_in (tp_5 (List.mem_of_getElem? (i := 107) (by decide +kernel))) rfl), by decide⟩
set_option maxRecDepth 100000 in
set_option maxHeartbeats 4000000 in
theorem kw_show {G : kG} {q : kP} {d : Nat} {x : gd} {C : gCo} {wr n : Nat} {lm : Nat → Nat} {w : gd} (hj : JH C wr n lm x w) (hu : kU q) (hH : HOI x q) (l1 : Int32) (l2 : Int32) : T (wE (kE G)) (d + 30) zw_show 0 [(0, vr 0), (1, vi l1), (2, vi l2), (3, vr 299)] [] x (fo (kf q)) (wq q (fun r9 y q1 => ansK (e1Sh l1 l2) (e2Sh C lm x l1 l2) (sSh C lm x l1 l2) x r9 y)) := by
  have m0 : 0 ∈ (fo (kf q)).2.1 := List.mem_append_left _ (kl_0 hu.1)
  have m9 : 299 ∈ (fo (kf q)).2.1 := List.mem_append_right _ (List.mem_singleton.mpr rfl)
  have n9 := n299 hu
  have r9 : NR (kf q) 299 := kU_NR hu n9
  refine T_aload_n 3 (dk dtk_L_show 0 rfl) rfl rfl ?_
  refine T_iconst (v := 0) (dk dtk_L_show 1 rfl) (by decide +kernel) ?_
  refine T_aload_n 0 (dk dtk_L_show 2 rfl) rfl rfl ?_
  refine T_iload_n 1 (dk dtk_L_show 3 rfl) rfl rfl ?_
  refine T_iload_n 2 (dk dtk_L_show 4 rfl) rfl rfl ?_
  have hend : ∀ (r : Int32) (y : gd) (q1 : kP), kU q1 → kst q q1 → HOI y q1 → ¬ (e1Sh l1 l2) ∧ ¬ (e2Sh C lm x l1 l2) ∧ sSh C lm x l1 l2 r y → T (wE (kE G)) (d + 30) zw_show 8 [(0, vr 0), (1, vi l1), (2, vi l2), (3, vr 299)] [vi r, vi 0, vr 299] y (fo (kf q1)) (wq q (fun r9 y q1 => ansK (e1Sh l1 l2) (e2Sh C lm x l1 l2) (sSh C lm x l1 l2) x r9 y)) := by
    intro r y q1 hu1 hk1 hH1 hp1
    have n91 : 299 ∈ (fo (kf q1)).2.1 := List.mem_append_right _ (List.mem_singleton.mpr rfl)
    refine T_i2l (dk dtk_L_show 6 rfl) ?_
    refine T_last 299 1 (dk dtk_L_show 7 rfl) wE_9 n91 (vin0 (by omega)) ?_
    refine T_goto 21 (dk dtk_L_show 8 rfl) (by decide) ?_
    refine T_iconst (v := 0) (dk dtk_L_show 15 rfl) (by decide +kernel) ?_
    exact T_iret (dk dtk_L_show 16 rfl) rfl rfl ⟨0, q1, rfl, rfl, hu1, hk1, HOI_1 rfl hu1 hH1, Or.inr (Or.inr ⟨hp1.1, hp1.2.1, rfl, r, by rw [sL_c]; exact if_pos rfl, hp1.2.2⟩)⟩
  have hxiAE : e1Sh l1 l2 → gtry (kE G) (d + 30) zw_show 5 [(0, vr 0), (1, vi l1), (2, vi l2), (3, vr 299)] [vi 0, vr 299] (wq q (fun r9 y q1 => ansK (e1Sh l1 l2) (e2Sh C lm x l1 l2) (sSh C lm x l1 l2) x r9 y)) x (.inr iAE) x (gth (kf q)) := by
    intro hno
    refine ⟨⟨n9, r9⟩, ⟨0, 10, 13, 13⟩, 4, 2, wct_show_iAE, Or.inr ⟨rfl, (dk dtk_L_show 9 rfl)⟩, by decide, rfl, ?_⟩
    refine T_iconst (v := 1) (dk dtk_L_show 10 rfl) (by decide +kernel) ?_
    exact T_iret (dk dtk_L_show 11 rfl) rfl rfl ⟨1, kTh q, rfl, rfl, kTh_U hu, kst_th q, HOI_1 rfl (kTh_U hu) (HOI_th hH), Or.inl ⟨hno, rfl, KR_rf⟩⟩
  have hxiSE : e2Sh C lm x l1 l2 → gtry (kE G) (d + 30) zw_show 5 [(0, vr 0), (1, vi l1), (2, vi l2), (3, vr 299)] [vi 0, vr 299] (wq q (fun r9 y q1 => ansK (e1Sh l1 l2) (e2Sh C lm x l1 l2) (sSh C lm x l1 l2) x r9 y)) x (.inr iSE) x (gth (kf q)) := by
    intro hno
    refine ⟨⟨n9, r9⟩, ⟨0, 10, 17, 27⟩, 4, 2, wct_show_iSE, Or.inr ⟨rfl, (dk dtk_L_show 12 rfl)⟩, by decide, rfl, ?_⟩
    refine T_iconst (v := 2) (dk dtk_L_show 13 rfl) (by decide +kernel) ?_
    exact T_iret (dk dtk_L_show 14 rfl) rfl rfl ⟨2, kTh q, rfl, rfl, kTh_U hu, kst_th q, HOI_1 rfl (kTh_U hu) (HOI_th hH), Or.inr (Or.inl ⟨hno, rfl, KR_rf⟩)⟩
  refine T_tryF (E := kE G) [vi l1, vi l2] [vi 0, vr 299] (d + 7) rfl (dk dtk_L_show 5 rfl) kcv_L_90 rfl kk_0 rfl (kl_0 hu.1) (by omega) (Nat.le_of_ble_eq_true rfl) (Nat.le_of_ble_eq_true rfl) (gok_i (av_c (gkr m0) (av_c rfl (av_c rfl (av_c (gkr m9) av_n)))) (as_c rfl (as_c (gkr m9) as_n))) rfl n9 ?_
  refine T_mono (ka_show (d := d) hj hu.1 hH l1 l2 (P := fun v9 y9 => ∃ r, v9 = some (vi r) ∧ HOI y9 q ∧ ¬ (e1Sh l1 l2) ∧ ¬ (e2Sh C lm x l1 l2) ∧ sSh C lm x l1 l2 r y9) (X := fun c9 y9 => ((c9 = iAE ∧ e1Sh l1 l2) ∨ (c9 = iSE ∧ e2Sh C lm x l1 l2)) ∧ y9 = x) (fun h9 => ⟨Or.inl ⟨rfl, h9⟩, rfl⟩) (fun h9 => ⟨Or.inr ⟨rfl, h9⟩, rfl⟩) (fun h8 h9 r y h1 h2 => ⟨r, rfl, h1, h8, h9, h2⟩)) (fun o9 x9 f9 w9 => ?_)
  rcases w9 with ⟨rfl, v, rfl, r, rfl, h1, h2⟩ | ⟨rfl, c9, rfl, hc, rfl⟩
  · exact ⟨⟨n9, r9⟩, ⟨r, rfl⟩, hend r (xo x x9) q hu (kst_rf q) (HOI_1 rfl hu h1) h2⟩
  · rcases hc with ⟨rfl, hno⟩ | ⟨rfl, hno⟩
    · exact hxiAE hno
    · exact hxiSE hno
abbrev zw_common : gy := (yL_common, cL_common, 5, (some .int), [(0, 10, 13, 13), (0, 10, 17, 19)])
set_option maxRecDepth 100000 in
theorem dtk_L_common : dck cL_common [(0, .aload_n 3, 1), (1, .iconst 0, 1), (2, .aload_n 0, 1), (3, .iload_n 1, 1), (4, .iload_n 2, 1), (5, .invokevirtual 93, 3), (8, .i2l, 1), (9, .lastore, 1), (10, .goto 11, 3), (13, .astore 4, 2), (15, .iconst 1, 1), (16, .ireturn, 1), (17, .astore 4, 2), (19, .iconst 2, 1), (20, .ireturn, 1), (21, .iconst 0, 1), (22, .ireturn, 1)] = true := by decide +kernel
set_option maxRecDepth 100000 in
theorem wca_common : tables_1_8[159]? = some (Cond.codeWith yL_common cL_common 5 (some .int) [(0, 10, 13, 13), (0, 10, 17, 19)]) := rfl
theorem wcw_common : Cond.codeWith yL_common cL_common 5 (some .int) [(0, 10, 13, 13), (0, 10, 17, 19)] ∈ W0 := W0_in (tp_8 (List.mem_of_getElem? wca_common)) rfl
theorem kcv_L_93 : gMv RL 93 zk_X11_common 2 := ⟨⟨W0_in (tp_8 (List.mem_of_getElem? (i := 160) (by decide +kernel))) rfl, W0_in (tp_8 (List.mem_of_getElem? (i := 161) (by decide +kernel))) rfl, W0_in (tp_8 (List.mem_of_getElem? (i := 162) (by decide +kernel))) rfl, W0_in (tp_1 (List.mem_of_getElem? (i := 1) (by decide +kernel))) rfl, kcw_X11_common⟩, ⟨by decide, by decide, by decide +kernel⟩, by decide, by decide⟩
theorem wct_common_iAE : gCat zw_common 5 iAE ⟨0, 10, 13, 13⟩ := ⟨⟨[], [⟨0, 10, 17, 19⟩], rfl, fun z hz => nomatch hz⟩, rfl, by decide, (W0_in (tp_5 (List.mem_of_getElem? (i := 44) (by decide +kernel))) rfl), by decide⟩
theorem wct_common_iOE : gCat zw_common 5 iOE ⟨0, 10, 17, 19⟩ := ⟨⟨[⟨0, 10, 13, 13⟩], [], rfl, fun z hz => by
  cases hz with
  | head => exact ⟨by decide, iAE, (W0_in (tp_5 (List.mem_of_getElem? (i := 44) (by decide +kernel))) rfl), by decide⟩
  | tail _ hz => cases hz⟩, rfl, by decide, (W0_in (tp_5 (List.mem_of_getElem? (i := 73) (by decide +kernel))) rfl), by decide⟩
set_option maxRecDepth 100000 in
set_option maxHeartbeats 4000000 in
theorem kw_common {G : kG} {q : kP} {d : Nat} {x : gd} (hu : kU q) (hH : HOI x q) (l1 : Int32) (l2 : Int32) : T (wE (kE G)) (d + 30) zw_common 0 [(0, vr 0), (1, vi l1), (2, vi l2), (3, vr 299)] [] x (fo (kf q)) (wq q (fun _ y q1 => KRd x y)) := by
  have m0 : 0 ∈ (fo (kf q)).2.1 := List.mem_append_left _ (kl_0 hu.1)
  have m9 : 299 ∈ (fo (kf q)).2.1 := List.mem_append_right _ (List.mem_singleton.mpr rfl)
  have n9 := n299 hu
  have r9 : NR (kf q) 299 := kU_NR hu n9
  refine T_aload_n 3 (dk dtk_L_common 0 rfl) rfl rfl ?_
  refine T_iconst (v := 0) (dk dtk_L_common 1 rfl) (by decide +kernel) ?_
  refine T_aload_n 0 (dk dtk_L_common 2 rfl) rfl rfl ?_
  refine T_iload_n 1 (dk dtk_L_common 3 rfl) rfl rfl ?_
  refine T_iload_n 2 (dk dtk_L_common 4 rfl) rfl rfl ?_
  have hend : ∀ (r : Int32) (y : gd) (q1 : kP), kU q1 → kst q q1 → HOI y q1 → (fun _ y q1 => KRd x y) 0 y q1 → T (wE (kE G)) (d + 30) zw_common 8 [(0, vr 0), (1, vi l1), (2, vi l2), (3, vr 299)] [vi r, vi 0, vr 299] y (fo (kf q1)) (wq q (fun _ y q1 => KRd x y)) := by
    intro r y q1 hu1 hk1 hH1 hp1
    have n91 : 299 ∈ (fo (kf q1)).2.1 := List.mem_append_right _ (List.mem_singleton.mpr rfl)
    refine T_i2l (dk dtk_L_common 6 rfl) ?_
    refine T_last 299 1 (dk dtk_L_common 7 rfl) wE_9 n91 (vin0 (by omega)) ?_
    refine T_goto 21 (dk dtk_L_common 8 rfl) (by decide) ?_
    refine T_iconst (v := 0) (dk dtk_L_common 15 rfl) (by decide +kernel) ?_
    exact T_iret (dk dtk_L_common 16 rfl) rfl rfl ⟨0, q1, rfl, rfl, hu1, hk1, HOI_1 rfl hu1 hH1, hp1⟩
  have hxiAE : gtry (kE G) (d + 30) zw_common 5 [(0, vr 0), (1, vi l1), (2, vi l2), (3, vr 299)] [vi 0, vr 299] (wq q (fun _ y q1 => KRd x y)) x (.inr iAE) x (gth (kf q)) := by
    refine ⟨⟨n9, r9⟩, ⟨0, 10, 13, 13⟩, 4, 2, wct_common_iAE, Or.inr ⟨rfl, (dk dtk_L_common 9 rfl)⟩, by decide, rfl, ?_⟩
    refine T_iconst (v := 1) (dk dtk_L_common 10 rfl) (by decide +kernel) ?_
    exact T_iret (dk dtk_L_common 11 rfl) rfl rfl ⟨1, kTh q, rfl, rfl, kTh_U hu, kst_th q, HOI_1 rfl (kTh_U hu) (HOI_th hH), KR_rf⟩
  have hxiOE : gtry (kE G) (d + 30) zw_common 5 [(0, vr 0), (1, vi l1), (2, vi l2), (3, vr 299)] [vi 0, vr 299] (wq q (fun _ y q1 => KRd x y)) x (.inr iOE) x (gth (kf q)) := by
    refine ⟨⟨n9, r9⟩, ⟨0, 10, 17, 19⟩, 4, 2, wct_common_iOE, Or.inr ⟨rfl, (dk dtk_L_common 12 rfl)⟩, by decide, rfl, ?_⟩
    refine T_iconst (v := 2) (dk dtk_L_common 13 rfl) (by decide +kernel) ?_
    exact T_iret (dk dtk_L_common 14 rfl) rfl rfl ⟨2, kTh q, rfl, rfl, kTh_U hu, kst_th q, HOI_1 rfl (kTh_U hu) (HOI_th hH), KR_rf⟩
  refine T_tryF (E := kE G) [vi l1, vi l2] [vi 0, vr 299] (d + 7) rfl (dk dtk_L_common 5 rfl) kcv_L_93 rfl kk_0 rfl (kl_0 hu.1) (by omega) (Nat.le_of_ble_eq_true rfl) (Nat.le_of_ble_eq_true rfl) (gok_i (av_c (gkr m0) (av_c rfl (av_c rfl (av_c (gkr m9) av_n)))) (as_c rfl (as_c (gkr m9) as_n))) rfl n9 ?_
  refine T_mono (kr_common (d := d) hu.1 hH l1 l2 (P := fun v9 y9 => ∃ r, v9 = some (vi r) ∧ HOI y9 q ∧ KRd x y9) (X := fun c9 y9 => (c9 = iAE ∨ c9 = iOE) ∧ y9 = x) ⟨Or.inl rfl, rfl⟩ ⟨Or.inr rfl, rfl⟩ (fun r y h1 h2 => ⟨r, rfl, h1, h2⟩)) (fun o9 x9 f9 w9 => ?_)
  rcases w9 with ⟨rfl, v, rfl, r, rfl, h1, h2⟩ | ⟨rfl, c9, rfl, hc, rfl⟩
  · exact ⟨⟨n9, r9⟩, ⟨r, rfl⟩, hend r (xo x x9) q hu (kst_rf q) (HOI_1 rfl hu h1) h2⟩
  · rcases hc with rfl | rfl
    · exact hxiAE
    · exact hxiOE
abbrev zw_ring : gy := (yL_ring, cL_ring, 4, (some .int), [(0, 9, 12, 13)])
set_option maxRecDepth 100000 in
theorem dtk_L_ring : dck cL_ring [(0, .aload_n 2, 1), (1, .iconst 0, 1), (2, .aload_n 0, 1), (3, .iload_n 1, 1), (4, .invokevirtual 96, 3), (7, .i2l, 1), (8, .lastore, 1), (9, .goto 6, 3), (12, .astore_n 3, 1), (13, .iconst 1, 1), (14, .ireturn, 1), (15, .iconst 0, 1), (16, .ireturn, 1)] = true := by decide +kernel
set_option maxRecDepth 100000 in
theorem wca_ring : tables_1_8[166]? = some (Cond.codeWith yL_ring cL_ring 4 (some .int) [(0, 9, 12, 13)]) := rfl
theorem wcw_ring : Cond.codeWith yL_ring cL_ring 4 (some .int) [(0, 9, 12, 13)] ∈ W0 := W0_in (tp_8 (List.mem_of_getElem? wca_ring)) rfl
theorem kcv_L_96 : gMv RL 96 zk_X11_ring 1 := ⟨⟨W0_in (tp_8 (List.mem_of_getElem? (i := 167) (by decide +kernel))) rfl, W0_in (tp_8 (List.mem_of_getElem? (i := 168) (by decide +kernel))) rfl, W0_in (tp_8 (List.mem_of_getElem? (i := 169) (by decide +kernel))) rfl, W0_in (tp_1 (List.mem_of_getElem? (i := 1) (by decide +kernel))) rfl, kcw_X11_ring⟩, ⟨by decide, by decide, by decide +kernel⟩, by decide, by decide⟩
theorem wct_ring_iAE : gCat zw_ring 4 iAE ⟨0, 9, 12, 13⟩ := ⟨⟨[], [], rfl, fun z hz => nomatch hz⟩, rfl, by decide, (W0_in (tp_5 (List.mem_of_getElem? (i := 44) (by decide +kernel))) rfl), by decide⟩
set_option maxRecDepth 100000 in
set_option maxHeartbeats 4000000 in
theorem kw_ring {G : kG} {q : kP} {d : Nat} {x : gd} (hu : kU q) (hH : HOI x q) (l1 : Int32) : T (wE (kE G)) (d + 30) zw_ring 0 [(0, vr 0), (1, vi l1), (2, vr 299)] [] x (fo (kf q)) (wq q (fun _ y q1 => KRd x y)) := by
  have m0 : 0 ∈ (fo (kf q)).2.1 := List.mem_append_left _ (kl_0 hu.1)
  have m9 : 299 ∈ (fo (kf q)).2.1 := List.mem_append_right _ (List.mem_singleton.mpr rfl)
  have n9 := n299 hu
  have r9 : NR (kf q) 299 := kU_NR hu n9
  refine T_aload_n 2 (dk dtk_L_ring 0 rfl) rfl rfl ?_
  refine T_iconst (v := 0) (dk dtk_L_ring 1 rfl) (by decide +kernel) ?_
  refine T_aload_n 0 (dk dtk_L_ring 2 rfl) rfl rfl ?_
  refine T_iload_n 1 (dk dtk_L_ring 3 rfl) rfl rfl ?_
  have hend : ∀ (r : Int32) (y : gd) (q1 : kP), kU q1 → kst q q1 → HOI y q1 → (fun _ y q1 => KRd x y) 0 y q1 → T (wE (kE G)) (d + 30) zw_ring 7 [(0, vr 0), (1, vi l1), (2, vr 299)] [vi r, vi 0, vr 299] y (fo (kf q1)) (wq q (fun _ y q1 => KRd x y)) := by
    intro r y q1 hu1 hk1 hH1 hp1
    have n91 : 299 ∈ (fo (kf q1)).2.1 := List.mem_append_right _ (List.mem_singleton.mpr rfl)
    refine T_i2l (dk dtk_L_ring 5 rfl) ?_
    refine T_last 299 1 (dk dtk_L_ring 6 rfl) wE_9 n91 (vin0 (by omega)) ?_
    refine T_goto 15 (dk dtk_L_ring 7 rfl) (by decide) ?_
    refine T_iconst (v := 0) (dk dtk_L_ring 11 rfl) (by decide +kernel) ?_
    exact T_iret (dk dtk_L_ring 12 rfl) rfl rfl ⟨0, q1, rfl, rfl, hu1, hk1, HOI_1 rfl hu1 hH1, hp1⟩
  have hxiAE : gtry (kE G) (d + 30) zw_ring 4 [(0, vr 0), (1, vi l1), (2, vr 299)] [vi 0, vr 299] (wq q (fun _ y q1 => KRd x y)) x (.inr iAE) x (gth (kf q)) := by
    refine ⟨⟨n9, r9⟩, ⟨0, 9, 12, 13⟩, 3, 1, wct_ring_iAE, Or.inl ⟨3, rfl, rfl, (dk dtk_L_ring 8 rfl)⟩, by decide, rfl, ?_⟩
    refine T_iconst (v := 1) (dk dtk_L_ring 9 rfl) (by decide +kernel) ?_
    exact T_iret (dk dtk_L_ring 10 rfl) rfl rfl ⟨1, kTh q, rfl, rfl, kTh_U hu, kst_th q, HOI_1 rfl (kTh_U hu) (HOI_th hH), KR_rf⟩
  refine T_tryF (E := kE G) [vi l1] [vi 0, vr 299] (d + 7) rfl (dk dtk_L_ring 4 rfl) kcv_L_96 rfl kk_0 rfl (kl_0 hu.1) (by omega) (Nat.le_of_ble_eq_true rfl) (Nat.le_of_ble_eq_true rfl) (gok_i (av_c (gkr m0) (av_c rfl (av_c (gkr m9) av_n))) (as_c rfl (as_c (gkr m9) as_n))) rfl n9 ?_
  refine T_mono (kr_ring (d := d) hu.1 hH l1 (P := fun v9 y9 => ∃ r, v9 = some (vi r) ∧ HOI y9 q ∧ KRd x y9) (X := fun c9 y9 => (c9 = iAE) ∧ y9 = x) ⟨rfl, rfl⟩ (fun r y h1 h2 => ⟨r, rfl, h1, h2⟩)) (fun o9 x9 f9 w9 => ?_)
  rcases w9 with ⟨rfl, v, rfl, r, rfl, h1, h2⟩ | ⟨rfl, c9, rfl, hc, rfl⟩
  · exact ⟨⟨n9, r9⟩, ⟨r, rfl⟩, hend r (xo x x9) q hu (kst_rf q) (HOI_1 rfl hu h1) h2⟩
  · rw [hc]; exact hxiAE
end
section
/-! the law: two worlds side by side -/
abbrev yLaw : gy := (yL_law, cL_law, 7, some .boolean, [])
abbrev mg (G : kG) : mG := (G.1, G.2.1, G.2.2.1, G.2.2.2, 0, 0)
section LAW
variable {p : Program} {l : Launch} {e : Env} {R : Room} {s : State} {m : MethodId} {args : Array Value} {below : List Frame} {meth : Method} {c : Code} {H : Heap} {locs : List Loc} {cells slots : Nat} {Q : State → Prop} {pc : Nat} {ls : Array Slot} {A : Nat → Prop} {D : Nat} {y z : gy} {E : gE} {x : gd} {f : gf} {ad : Nat → Nat} {restv : List Value}
/-- behind a call that answers an int -/
theorem L_out {mc ms : Nat} {stk : List Value} {r : Int32} {x1 : gd} {f1 : gf} {av : Array Value} (hrun : vx_Run p l e R s m args below meth c H locs cells slots mc ms (F0 m pc ls stk) restv (gQc E (gA f ad H.size) f ad (.inl (some (vi r))) x1 f1 av) (gXC E (gA f ad H.size) f ad (.inl (some (vi r))) x1 f1) (gA f ad H.size)) (hP : gP E x f ad A H) (hS : va_S A s.heap H locs) (hA : ∀ q : Nat, s.heap.size ≤ q → A q)
    (kk : ∀ (ad1 : Nat → Nat) (H1 : Heap) (locs1 : List Loc), gex f ad ad1 → gP E x1 f1 ad1 (gA f ad H.size) H1 → (∀ q : Nat, q < H.size → ¬ gA f ad H.size q → H1[q]? = H[q]?) → va_S A s.heap H1 locs1 → W p l e R s m args below meth c H1 locs1 (cells + mc) (slots + ms) Q (F0 m (pc + 3) ls (.int r :: restv))) :
    W p l e R s m args below meth c H locs cells slots Q (F0 m pc ls stk) := by
  intro T9 hT X
  rcases hrun T9 hT X with ⟨v', st₀, t, T', L, h0, X', hL, e1, e2, ⟨ad1, hex, ⟨v2, ev1, ev2⟩, hP1, hF⟩, stp⟩ | ⟨q, st₀, t, T', L, X0, ce, h0, X', hL, e1, e2, ⟨ad1, hex, hn, -⟩, -⟩
  · cases ev1
    cases ev2
    have hin := gA_in (sz := H.size) hP (fun q hq => hA q (Nat.le_trans hS.1 hq))
    obtain ⟨k1, k2, k3⟩ := vx_keep h0 e1 hS (fun q _ h => hin q h) hin hL hF
    obtain ⟨t2, s1, s2⟩ := kk ad1 T'.heap (locs ++ L) hex (by rw [e1]; exact hP1) k2 k3 T' rfl X'
    exact ⟨t2, stp t2 s1, s2⟩
  · cases hn
/-- an instance's method, of a world of its own -/
theorem L_V {cr ci idx n : Nat} {sl : List Bool} {QQ : gr → gd → gf → Prop} {stk : List Value} (C : gC E D y p R s m args meth c A) (hP : gP E x f ad A H) (hS : va_S A s.heap H locs) (hls : ls.size = y.2.2.1) (As : List gv) (d1 : Nat) (hstk : stk = (As.map (gcv ad)).reverse ++ Value.ref (ad cr) :: restv) (hd : decode y.2.1 pc = .ok (.invokevirtual idx, 3)) (hM : gMv y.1.cls idx z n) (hn : As.length = n) (hK : E.2.2.2.1 cr = .inl (ci, sl)) (hcl : (vwCl[ci]?).map (fun r => r.1) = some z.1.cls) (hc : cr ∈ f.2.1) (hd1 : d1 + 1 ≤ D)
    (hfit : gsz (vr cr :: As) ≤ z.2.2.1) (hcat : (restv.map fun v => v.category).sum ≤ 8) (k : T E d1 z 0 (glv 0 (vr cr :: As)) [] x f QQ) (hQ : ∀ o x1 f1, QQ o x1 f1 → ∃ r : Int32, o = .inl (some (vi r))) (hroom9 : ∀ o x1 f1, QQ o x1 f1 → gle f f1 → cells + (f1.2.2.1 - f.2.2.1) ≤ R.cells ∧ slots + (f1.2.2.2 - f.2.2.2) ≤ R.slots)
    (kk : ∀ (r : Int32) (x1 : gd) (f1 : gf) (ad1 : Nat → Nat) (H1 : Heap) (locs1 : List Loc), QQ (.inl (some (vi r))) x1 f1 → gle f f1 → gex f ad ad1 → gP E x1 f1 ad1 (gA f ad H.size) H1 → (∀ q : Nat, q < H.size → ¬ gA f ad H.size q → H1[q]? = H[q]?) → va_S A s.heap H1 locs1 → W p E.1 e R s m args below meth c H1 locs1 (cells + (f1.2.2.1 - f.2.2.1)) (slots + (f1.2.2.2 - f.2.2.2)) Q (F0 m (pc + 3) ls (.int r :: restv))) :
    W p E.1 e R s m args below meth c H locs cells slots Q (F0 m pc ls stk) := by
  obtain ⟨⟨m1, m2, m3, m4, m5⟩, m6, m7, m8⟩ := hM
  obtain ⟨o1, x1, f1, hk, hle, hw1⟩ := k
  obtain ⟨r, rfl⟩ := hQ o1 x1 f1 hk
  obtain ⟨hc1, hs1⟩ := hroom9 _ x1 f1 hk hle
  obtain ⟨i, hi0, hi⟩ := gwl_at (E := E) (x := x) (ad := ad) hc
  rw [gce_obj hK] at hi
  have hr9 : ∃ r : vw_C, vwCl[ci]? = some r ∧ r.1 = z.1.cls := by
    cases h9 : vwCl[ci]? with
    | none => rw [h9] at hcl; cases hcl
    | some r => rw [h9] at hcl; exact ⟨r, rfl, Option.some.inj hcl⟩
  obtain ⟨r9, hr1, hr2⟩ := hr9
  have hrec := va_recv C.2.2.2.1.1 hP.1.1 hr1 hi
  rw [hr2] at hrec
  have hG : GoodIn W0 (wsV y.1.cls idx z.1.cls z.1 (gws z)) := by
    intro w hw
    rcases List.mem_append.mp hw with h | h
    · refine W0_good w ?_
      simp only [List.mem_cons, List.not_mem_nil, or_false] at h
      rcases h with rfl | rfl | rfl | rfl
      · exact m1
      · exact m2
      · exact m3
      · exact m4
    · exact gwsz m5 w h
  have hroom : 8 + (z.2.2.1 + 11) + 41 * d1 ≤ R.locals := by
    have hq := C.2.2.1.2
    omega
  refine L_out (E := E) (x := x) (f := f) (ad := ad) (r := r) (x1 := x1) (f1 := f1) (mc := f1.2.2.1 - f.2.2.1) (ms := f1.2.2.2 - f.2.2.2) (av := ((vr cr :: As).map (gcv ad)).toArray) ?_ hP hS C.2.2.2.2 (fun ad1 H1 locs1 g1 g2 g3 g4 => kk r x1 f1 ad1 H1 locs1 hk hle g1 g2 g3 g4)
  cases hz : z.2.2.2.2 with
  | nil =>
    exact vx_runV (As := As.map (gcv ad)) (C := z.1.cls) (b := ad cr) (Pc := va_Pc ((vr cr :: As).map (gcv ad)) (gst E x f ad H.size)) ⟨C.1.1, C.1.2.1, C.1.2.2.1, C.1.2.2.2.1, C.1.2.2.2.2⟩ (gM_of C.2.2.2.1.2.2.2 m7 hfit hw1 ad H.size)
      (cwV (bytes := z.2.1) (maxL := z.2.2.1) (ret := z.2.2.2.1) (ws' := W0) n C.1.2.2.2.2 hG (by rw [gws, gcw, hz]) rfl rfl ⟨rfl, m6⟩ ⟨Nat.le_trans hd1 C.2.2.1.1, hroom⟩) ⟨gst_blind, hrec, fun U hU hW => ⟨rfl, gst_in C hP hS hU hW⟩⟩ rfl (by rw [List.length_map]; exact hn) hls hstk (lv_room hcat) hd ⟨hc1, hs1⟩
  | cons a9 b9 =>
    exact vx_runVX (hh := a9 :: b9) (As := As.map (gcv ad)) (C := z.1.cls) (b := ad cr) (Pc := va_Pc ((vr cr :: As).map (gcv ad)) (gst E x f ad H.size)) ⟨C.1.1, C.1.2.1, C.1.2.2.1, C.1.2.2.2.1, C.1.2.2.2.2⟩ (gM_of C.2.2.2.1.2.2.2 m7 hfit hw1 ad H.size)
      (vx_cwVW (bytes := z.2.1) (maxL := z.2.2.1) (ret := z.2.2.2.1) (hh := a9 :: b9) (ws' := W0) n C.1.2.2.2.2 hG (by rw [gws, gcw, hz]) rfl rfl ⟨rfl, m6⟩ ⟨Nat.le_trans hd1 C.2.2.1.1, hroom⟩) ⟨gst_blind, hrec, fun U hU hW => ⟨rfl, gst_in C hP hS hU hW⟩⟩ rfl (by rw [List.length_map]; exact hn) hls hstk (lv_room hcat) hd ⟨hc1, hs1⟩
/-- a helper of the law -/
theorem L_S {idx n : Nat} {QQ : gr → gd → gf → Prop} {stk : List Value} (C : gC E D y p R s m args meth c A) (hP : gP E x f ad A H) (hS : va_S A s.heap H locs) (hls : ls.size = y.2.2.1) (As : List gv) (d1 : Nat) (hstk : stk = (As.map (gcv ad)).reverse ++ restv) (hd : decode y.2.1 pc = .ok (.invokestatic idx, 3)) (hM : gMs y.1.cls idx z n) (hn : As.length = n) (hd1 : d1 + 1 ≤ D) (hz0 : z.2.2.2.2 ≠ [])
    (hfit : gsz As ≤ z.2.2.1) (hcat : (restv.map fun v => v.category).sum ≤ 8) (k : T E d1 z 0 (glv 0 As) [] x f QQ) (hQ : ∀ o x1 f1, QQ o x1 f1 → ∃ r : Int32, o = .inl (some (vi r))) (hroom9 : ∀ o x1 f1, QQ o x1 f1 → gle f f1 → cells + (f1.2.2.1 - f.2.2.1) ≤ R.cells ∧ slots + (f1.2.2.2 - f.2.2.2) ≤ R.slots)
    (kk : ∀ (r : Int32) (x1 : gd) (f1 : gf) (ad1 : Nat → Nat) (H1 : Heap) (locs1 : List Loc), QQ (.inl (some (vi r))) x1 f1 → gle f f1 → gex f ad ad1 → gP E x1 f1 ad1 (gA f ad H.size) H1 → (∀ q : Nat, q < H.size → ¬ gA f ad H.size q → H1[q]? = H[q]?) → va_S A s.heap H1 locs1 → W p E.1 e R s m args below meth c H1 locs1 (cells + (f1.2.2.1 - f.2.2.1)) (slots + (f1.2.2.2 - f.2.2.2)) Q (F0 m (pc + 3) ls (.int r :: restv))) :
    W p E.1 e R s m args below meth c H locs cells slots Q (F0 m pc ls stk) := by
  obtain ⟨⟨m1, m2, m4, m5⟩, m6, m7, m8⟩ := hM
  obtain ⟨o1, x1, f1, hk, hle, hw1⟩ := k
  obtain ⟨r, rfl⟩ := hQ o1 x1 f1 hk
  obtain ⟨hc1, hs1⟩ := hroom9 _ x1 f1 hk hle
  have hroom : 8 + (z.2.2.1 + 11) + 41 * d1 ≤ R.locals := by
    have hq := C.2.2.1.2
    omega
  refine L_out (E := E) (x := x) (f := f) (ad := ad) (r := r) (x1 := x1) (f1 := f1) (mc := f1.2.2.1 - f.2.2.1) (ms := f1.2.2.2 - f.2.2.2) (av := (As.map (gcv ad)).toArray) ?_ hP hS C.2.2.2.2 (fun ad1 H1 locs1 g1 g2 g3 g4 => kk r x1 f1 ad1 H1 locs1 hk hle g1 g2 g3 g4)
  cases hz : z.2.2.2.2 with
  | nil => exact absurd hz hz0
  | cons a9 b9 =>
    have hG : GoodIn W0 (va_wsS y.1.cls idx z.1 (gws z)) := by
      intro w hw
      rcases List.mem_append.mp hw with h | h
      · refine W0_good w ?_
        simp only [List.mem_cons, List.not_mem_nil, or_false] at h
        rcases h with rfl | rfl | rfl
        · exact m1
        · exact m2
        · exact m4
      · exact gwsz m5 w h
    exact vx_runSX (hh := a9 :: b9) (As := As.map (gcv ad)) (Pc := va_Pc (As.map (gcv ad)) (gst E x f ad H.size)) ⟨C.1.1, C.1.2.1, C.1.2.2.1, C.1.2.2.2.1, C.1.2.2.2.2⟩ (gM_of C.2.2.2.1.2.2.2 m7 hfit hw1 ad H.size)
      (vx_cwSW (bytes := z.2.1) (maxL := z.2.2.1) (ret := z.2.2.2.1) (hh := a9 :: b9) (ws' := W0) n C.1.2.2.2.2 hG (by rw [gws, gcw, hz]) rfl rfl m6 ⟨Nat.le_trans hd1 C.2.2.1.1, hroom⟩) ⟨gst_blind, fun U hU hW => ⟨rfl, gst_in C hP hS hU hW⟩⟩ rfl (by rw [List.length_map]; exact hn) hls hstk (lv_room hcat) hd ⟨hc1, hs1⟩
end LAW
/-- the two worlds, apart; where their objects lie -/
def LI (G : kG) (A : Nat → Prop) (H : Heap) (x : gd) (q : kP) (w : gd) (x0 m0 o0 : Nat) : Prop := ∃ ak am : Nat → Nat, gP (wE (kE G)) x (fo (kf q)) ak A H ∧ gP (mE (mg G)) w (mf (mg G)) am A H ∧ gdis (fo (kf q)) ak (mf (mg G)) am ∧ ak 0 = x0 ∧ ak 299 = o0 ∧ am 0 = m0
theorem gdis_s {f1 f2 : gf} {a1 a2 : Nat → Nat} (h : gdis f1 a1 f2 a2) : gdis f2 a2 f1 a1 := fun c hc c' hc' e => h c' hc' c hc e.symm
section LAX
variable {p : Program} {e : Env} {R : Room} {s : State} {m : MethodId} {args : Array Value} {below : List Frame} {meth : Method} {c : Code} {H : Heap} {locs : List Loc} {c0 s0 : Nat} {Q : State → Prop} {pc : Nat} {ls : Array Slot} {A : Nat → Prop} {G : kG} {z : gy} {x w : gd} {q : kP} {x0 m0 o0 : Nat} {restv : List Value}
/-- a helper is called -/
theorem LI_S {idx n : Nat} {P : Int32 → gd → kP → Prop} (C : gC (wE (kE G)) 1000 yLaw p R s m args meth c A) (hI : LI G A H x q w x0 m0 o0) (hu : kU q) (hS : va_S A s.heap H locs) (hls : ls.size = 7) (As : List gv) (vs : List Value) (hvs : ∀ ad : Nat → Nat, As.map (gcv ad) = vs) (hd : decode cL_law pc = .ok (.invokestatic idx, 3)) (hM : gMs RL idx z n) (hn : As.length + 2 = n) (hz0 : z.2.2.2.2 ≠ []) (hfit : gsz (vr 0 :: As ++ [vr 299]) ≤ z.2.2.1)
    (k : T (wE (kE G)) 900 z 0 (glv 0 (vr 0 :: As ++ [vr 299])) [] x (fo (kf q)) (wq q P)) (hroom : ∀ q1, kU q1 → kst q q1 → q1.ce + c0 ≤ R.cells ∧ q1.sl + s0 ≤ R.slots)
    (kk : ∀ (r : Int32) (x1 : gd) (q1 : kP) (H1 : Heap) (locs1 : List Loc), LI G A H1 x1 q1 w x0 m0 o0 → kU q1 → kst q q1 → HOI x1 q1 → P r x1 q1 → va_S A s.heap H1 locs1 → W p G.1 e R s m args below meth c H1 locs1 (q1.ce + c0) (q1.sl + s0) Q (F0 m (pc + 3) ls [.int r])) :
    W p G.1 e R s m args below meth c H locs (q.ce + c0) (q.sl + s0) Q (F0 m pc ls (.ref o0 :: (vs.reverse ++ [.ref x0]))) := by
  obtain ⟨ak, am, hP1, hP2, hdis, e0, e9, em⟩ := hI
  have l0 : 0 ∈ (fo (kf q)).2.1 := List.mem_append_left _ (kl_0 hu.1)
  have l9 : 299 ∈ (fo (kf q)).2.1 := List.mem_append_right _ (List.mem_singleton.mpr rfl)
  have hc9 : ∀ {q1 : kP}, gle (fo (kf q)) (fo (kf q1)) → q.ce + c0 + (q1.ce - q.ce) = q1.ce + c0 ∧ q.sl + s0 + (q1.sl - q.sl) = q1.sl + s0 := fun {q1} h => by
    have a1 : q.ce ≤ q1.ce := h.2.1
    have a2 : q.sl ≤ q1.sl := h.2.2
    omega
  refine L_S (E := wE (kE G)) (y := yLaw) (restv := []) (f := fo (kf q)) (ad := ak) C hP1 hS hls (vr 0 :: As ++ [vr 299]) 900 ?_ hd hM (by rw [← hn]; simp) (by omega) hz0 hfit (by decide) k (fun o x1 f1 h => by obtain ⟨r, q1, h1, -⟩ := h; exact ⟨r, h1⟩) (fun o x1 f1 h hle => ?_) (fun r x1 f1 ad1 H1 locs1 h hle hex hPn hkp hS1 => ?_)
  · rw [List.map_append, List.map_cons, hvs, ← e0, ← e9]
    simp [gcv]
  · obtain ⟨r, q1, -, rfl, hu1, hk1, -⟩ := h
    obtain ⟨a1, a2⟩ := hc9 hle
    obtain ⟨b1, b2⟩ := hroom q1 hu1 hk1
    exact ⟨by show q.ce + c0 + (q1.ce - q.ce) ≤ _; rw [a1]; exact b1, by show q.sl + s0 + (q1.sl - q.sl) ≤ _; rw [a2]; exact b2⟩
  · obtain ⟨r', q1, hr, rfl, hu1, hk1, hH1, hp1⟩ := h
    cases hr
    obtain ⟨a1, a2⟩ := hc9 hle
    obtain ⟨kp1, kp2⟩ := keep2 hP2 hdis hkp hPn
    have hin := gA_in (sz := H.size) hP1 (fun q hq => C.2.2.2.2 q (Nat.le_trans hS.1 hq))
    have hkk := kk r x1 q1 H1 locs1 ⟨ad1, am, gP_w hPn hin, kp1, kp2, (hex.1 0 l0).trans e0, (hex.1 299 l9).trans e9, em⟩ hu1 hk1 hH1 hp1 hS1
    show W p G.1 e R s m args below meth c H1 locs1 (q.ce + c0 + (q1.ce - q.ce)) (q.sl + s0 + (q1.sl - q.sl)) Q _
    rw [a1, a2]; exact hkk
/-- a method of the class is called -/
theorem LI_K {idx : Nat} {P : Int32 → gd → kP → Prop} (C : gC (wE (kE G)) 1000 yLaw p R s m args meth c A) (hI : LI G A H x q w x0 m0 o0) (hu : kU q) (hS : va_S A s.heap H locs) (hls : ls.size = 7) (hd : decode cL_law pc = .ok (.invokevirtual idx, 3)) (hM : gMv RL idx z 0) (hcl : (vwCl[11]?).map (fun r => r.1) = some z.1.cls) (hfit : gsz [vr 0] ≤ z.2.2.1) (hcat : (restv.map fun v => v.category).sum ≤ 8)
    (k : T (kE G) 900 z 0 (glv 0 [vr 0]) [] x (kf q) (fun o x1 f1 => ∃ (r : Int32) (q1 : kP), o = .inl (some (vi r)) ∧ f1 = kf q1 ∧ kU q1 ∧ kst q q1 ∧ HOI x1 q1 ∧ P r x1 q1)) (hroom : ∀ q1, kU q1 → kst q q1 → q1.ce + c0 ≤ R.cells ∧ q1.sl + s0 ≤ R.slots)
    (kk : ∀ (r : Int32) (x1 x2 : gd) (q1 : kP) (H1 : Heap) (locs1 : List Loc), LI G A H1 x1 q1 w x0 m0 o0 → kU q1 → kst q q1 → HOI x1 q1 → P r x2 q1 → x1.1 = x2.1 → va_S A s.heap H1 locs1 → W p G.1 e R s m args below meth c H1 locs1 (q1.ce + c0) (q1.sl + s0) Q (F0 m (pc + 3) ls (.int r :: restv))) :
    W p G.1 e R s m args below meth c H locs (q.ce + c0) (q.sl + s0) Q (F0 m pc ls (.ref x0 :: restv)) := by
  obtain ⟨ak, am, hP1, hP2, hdis, e0, e9, em⟩ := hI
  obtain ⟨hPk, hPO, hdO⟩ := fo_sp (n299 hu) hP1
  have l0 : 0 ∈ (kf q).2.1 := kl_0 hu.1
  have l9 : 299 ∈ (fo (kf q)).2.1 := List.mem_append_right _ (List.mem_singleton.mpr rfl)
  have hdk : gdis (kf q) ak (mf (mg G)) am := fun c hc c' hc' => hdis c (List.mem_append_left _ hc) c' hc'
  have hc9 : ∀ {q1 : kP}, gle (kf q) (kf q1) → q.ce + c0 + (q1.ce - q.ce) = q1.ce + c0 ∧ q.sl + s0 + (q1.sl - q.sl) = q1.sl + s0 := fun {q1} h => by
    have a1 : q.ce ≤ q1.ce := h.2.1
    have a2 : q.sl ≤ q1.sl := h.2.2
    omega
  have C1 : gC (kE G) 1000 yLaw p R s m args meth c A := C
  refine L_V (E := kE G) (y := yLaw) (cr := 0) (ci := 11) (f := kf q) (ad := ak) C1 hPk hS hls [] 900 (by rw [← e0]; rfl) hd hM rfl kk_0 hcl l0 (by omega) hfit hcat k (fun o x1 f1 h => by obtain ⟨r, q1, h1, -⟩ := h; exact ⟨r, h1⟩) (fun o x1 f1 h hle => ?_) (fun r x1 f1 ad1 H1 locs1 h hle hex hPn hkp hS1 => ?_)
  · obtain ⟨r, q1, -, rfl, hu1, hk1, -⟩ := h
    obtain ⟨a1, a2⟩ := hc9 hle
    obtain ⟨b1, b2⟩ := hroom q1 hu1 hk1
    exact ⟨by show q.ce + c0 + (q1.ce - q.ce) ≤ _; rw [a1]; exact b1, by show q.sl + s0 + (q1.sl - q.sl) ≤ _; rw [a2]; exact b2⟩
  · obtain ⟨r', q1, hr, rfl, hu1, hk1, hH1, hp1⟩ := h
    cases hr
    obtain ⟨a1, a2⟩ := hc9 hle
    obtain ⟨kp1, kp2⟩ := keep2 hP2 hdk hkp hPn
    obtain ⟨ko1, ko2⟩ := keep2 hPO hdO hkp hPn
    have hin := gA_in (sz := H.size) hPk (fun q hq => C.2.2.2.2 q (Nat.le_trans hS.1 hq))
    have n1 := n299 hu1
    have hPx := fo_mv n1 (kU_NR hu1 n1) hPn hin ko1 ko2
    have ne : ∀ c ∈ (kf q1).2.1, ¬ c = 299 := fun c hc e => n1 (e ▸ hc)
    have hkk := kk r (xo x x1) x1 q1 H1 locs1 ⟨ao ak ad1, am, hPx, kp1, fun c hc c' hc' => by
      rcases List.mem_append.mp hc with h | h
      · rw [show ao ak ad1 c = ad1 c from if_neg (ne c h)]; exact kp2 c h c' hc'
      · rw [List.mem_singleton.mp h, show ao ak ad1 299 = ak 299 from if_pos rfl]; exact hdis 299 l9 c' hc', by
      rw [show ao ak ad1 0 = ad1 0 from if_neg (by omega), hex.1 0 l0]; exact e0, by
      rw [show ao ak ad1 299 = ak 299 from if_pos rfl]; exact e9, em⟩ hu1 hk1 (HOI_1 rfl hu1 hH1) hp1 rfl hS1
    show W p G.1 e R s m args below meth c H1 locs1 (q.ce + c0 + (q1.ce - q.ce)) (q.sl + s0 + (q1.sl - q.sl)) Q _
    rw [a1, a2]; exact hkk
/-- a method of the model is called -/
theorem LI_M {idx n : Nat} {F : Int32 → gd → Prop} {cells slots d1 : Nat} (C : gC (wE (kE G)) 1000 yLaw p R s m args meth c A) (hI : LI G A H x q w x0 m0 o0) (hS : va_S A s.heap H locs) (hls : ls.size = 7) (As : List gv) (vs : List Value) (hvs : ∀ ad : Nat → Nat, As.map (gcv ad) = vs) (hd : decode cL_law pc = .ok (.invokevirtual idx, 3)) (hM : gMv RL idx z n) (hn : As.length = n) (hcl : (vwCl[12]?).map (fun r => r.1) = some z.1.cls) (hfit : gsz (vr 0 :: As) ≤ z.2.2.1) (hcat : (restv.map fun v => v.category).sum ≤ 8) (hd1 : d1 ≤ 900)
    (k : MT (mg G) d1 z 0 (glv 0 (vr 0 :: As)) [] w (ri F)) (hroom : cells ≤ R.cells ∧ slots ≤ R.slots)
    (kk : ∀ (r : Int32) (w1 : gd) (H1 : Heap) (locs1 : List Loc), LI G A H1 x q w1 x0 m0 o0 → F r w1 → va_S A s.heap H1 locs1 → W p G.1 e R s m args below meth c H1 locs1 cells slots Q (F0 m (pc + 3) ls (.int r :: restv))) :
    W p G.1 e R s m args below meth c H locs cells slots Q (F0 m pc ls (vs.reverse ++ .ref m0 :: restv)) := by
  obtain ⟨ak, am, hP1, hP2, hdis, e0, e9, em⟩ := hI
  have l0 : 0 ∈ (mf (mg G)).2.1 := ml_0
  have C1 : gC (mE (mg G)) 1000 yLaw p R s m args meth c A := C
  refine L_V (E := mE (mg G)) (y := yLaw) (cr := 0) (ci := 12) (f := mf (mg G)) (ad := am) C1 hP2 hS hls As d1 (by rw [← em, hvs]) hd hM hn mk_0 hcl l0 (by omega) hfit hcat k (fun o x1 f1 h => by obtain ⟨-, v, rfl, r, rfl, -⟩ := h; exact ⟨r, rfl⟩) (fun o x1 f1 h hle => ?_) (fun r x1 f1 ad1 H1 locs1 h hle hex hPn hkp hS1 => ?_)
  · obtain ⟨rfl, -⟩ := h
    exact hroom
  · obtain ⟨rfl, v, hv, r', hr, hF⟩ := h
    cases hv
    cases hr
    obtain ⟨kp1, kp2⟩ := keep2 hP1 (gdis_s hdis) hkp hPn
    have hin := gA_in (sz := H.size) hP2 (fun q hq => C.2.2.2.2 q (Nat.le_trans hS.1 hq))
    exact kk r x1 H1 locs1 ⟨ak, ad1, kp1, gP_w hPn hin, gdis_s kp2, e0, e9, (hex.1 0 l0).trans em⟩ hF hS1
/-- what a helper left is read -/
theorem LI_O {c0 s0 : Nat} {restv : List Value} (C : gC (wE (kE G)) 1000 yLaw p R s m args meth c A) (hI : LI G A H x q w x0 m0 o0) (hd : decode cL_law pc = .ok (.laload, 1)) (kk : W p G.1 e R s m args below meth c H locs c0 s0 Q (F0 m (pc + 1) ls (.long (x.2 299 (0 : Int32).toNatClampNeg) :: restv))) : W p G.1 e R s m args below meth c H locs c0 s0 Q (F0 m pc ls (.int 0 :: .ref o0 :: restv)) := by
  obtain ⟨ak, am, hP1, hP2, hdis, e0, e9, em⟩ := hI
  have l9 : 299 ∈ (fo (kf q)).2.1 := List.mem_append_right _ (List.mem_singleton.mpr rfl)
  obtain ⟨i, -, hi⟩ := gwl_at (E := wE (kE G)) (x := x) (ad := ak) l9
  rw [gce_arr wE_9] at hi
  rw [← e9]
  exact va_lald C.1.1 C.1.2.1 C.2.2.2.1.1 hP1.1.1 i 3 hi rfl (vin0 (by omega)) hd kk
theorem lg_self (a : Int64) : lg_cmp a a = 0 := by
  unfold lg_cmp
  rw [if_neg (fun h => by rw [gt_iff_lt, Int64.lt_iff_toInt_lt] at h; omega), if_pos rfl]
theorem sp_thrown {G : mG} {d : Nat} {w : gd} {F : Int32 → gd → Prop} (h : F (w.1 0 0) w) : MT G (d + 1) z_thrown 0 [(0, vr 0)] [] w (ri F) := sg_thrown_0 ⟨_, rfl, h⟩
end LAX
end
section
set_option maxRecDepth 100000 in
theorem dlw_0 : decode cL_law 0 = .ok (.new 8, 3) := by decide +kernel
set_option maxRecDepth 100000 in
theorem dlw_3 : decode cL_law 3 = .ok (.dup, 1) := by decide +kernel
set_option maxRecDepth 100000 in
theorem dlw_4 : decode cL_law 4 = .ok (.invokespecial 99, 3) := by decide +kernel
set_option maxRecDepth 100000 in
theorem dlw_7 : decode cL_law 7 = .ok (.astore_n 1, 1) := by decide +kernel
set_option maxRecDepth 100000 in
theorem dlw_8 : decode cL_law 8 = .ok (.new 100, 3) := by decide +kernel
set_option maxRecDepth 100000 in
theorem dlw_11 : decode cL_law 11 = .ok (.dup, 1) := by decide +kernel
set_option maxRecDepth 100000 in
theorem dlw_12 : decode cL_law 12 = .ok (.invokespecial 102, 3) := by decide +kernel
set_option maxRecDepth 100000 in
theorem dlw_15 : decode cL_law 15 = .ok (.astore_n 2, 1) := by decide +kernel
set_option maxRecDepth 100000 in
theorem dlw_16 : decode cL_law 16 = .ok (.iconst 1, 1) := by decide +kernel
set_option maxRecDepth 100000 in
theorem dlw_17 : decode cL_law 17 = .ok (.newarray .long, 2) := by decide +kernel
set_option maxRecDepth 100000 in
theorem dlw_19 : decode cL_law 19 = .ok (.astore_n 3, 1) := by decide +kernel
set_option maxRecDepth 100000 in
theorem dlw_20 : decode cL_law 20 = .ok (.iconst 0, 1) := by decide +kernel
set_option maxRecDepth 100000 in
theorem dlw_21 : decode cL_law 21 = .ok (.istore 4, 2) := by decide +kernel
set_option maxRecDepth 100000 in
theorem dlw_23 : decode cL_law 23 = .ok (.iload 4, 2) := by decide +kernel
set_option maxRecDepth 100000 in
theorem dlw_25 : decode cL_law 25 = .ok (.aload_n 0, 1) := by decide +kernel
set_option maxRecDepth 100000 in
theorem dlw_26 : decode cL_law 26 = .ok (.arraylength, 1) := by decide +kernel
set_option maxRecDepth 100000 in
theorem dlw_27 : decode cL_law 27 = .ok (.iconst 4, 1) := by decide +kernel
set_option maxRecDepth 100000 in
theorem dlw_28 : decode cL_law 28 = .ok (.isub, 1) := by decide +kernel
set_option maxRecDepth 100000 in
theorem dlw_29 : decode cL_law 29 = .ok (.if_icmp .gt 1164, 3) := by decide +kernel
set_option maxRecDepth 100000 in
theorem dlw_32 : decode cL_law 32 = .ok (.aload_n 0, 1) := by decide +kernel
set_option maxRecDepth 100000 in
theorem dlw_33 : decode cL_law 33 = .ok (.iload 4, 2) := by decide +kernel
set_option maxRecDepth 100000 in
theorem dlw_35 : decode cL_law 35 = .ok (.iaload, 1) := by decide +kernel
set_option maxRecDepth 100000 in
theorem dlw_36 : decode cL_law 36 = .ok (.bipush 31, 2) := by decide +kernel
set_option maxRecDepth 100000 in
theorem dlw_38 : decode cL_law 38 = .ok (.iand, 1) := by decide +kernel
set_option maxRecDepth 100000 in
theorem dlw_39 : decode cL_law 39 = .ok (.tableswitch 1148 0 28 #[129, 201, 214, 227, 255, 283, 311, 327, 367, 395, 435, 463, 519, 547, 587, 627, 667, 707, 747, 787, 827, 855, 895, 935, 987, 1027, 1067, 1107, 1135], 129) := by decide +kernel
set_option maxRecDepth 100000 in
theorem dlw_168 : decode cL_law 168 = .ok (.aload_n 1, 1) := by decide +kernel
set_option maxRecDepth 100000 in
theorem dlw_169 : decode cL_law 169 = .ok (.aload_n 0, 1) := by decide +kernel
set_option maxRecDepth 100000 in
theorem dlw_170 : decode cL_law 170 = .ok (.iload 4, 2) := by decide +kernel
set_option maxRecDepth 100000 in
theorem dlw_172 : decode cL_law 172 = .ok (.iconst 1, 1) := by decide +kernel
set_option maxRecDepth 100000 in
theorem dlw_173 : decode cL_law 173 = .ok (.iadd, 1) := by decide +kernel
set_option maxRecDepth 100000 in
theorem dlw_174 : decode cL_law 174 = .ok (.iaload, 1) := by decide +kernel
set_option maxRecDepth 100000 in
theorem dlw_175 : decode cL_law 175 = .ok (.aload_n 0, 1) := by decide +kernel
set_option maxRecDepth 100000 in
theorem dlw_176 : decode cL_law 176 = .ok (.iload 4, 2) := by decide +kernel
set_option maxRecDepth 100000 in
theorem dlw_178 : decode cL_law 178 = .ok (.iconst 2, 1) := by decide +kernel
set_option maxRecDepth 100000 in
theorem dlw_179 : decode cL_law 179 = .ok (.iadd, 1) := by decide +kernel
set_option maxRecDepth 100000 in
theorem dlw_180 : decode cL_law 180 = .ok (.iaload, 1) := by decide +kernel
set_option maxRecDepth 100000 in
theorem dlw_181 : decode cL_law 181 = .ok (.i2l, 1) := by decide +kernel
set_option maxRecDepth 100000 in
theorem dlw_182 : decode cL_law 182 = .ok (.bipush 32, 2) := by decide +kernel
set_option maxRecDepth 100000 in
theorem dlw_184 : decode cL_law 184 = .ok (.lshl, 1) := by decide +kernel
set_option maxRecDepth 100000 in
theorem dlw_185 : decode cL_law 185 = .ok (.aload_n 0, 1) := by decide +kernel
set_option maxRecDepth 100000 in
theorem dlw_186 : decode cL_law 186 = .ok (.iload 4, 2) := by decide +kernel
set_option maxRecDepth 100000 in
theorem dlw_188 : decode cL_law 188 = .ok (.iconst 3, 1) := by decide +kernel
set_option maxRecDepth 100000 in
theorem dlw_189 : decode cL_law 189 = .ok (.iadd, 1) := by decide +kernel
set_option maxRecDepth 100000 in
theorem dlw_190 : decode cL_law 190 = .ok (.iaload, 1) := by decide +kernel
set_option maxRecDepth 100000 in
theorem dlw_191 : decode cL_law 191 = .ok (.i2l, 1) := by decide +kernel
set_option maxRecDepth 100000 in
theorem dlw_192 : decode cL_law 192 = .ok (.ldc2_w 103, 3) := by decide +kernel
set_option maxRecDepth 100000 in
theorem dlw_195 : decode cL_law 195 = .ok (.land, 1) := by decide +kernel
set_option maxRecDepth 100000 in
theorem dlw_196 : decode cL_law 196 = .ok (.lor, 1) := by decide +kernel
set_option maxRecDepth 100000 in
theorem dlw_197 : decode cL_law 197 = .ok (.aload_n 3, 1) := by decide +kernel
set_option maxRecDepth 100000 in
theorem dlw_198 : decode cL_law 198 = .ok (.invokestatic 105, 3) := by decide +kernel
set_option maxRecDepth 100000 in
theorem dlw_201 : decode cL_law 201 = .ok (.istore 5, 2) := by decide +kernel
set_option maxRecDepth 100000 in
theorem dlw_203 : decode cL_law 203 = .ok (.aload_n 2, 1) := by decide +kernel
set_option maxRecDepth 100000 in
theorem dlw_204 : decode cL_law 204 = .ok (.aload_n 0, 1) := by decide +kernel
set_option maxRecDepth 100000 in
theorem dlw_205 : decode cL_law 205 = .ok (.iload 4, 2) := by decide +kernel
set_option maxRecDepth 100000 in
theorem dlw_207 : decode cL_law 207 = .ok (.iconst 1, 1) := by decide +kernel
set_option maxRecDepth 100000 in
theorem dlw_208 : decode cL_law 208 = .ok (.iadd, 1) := by decide +kernel
set_option maxRecDepth 100000 in
theorem dlw_209 : decode cL_law 209 = .ok (.iaload, 1) := by decide +kernel
set_option maxRecDepth 100000 in
theorem dlw_210 : decode cL_law 210 = .ok (.aload_n 0, 1) := by decide +kernel
set_option maxRecDepth 100000 in
theorem dlw_211 : decode cL_law 211 = .ok (.iload 4, 2) := by decide +kernel
set_option maxRecDepth 100000 in
theorem dlw_213 : decode cL_law 213 = .ok (.iconst 2, 1) := by decide +kernel
set_option maxRecDepth 100000 in
theorem dlw_214 : decode cL_law 214 = .ok (.iadd, 1) := by decide +kernel
set_option maxRecDepth 100000 in
theorem dlw_215 : decode cL_law 215 = .ok (.iaload, 1) := by decide +kernel
set_option maxRecDepth 100000 in
theorem dlw_216 : decode cL_law 216 = .ok (.i2l, 1) := by decide +kernel
set_option maxRecDepth 100000 in
theorem dlw_217 : decode cL_law 217 = .ok (.bipush 32, 2) := by decide +kernel
set_option maxRecDepth 100000 in
theorem dlw_219 : decode cL_law 219 = .ok (.lshl, 1) := by decide +kernel
set_option maxRecDepth 100000 in
theorem dlw_220 : decode cL_law 220 = .ok (.aload_n 0, 1) := by decide +kernel
set_option maxRecDepth 100000 in
theorem dlw_221 : decode cL_law 221 = .ok (.iload 4, 2) := by decide +kernel
set_option maxRecDepth 100000 in
theorem dlw_223 : decode cL_law 223 = .ok (.iconst 3, 1) := by decide +kernel
set_option maxRecDepth 100000 in
theorem dlw_224 : decode cL_law 224 = .ok (.iadd, 1) := by decide +kernel
set_option maxRecDepth 100000 in
theorem dlw_225 : decode cL_law 225 = .ok (.iaload, 1) := by decide +kernel
set_option maxRecDepth 100000 in
theorem dlw_226 : decode cL_law 226 = .ok (.i2l, 1) := by decide +kernel
set_option maxRecDepth 100000 in
theorem dlw_227 : decode cL_law 227 = .ok (.ldc2_w 103, 3) := by decide +kernel
set_option maxRecDepth 100000 in
theorem dlw_230 : decode cL_law 230 = .ok (.land, 1) := by decide +kernel
set_option maxRecDepth 100000 in
theorem dlw_231 : decode cL_law 231 = .ok (.lor, 1) := by decide +kernel
set_option maxRecDepth 100000 in
theorem dlw_232 : decode cL_law 232 = .ok (.invokevirtual 110, 3) := by decide +kernel
set_option maxRecDepth 100000 in
theorem dlw_235 : decode cL_law 235 = .ok (.istore 6, 2) := by decide +kernel
set_option maxRecDepth 100000 in
theorem dlw_237 : decode cL_law 237 = .ok (.goto 950, 3) := by decide +kernel
set_option maxRecDepth 100000 in
theorem dlw_240 : decode cL_law 240 = .ok (.aload_n 1, 1) := by decide +kernel
set_option maxRecDepth 100000 in
theorem dlw_241 : decode cL_law 241 = .ok (.invokevirtual 111, 3) := by decide +kernel
set_option maxRecDepth 100000 in
theorem dlw_244 : decode cL_law 244 = .ok (.pop, 1) := by decide +kernel
set_option maxRecDepth 100000 in
theorem dlw_245 : decode cL_law 245 = .ok (.aload_n 2, 1) := by decide +kernel
set_option maxRecDepth 100000 in
theorem dlw_246 : decode cL_law 246 = .ok (.invokevirtual 114, 3) := by decide +kernel
set_option maxRecDepth 100000 in
theorem dlw_249 : decode cL_law 249 = .ok (.pop, 1) := by decide +kernel
set_option maxRecDepth 100000 in
theorem dlw_250 : decode cL_law 250 = .ok (.goto 937, 3) := by decide +kernel
set_option maxRecDepth 100000 in
theorem dlw_253 : decode cL_law 253 = .ok (.aload_n 1, 1) := by decide +kernel
set_option maxRecDepth 100000 in
theorem dlw_254 : decode cL_law 254 = .ok (.invokevirtual 115, 3) := by decide +kernel
set_option maxRecDepth 100000 in
theorem dlw_257 : decode cL_law 257 = .ok (.pop, 1) := by decide +kernel
set_option maxRecDepth 100000 in
theorem dlw_258 : decode cL_law 258 = .ok (.aload_n 2, 1) := by decide +kernel
set_option maxRecDepth 100000 in
theorem dlw_259 : decode cL_law 259 = .ok (.invokevirtual 118, 3) := by decide +kernel
set_option maxRecDepth 100000 in
theorem dlw_262 : decode cL_law 262 = .ok (.pop, 1) := by decide +kernel
set_option maxRecDepth 100000 in
theorem dlw_263 : decode cL_law 263 = .ok (.goto 924, 3) := by decide +kernel
set_option maxRecDepth 100000 in
theorem dlw_266 : decode cL_law 266 = .ok (.aload_n 1, 1) := by decide +kernel
set_option maxRecDepth 100000 in
theorem dlw_267 : decode cL_law 267 = .ok (.aload_n 0, 1) := by decide +kernel
set_option maxRecDepth 100000 in
theorem dlw_268 : decode cL_law 268 = .ok (.iload 4, 2) := by decide +kernel
set_option maxRecDepth 100000 in
theorem dlw_270 : decode cL_law 270 = .ok (.iconst 1, 1) := by decide +kernel
set_option maxRecDepth 100000 in
theorem dlw_271 : decode cL_law 271 = .ok (.iadd, 1) := by decide +kernel
set_option maxRecDepth 100000 in
theorem dlw_272 : decode cL_law 272 = .ok (.iaload, 1) := by decide +kernel
set_option maxRecDepth 100000 in
theorem dlw_273 : decode cL_law 273 = .ok (.aload_n 3, 1) := by decide +kernel
set_option maxRecDepth 100000 in
theorem dlw_274 : decode cL_law 274 = .ok (.invokestatic 119, 3) := by decide +kernel
set_option maxRecDepth 100000 in
theorem dlw_277 : decode cL_law 277 = .ok (.istore 5, 2) := by decide +kernel
set_option maxRecDepth 100000 in
theorem dlw_279 : decode cL_law 279 = .ok (.aload_n 2, 1) := by decide +kernel
set_option maxRecDepth 100000 in
theorem dlw_280 : decode cL_law 280 = .ok (.aload_n 0, 1) := by decide +kernel
set_option maxRecDepth 100000 in
theorem dlw_281 : decode cL_law 281 = .ok (.iload 4, 2) := by decide +kernel
set_option maxRecDepth 100000 in
theorem dlw_283 : decode cL_law 283 = .ok (.iconst 1, 1) := by decide +kernel
set_option maxRecDepth 100000 in
theorem dlw_284 : decode cL_law 284 = .ok (.iadd, 1) := by decide +kernel
set_option maxRecDepth 100000 in
theorem dlw_285 : decode cL_law 285 = .ok (.iaload, 1) := by decide +kernel
set_option maxRecDepth 100000 in
theorem dlw_286 : decode cL_law 286 = .ok (.invokevirtual 122, 3) := by decide +kernel
set_option maxRecDepth 100000 in
theorem dlw_289 : decode cL_law 289 = .ok (.istore 6, 2) := by decide +kernel
set_option maxRecDepth 100000 in
theorem dlw_291 : decode cL_law 291 = .ok (.goto 896, 3) := by decide +kernel
set_option maxRecDepth 100000 in
theorem dlw_294 : decode cL_law 294 = .ok (.aload_n 1, 1) := by decide +kernel
set_option maxRecDepth 100000 in
theorem dlw_295 : decode cL_law 295 = .ok (.aload_n 0, 1) := by decide +kernel
set_option maxRecDepth 100000 in
theorem dlw_296 : decode cL_law 296 = .ok (.iload 4, 2) := by decide +kernel
set_option maxRecDepth 100000 in
theorem dlw_298 : decode cL_law 298 = .ok (.iconst 1, 1) := by decide +kernel
set_option maxRecDepth 100000 in
theorem dlw_299 : decode cL_law 299 = .ok (.iadd, 1) := by decide +kernel
set_option maxRecDepth 100000 in
theorem dlw_300 : decode cL_law 300 = .ok (.iaload, 1) := by decide +kernel
set_option maxRecDepth 100000 in
theorem dlw_301 : decode cL_law 301 = .ok (.aload_n 3, 1) := by decide +kernel
set_option maxRecDepth 100000 in
theorem dlw_302 : decode cL_law 302 = .ok (.invokestatic 123, 3) := by decide +kernel
set_option maxRecDepth 100000 in
theorem dlw_305 : decode cL_law 305 = .ok (.istore 5, 2) := by decide +kernel
set_option maxRecDepth 100000 in
theorem dlw_307 : decode cL_law 307 = .ok (.aload_n 2, 1) := by decide +kernel
set_option maxRecDepth 100000 in
theorem dlw_308 : decode cL_law 308 = .ok (.aload_n 0, 1) := by decide +kernel
set_option maxRecDepth 100000 in
theorem dlw_309 : decode cL_law 309 = .ok (.iload 4, 2) := by decide +kernel
set_option maxRecDepth 100000 in
theorem dlw_311 : decode cL_law 311 = .ok (.iconst 1, 1) := by decide +kernel
set_option maxRecDepth 100000 in
theorem dlw_312 : decode cL_law 312 = .ok (.iadd, 1) := by decide +kernel
set_option maxRecDepth 100000 in
theorem dlw_313 : decode cL_law 313 = .ok (.iaload, 1) := by decide +kernel
set_option maxRecDepth 100000 in
theorem dlw_314 : decode cL_law 314 = .ok (.invokevirtual 125, 3) := by decide +kernel
set_option maxRecDepth 100000 in
theorem dlw_317 : decode cL_law 317 = .ok (.istore 6, 2) := by decide +kernel
set_option maxRecDepth 100000 in
theorem dlw_319 : decode cL_law 319 = .ok (.goto 868, 3) := by decide +kernel
set_option maxRecDepth 100000 in
theorem dlw_322 : decode cL_law 322 = .ok (.aload_n 1, 1) := by decide +kernel
set_option maxRecDepth 100000 in
theorem dlw_323 : decode cL_law 323 = .ok (.aload_n 0, 1) := by decide +kernel
set_option maxRecDepth 100000 in
theorem dlw_324 : decode cL_law 324 = .ok (.iload 4, 2) := by decide +kernel
set_option maxRecDepth 100000 in
theorem dlw_326 : decode cL_law 326 = .ok (.iconst 1, 1) := by decide +kernel
set_option maxRecDepth 100000 in
theorem dlw_327 : decode cL_law 327 = .ok (.iadd, 1) := by decide +kernel
set_option maxRecDepth 100000 in
theorem dlw_328 : decode cL_law 328 = .ok (.iaload, 1) := by decide +kernel
set_option maxRecDepth 100000 in
theorem dlw_329 : decode cL_law 329 = .ok (.aload_n 3, 1) := by decide +kernel
set_option maxRecDepth 100000 in
theorem dlw_330 : decode cL_law 330 = .ok (.invokestatic 126, 3) := by decide +kernel
set_option maxRecDepth 100000 in
theorem dlw_333 : decode cL_law 333 = .ok (.istore 5, 2) := by decide +kernel
set_option maxRecDepth 100000 in
theorem dlw_335 : decode cL_law 335 = .ok (.aload_n 2, 1) := by decide +kernel
set_option maxRecDepth 100000 in
theorem dlw_336 : decode cL_law 336 = .ok (.aload_n 0, 1) := by decide +kernel
set_option maxRecDepth 100000 in
theorem dlw_337 : decode cL_law 337 = .ok (.iload 4, 2) := by decide +kernel
set_option maxRecDepth 100000 in
theorem dlw_339 : decode cL_law 339 = .ok (.iconst 1, 1) := by decide +kernel
set_option maxRecDepth 100000 in
theorem dlw_340 : decode cL_law 340 = .ok (.iadd, 1) := by decide +kernel
set_option maxRecDepth 100000 in
theorem dlw_341 : decode cL_law 341 = .ok (.iaload, 1) := by decide +kernel
set_option maxRecDepth 100000 in
theorem dlw_342 : decode cL_law 342 = .ok (.invokevirtual 128, 3) := by decide +kernel
set_option maxRecDepth 100000 in
theorem dlw_345 : decode cL_law 345 = .ok (.istore 6, 2) := by decide +kernel
set_option maxRecDepth 100000 in
theorem dlw_347 : decode cL_law 347 = .ok (.goto 840, 3) := by decide +kernel
set_option maxRecDepth 100000 in
theorem dlw_350 : decode cL_law 350 = .ok (.aload_n 1, 1) := by decide +kernel
set_option maxRecDepth 100000 in
theorem dlw_351 : decode cL_law 351 = .ok (.aload_n 3, 1) := by decide +kernel
set_option maxRecDepth 100000 in
theorem dlw_352 : decode cL_law 352 = .ok (.invokestatic 129, 3) := by decide +kernel
set_option maxRecDepth 100000 in
theorem dlw_355 : decode cL_law 355 = .ok (.istore 5, 2) := by decide +kernel
set_option maxRecDepth 100000 in
theorem dlw_357 : decode cL_law 357 = .ok (.aload_n 2, 1) := by decide +kernel
end
section
set_option maxRecDepth 100000 in
theorem dlw_358 : decode cL_law 358 = .ok (.invokevirtual 132, 3) := by decide +kernel
set_option maxRecDepth 100000 in
theorem dlw_361 : decode cL_law 361 = .ok (.istore 6, 2) := by decide +kernel
set_option maxRecDepth 100000 in
theorem dlw_363 : decode cL_law 363 = .ok (.goto 824, 3) := by decide +kernel
set_option maxRecDepth 100000 in
theorem dlw_366 : decode cL_law 366 = .ok (.aload_n 1, 1) := by decide +kernel
set_option maxRecDepth 100000 in
theorem dlw_367 : decode cL_law 367 = .ok (.aload_n 0, 1) := by decide +kernel
set_option maxRecDepth 100000 in
theorem dlw_368 : decode cL_law 368 = .ok (.iload 4, 2) := by decide +kernel
set_option maxRecDepth 100000 in
theorem dlw_370 : decode cL_law 370 = .ok (.iconst 1, 1) := by decide +kernel
set_option maxRecDepth 100000 in
theorem dlw_371 : decode cL_law 371 = .ok (.iadd, 1) := by decide +kernel
set_option maxRecDepth 100000 in
theorem dlw_372 : decode cL_law 372 = .ok (.iaload, 1) := by decide +kernel
set_option maxRecDepth 100000 in
theorem dlw_373 : decode cL_law 373 = .ok (.aload_n 0, 1) := by decide +kernel
set_option maxRecDepth 100000 in
theorem dlw_374 : decode cL_law 374 = .ok (.iload 4, 2) := by decide +kernel
set_option maxRecDepth 100000 in
theorem dlw_376 : decode cL_law 376 = .ok (.iconst 2, 1) := by decide +kernel
set_option maxRecDepth 100000 in
theorem dlw_377 : decode cL_law 377 = .ok (.iadd, 1) := by decide +kernel
set_option maxRecDepth 100000 in
theorem dlw_378 : decode cL_law 378 = .ok (.iaload, 1) := by decide +kernel
set_option maxRecDepth 100000 in
theorem dlw_379 : decode cL_law 379 = .ok (.aload_n 3, 1) := by decide +kernel
set_option maxRecDepth 100000 in
theorem dlw_380 : decode cL_law 380 = .ok (.invokestatic 133, 3) := by decide +kernel
set_option maxRecDepth 100000 in
theorem dlw_383 : decode cL_law 383 = .ok (.istore 5, 2) := by decide +kernel
set_option maxRecDepth 100000 in
theorem dlw_385 : decode cL_law 385 = .ok (.aload_n 2, 1) := by decide +kernel
set_option maxRecDepth 100000 in
theorem dlw_386 : decode cL_law 386 = .ok (.aload_n 0, 1) := by decide +kernel
set_option maxRecDepth 100000 in
theorem dlw_387 : decode cL_law 387 = .ok (.iload 4, 2) := by decide +kernel
set_option maxRecDepth 100000 in
theorem dlw_389 : decode cL_law 389 = .ok (.iconst 1, 1) := by decide +kernel
set_option maxRecDepth 100000 in
theorem dlw_390 : decode cL_law 390 = .ok (.iadd, 1) := by decide +kernel
set_option maxRecDepth 100000 in
theorem dlw_391 : decode cL_law 391 = .ok (.iaload, 1) := by decide +kernel
set_option maxRecDepth 100000 in
theorem dlw_392 : decode cL_law 392 = .ok (.aload_n 0, 1) := by decide +kernel
set_option maxRecDepth 100000 in
theorem dlw_393 : decode cL_law 393 = .ok (.iload 4, 2) := by decide +kernel
set_option maxRecDepth 100000 in
theorem dlw_395 : decode cL_law 395 = .ok (.iconst 2, 1) := by decide +kernel
set_option maxRecDepth 100000 in
theorem dlw_396 : decode cL_law 396 = .ok (.iadd, 1) := by decide +kernel
set_option maxRecDepth 100000 in
theorem dlw_397 : decode cL_law 397 = .ok (.iaload, 1) := by decide +kernel
set_option maxRecDepth 100000 in
theorem dlw_398 : decode cL_law 398 = .ok (.invokevirtual 136, 3) := by decide +kernel
set_option maxRecDepth 100000 in
theorem dlw_401 : decode cL_law 401 = .ok (.istore 6, 2) := by decide +kernel
set_option maxRecDepth 100000 in
theorem dlw_403 : decode cL_law 403 = .ok (.goto 784, 3) := by decide +kernel
set_option maxRecDepth 100000 in
theorem dlw_406 : decode cL_law 406 = .ok (.aload_n 1, 1) := by decide +kernel
set_option maxRecDepth 100000 in
theorem dlw_407 : decode cL_law 407 = .ok (.aload_n 0, 1) := by decide +kernel
set_option maxRecDepth 100000 in
theorem dlw_408 : decode cL_law 408 = .ok (.iload 4, 2) := by decide +kernel
set_option maxRecDepth 100000 in
theorem dlw_410 : decode cL_law 410 = .ok (.iconst 1, 1) := by decide +kernel
set_option maxRecDepth 100000 in
theorem dlw_411 : decode cL_law 411 = .ok (.iadd, 1) := by decide +kernel
set_option maxRecDepth 100000 in
theorem dlw_412 : decode cL_law 412 = .ok (.iaload, 1) := by decide +kernel
set_option maxRecDepth 100000 in
theorem dlw_413 : decode cL_law 413 = .ok (.aload_n 3, 1) := by decide +kernel
set_option maxRecDepth 100000 in
theorem dlw_414 : decode cL_law 414 = .ok (.invokestatic 137, 3) := by decide +kernel
set_option maxRecDepth 100000 in
theorem dlw_417 : decode cL_law 417 = .ok (.istore 5, 2) := by decide +kernel
set_option maxRecDepth 100000 in
theorem dlw_419 : decode cL_law 419 = .ok (.aload_n 2, 1) := by decide +kernel
set_option maxRecDepth 100000 in
theorem dlw_420 : decode cL_law 420 = .ok (.aload_n 0, 1) := by decide +kernel
set_option maxRecDepth 100000 in
theorem dlw_421 : decode cL_law 421 = .ok (.iload 4, 2) := by decide +kernel
set_option maxRecDepth 100000 in
theorem dlw_423 : decode cL_law 423 = .ok (.iconst 1, 1) := by decide +kernel
set_option maxRecDepth 100000 in
theorem dlw_424 : decode cL_law 424 = .ok (.iadd, 1) := by decide +kernel
set_option maxRecDepth 100000 in
theorem dlw_425 : decode cL_law 425 = .ok (.iaload, 1) := by decide +kernel
set_option maxRecDepth 100000 in
theorem dlw_426 : decode cL_law 426 = .ok (.invokevirtual 139, 3) := by decide +kernel
set_option maxRecDepth 100000 in
theorem dlw_429 : decode cL_law 429 = .ok (.istore 6, 2) := by decide +kernel
set_option maxRecDepth 100000 in
theorem dlw_431 : decode cL_law 431 = .ok (.goto 756, 3) := by decide +kernel
set_option maxRecDepth 100000 in
theorem dlw_434 : decode cL_law 434 = .ok (.aload_n 1, 1) := by decide +kernel
set_option maxRecDepth 100000 in
theorem dlw_435 : decode cL_law 435 = .ok (.aload_n 0, 1) := by decide +kernel
set_option maxRecDepth 100000 in
theorem dlw_436 : decode cL_law 436 = .ok (.iload 4, 2) := by decide +kernel
set_option maxRecDepth 100000 in
theorem dlw_438 : decode cL_law 438 = .ok (.iconst 1, 1) := by decide +kernel
set_option maxRecDepth 100000 in
theorem dlw_439 : decode cL_law 439 = .ok (.iadd, 1) := by decide +kernel
set_option maxRecDepth 100000 in
theorem dlw_440 : decode cL_law 440 = .ok (.iaload, 1) := by decide +kernel
set_option maxRecDepth 100000 in
theorem dlw_441 : decode cL_law 441 = .ok (.aload_n 0, 1) := by decide +kernel
set_option maxRecDepth 100000 in
theorem dlw_442 : decode cL_law 442 = .ok (.iload 4, 2) := by decide +kernel
set_option maxRecDepth 100000 in
theorem dlw_444 : decode cL_law 444 = .ok (.iconst 2, 1) := by decide +kernel
set_option maxRecDepth 100000 in
theorem dlw_445 : decode cL_law 445 = .ok (.iadd, 1) := by decide +kernel
set_option maxRecDepth 100000 in
theorem dlw_446 : decode cL_law 446 = .ok (.iaload, 1) := by decide +kernel
set_option maxRecDepth 100000 in
theorem dlw_447 : decode cL_law 447 = .ok (.aload_n 3, 1) := by decide +kernel
set_option maxRecDepth 100000 in
theorem dlw_448 : decode cL_law 448 = .ok (.invokestatic 140, 3) := by decide +kernel
set_option maxRecDepth 100000 in
theorem dlw_451 : decode cL_law 451 = .ok (.istore 5, 2) := by decide +kernel
set_option maxRecDepth 100000 in
theorem dlw_453 : decode cL_law 453 = .ok (.aload_n 2, 1) := by decide +kernel
set_option maxRecDepth 100000 in
theorem dlw_454 : decode cL_law 454 = .ok (.aload_n 0, 1) := by decide +kernel
set_option maxRecDepth 100000 in
theorem dlw_455 : decode cL_law 455 = .ok (.iload 4, 2) := by decide +kernel
set_option maxRecDepth 100000 in
theorem dlw_457 : decode cL_law 457 = .ok (.iconst 1, 1) := by decide +kernel
set_option maxRecDepth 100000 in
theorem dlw_458 : decode cL_law 458 = .ok (.iadd, 1) := by decide +kernel
set_option maxRecDepth 100000 in
theorem dlw_459 : decode cL_law 459 = .ok (.iaload, 1) := by decide +kernel
set_option maxRecDepth 100000 in
theorem dlw_460 : decode cL_law 460 = .ok (.aload_n 0, 1) := by decide +kernel
set_option maxRecDepth 100000 in
theorem dlw_461 : decode cL_law 461 = .ok (.iload 4, 2) := by decide +kernel
set_option maxRecDepth 100000 in
theorem dlw_463 : decode cL_law 463 = .ok (.iconst 2, 1) := by decide +kernel
set_option maxRecDepth 100000 in
theorem dlw_464 : decode cL_law 464 = .ok (.iadd, 1) := by decide +kernel
set_option maxRecDepth 100000 in
theorem dlw_465 : decode cL_law 465 = .ok (.iaload, 1) := by decide +kernel
set_option maxRecDepth 100000 in
theorem dlw_466 : decode cL_law 466 = .ok (.invokevirtual 142, 3) := by decide +kernel
set_option maxRecDepth 100000 in
theorem dlw_469 : decode cL_law 469 = .ok (.istore 6, 2) := by decide +kernel
set_option maxRecDepth 100000 in
theorem dlw_471 : decode cL_law 471 = .ok (.goto 716, 3) := by decide +kernel
set_option maxRecDepth 100000 in
theorem dlw_474 : decode cL_law 474 = .ok (.aload_n 1, 1) := by decide +kernel
set_option maxRecDepth 100000 in
theorem dlw_475 : decode cL_law 475 = .ok (.aload_n 0, 1) := by decide +kernel
set_option maxRecDepth 100000 in
theorem dlw_476 : decode cL_law 476 = .ok (.iload 4, 2) := by decide +kernel
set_option maxRecDepth 100000 in
theorem dlw_478 : decode cL_law 478 = .ok (.iconst 1, 1) := by decide +kernel
set_option maxRecDepth 100000 in
theorem dlw_479 : decode cL_law 479 = .ok (.iadd, 1) := by decide +kernel
set_option maxRecDepth 100000 in
theorem dlw_480 : decode cL_law 480 = .ok (.iaload, 1) := by decide +kernel
set_option maxRecDepth 100000 in
theorem dlw_481 : decode cL_law 481 = .ok (.aload_n 3, 1) := by decide +kernel
set_option maxRecDepth 100000 in
theorem dlw_482 : decode cL_law 482 = .ok (.invokestatic 143, 3) := by decide +kernel
set_option maxRecDepth 100000 in
theorem dlw_485 : decode cL_law 485 = .ok (.istore 5, 2) := by decide +kernel
set_option maxRecDepth 100000 in
theorem dlw_487 : decode cL_law 487 = .ok (.aload_n 2, 1) := by decide +kernel
set_option maxRecDepth 100000 in
theorem dlw_488 : decode cL_law 488 = .ok (.aload_n 0, 1) := by decide +kernel
set_option maxRecDepth 100000 in
theorem dlw_489 : decode cL_law 489 = .ok (.iload 4, 2) := by decide +kernel
set_option maxRecDepth 100000 in
theorem dlw_491 : decode cL_law 491 = .ok (.iconst 1, 1) := by decide +kernel
set_option maxRecDepth 100000 in
theorem dlw_492 : decode cL_law 492 = .ok (.iadd, 1) := by decide +kernel
set_option maxRecDepth 100000 in
theorem dlw_493 : decode cL_law 493 = .ok (.iaload, 1) := by decide +kernel
set_option maxRecDepth 100000 in
theorem dlw_494 : decode cL_law 494 = .ok (.invokevirtual 145, 3) := by decide +kernel
set_option maxRecDepth 100000 in
theorem dlw_497 : decode cL_law 497 = .ok (.istore 6, 2) := by decide +kernel
set_option maxRecDepth 100000 in
theorem dlw_499 : decode cL_law 499 = .ok (.goto 688, 3) := by decide +kernel
set_option maxRecDepth 100000 in
theorem dlw_502 : decode cL_law 502 = .ok (.aload_n 1, 1) := by decide +kernel
set_option maxRecDepth 100000 in
theorem dlw_503 : decode cL_law 503 = .ok (.aload_n 0, 1) := by decide +kernel
set_option maxRecDepth 100000 in
theorem dlw_504 : decode cL_law 504 = .ok (.iload 4, 2) := by decide +kernel
set_option maxRecDepth 100000 in
theorem dlw_506 : decode cL_law 506 = .ok (.iconst 1, 1) := by decide +kernel
set_option maxRecDepth 100000 in
theorem dlw_507 : decode cL_law 507 = .ok (.iadd, 1) := by decide +kernel
set_option maxRecDepth 100000 in
theorem dlw_508 : decode cL_law 508 = .ok (.iaload, 1) := by decide +kernel
set_option maxRecDepth 100000 in
theorem dlw_509 : decode cL_law 509 = .ok (.aload_n 3, 1) := by decide +kernel
set_option maxRecDepth 100000 in
theorem dlw_510 : decode cL_law 510 = .ok (.invokestatic 146, 3) := by decide +kernel
set_option maxRecDepth 100000 in
theorem dlw_513 : decode cL_law 513 = .ok (.istore 5, 2) := by decide +kernel
set_option maxRecDepth 100000 in
theorem dlw_515 : decode cL_law 515 = .ok (.aload_n 2, 1) := by decide +kernel
set_option maxRecDepth 100000 in
theorem dlw_516 : decode cL_law 516 = .ok (.aload_n 0, 1) := by decide +kernel
set_option maxRecDepth 100000 in
theorem dlw_517 : decode cL_law 517 = .ok (.iload 4, 2) := by decide +kernel
set_option maxRecDepth 100000 in
theorem dlw_519 : decode cL_law 519 = .ok (.iconst 1, 1) := by decide +kernel
set_option maxRecDepth 100000 in
theorem dlw_520 : decode cL_law 520 = .ok (.iadd, 1) := by decide +kernel
set_option maxRecDepth 100000 in
theorem dlw_521 : decode cL_law 521 = .ok (.iaload, 1) := by decide +kernel
set_option maxRecDepth 100000 in
theorem dlw_522 : decode cL_law 522 = .ok (.invokevirtual 148, 3) := by decide +kernel
set_option maxRecDepth 100000 in
theorem dlw_525 : decode cL_law 525 = .ok (.istore 6, 2) := by decide +kernel
set_option maxRecDepth 100000 in
theorem dlw_527 : decode cL_law 527 = .ok (.aload_n 2, 1) := by decide +kernel
set_option maxRecDepth 100000 in
theorem dlw_528 : decode cL_law 528 = .ok (.invokevirtual 149, 3) := by decide +kernel
set_option maxRecDepth 100000 in
theorem dlw_531 : decode cL_law 531 = .ok (.iload 5, 2) := by decide +kernel
set_option maxRecDepth 100000 in
theorem dlw_533 : decode cL_law 533 = .ok (.if_icmp .eq 5, 3) := by decide +kernel
set_option maxRecDepth 100000 in
theorem dlw_538 : decode cL_law 538 = .ok (.iload 5, 2) := by decide +kernel
set_option maxRecDepth 100000 in
theorem dlw_540 : decode cL_law 540 = .ok (.ifCond .ne 15, 3) := by decide +kernel
set_option maxRecDepth 100000 in
theorem dlw_543 : decode cL_law 543 = .ok (.aload_n 3, 1) := by decide +kernel
set_option maxRecDepth 100000 in
theorem dlw_544 : decode cL_law 544 = .ok (.iconst 0, 1) := by decide +kernel
set_option maxRecDepth 100000 in
theorem dlw_545 : decode cL_law 545 = .ok (.laload, 1) := by decide +kernel
set_option maxRecDepth 100000 in
theorem dlw_546 : decode cL_law 546 = .ok (.iload 6, 2) := by decide +kernel
set_option maxRecDepth 100000 in
theorem dlw_548 : decode cL_law 548 = .ok (.i2l, 1) := by decide +kernel
set_option maxRecDepth 100000 in
theorem dlw_549 : decode cL_law 549 = .ok (.lcmp, 1) := by decide +kernel
set_option maxRecDepth 100000 in
theorem dlw_550 : decode cL_law 550 = .ok (.ifCond .eq 5, 3) := by decide +kernel
set_option maxRecDepth 100000 in
theorem dlw_555 : decode cL_law 555 = .ok (.goto 632, 3) := by decide +kernel
set_option maxRecDepth 100000 in
theorem dlw_558 : decode cL_law 558 = .ok (.aload_n 1, 1) := by decide +kernel
set_option maxRecDepth 100000 in
theorem dlw_559 : decode cL_law 559 = .ok (.aload_n 0, 1) := by decide +kernel
set_option maxRecDepth 100000 in
theorem dlw_560 : decode cL_law 560 = .ok (.iload 4, 2) := by decide +kernel
set_option maxRecDepth 100000 in
theorem dlw_562 : decode cL_law 562 = .ok (.iconst 1, 1) := by decide +kernel
set_option maxRecDepth 100000 in
theorem dlw_563 : decode cL_law 563 = .ok (.iadd, 1) := by decide +kernel
set_option maxRecDepth 100000 in
theorem dlw_564 : decode cL_law 564 = .ok (.iaload, 1) := by decide +kernel
set_option maxRecDepth 100000 in
theorem dlw_565 : decode cL_law 565 = .ok (.aload_n 3, 1) := by decide +kernel
set_option maxRecDepth 100000 in
theorem dlw_566 : decode cL_law 566 = .ok (.invokestatic 152, 3) := by decide +kernel
set_option maxRecDepth 100000 in
theorem dlw_569 : decode cL_law 569 = .ok (.istore 5, 2) := by decide +kernel
set_option maxRecDepth 100000 in
theorem dlw_571 : decode cL_law 571 = .ok (.aload_n 2, 1) := by decide +kernel
set_option maxRecDepth 100000 in
theorem dlw_572 : decode cL_law 572 = .ok (.aload_n 0, 1) := by decide +kernel
set_option maxRecDepth 100000 in
theorem dlw_573 : decode cL_law 573 = .ok (.iload 4, 2) := by decide +kernel
set_option maxRecDepth 100000 in
theorem dlw_575 : decode cL_law 575 = .ok (.iconst 1, 1) := by decide +kernel
set_option maxRecDepth 100000 in
theorem dlw_576 : decode cL_law 576 = .ok (.iadd, 1) := by decide +kernel
set_option maxRecDepth 100000 in
theorem dlw_577 : decode cL_law 577 = .ok (.iaload, 1) := by decide +kernel
set_option maxRecDepth 100000 in
theorem dlw_578 : decode cL_law 578 = .ok (.invokevirtual 154, 3) := by decide +kernel
set_option maxRecDepth 100000 in
theorem dlw_581 : decode cL_law 581 = .ok (.istore 6, 2) := by decide +kernel
set_option maxRecDepth 100000 in
theorem dlw_583 : decode cL_law 583 = .ok (.goto 604, 3) := by decide +kernel
set_option maxRecDepth 100000 in
theorem dlw_586 : decode cL_law 586 = .ok (.aload_n 1, 1) := by decide +kernel
set_option maxRecDepth 100000 in
theorem dlw_587 : decode cL_law 587 = .ok (.aload_n 0, 1) := by decide +kernel
end
section
set_option maxRecDepth 100000 in
theorem dlw_588 : decode cL_law 588 = .ok (.iload 4, 2) := by decide +kernel
set_option maxRecDepth 100000 in
theorem dlw_590 : decode cL_law 590 = .ok (.iconst 1, 1) := by decide +kernel
set_option maxRecDepth 100000 in
theorem dlw_591 : decode cL_law 591 = .ok (.iadd, 1) := by decide +kernel
set_option maxRecDepth 100000 in
theorem dlw_592 : decode cL_law 592 = .ok (.iaload, 1) := by decide +kernel
set_option maxRecDepth 100000 in
theorem dlw_593 : decode cL_law 593 = .ok (.aload_n 0, 1) := by decide +kernel
set_option maxRecDepth 100000 in
theorem dlw_594 : decode cL_law 594 = .ok (.iload 4, 2) := by decide +kernel
set_option maxRecDepth 100000 in
theorem dlw_596 : decode cL_law 596 = .ok (.iconst 2, 1) := by decide +kernel
set_option maxRecDepth 100000 in
theorem dlw_597 : decode cL_law 597 = .ok (.iadd, 1) := by decide +kernel
set_option maxRecDepth 100000 in
theorem dlw_598 : decode cL_law 598 = .ok (.iaload, 1) := by decide +kernel
set_option maxRecDepth 100000 in
theorem dlw_599 : decode cL_law 599 = .ok (.aload_n 3, 1) := by decide +kernel
set_option maxRecDepth 100000 in
theorem dlw_600 : decode cL_law 600 = .ok (.invokestatic 155, 3) := by decide +kernel
set_option maxRecDepth 100000 in
theorem dlw_603 : decode cL_law 603 = .ok (.istore 5, 2) := by decide +kernel
set_option maxRecDepth 100000 in
theorem dlw_605 : decode cL_law 605 = .ok (.aload_n 2, 1) := by decide +kernel
set_option maxRecDepth 100000 in
theorem dlw_606 : decode cL_law 606 = .ok (.aload_n 0, 1) := by decide +kernel
set_option maxRecDepth 100000 in
theorem dlw_607 : decode cL_law 607 = .ok (.iload 4, 2) := by decide +kernel
set_option maxRecDepth 100000 in
theorem dlw_609 : decode cL_law 609 = .ok (.iconst 1, 1) := by decide +kernel
set_option maxRecDepth 100000 in
theorem dlw_610 : decode cL_law 610 = .ok (.iadd, 1) := by decide +kernel
set_option maxRecDepth 100000 in
theorem dlw_611 : decode cL_law 611 = .ok (.iaload, 1) := by decide +kernel
set_option maxRecDepth 100000 in
theorem dlw_612 : decode cL_law 612 = .ok (.aload_n 0, 1) := by decide +kernel
set_option maxRecDepth 100000 in
theorem dlw_613 : decode cL_law 613 = .ok (.iload 4, 2) := by decide +kernel
set_option maxRecDepth 100000 in
theorem dlw_615 : decode cL_law 615 = .ok (.iconst 2, 1) := by decide +kernel
set_option maxRecDepth 100000 in
theorem dlw_616 : decode cL_law 616 = .ok (.iadd, 1) := by decide +kernel
set_option maxRecDepth 100000 in
theorem dlw_617 : decode cL_law 617 = .ok (.iaload, 1) := by decide +kernel
set_option maxRecDepth 100000 in
theorem dlw_618 : decode cL_law 618 = .ok (.invokevirtual 157, 3) := by decide +kernel
set_option maxRecDepth 100000 in
theorem dlw_621 : decode cL_law 621 = .ok (.istore 6, 2) := by decide +kernel
set_option maxRecDepth 100000 in
theorem dlw_623 : decode cL_law 623 = .ok (.goto 564, 3) := by decide +kernel
set_option maxRecDepth 100000 in
theorem dlw_626 : decode cL_law 626 = .ok (.aload_n 1, 1) := by decide +kernel
set_option maxRecDepth 100000 in
theorem dlw_627 : decode cL_law 627 = .ok (.aload_n 0, 1) := by decide +kernel
set_option maxRecDepth 100000 in
theorem dlw_628 : decode cL_law 628 = .ok (.iload 4, 2) := by decide +kernel
set_option maxRecDepth 100000 in
theorem dlw_630 : decode cL_law 630 = .ok (.iconst 1, 1) := by decide +kernel
set_option maxRecDepth 100000 in
theorem dlw_631 : decode cL_law 631 = .ok (.iadd, 1) := by decide +kernel
set_option maxRecDepth 100000 in
theorem dlw_632 : decode cL_law 632 = .ok (.iaload, 1) := by decide +kernel
set_option maxRecDepth 100000 in
theorem dlw_633 : decode cL_law 633 = .ok (.aload_n 0, 1) := by decide +kernel
set_option maxRecDepth 100000 in
theorem dlw_634 : decode cL_law 634 = .ok (.iload 4, 2) := by decide +kernel
set_option maxRecDepth 100000 in
theorem dlw_636 : decode cL_law 636 = .ok (.iconst 2, 1) := by decide +kernel
set_option maxRecDepth 100000 in
theorem dlw_637 : decode cL_law 637 = .ok (.iadd, 1) := by decide +kernel
set_option maxRecDepth 100000 in
theorem dlw_638 : decode cL_law 638 = .ok (.iaload, 1) := by decide +kernel
set_option maxRecDepth 100000 in
theorem dlw_639 : decode cL_law 639 = .ok (.aload_n 3, 1) := by decide +kernel
set_option maxRecDepth 100000 in
theorem dlw_640 : decode cL_law 640 = .ok (.invokestatic 158, 3) := by decide +kernel
set_option maxRecDepth 100000 in
theorem dlw_643 : decode cL_law 643 = .ok (.istore 5, 2) := by decide +kernel
set_option maxRecDepth 100000 in
theorem dlw_645 : decode cL_law 645 = .ok (.aload_n 2, 1) := by decide +kernel
set_option maxRecDepth 100000 in
theorem dlw_646 : decode cL_law 646 = .ok (.aload_n 0, 1) := by decide +kernel
set_option maxRecDepth 100000 in
theorem dlw_647 : decode cL_law 647 = .ok (.iload 4, 2) := by decide +kernel
set_option maxRecDepth 100000 in
theorem dlw_649 : decode cL_law 649 = .ok (.iconst 1, 1) := by decide +kernel
set_option maxRecDepth 100000 in
theorem dlw_650 : decode cL_law 650 = .ok (.iadd, 1) := by decide +kernel
set_option maxRecDepth 100000 in
theorem dlw_651 : decode cL_law 651 = .ok (.iaload, 1) := by decide +kernel
set_option maxRecDepth 100000 in
theorem dlw_652 : decode cL_law 652 = .ok (.aload_n 0, 1) := by decide +kernel
set_option maxRecDepth 100000 in
theorem dlw_653 : decode cL_law 653 = .ok (.iload 4, 2) := by decide +kernel
set_option maxRecDepth 100000 in
theorem dlw_655 : decode cL_law 655 = .ok (.iconst 2, 1) := by decide +kernel
set_option maxRecDepth 100000 in
theorem dlw_656 : decode cL_law 656 = .ok (.iadd, 1) := by decide +kernel
set_option maxRecDepth 100000 in
theorem dlw_657 : decode cL_law 657 = .ok (.iaload, 1) := by decide +kernel
set_option maxRecDepth 100000 in
theorem dlw_658 : decode cL_law 658 = .ok (.invokevirtual 160, 3) := by decide +kernel
set_option maxRecDepth 100000 in
theorem dlw_661 : decode cL_law 661 = .ok (.istore 6, 2) := by decide +kernel
set_option maxRecDepth 100000 in
theorem dlw_663 : decode cL_law 663 = .ok (.goto 524, 3) := by decide +kernel
set_option maxRecDepth 100000 in
theorem dlw_666 : decode cL_law 666 = .ok (.aload_n 1, 1) := by decide +kernel
set_option maxRecDepth 100000 in
theorem dlw_667 : decode cL_law 667 = .ok (.aload_n 0, 1) := by decide +kernel
set_option maxRecDepth 100000 in
theorem dlw_668 : decode cL_law 668 = .ok (.iload 4, 2) := by decide +kernel
set_option maxRecDepth 100000 in
theorem dlw_670 : decode cL_law 670 = .ok (.iconst 1, 1) := by decide +kernel
set_option maxRecDepth 100000 in
theorem dlw_671 : decode cL_law 671 = .ok (.iadd, 1) := by decide +kernel
set_option maxRecDepth 100000 in
theorem dlw_672 : decode cL_law 672 = .ok (.iaload, 1) := by decide +kernel
set_option maxRecDepth 100000 in
theorem dlw_673 : decode cL_law 673 = .ok (.aload_n 0, 1) := by decide +kernel
set_option maxRecDepth 100000 in
theorem dlw_674 : decode cL_law 674 = .ok (.iload 4, 2) := by decide +kernel
set_option maxRecDepth 100000 in
theorem dlw_676 : decode cL_law 676 = .ok (.iconst 2, 1) := by decide +kernel
set_option maxRecDepth 100000 in
theorem dlw_677 : decode cL_law 677 = .ok (.iadd, 1) := by decide +kernel
set_option maxRecDepth 100000 in
theorem dlw_678 : decode cL_law 678 = .ok (.iaload, 1) := by decide +kernel
set_option maxRecDepth 100000 in
theorem dlw_679 : decode cL_law 679 = .ok (.aload_n 3, 1) := by decide +kernel
set_option maxRecDepth 100000 in
theorem dlw_680 : decode cL_law 680 = .ok (.invokestatic 161, 3) := by decide +kernel
set_option maxRecDepth 100000 in
theorem dlw_683 : decode cL_law 683 = .ok (.istore 5, 2) := by decide +kernel
set_option maxRecDepth 100000 in
theorem dlw_685 : decode cL_law 685 = .ok (.aload_n 2, 1) := by decide +kernel
set_option maxRecDepth 100000 in
theorem dlw_686 : decode cL_law 686 = .ok (.aload_n 0, 1) := by decide +kernel
set_option maxRecDepth 100000 in
theorem dlw_687 : decode cL_law 687 = .ok (.iload 4, 2) := by decide +kernel
set_option maxRecDepth 100000 in
theorem dlw_689 : decode cL_law 689 = .ok (.iconst 1, 1) := by decide +kernel
set_option maxRecDepth 100000 in
theorem dlw_690 : decode cL_law 690 = .ok (.iadd, 1) := by decide +kernel
set_option maxRecDepth 100000 in
theorem dlw_691 : decode cL_law 691 = .ok (.iaload, 1) := by decide +kernel
set_option maxRecDepth 100000 in
theorem dlw_692 : decode cL_law 692 = .ok (.aload_n 0, 1) := by decide +kernel
set_option maxRecDepth 100000 in
theorem dlw_693 : decode cL_law 693 = .ok (.iload 4, 2) := by decide +kernel
set_option maxRecDepth 100000 in
theorem dlw_695 : decode cL_law 695 = .ok (.iconst 2, 1) := by decide +kernel
set_option maxRecDepth 100000 in
theorem dlw_696 : decode cL_law 696 = .ok (.iadd, 1) := by decide +kernel
set_option maxRecDepth 100000 in
theorem dlw_697 : decode cL_law 697 = .ok (.iaload, 1) := by decide +kernel
set_option maxRecDepth 100000 in
theorem dlw_698 : decode cL_law 698 = .ok (.invokevirtual 163, 3) := by decide +kernel
set_option maxRecDepth 100000 in
theorem dlw_701 : decode cL_law 701 = .ok (.istore 6, 2) := by decide +kernel
set_option maxRecDepth 100000 in
theorem dlw_703 : decode cL_law 703 = .ok (.goto 484, 3) := by decide +kernel
set_option maxRecDepth 100000 in
theorem dlw_706 : decode cL_law 706 = .ok (.aload_n 1, 1) := by decide +kernel
set_option maxRecDepth 100000 in
theorem dlw_707 : decode cL_law 707 = .ok (.aload_n 0, 1) := by decide +kernel
set_option maxRecDepth 100000 in
theorem dlw_708 : decode cL_law 708 = .ok (.iload 4, 2) := by decide +kernel
set_option maxRecDepth 100000 in
theorem dlw_710 : decode cL_law 710 = .ok (.iconst 1, 1) := by decide +kernel
set_option maxRecDepth 100000 in
theorem dlw_711 : decode cL_law 711 = .ok (.iadd, 1) := by decide +kernel
set_option maxRecDepth 100000 in
theorem dlw_712 : decode cL_law 712 = .ok (.iaload, 1) := by decide +kernel
set_option maxRecDepth 100000 in
theorem dlw_713 : decode cL_law 713 = .ok (.aload_n 0, 1) := by decide +kernel
set_option maxRecDepth 100000 in
theorem dlw_714 : decode cL_law 714 = .ok (.iload 4, 2) := by decide +kernel
set_option maxRecDepth 100000 in
theorem dlw_716 : decode cL_law 716 = .ok (.iconst 2, 1) := by decide +kernel
set_option maxRecDepth 100000 in
theorem dlw_717 : decode cL_law 717 = .ok (.iadd, 1) := by decide +kernel
set_option maxRecDepth 100000 in
theorem dlw_718 : decode cL_law 718 = .ok (.iaload, 1) := by decide +kernel
set_option maxRecDepth 100000 in
theorem dlw_719 : decode cL_law 719 = .ok (.aload_n 3, 1) := by decide +kernel
set_option maxRecDepth 100000 in
theorem dlw_720 : decode cL_law 720 = .ok (.invokestatic 164, 3) := by decide +kernel
set_option maxRecDepth 100000 in
theorem dlw_723 : decode cL_law 723 = .ok (.istore 5, 2) := by decide +kernel
set_option maxRecDepth 100000 in
theorem dlw_725 : decode cL_law 725 = .ok (.aload_n 2, 1) := by decide +kernel
set_option maxRecDepth 100000 in
theorem dlw_726 : decode cL_law 726 = .ok (.aload_n 0, 1) := by decide +kernel
set_option maxRecDepth 100000 in
theorem dlw_727 : decode cL_law 727 = .ok (.iload 4, 2) := by decide +kernel
set_option maxRecDepth 100000 in
theorem dlw_729 : decode cL_law 729 = .ok (.iconst 1, 1) := by decide +kernel
set_option maxRecDepth 100000 in
theorem dlw_730 : decode cL_law 730 = .ok (.iadd, 1) := by decide +kernel
set_option maxRecDepth 100000 in
theorem dlw_731 : decode cL_law 731 = .ok (.iaload, 1) := by decide +kernel
set_option maxRecDepth 100000 in
theorem dlw_732 : decode cL_law 732 = .ok (.aload_n 0, 1) := by decide +kernel
set_option maxRecDepth 100000 in
theorem dlw_733 : decode cL_law 733 = .ok (.iload 4, 2) := by decide +kernel
set_option maxRecDepth 100000 in
theorem dlw_735 : decode cL_law 735 = .ok (.iconst 2, 1) := by decide +kernel
set_option maxRecDepth 100000 in
theorem dlw_736 : decode cL_law 736 = .ok (.iadd, 1) := by decide +kernel
set_option maxRecDepth 100000 in
theorem dlw_737 : decode cL_law 737 = .ok (.iaload, 1) := by decide +kernel
set_option maxRecDepth 100000 in
theorem dlw_738 : decode cL_law 738 = .ok (.invokevirtual 166, 3) := by decide +kernel
set_option maxRecDepth 100000 in
theorem dlw_741 : decode cL_law 741 = .ok (.istore 6, 2) := by decide +kernel
set_option maxRecDepth 100000 in
theorem dlw_743 : decode cL_law 743 = .ok (.goto 444, 3) := by decide +kernel
set_option maxRecDepth 100000 in
theorem dlw_746 : decode cL_law 746 = .ok (.aload_n 1, 1) := by decide +kernel
set_option maxRecDepth 100000 in
theorem dlw_747 : decode cL_law 747 = .ok (.aload_n 0, 1) := by decide +kernel
set_option maxRecDepth 100000 in
theorem dlw_748 : decode cL_law 748 = .ok (.iload 4, 2) := by decide +kernel
set_option maxRecDepth 100000 in
theorem dlw_750 : decode cL_law 750 = .ok (.iconst 1, 1) := by decide +kernel
set_option maxRecDepth 100000 in
theorem dlw_751 : decode cL_law 751 = .ok (.iadd, 1) := by decide +kernel
set_option maxRecDepth 100000 in
theorem dlw_752 : decode cL_law 752 = .ok (.iaload, 1) := by decide +kernel
set_option maxRecDepth 100000 in
theorem dlw_753 : decode cL_law 753 = .ok (.aload_n 0, 1) := by decide +kernel
set_option maxRecDepth 100000 in
theorem dlw_754 : decode cL_law 754 = .ok (.iload 4, 2) := by decide +kernel
set_option maxRecDepth 100000 in
theorem dlw_756 : decode cL_law 756 = .ok (.iconst 2, 1) := by decide +kernel
set_option maxRecDepth 100000 in
theorem dlw_757 : decode cL_law 757 = .ok (.iadd, 1) := by decide +kernel
set_option maxRecDepth 100000 in
theorem dlw_758 : decode cL_law 758 = .ok (.iaload, 1) := by decide +kernel
set_option maxRecDepth 100000 in
theorem dlw_759 : decode cL_law 759 = .ok (.aload_n 3, 1) := by decide +kernel
set_option maxRecDepth 100000 in
theorem dlw_760 : decode cL_law 760 = .ok (.invokestatic 167, 3) := by decide +kernel
set_option maxRecDepth 100000 in
theorem dlw_763 : decode cL_law 763 = .ok (.istore 5, 2) := by decide +kernel
set_option maxRecDepth 100000 in
theorem dlw_765 : decode cL_law 765 = .ok (.aload_n 2, 1) := by decide +kernel
set_option maxRecDepth 100000 in
theorem dlw_766 : decode cL_law 766 = .ok (.aload_n 0, 1) := by decide +kernel
set_option maxRecDepth 100000 in
theorem dlw_767 : decode cL_law 767 = .ok (.iload 4, 2) := by decide +kernel
set_option maxRecDepth 100000 in
theorem dlw_769 : decode cL_law 769 = .ok (.iconst 1, 1) := by decide +kernel
set_option maxRecDepth 100000 in
theorem dlw_770 : decode cL_law 770 = .ok (.iadd, 1) := by decide +kernel
set_option maxRecDepth 100000 in
theorem dlw_771 : decode cL_law 771 = .ok (.iaload, 1) := by decide +kernel
set_option maxRecDepth 100000 in
theorem dlw_772 : decode cL_law 772 = .ok (.aload_n 0, 1) := by decide +kernel
set_option maxRecDepth 100000 in
theorem dlw_773 : decode cL_law 773 = .ok (.iload 4, 2) := by decide +kernel
set_option maxRecDepth 100000 in
theorem dlw_775 : decode cL_law 775 = .ok (.iconst 2, 1) := by decide +kernel
set_option maxRecDepth 100000 in
theorem dlw_776 : decode cL_law 776 = .ok (.iadd, 1) := by decide +kernel
set_option maxRecDepth 100000 in
theorem dlw_777 : decode cL_law 777 = .ok (.iaload, 1) := by decide +kernel
set_option maxRecDepth 100000 in
theorem dlw_778 : decode cL_law 778 = .ok (.invokevirtual 169, 3) := by decide +kernel
set_option maxRecDepth 100000 in
theorem dlw_781 : decode cL_law 781 = .ok (.istore 6, 2) := by decide +kernel
set_option maxRecDepth 100000 in
theorem dlw_783 : decode cL_law 783 = .ok (.goto 404, 3) := by decide +kernel
set_option maxRecDepth 100000 in
theorem dlw_786 : decode cL_law 786 = .ok (.aload_n 1, 1) := by decide +kernel
set_option maxRecDepth 100000 in
theorem dlw_787 : decode cL_law 787 = .ok (.aload_n 0, 1) := by decide +kernel
set_option maxRecDepth 100000 in
theorem dlw_788 : decode cL_law 788 = .ok (.iload 4, 2) := by decide +kernel
set_option maxRecDepth 100000 in
theorem dlw_790 : decode cL_law 790 = .ok (.iconst 1, 1) := by decide +kernel
set_option maxRecDepth 100000 in
theorem dlw_791 : decode cL_law 791 = .ok (.iadd, 1) := by decide +kernel
set_option maxRecDepth 100000 in
theorem dlw_792 : decode cL_law 792 = .ok (.iaload, 1) := by decide +kernel
set_option maxRecDepth 100000 in
theorem dlw_793 : decode cL_law 793 = .ok (.aload_n 0, 1) := by decide +kernel
set_option maxRecDepth 100000 in
theorem dlw_794 : decode cL_law 794 = .ok (.iload 4, 2) := by decide +kernel
set_option maxRecDepth 100000 in
theorem dlw_796 : decode cL_law 796 = .ok (.iconst 2, 1) := by decide +kernel
set_option maxRecDepth 100000 in
theorem dlw_797 : decode cL_law 797 = .ok (.iadd, 1) := by decide +kernel
set_option maxRecDepth 100000 in
theorem dlw_798 : decode cL_law 798 = .ok (.iaload, 1) := by decide +kernel
set_option maxRecDepth 100000 in
theorem dlw_799 : decode cL_law 799 = .ok (.aload_n 3, 1) := by decide +kernel
end
section
set_option maxRecDepth 100000 in
theorem dlw_800 : decode cL_law 800 = .ok (.invokestatic 170, 3) := by decide +kernel
set_option maxRecDepth 100000 in
theorem dlw_803 : decode cL_law 803 = .ok (.istore 5, 2) := by decide +kernel
set_option maxRecDepth 100000 in
theorem dlw_805 : decode cL_law 805 = .ok (.aload_n 2, 1) := by decide +kernel
set_option maxRecDepth 100000 in
theorem dlw_806 : decode cL_law 806 = .ok (.aload_n 0, 1) := by decide +kernel
set_option maxRecDepth 100000 in
theorem dlw_807 : decode cL_law 807 = .ok (.iload 4, 2) := by decide +kernel
set_option maxRecDepth 100000 in
theorem dlw_809 : decode cL_law 809 = .ok (.iconst 1, 1) := by decide +kernel
set_option maxRecDepth 100000 in
theorem dlw_810 : decode cL_law 810 = .ok (.iadd, 1) := by decide +kernel
set_option maxRecDepth 100000 in
theorem dlw_811 : decode cL_law 811 = .ok (.iaload, 1) := by decide +kernel
set_option maxRecDepth 100000 in
theorem dlw_812 : decode cL_law 812 = .ok (.aload_n 0, 1) := by decide +kernel
set_option maxRecDepth 100000 in
theorem dlw_813 : decode cL_law 813 = .ok (.iload 4, 2) := by decide +kernel
set_option maxRecDepth 100000 in
theorem dlw_815 : decode cL_law 815 = .ok (.iconst 2, 1) := by decide +kernel
set_option maxRecDepth 100000 in
theorem dlw_816 : decode cL_law 816 = .ok (.iadd, 1) := by decide +kernel
set_option maxRecDepth 100000 in
theorem dlw_817 : decode cL_law 817 = .ok (.iaload, 1) := by decide +kernel
set_option maxRecDepth 100000 in
theorem dlw_818 : decode cL_law 818 = .ok (.invokevirtual 172, 3) := by decide +kernel
set_option maxRecDepth 100000 in
theorem dlw_821 : decode cL_law 821 = .ok (.istore 6, 2) := by decide +kernel
set_option maxRecDepth 100000 in
theorem dlw_823 : decode cL_law 823 = .ok (.goto 364, 3) := by decide +kernel
set_option maxRecDepth 100000 in
theorem dlw_826 : decode cL_law 826 = .ok (.aload_n 1, 1) := by decide +kernel
set_option maxRecDepth 100000 in
theorem dlw_827 : decode cL_law 827 = .ok (.aload_n 0, 1) := by decide +kernel
set_option maxRecDepth 100000 in
theorem dlw_828 : decode cL_law 828 = .ok (.iload 4, 2) := by decide +kernel
set_option maxRecDepth 100000 in
theorem dlw_830 : decode cL_law 830 = .ok (.iconst 1, 1) := by decide +kernel
set_option maxRecDepth 100000 in
theorem dlw_831 : decode cL_law 831 = .ok (.iadd, 1) := by decide +kernel
set_option maxRecDepth 100000 in
theorem dlw_832 : decode cL_law 832 = .ok (.iaload, 1) := by decide +kernel
set_option maxRecDepth 100000 in
theorem dlw_833 : decode cL_law 833 = .ok (.aload_n 0, 1) := by decide +kernel
set_option maxRecDepth 100000 in
theorem dlw_834 : decode cL_law 834 = .ok (.iload 4, 2) := by decide +kernel
set_option maxRecDepth 100000 in
theorem dlw_836 : decode cL_law 836 = .ok (.iconst 2, 1) := by decide +kernel
set_option maxRecDepth 100000 in
theorem dlw_837 : decode cL_law 837 = .ok (.iadd, 1) := by decide +kernel
set_option maxRecDepth 100000 in
theorem dlw_838 : decode cL_law 838 = .ok (.iaload, 1) := by decide +kernel
set_option maxRecDepth 100000 in
theorem dlw_839 : decode cL_law 839 = .ok (.aload_n 3, 1) := by decide +kernel
set_option maxRecDepth 100000 in
theorem dlw_840 : decode cL_law 840 = .ok (.invokestatic 173, 3) := by decide +kernel
set_option maxRecDepth 100000 in
theorem dlw_843 : decode cL_law 843 = .ok (.istore 5, 2) := by decide +kernel
set_option maxRecDepth 100000 in
theorem dlw_845 : decode cL_law 845 = .ok (.aload_n 2, 1) := by decide +kernel
set_option maxRecDepth 100000 in
theorem dlw_846 : decode cL_law 846 = .ok (.aload_n 0, 1) := by decide +kernel
set_option maxRecDepth 100000 in
theorem dlw_847 : decode cL_law 847 = .ok (.iload 4, 2) := by decide +kernel
set_option maxRecDepth 100000 in
theorem dlw_849 : decode cL_law 849 = .ok (.iconst 1, 1) := by decide +kernel
set_option maxRecDepth 100000 in
theorem dlw_850 : decode cL_law 850 = .ok (.iadd, 1) := by decide +kernel
set_option maxRecDepth 100000 in
theorem dlw_851 : decode cL_law 851 = .ok (.iaload, 1) := by decide +kernel
set_option maxRecDepth 100000 in
theorem dlw_852 : decode cL_law 852 = .ok (.aload_n 0, 1) := by decide +kernel
set_option maxRecDepth 100000 in
theorem dlw_853 : decode cL_law 853 = .ok (.iload 4, 2) := by decide +kernel
set_option maxRecDepth 100000 in
theorem dlw_855 : decode cL_law 855 = .ok (.iconst 2, 1) := by decide +kernel
set_option maxRecDepth 100000 in
theorem dlw_856 : decode cL_law 856 = .ok (.iadd, 1) := by decide +kernel
set_option maxRecDepth 100000 in
theorem dlw_857 : decode cL_law 857 = .ok (.iaload, 1) := by decide +kernel
set_option maxRecDepth 100000 in
theorem dlw_858 : decode cL_law 858 = .ok (.invokevirtual 175, 3) := by decide +kernel
set_option maxRecDepth 100000 in
theorem dlw_861 : decode cL_law 861 = .ok (.istore 6, 2) := by decide +kernel
set_option maxRecDepth 100000 in
theorem dlw_863 : decode cL_law 863 = .ok (.goto 324, 3) := by decide +kernel
set_option maxRecDepth 100000 in
theorem dlw_866 : decode cL_law 866 = .ok (.aload_n 1, 1) := by decide +kernel
set_option maxRecDepth 100000 in
theorem dlw_867 : decode cL_law 867 = .ok (.aload_n 0, 1) := by decide +kernel
set_option maxRecDepth 100000 in
theorem dlw_868 : decode cL_law 868 = .ok (.iload 4, 2) := by decide +kernel
set_option maxRecDepth 100000 in
theorem dlw_870 : decode cL_law 870 = .ok (.iconst 1, 1) := by decide +kernel
set_option maxRecDepth 100000 in
theorem dlw_871 : decode cL_law 871 = .ok (.iadd, 1) := by decide +kernel
set_option maxRecDepth 100000 in
theorem dlw_872 : decode cL_law 872 = .ok (.iaload, 1) := by decide +kernel
set_option maxRecDepth 100000 in
theorem dlw_873 : decode cL_law 873 = .ok (.aload_n 3, 1) := by decide +kernel
set_option maxRecDepth 100000 in
theorem dlw_874 : decode cL_law 874 = .ok (.invokestatic 176, 3) := by decide +kernel
set_option maxRecDepth 100000 in
theorem dlw_877 : decode cL_law 877 = .ok (.istore 5, 2) := by decide +kernel
set_option maxRecDepth 100000 in
theorem dlw_879 : decode cL_law 879 = .ok (.aload_n 2, 1) := by decide +kernel
set_option maxRecDepth 100000 in
theorem dlw_880 : decode cL_law 880 = .ok (.aload_n 0, 1) := by decide +kernel
set_option maxRecDepth 100000 in
theorem dlw_881 : decode cL_law 881 = .ok (.iload 4, 2) := by decide +kernel
set_option maxRecDepth 100000 in
theorem dlw_883 : decode cL_law 883 = .ok (.iconst 1, 1) := by decide +kernel
set_option maxRecDepth 100000 in
theorem dlw_884 : decode cL_law 884 = .ok (.iadd, 1) := by decide +kernel
set_option maxRecDepth 100000 in
theorem dlw_885 : decode cL_law 885 = .ok (.iaload, 1) := by decide +kernel
set_option maxRecDepth 100000 in
theorem dlw_886 : decode cL_law 886 = .ok (.invokevirtual 178, 3) := by decide +kernel
set_option maxRecDepth 100000 in
theorem dlw_889 : decode cL_law 889 = .ok (.istore 6, 2) := by decide +kernel
set_option maxRecDepth 100000 in
theorem dlw_891 : decode cL_law 891 = .ok (.goto 296, 3) := by decide +kernel
set_option maxRecDepth 100000 in
theorem dlw_894 : decode cL_law 894 = .ok (.aload_n 1, 1) := by decide +kernel
set_option maxRecDepth 100000 in
theorem dlw_895 : decode cL_law 895 = .ok (.aload_n 0, 1) := by decide +kernel
set_option maxRecDepth 100000 in
theorem dlw_896 : decode cL_law 896 = .ok (.iload 4, 2) := by decide +kernel
set_option maxRecDepth 100000 in
theorem dlw_898 : decode cL_law 898 = .ok (.iconst 1, 1) := by decide +kernel
set_option maxRecDepth 100000 in
theorem dlw_899 : decode cL_law 899 = .ok (.iadd, 1) := by decide +kernel
set_option maxRecDepth 100000 in
theorem dlw_900 : decode cL_law 900 = .ok (.iaload, 1) := by decide +kernel
set_option maxRecDepth 100000 in
theorem dlw_901 : decode cL_law 901 = .ok (.aload_n 0, 1) := by decide +kernel
set_option maxRecDepth 100000 in
theorem dlw_902 : decode cL_law 902 = .ok (.iload 4, 2) := by decide +kernel
set_option maxRecDepth 100000 in
theorem dlw_904 : decode cL_law 904 = .ok (.iconst 2, 1) := by decide +kernel
set_option maxRecDepth 100000 in
theorem dlw_905 : decode cL_law 905 = .ok (.iadd, 1) := by decide +kernel
set_option maxRecDepth 100000 in
theorem dlw_906 : decode cL_law 906 = .ok (.iaload, 1) := by decide +kernel
set_option maxRecDepth 100000 in
theorem dlw_907 : decode cL_law 907 = .ok (.aload_n 3, 1) := by decide +kernel
set_option maxRecDepth 100000 in
theorem dlw_908 : decode cL_law 908 = .ok (.invokestatic 179, 3) := by decide +kernel
set_option maxRecDepth 100000 in
theorem dlw_911 : decode cL_law 911 = .ok (.istore 5, 2) := by decide +kernel
set_option maxRecDepth 100000 in
theorem dlw_913 : decode cL_law 913 = .ok (.aload_n 2, 1) := by decide +kernel
set_option maxRecDepth 100000 in
theorem dlw_914 : decode cL_law 914 = .ok (.aload_n 0, 1) := by decide +kernel
set_option maxRecDepth 100000 in
theorem dlw_915 : decode cL_law 915 = .ok (.iload 4, 2) := by decide +kernel
set_option maxRecDepth 100000 in
theorem dlw_917 : decode cL_law 917 = .ok (.iconst 1, 1) := by decide +kernel
set_option maxRecDepth 100000 in
theorem dlw_918 : decode cL_law 918 = .ok (.iadd, 1) := by decide +kernel
set_option maxRecDepth 100000 in
theorem dlw_919 : decode cL_law 919 = .ok (.iaload, 1) := by decide +kernel
set_option maxRecDepth 100000 in
theorem dlw_920 : decode cL_law 920 = .ok (.aload_n 0, 1) := by decide +kernel
set_option maxRecDepth 100000 in
theorem dlw_921 : decode cL_law 921 = .ok (.iload 4, 2) := by decide +kernel
set_option maxRecDepth 100000 in
theorem dlw_923 : decode cL_law 923 = .ok (.iconst 2, 1) := by decide +kernel
set_option maxRecDepth 100000 in
theorem dlw_924 : decode cL_law 924 = .ok (.iadd, 1) := by decide +kernel
set_option maxRecDepth 100000 in
theorem dlw_925 : decode cL_law 925 = .ok (.iaload, 1) := by decide +kernel
set_option maxRecDepth 100000 in
theorem dlw_926 : decode cL_law 926 = .ok (.invokevirtual 181, 3) := by decide +kernel
set_option maxRecDepth 100000 in
theorem dlw_929 : decode cL_law 929 = .ok (.istore 6, 2) := by decide +kernel
set_option maxRecDepth 100000 in
theorem dlw_931 : decode cL_law 931 = .ok (.goto 256, 3) := by decide +kernel
set_option maxRecDepth 100000 in
theorem dlw_934 : decode cL_law 934 = .ok (.aload_n 1, 1) := by decide +kernel
set_option maxRecDepth 100000 in
theorem dlw_935 : decode cL_law 935 = .ok (.aload_n 0, 1) := by decide +kernel
set_option maxRecDepth 100000 in
theorem dlw_936 : decode cL_law 936 = .ok (.iload 4, 2) := by decide +kernel
set_option maxRecDepth 100000 in
theorem dlw_938 : decode cL_law 938 = .ok (.iconst 1, 1) := by decide +kernel
set_option maxRecDepth 100000 in
theorem dlw_939 : decode cL_law 939 = .ok (.iadd, 1) := by decide +kernel
set_option maxRecDepth 100000 in
theorem dlw_940 : decode cL_law 940 = .ok (.iaload, 1) := by decide +kernel
set_option maxRecDepth 100000 in
theorem dlw_941 : decode cL_law 941 = .ok (.aload_n 0, 1) := by decide +kernel
set_option maxRecDepth 100000 in
theorem dlw_942 : decode cL_law 942 = .ok (.iload 4, 2) := by decide +kernel
set_option maxRecDepth 100000 in
theorem dlw_944 : decode cL_law 944 = .ok (.iconst 2, 1) := by decide +kernel
set_option maxRecDepth 100000 in
theorem dlw_945 : decode cL_law 945 = .ok (.iadd, 1) := by decide +kernel
set_option maxRecDepth 100000 in
theorem dlw_946 : decode cL_law 946 = .ok (.iaload, 1) := by decide +kernel
set_option maxRecDepth 100000 in
theorem dlw_947 : decode cL_law 947 = .ok (.aload_n 3, 1) := by decide +kernel
set_option maxRecDepth 100000 in
theorem dlw_948 : decode cL_law 948 = .ok (.invokestatic 182, 3) := by decide +kernel
set_option maxRecDepth 100000 in
theorem dlw_951 : decode cL_law 951 = .ok (.istore 5, 2) := by decide +kernel
set_option maxRecDepth 100000 in
theorem dlw_953 : decode cL_law 953 = .ok (.aload_n 2, 1) := by decide +kernel
set_option maxRecDepth 100000 in
theorem dlw_954 : decode cL_law 954 = .ok (.aload_n 0, 1) := by decide +kernel
set_option maxRecDepth 100000 in
theorem dlw_955 : decode cL_law 955 = .ok (.iload 4, 2) := by decide +kernel
set_option maxRecDepth 100000 in
theorem dlw_957 : decode cL_law 957 = .ok (.iconst 1, 1) := by decide +kernel
set_option maxRecDepth 100000 in
theorem dlw_958 : decode cL_law 958 = .ok (.iadd, 1) := by decide +kernel
set_option maxRecDepth 100000 in
theorem dlw_959 : decode cL_law 959 = .ok (.iaload, 1) := by decide +kernel
set_option maxRecDepth 100000 in
theorem dlw_960 : decode cL_law 960 = .ok (.aload_n 0, 1) := by decide +kernel
set_option maxRecDepth 100000 in
theorem dlw_961 : decode cL_law 961 = .ok (.iload 4, 2) := by decide +kernel
set_option maxRecDepth 100000 in
theorem dlw_963 : decode cL_law 963 = .ok (.iconst 2, 1) := by decide +kernel
set_option maxRecDepth 100000 in
theorem dlw_964 : decode cL_law 964 = .ok (.iadd, 1) := by decide +kernel
set_option maxRecDepth 100000 in
theorem dlw_965 : decode cL_law 965 = .ok (.iaload, 1) := by decide +kernel
set_option maxRecDepth 100000 in
theorem dlw_966 : decode cL_law 966 = .ok (.invokevirtual 184, 3) := by decide +kernel
set_option maxRecDepth 100000 in
theorem dlw_969 : decode cL_law 969 = .ok (.istore 6, 2) := by decide +kernel
set_option maxRecDepth 100000 in
theorem dlw_971 : decode cL_law 971 = .ok (.goto 216, 3) := by decide +kernel
set_option maxRecDepth 100000 in
theorem dlw_974 : decode cL_law 974 = .ok (.aload_n 1, 1) := by decide +kernel
set_option maxRecDepth 100000 in
theorem dlw_975 : decode cL_law 975 = .ok (.aload_n 0, 1) := by decide +kernel
set_option maxRecDepth 100000 in
theorem dlw_976 : decode cL_law 976 = .ok (.iload 4, 2) := by decide +kernel
set_option maxRecDepth 100000 in
theorem dlw_978 : decode cL_law 978 = .ok (.iconst 1, 1) := by decide +kernel
set_option maxRecDepth 100000 in
theorem dlw_979 : decode cL_law 979 = .ok (.iadd, 1) := by decide +kernel
set_option maxRecDepth 100000 in
theorem dlw_980 : decode cL_law 980 = .ok (.iaload, 1) := by decide +kernel
set_option maxRecDepth 100000 in
theorem dlw_981 : decode cL_law 981 = .ok (.aload_n 0, 1) := by decide +kernel
set_option maxRecDepth 100000 in
theorem dlw_982 : decode cL_law 982 = .ok (.iload 4, 2) := by decide +kernel
set_option maxRecDepth 100000 in
theorem dlw_984 : decode cL_law 984 = .ok (.iconst 2, 1) := by decide +kernel
set_option maxRecDepth 100000 in
theorem dlw_985 : decode cL_law 985 = .ok (.iadd, 1) := by decide +kernel
set_option maxRecDepth 100000 in
theorem dlw_986 : decode cL_law 986 = .ok (.iaload, 1) := by decide +kernel
set_option maxRecDepth 100000 in
theorem dlw_987 : decode cL_law 987 = .ok (.aload_n 0, 1) := by decide +kernel
set_option maxRecDepth 100000 in
theorem dlw_988 : decode cL_law 988 = .ok (.iload 4, 2) := by decide +kernel
set_option maxRecDepth 100000 in
theorem dlw_990 : decode cL_law 990 = .ok (.iconst 3, 1) := by decide +kernel
set_option maxRecDepth 100000 in
theorem dlw_991 : decode cL_law 991 = .ok (.iadd, 1) := by decide +kernel
set_option maxRecDepth 100000 in
theorem dlw_992 : decode cL_law 992 = .ok (.iaload, 1) := by decide +kernel
set_option maxRecDepth 100000 in
theorem dlw_993 : decode cL_law 993 = .ok (.aload_n 3, 1) := by decide +kernel
set_option maxRecDepth 100000 in
theorem dlw_994 : decode cL_law 994 = .ok (.invokestatic 185, 3) := by decide +kernel
set_option maxRecDepth 100000 in
theorem dlw_997 : decode cL_law 997 = .ok (.istore 5, 2) := by decide +kernel
set_option maxRecDepth 100000 in
theorem dlw_999 : decode cL_law 999 = .ok (.aload_n 2, 1) := by decide +kernel
set_option maxRecDepth 100000 in
theorem dlw_1000 : decode cL_law 1000 = .ok (.aload_n 0, 1) := by decide +kernel
set_option maxRecDepth 100000 in
theorem dlw_1001 : decode cL_law 1001 = .ok (.iload 4, 2) := by decide +kernel
set_option maxRecDepth 100000 in
theorem dlw_1003 : decode cL_law 1003 = .ok (.iconst 1, 1) := by decide +kernel
set_option maxRecDepth 100000 in
theorem dlw_1004 : decode cL_law 1004 = .ok (.iadd, 1) := by decide +kernel
set_option maxRecDepth 100000 in
theorem dlw_1005 : decode cL_law 1005 = .ok (.iaload, 1) := by decide +kernel
set_option maxRecDepth 100000 in
theorem dlw_1006 : decode cL_law 1006 = .ok (.aload_n 0, 1) := by decide +kernel
set_option maxRecDepth 100000 in
theorem dlw_1007 : decode cL_law 1007 = .ok (.iload 4, 2) := by decide +kernel
set_option maxRecDepth 100000 in
theorem dlw_1009 : decode cL_law 1009 = .ok (.iconst 2, 1) := by decide +kernel
set_option maxRecDepth 100000 in
theorem dlw_1010 : decode cL_law 1010 = .ok (.iadd, 1) := by decide +kernel
set_option maxRecDepth 100000 in
theorem dlw_1011 : decode cL_law 1011 = .ok (.iaload, 1) := by decide +kernel
set_option maxRecDepth 100000 in
theorem dlw_1012 : decode cL_law 1012 = .ok (.aload_n 0, 1) := by decide +kernel
set_option maxRecDepth 100000 in
theorem dlw_1013 : decode cL_law 1013 = .ok (.iload 4, 2) := by decide +kernel
end
section
set_option maxRecDepth 100000 in
theorem dlw_1015 : decode cL_law 1015 = .ok (.iconst 3, 1) := by decide +kernel
set_option maxRecDepth 100000 in
theorem dlw_1016 : decode cL_law 1016 = .ok (.iadd, 1) := by decide +kernel
set_option maxRecDepth 100000 in
theorem dlw_1017 : decode cL_law 1017 = .ok (.iaload, 1) := by decide +kernel
set_option maxRecDepth 100000 in
theorem dlw_1018 : decode cL_law 1018 = .ok (.invokevirtual 188, 3) := by decide +kernel
set_option maxRecDepth 100000 in
theorem dlw_1021 : decode cL_law 1021 = .ok (.istore 6, 2) := by decide +kernel
set_option maxRecDepth 100000 in
theorem dlw_1023 : decode cL_law 1023 = .ok (.goto 164, 3) := by decide +kernel
set_option maxRecDepth 100000 in
theorem dlw_1026 : decode cL_law 1026 = .ok (.aload_n 1, 1) := by decide +kernel
set_option maxRecDepth 100000 in
theorem dlw_1027 : decode cL_law 1027 = .ok (.aload_n 0, 1) := by decide +kernel
set_option maxRecDepth 100000 in
theorem dlw_1028 : decode cL_law 1028 = .ok (.iload 4, 2) := by decide +kernel
set_option maxRecDepth 100000 in
theorem dlw_1030 : decode cL_law 1030 = .ok (.iconst 1, 1) := by decide +kernel
set_option maxRecDepth 100000 in
theorem dlw_1031 : decode cL_law 1031 = .ok (.iadd, 1) := by decide +kernel
set_option maxRecDepth 100000 in
theorem dlw_1032 : decode cL_law 1032 = .ok (.iaload, 1) := by decide +kernel
set_option maxRecDepth 100000 in
theorem dlw_1033 : decode cL_law 1033 = .ok (.aload_n 0, 1) := by decide +kernel
set_option maxRecDepth 100000 in
theorem dlw_1034 : decode cL_law 1034 = .ok (.iload 4, 2) := by decide +kernel
set_option maxRecDepth 100000 in
theorem dlw_1036 : decode cL_law 1036 = .ok (.iconst 2, 1) := by decide +kernel
set_option maxRecDepth 100000 in
theorem dlw_1037 : decode cL_law 1037 = .ok (.iadd, 1) := by decide +kernel
set_option maxRecDepth 100000 in
theorem dlw_1038 : decode cL_law 1038 = .ok (.iaload, 1) := by decide +kernel
set_option maxRecDepth 100000 in
theorem dlw_1039 : decode cL_law 1039 = .ok (.aload_n 3, 1) := by decide +kernel
set_option maxRecDepth 100000 in
theorem dlw_1040 : decode cL_law 1040 = .ok (.invokestatic 189, 3) := by decide +kernel
set_option maxRecDepth 100000 in
theorem dlw_1043 : decode cL_law 1043 = .ok (.istore 5, 2) := by decide +kernel
set_option maxRecDepth 100000 in
theorem dlw_1045 : decode cL_law 1045 = .ok (.aload_n 2, 1) := by decide +kernel
set_option maxRecDepth 100000 in
theorem dlw_1046 : decode cL_law 1046 = .ok (.aload_n 0, 1) := by decide +kernel
set_option maxRecDepth 100000 in
theorem dlw_1047 : decode cL_law 1047 = .ok (.iload 4, 2) := by decide +kernel
set_option maxRecDepth 100000 in
theorem dlw_1049 : decode cL_law 1049 = .ok (.iconst 1, 1) := by decide +kernel
set_option maxRecDepth 100000 in
theorem dlw_1050 : decode cL_law 1050 = .ok (.iadd, 1) := by decide +kernel
set_option maxRecDepth 100000 in
theorem dlw_1051 : decode cL_law 1051 = .ok (.iaload, 1) := by decide +kernel
set_option maxRecDepth 100000 in
theorem dlw_1052 : decode cL_law 1052 = .ok (.aload_n 0, 1) := by decide +kernel
set_option maxRecDepth 100000 in
theorem dlw_1053 : decode cL_law 1053 = .ok (.iload 4, 2) := by decide +kernel
set_option maxRecDepth 100000 in
theorem dlw_1055 : decode cL_law 1055 = .ok (.iconst 2, 1) := by decide +kernel
set_option maxRecDepth 100000 in
theorem dlw_1056 : decode cL_law 1056 = .ok (.iadd, 1) := by decide +kernel
set_option maxRecDepth 100000 in
theorem dlw_1057 : decode cL_law 1057 = .ok (.iaload, 1) := by decide +kernel
set_option maxRecDepth 100000 in
theorem dlw_1058 : decode cL_law 1058 = .ok (.invokevirtual 191, 3) := by decide +kernel
set_option maxRecDepth 100000 in
theorem dlw_1061 : decode cL_law 1061 = .ok (.istore 6, 2) := by decide +kernel
set_option maxRecDepth 100000 in
theorem dlw_1063 : decode cL_law 1063 = .ok (.goto 124, 3) := by decide +kernel
set_option maxRecDepth 100000 in
theorem dlw_1066 : decode cL_law 1066 = .ok (.aload_n 1, 1) := by decide +kernel
set_option maxRecDepth 100000 in
theorem dlw_1067 : decode cL_law 1067 = .ok (.aload_n 0, 1) := by decide +kernel
set_option maxRecDepth 100000 in
theorem dlw_1068 : decode cL_law 1068 = .ok (.iload 4, 2) := by decide +kernel
set_option maxRecDepth 100000 in
theorem dlw_1070 : decode cL_law 1070 = .ok (.iconst 1, 1) := by decide +kernel
set_option maxRecDepth 100000 in
theorem dlw_1071 : decode cL_law 1071 = .ok (.iadd, 1) := by decide +kernel
set_option maxRecDepth 100000 in
theorem dlw_1072 : decode cL_law 1072 = .ok (.iaload, 1) := by decide +kernel
set_option maxRecDepth 100000 in
theorem dlw_1073 : decode cL_law 1073 = .ok (.aload_n 0, 1) := by decide +kernel
set_option maxRecDepth 100000 in
theorem dlw_1074 : decode cL_law 1074 = .ok (.iload 4, 2) := by decide +kernel
set_option maxRecDepth 100000 in
theorem dlw_1076 : decode cL_law 1076 = .ok (.iconst 2, 1) := by decide +kernel
set_option maxRecDepth 100000 in
theorem dlw_1077 : decode cL_law 1077 = .ok (.iadd, 1) := by decide +kernel
set_option maxRecDepth 100000 in
theorem dlw_1078 : decode cL_law 1078 = .ok (.iaload, 1) := by decide +kernel
set_option maxRecDepth 100000 in
theorem dlw_1079 : decode cL_law 1079 = .ok (.aload_n 3, 1) := by decide +kernel
set_option maxRecDepth 100000 in
theorem dlw_1080 : decode cL_law 1080 = .ok (.invokestatic 192, 3) := by decide +kernel
set_option maxRecDepth 100000 in
theorem dlw_1083 : decode cL_law 1083 = .ok (.istore 5, 2) := by decide +kernel
set_option maxRecDepth 100000 in
theorem dlw_1085 : decode cL_law 1085 = .ok (.aload_n 2, 1) := by decide +kernel
set_option maxRecDepth 100000 in
theorem dlw_1086 : decode cL_law 1086 = .ok (.aload_n 0, 1) := by decide +kernel
set_option maxRecDepth 100000 in
theorem dlw_1087 : decode cL_law 1087 = .ok (.iload 4, 2) := by decide +kernel
set_option maxRecDepth 100000 in
theorem dlw_1089 : decode cL_law 1089 = .ok (.iconst 1, 1) := by decide +kernel
set_option maxRecDepth 100000 in
theorem dlw_1090 : decode cL_law 1090 = .ok (.iadd, 1) := by decide +kernel
set_option maxRecDepth 100000 in
theorem dlw_1091 : decode cL_law 1091 = .ok (.iaload, 1) := by decide +kernel
set_option maxRecDepth 100000 in
theorem dlw_1092 : decode cL_law 1092 = .ok (.aload_n 0, 1) := by decide +kernel
set_option maxRecDepth 100000 in
theorem dlw_1093 : decode cL_law 1093 = .ok (.iload 4, 2) := by decide +kernel
set_option maxRecDepth 100000 in
theorem dlw_1095 : decode cL_law 1095 = .ok (.iconst 2, 1) := by decide +kernel
set_option maxRecDepth 100000 in
theorem dlw_1096 : decode cL_law 1096 = .ok (.iadd, 1) := by decide +kernel
set_option maxRecDepth 100000 in
theorem dlw_1097 : decode cL_law 1097 = .ok (.iaload, 1) := by decide +kernel
set_option maxRecDepth 100000 in
theorem dlw_1098 : decode cL_law 1098 = .ok (.invokevirtual 194, 3) := by decide +kernel
set_option maxRecDepth 100000 in
theorem dlw_1101 : decode cL_law 1101 = .ok (.istore 6, 2) := by decide +kernel
set_option maxRecDepth 100000 in
theorem dlw_1103 : decode cL_law 1103 = .ok (.goto 84, 3) := by decide +kernel
set_option maxRecDepth 100000 in
theorem dlw_1106 : decode cL_law 1106 = .ok (.aload_n 1, 1) := by decide +kernel
set_option maxRecDepth 100000 in
theorem dlw_1107 : decode cL_law 1107 = .ok (.aload_n 0, 1) := by decide +kernel
set_option maxRecDepth 100000 in
theorem dlw_1108 : decode cL_law 1108 = .ok (.iload 4, 2) := by decide +kernel
set_option maxRecDepth 100000 in
theorem dlw_1110 : decode cL_law 1110 = .ok (.iconst 1, 1) := by decide +kernel
set_option maxRecDepth 100000 in
theorem dlw_1111 : decode cL_law 1111 = .ok (.iadd, 1) := by decide +kernel
set_option maxRecDepth 100000 in
theorem dlw_1112 : decode cL_law 1112 = .ok (.iaload, 1) := by decide +kernel
set_option maxRecDepth 100000 in
theorem dlw_1113 : decode cL_law 1113 = .ok (.aload_n 0, 1) := by decide +kernel
set_option maxRecDepth 100000 in
theorem dlw_1114 : decode cL_law 1114 = .ok (.iload 4, 2) := by decide +kernel
set_option maxRecDepth 100000 in
theorem dlw_1116 : decode cL_law 1116 = .ok (.iconst 2, 1) := by decide +kernel
set_option maxRecDepth 100000 in
theorem dlw_1117 : decode cL_law 1117 = .ok (.iadd, 1) := by decide +kernel
set_option maxRecDepth 100000 in
theorem dlw_1118 : decode cL_law 1118 = .ok (.iaload, 1) := by decide +kernel
set_option maxRecDepth 100000 in
theorem dlw_1119 : decode cL_law 1119 = .ok (.aload_n 3, 1) := by decide +kernel
set_option maxRecDepth 100000 in
theorem dlw_1120 : decode cL_law 1120 = .ok (.invokestatic 195, 3) := by decide +kernel
set_option maxRecDepth 100000 in
theorem dlw_1123 : decode cL_law 1123 = .ok (.istore 5, 2) := by decide +kernel
set_option maxRecDepth 100000 in
theorem dlw_1125 : decode cL_law 1125 = .ok (.aload_n 2, 1) := by decide +kernel
set_option maxRecDepth 100000 in
theorem dlw_1126 : decode cL_law 1126 = .ok (.aload_n 0, 1) := by decide +kernel
set_option maxRecDepth 100000 in
theorem dlw_1127 : decode cL_law 1127 = .ok (.iload 4, 2) := by decide +kernel
set_option maxRecDepth 100000 in
theorem dlw_1129 : decode cL_law 1129 = .ok (.iconst 1, 1) := by decide +kernel
set_option maxRecDepth 100000 in
theorem dlw_1130 : decode cL_law 1130 = .ok (.iadd, 1) := by decide +kernel
set_option maxRecDepth 100000 in
theorem dlw_1131 : decode cL_law 1131 = .ok (.iaload, 1) := by decide +kernel
set_option maxRecDepth 100000 in
theorem dlw_1132 : decode cL_law 1132 = .ok (.aload_n 0, 1) := by decide +kernel
set_option maxRecDepth 100000 in
theorem dlw_1133 : decode cL_law 1133 = .ok (.iload 4, 2) := by decide +kernel
set_option maxRecDepth 100000 in
theorem dlw_1135 : decode cL_law 1135 = .ok (.iconst 2, 1) := by decide +kernel
set_option maxRecDepth 100000 in
theorem dlw_1136 : decode cL_law 1136 = .ok (.iadd, 1) := by decide +kernel
set_option maxRecDepth 100000 in
theorem dlw_1137 : decode cL_law 1137 = .ok (.iaload, 1) := by decide +kernel
set_option maxRecDepth 100000 in
theorem dlw_1138 : decode cL_law 1138 = .ok (.invokevirtual 197, 3) := by decide +kernel
set_option maxRecDepth 100000 in
theorem dlw_1141 : decode cL_law 1141 = .ok (.istore 6, 2) := by decide +kernel
set_option maxRecDepth 100000 in
theorem dlw_1143 : decode cL_law 1143 = .ok (.goto 44, 3) := by decide +kernel
set_option maxRecDepth 100000 in
theorem dlw_1146 : decode cL_law 1146 = .ok (.aload_n 1, 1) := by decide +kernel
set_option maxRecDepth 100000 in
theorem dlw_1147 : decode cL_law 1147 = .ok (.aload_n 0, 1) := by decide +kernel
set_option maxRecDepth 100000 in
theorem dlw_1148 : decode cL_law 1148 = .ok (.iload 4, 2) := by decide +kernel
set_option maxRecDepth 100000 in
theorem dlw_1150 : decode cL_law 1150 = .ok (.iconst 1, 1) := by decide +kernel
set_option maxRecDepth 100000 in
theorem dlw_1151 : decode cL_law 1151 = .ok (.iadd, 1) := by decide +kernel
set_option maxRecDepth 100000 in
theorem dlw_1152 : decode cL_law 1152 = .ok (.iaload, 1) := by decide +kernel
set_option maxRecDepth 100000 in
theorem dlw_1153 : decode cL_law 1153 = .ok (.aload_n 3, 1) := by decide +kernel
set_option maxRecDepth 100000 in
theorem dlw_1154 : decode cL_law 1154 = .ok (.invokestatic 198, 3) := by decide +kernel
set_option maxRecDepth 100000 in
theorem dlw_1157 : decode cL_law 1157 = .ok (.istore 5, 2) := by decide +kernel
set_option maxRecDepth 100000 in
theorem dlw_1159 : decode cL_law 1159 = .ok (.aload_n 2, 1) := by decide +kernel
set_option maxRecDepth 100000 in
theorem dlw_1160 : decode cL_law 1160 = .ok (.aload_n 0, 1) := by decide +kernel
set_option maxRecDepth 100000 in
theorem dlw_1161 : decode cL_law 1161 = .ok (.iload 4, 2) := by decide +kernel
set_option maxRecDepth 100000 in
theorem dlw_1163 : decode cL_law 1163 = .ok (.iconst 1, 1) := by decide +kernel
set_option maxRecDepth 100000 in
theorem dlw_1164 : decode cL_law 1164 = .ok (.iadd, 1) := by decide +kernel
set_option maxRecDepth 100000 in
theorem dlw_1165 : decode cL_law 1165 = .ok (.iaload, 1) := by decide +kernel
set_option maxRecDepth 100000 in
theorem dlw_1166 : decode cL_law 1166 = .ok (.invokevirtual 200, 3) := by decide +kernel
set_option maxRecDepth 100000 in
theorem dlw_1169 : decode cL_law 1169 = .ok (.istore 6, 2) := by decide +kernel
set_option maxRecDepth 100000 in
theorem dlw_1171 : decode cL_law 1171 = .ok (.goto 16, 3) := by decide +kernel
set_option maxRecDepth 100000 in
theorem dlw_1174 : decode cL_law 1174 = .ok (.aload_n 1, 1) := by decide +kernel
set_option maxRecDepth 100000 in
theorem dlw_1175 : decode cL_law 1175 = .ok (.invokevirtual 201, 3) := by decide +kernel
set_option maxRecDepth 100000 in
theorem dlw_1178 : decode cL_law 1178 = .ok (.pop, 1) := by decide +kernel
set_option maxRecDepth 100000 in
theorem dlw_1179 : decode cL_law 1179 = .ok (.aload_n 2, 1) := by decide +kernel
set_option maxRecDepth 100000 in
theorem dlw_1180 : decode cL_law 1180 = .ok (.invokevirtual 204, 3) := by decide +kernel
set_option maxRecDepth 100000 in
theorem dlw_1183 : decode cL_law 1183 = .ok (.pop, 1) := by decide +kernel
set_option maxRecDepth 100000 in
theorem dlw_1184 : decode cL_law 1184 = .ok (.goto 3, 3) := by decide +kernel
set_option maxRecDepth 100000 in
theorem dlw_1187 : decode cL_law 1187 = .ok (.iinc 4 4, 3) := by decide +kernel
set_option maxRecDepth 100000 in
theorem dlw_1190 : decode cL_law 1190 = .ok (.goto (-1167), 3) := by decide +kernel
set_option maxRecDepth 100000 in
theorem dlw_1193 : decode cL_law 1193 = .ok (.iconst 1, 1) := by decide +kernel
set_option maxRecDepth 100000 in
theorem dlw_1194 : decode cL_law 1194 = .ok (.ireturn, 1) := by decide +kernel
end
section
/-! what stands in the law's loop: the class, the model, the text's length alike; how much was made in k calls -/
def LJ (k : Nat) (x : gd) (q : kP) (w : gd) : Prop := kU q ∧ HOI x q ∧ MI w ∧ JR3 x w ∧ q.ce ≤ 100 + wC q + k ∧ q.sl ≤ 20000 + wS q + 6 * k
theorem wC_b {q : kP} (hu : kU q) : wC q ≤ 9120 := by
  have b := hu.2.2.2.2
  have h : ∀ t : Bool, cond t 30 0 ≤ 30 := fun t => by cases t <;> decide
  have h1 := h q.hi
  have h2 := h q.ex
  have h3 := h q.t0
  have h4 := h q.t1
  unfold wC
  omega
theorem wS_b {q : kP} (hu : kU q) : wS q ≤ 900000 := by
  have b := hu.2.2.2.2
  have g : ∀ t : Bool, cond t 400 0 ≤ 400 := fun t => by cases t <;> decide
  have h : ∀ t : Bool, cond t 20000 0 ≤ 20000 := fun t => by cases t <;> decide
  have h1 := g q.hi
  have h2 := h q.ex
  have h3 := h q.t0
  have h4 := h q.t1
  unfold wS
  omega
theorem LJ_room {k : Nat} {x w : gd} {q : kP} (hJ : LJ k x q w) (hk : k < 64) : ∀ q1, kU q1 → kst q q1 → q1.ce + 200 ≤ room_1.cells ∧ q1.sl + 960000 ≤ room_1.slots := fun q1 hu1 hk1 => by
  obtain ⟨-, -, -, -, b1, b2⟩ := hJ
  have a1 := wC_b hu1
  have a2 := wS_b hu1
  have c1 := hk1.1
  have c2 := hk1.2
  exact ⟨by show q1.ce + 200 ≤ 600128; omega, by show q1.sl + 960000 ≤ 7301098; omega⟩
theorem LJ_next {k : Nat} {x w x1 w1 : gd} {q q1 : kP} (hJ : LJ k x q w) (hu1 : kU q1) (hk1 : kst q q1) (hH1 : HOI x1 q1) (hm : MI w1) (el : JR3 x1 w1) : LJ (k + 1) x1 q1 w1 := by
  obtain ⟨-, -, -, -, b1, b2⟩ := hJ
  have c1 := hk1.1
  have c2 := hk1.2
  exact ⟨hu1, hH1, hm, el, by omega, by omega⟩
theorem lv_tl {ls : Array Slot} {n : Nat} {a : Nat × Value} {t : List (Nat × Value)} (h : lv_has ls n (a :: t)) : lv_has ls n t := ⟨h.1, h.2.1, fun z hz => h.2.2 z (List.mem_cons_of_mem _ hz)⟩
theorem kc_long : Cond.constantLong RL 103 4294967295 ∈ W0 := W0_in (tp_12 (List.mem_of_getElem? (i := 163) (by decide +kernel))) rfl
theorem wcs_105 : gMs RL 105 zw_feed 4 := ⟨⟨W0_in (tp_5 (List.mem_of_getElem? (i := 41) (by decide +kernel))) rfl, W0_in (tp_5 (List.mem_of_getElem? (i := 42) (by decide +kernel))) rfl, W0_in (tp_1 (List.mem_of_getElem? (i := 0) (by decide +kernel))) rfl, wcw_feed⟩, ⟨by decide, by decide, by decide +kernel⟩, by decide, by decide⟩
theorem wcm_110 : gMv RL 110 z_feed 2 := ⟨⟨W0_in (tp_10 (List.mem_of_getElem? (i := 129) (by decide +kernel))) rfl, W0_in (tp_10 (List.mem_of_getElem? (i := 130) (by decide +kernel))) rfl, W0_in (tp_10 (List.mem_of_getElem? (i := 131) (by decide +kernel))) rfl, W0_in (tp_1 (List.mem_of_getElem? (i := 10) (by decide +kernel))) rfl, cw_feed⟩, ⟨by decide, by decide, by decide +kernel⟩, by decide, by decide⟩
theorem wcv_111 : gMv RL 111 zk_X11_wipe 0 := ⟨⟨W0_in (tp_3 (List.mem_of_getElem? (i := 92) (by decide +kernel))) rfl, W0_in (tp_3 (List.mem_of_getElem? (i := 93) (by decide +kernel))) rfl, W0_in (tp_3 (List.mem_of_getElem? (i := 94) (by decide +kernel))) rfl, W0_in (tp_1 (List.mem_of_getElem? (i := 1) (by decide +kernel))) rfl, kcw_X11_wipe⟩, ⟨by decide, by decide, by decide +kernel⟩, by decide, by decide⟩
theorem wcm_114 : gMv RL 114 z_wipe 0 := ⟨⟨W0_in (tp_10 (List.mem_of_getElem? (i := 144) (by decide +kernel))) rfl, W0_in (tp_10 (List.mem_of_getElem? (i := 145) (by decide +kernel))) rfl, W0_in (tp_10 (List.mem_of_getElem? (i := 146) (by decide +kernel))) rfl, W0_in (tp_1 (List.mem_of_getElem? (i := 10) (by decide +kernel))) rfl, cw_wipe⟩, ⟨by decide, by decide, by decide +kernel⟩, by decide, by decide⟩
theorem wcv_115 : gMv RL 115 zk_X11_compile 0 := ⟨⟨W0_in (tp_3 (List.mem_of_getElem? (i := 100) (by decide +kernel))) rfl, W0_in (tp_3 (List.mem_of_getElem? (i := 101) (by decide +kernel))) rfl, W0_in (tp_3 (List.mem_of_getElem? (i := 102) (by decide +kernel))) rfl, W0_in (tp_1 (List.mem_of_getElem? (i := 1) (by decide +kernel))) rfl, kcw_X11_compile⟩, ⟨by decide, by decide, by decide +kernel⟩, by decide, by decide⟩
theorem wcm_118 : gMv RL 118 z_compile 0 := ⟨⟨W0_in (tp_10 (List.mem_of_getElem? (i := 148) (by decide +kernel))) rfl, W0_in (tp_10 (List.mem_of_getElem? (i := 149) (by decide +kernel))) rfl, W0_in (tp_10 (List.mem_of_getElem? (i := 150) (by decide +kernel))) rfl, W0_in (tp_1 (List.mem_of_getElem? (i := 10) (by decide +kernel))) rfl, cw_compile⟩, ⟨by decide, by decide, by decide +kernel⟩, by decide, by decide⟩
theorem wcs_119 : gMs RL 119 zw_fault 3 := ⟨⟨W0_in (tp_5 (List.mem_of_getElem? (i := 70) (by decide +kernel))) rfl, W0_in (tp_5 (List.mem_of_getElem? (i := 71) (by decide +kernel))) rfl, W0_in (tp_1 (List.mem_of_getElem? (i := 0) (by decide +kernel))) rfl, wcw_fault⟩, ⟨by decide, by decide, by decide +kernel⟩, by decide, by decide⟩
theorem wcm_122 : gMv RL 122 z_fault_ 1 := ⟨⟨W0_in (tp_11 (List.mem_of_getElem? (i := 123) (by decide +kernel))) rfl, W0_in (tp_11 (List.mem_of_getElem? (i := 124) (by decide +kernel))) rfl, W0_in (tp_11 (List.mem_of_getElem? (i := 125) (by decide +kernel))) rfl, W0_in (tp_1 (List.mem_of_getElem? (i := 10) (by decide +kernel))) rfl, cw_fault_⟩, ⟨by decide, by decide, by decide +kernel⟩, by decide, by decide⟩
theorem wcs_123 : gMs RL 123 zw_count 3 := ⟨⟨W0_in (tp_5 (List.mem_of_getElem? (i := 94) (by decide +kernel))) rfl, W0_in (tp_5 (List.mem_of_getElem? (i := 95) (by decide +kernel))) rfl, W0_in (tp_1 (List.mem_of_getElem? (i := 0) (by decide +kernel))) rfl, wcw_count⟩, ⟨by decide, by decide, by decide +kernel⟩, by decide, by decide⟩
theorem wcm_125 : gMv RL 125 z_count 1 := ⟨⟨W0_in (tp_11 (List.mem_of_getElem? (i := 127) (by decide +kernel))) rfl, W0_in (tp_11 (List.mem_of_getElem? (i := 128) (by decide +kernel))) rfl, W0_in (tp_11 (List.mem_of_getElem? (i := 129) (by decide +kernel))) rfl, W0_in (tp_1 (List.mem_of_getElem? (i := 10) (by decide +kernel))) rfl, cw_count⟩, ⟨by decide, by decide, by decide +kernel⟩, by decide, by decide⟩
theorem wcs_126 : gMs RL 126 zw_begin 3 := ⟨⟨W0_in (tp_5 (List.mem_of_getElem? (i := 104) (by decide +kernel))) rfl, W0_in (tp_5 (List.mem_of_getElem? (i := 105) (by decide +kernel))) rfl, W0_in (tp_1 (List.mem_of_getElem? (i := 0) (by decide +kernel))) rfl, wcw_begin⟩, ⟨by decide, by decide, by decide +kernel⟩, by decide, by decide⟩
theorem wcm_128 : gMv RL 128 z_begin 1 := ⟨⟨W0_in (tp_11 (List.mem_of_getElem? (i := 131) (by decide +kernel))) rfl, W0_in (tp_11 (List.mem_of_getElem? (i := 132) (by decide +kernel))) rfl, W0_in (tp_11 (List.mem_of_getElem? (i := 133) (by decide +kernel))) rfl, W0_in (tp_1 (List.mem_of_getElem? (i := 10) (by decide +kernel))) rfl, cw_begin⟩, ⟨by decide, by decide, by decide +kernel⟩, by decide, by decide⟩
theorem wcs_129 : gMs RL 129 zw_choices 2 := ⟨⟨W0_in (tp_5 (List.mem_of_getElem? (i := 225) (by decide +kernel))) rfl, W0_in (tp_5 (List.mem_of_getElem? (i := 226) (by decide +kernel))) rfl, W0_in (tp_1 (List.mem_of_getElem? (i := 0) (by decide +kernel))) rfl, wcw_choices⟩, ⟨by decide, by decide, by decide +kernel⟩, by decide, by decide⟩
theorem wcm_132 : gMv RL 132 z_choices 0 := ⟨⟨W0_in (tp_11 (List.mem_of_getElem? (i := 186) (by decide +kernel))) rfl, W0_in (tp_11 (List.mem_of_getElem? (i := 187) (by decide +kernel))) rfl, W0_in (tp_11 (List.mem_of_getElem? (i := 188) (by decide +kernel))) rfl, W0_in (tp_1 (List.mem_of_getElem? (i := 10) (by decide +kernel))) rfl, cw_choices⟩, ⟨by decide, by decide, by decide +kernel⟩, by decide, by decide⟩
theorem wcs_133 : gMs RL 133 zw_choice 4 := ⟨⟨W0_in (tp_5 (List.mem_of_getElem? (i := 237) (by decide +kernel))) rfl, W0_in (tp_5 (List.mem_of_getElem? (i := 238) (by decide +kernel))) rfl, W0_in (tp_1 (List.mem_of_getElem? (i := 0) (by decide +kernel))) rfl, wcw_choice⟩, ⟨by decide, by decide, by decide +kernel⟩, by decide, by decide⟩
theorem wcm_136 : gMv RL 136 z_choice 2 := ⟨⟨W0_in (tp_11 (List.mem_of_getElem? (i := 194) (by decide +kernel))) rfl, W0_in (tp_11 (List.mem_of_getElem? (i := 195) (by decide +kernel))) rfl, W0_in (tp_11 (List.mem_of_getElem? (i := 196) (by decide +kernel))) rfl, W0_in (tp_1 (List.mem_of_getElem? (i := 10) (by decide +kernel))) rfl, cw_choice⟩, ⟨by decide, by decide, by decide +kernel⟩, by decide, by decide⟩
theorem wcs_137 : gMs RL 137 zw_go 3 := ⟨⟨W0_in (tp_6 (List.mem_of_getElem? (i := 18) (by decide +kernel))) rfl, W0_in (tp_6 (List.mem_of_getElem? (i := 19) (by decide +kernel))) rfl, W0_in (tp_1 (List.mem_of_getElem? (i := 0) (by decide +kernel))) rfl, wcw_go⟩, ⟨by decide, by decide, by decide +kernel⟩, by decide, by decide⟩
theorem wcm_139 : gMv RL 139 z_go 1 := ⟨⟨W0_in (tp_11 (List.mem_of_getElem? (i := 202) (by decide +kernel))) rfl, W0_in (tp_11 (List.mem_of_getElem? (i := 203) (by decide +kernel))) rfl, W0_in (tp_11 (List.mem_of_getElem? (i := 204) (by decide +kernel))) rfl, W0_in (tp_1 (List.mem_of_getElem? (i := 10) (by decide +kernel))) rfl, cw_go⟩, ⟨by decide, by decide, by decide +kernel⟩, by decide, by decide⟩
theorem wcs_140 : gMs RL 140 zw_draw 4 := ⟨⟨W0_in (tp_6 (List.mem_of_getElem? (i := 137) (by decide +kernel))) rfl, W0_in (tp_6 (List.mem_of_getElem? (i := 138) (by decide +kernel))) rfl, W0_in (tp_1 (List.mem_of_getElem? (i := 0) (by decide +kernel))) rfl, wcw_draw⟩, ⟨by decide, by decide, by decide +kernel⟩, by decide, by decide⟩
theorem wcm_142 : gMv RL 142 z_draw 2 := ⟨⟨W0_in (tp_11 (List.mem_of_getElem? (i := 230) (by decide +kernel))) rfl, W0_in (tp_11 (List.mem_of_getElem? (i := 231) (by decide +kernel))) rfl, W0_in (tp_11 (List.mem_of_getElem? (i := 232) (by decide +kernel))) rfl, W0_in (tp_1 (List.mem_of_getElem? (i := 10) (by decide +kernel))) rfl, cw_draw⟩, ⟨by decide, by decide, by decide +kernel⟩, by decide, by decide⟩
theorem wcs_143 : gMs RL 143 zw_again 3 := ⟨⟨W0_in (tp_6 (List.mem_of_getElem? (i := 146) (by decide +kernel))) rfl, W0_in (tp_6 (List.mem_of_getElem? (i := 147) (by decide +kernel))) rfl, W0_in (tp_1 (List.mem_of_getElem? (i := 0) (by decide +kernel))) rfl, wcw_again⟩, ⟨by decide, by decide, by decide +kernel⟩, by decide, by decide⟩
theorem wcm_145 : gMv RL 145 z_again 1 := ⟨⟨W0_in (tp_11 (List.mem_of_getElem? (i := 235) (by decide +kernel))) rfl, W0_in (tp_11 (List.mem_of_getElem? (i := 236) (by decide +kernel))) rfl, W0_in (tp_11 (List.mem_of_getElem? (i := 237) (by decide +kernel))) rfl, W0_in (tp_1 (List.mem_of_getElem? (i := 10) (by decide +kernel))) rfl, cw_again⟩, ⟨by decide, by decide, by decide +kernel⟩, by decide, by decide⟩
theorem wcs_146 : gMs RL 146 zw_run 3 := ⟨⟨W0_in (tp_6 (List.mem_of_getElem? (i := 154) (by decide +kernel))) rfl, W0_in (tp_6 (List.mem_of_getElem? (i := 155) (by decide +kernel))) rfl, W0_in (tp_1 (List.mem_of_getElem? (i := 0) (by decide +kernel))) rfl, wcw_run⟩, ⟨by decide, by decide, by decide +kernel⟩, by decide, by decide⟩
theorem wcm_148 : gMv RL 148 z_run 1 := ⟨⟨W0_in (tp_11 (List.mem_of_getElem? (i := 239) (by decide +kernel))) rfl, W0_in (tp_12 (List.mem_of_getElem? (i := 0) (by decide +kernel))) rfl, W0_in (tp_12 (List.mem_of_getElem? (i := 1) (by decide +kernel))) rfl, W0_in (tp_1 (List.mem_of_getElem? (i := 10) (by decide +kernel))) rfl, cw_run⟩, ⟨by decide, by decide, by decide +kernel⟩, by decide, by decide⟩
theorem wcm_149 : gMv RL 149 z_thrown 0 := ⟨⟨W0_in (tp_10 (List.mem_of_getElem? (i := 125) (by decide +kernel))) rfl, W0_in (tp_10 (List.mem_of_getElem? (i := 126) (by decide +kernel))) rfl, W0_in (tp_10 (List.mem_of_getElem? (i := 127) (by decide +kernel))) rfl, W0_in (tp_1 (List.mem_of_getElem? (i := 10) (by decide +kernel))) rfl, cw_thrown⟩, ⟨by decide, by decide, by decide +kernel⟩, by decide, by decide⟩
theorem wcs_152 : gMs RL 152 zw_cell 3 := ⟨⟨W0_in (tp_6 (List.mem_of_getElem? (i := 177) (by decide +kernel))) rfl, W0_in (tp_6 (List.mem_of_getElem? (i := 178) (by decide +kernel))) rfl, W0_in (tp_1 (List.mem_of_getElem? (i := 0) (by decide +kernel))) rfl, wcw_cell⟩, ⟨by decide, by decide, by decide +kernel⟩, by decide, by decide⟩
theorem wcm_154 : gMv RL 154 z_cell 1 := ⟨⟨W0_in (tp_12 (List.mem_of_getElem? (i := 23) (by decide +kernel))) rfl, W0_in (tp_12 (List.mem_of_getElem? (i := 24) (by decide +kernel))) rfl, W0_in (tp_12 (List.mem_of_getElem? (i := 25) (by decide +kernel))) rfl, W0_in (tp_1 (List.mem_of_getElem? (i := 10) (by decide +kernel))) rfl, cw_cell⟩, ⟨by decide, by decide, by decide +kernel⟩, by decide, by decide⟩
theorem wcs_155 : gMs RL 155 zw_seen 4 := ⟨⟨W0_in (tp_6 (List.mem_of_getElem? (i := 184) (by decide +kernel))) rfl, W0_in (tp_6 (List.mem_of_getElem? (i := 185) (by decide +kernel))) rfl, W0_in (tp_1 (List.mem_of_getElem? (i := 0) (by decide +kernel))) rfl, wcw_seen⟩, ⟨by decide, by decide, by decide +kernel⟩, by decide, by decide⟩
theorem wcm_157 : gMv RL 157 z_seen 2 := ⟨⟨W0_in (tp_12 (List.mem_of_getElem? (i := 27) (by decide +kernel))) rfl, W0_in (tp_12 (List.mem_of_getElem? (i := 28) (by decide +kernel))) rfl, W0_in (tp_12 (List.mem_of_getElem? (i := 29) (by decide +kernel))) rfl, W0_in (tp_1 (List.mem_of_getElem? (i := 10) (by decide +kernel))) rfl, cw_seen⟩, ⟨by decide, by decide, by decide +kernel⟩, by decide, by decide⟩
theorem wcs_158 : gMs RL 158 zw_lock 4 := ⟨⟨W0_in (tp_6 (List.mem_of_getElem? (i := 192) (by decide +kernel))) rfl, W0_in (tp_6 (List.mem_of_getElem? (i := 193) (by decide +kernel))) rfl, W0_in (tp_1 (List.mem_of_getElem? (i := 0) (by decide +kernel))) rfl, wcw_lock⟩, ⟨by decide, by decide, by decide +kernel⟩, by decide, by decide⟩
theorem wcm_160 : gMv RL 160 z_lock 2 := ⟨⟨W0_in (tp_12 (List.mem_of_getElem? (i := 31) (by decide +kernel))) rfl, W0_in (tp_12 (List.mem_of_getElem? (i := 32) (by decide +kernel))) rfl, W0_in (tp_12 (List.mem_of_getElem? (i := 33) (by decide +kernel))) rfl, W0_in (tp_1 (List.mem_of_getElem? (i := 10) (by decide +kernel))) rfl, cw_lock⟩, ⟨by decide, by decide, by decide +kernel⟩, by decide, by decide⟩
theorem wcs_161 : gMs RL 161 zw_thread 4 := ⟨⟨W0_in (tp_6 (List.mem_of_getElem? (i := 208) (by decide +kernel))) rfl, W0_in (tp_6 (List.mem_of_getElem? (i := 209) (by decide +kernel))) rfl, W0_in (tp_1 (List.mem_of_getElem? (i := 0) (by decide +kernel))) rfl, wcw_thread⟩, ⟨by decide, by decide, by decide +kernel⟩, by decide, by decide⟩
theorem wcm_163 : gMv RL 163 z_thread 2 := ⟨⟨W0_in (tp_12 (List.mem_of_getElem? (i := 35) (by decide +kernel))) rfl, W0_in (tp_12 (List.mem_of_getElem? (i := 36) (by decide +kernel))) rfl, W0_in (tp_12 (List.mem_of_getElem? (i := 37) (by decide +kernel))) rfl, W0_in (tp_1 (List.mem_of_getElem? (i := 10) (by decide +kernel))) rfl, cw_thread⟩, ⟨by decide, by decide, by decide +kernel⟩, by decide, by decide⟩
theorem wcs_164 : gMs RL 164 zw_local 4 := ⟨⟨W0_in (tp_6 (List.mem_of_getElem? (i := 221) (by decide +kernel))) rfl, W0_in (tp_6 (List.mem_of_getElem? (i := 222) (by decide +kernel))) rfl, W0_in (tp_1 (List.mem_of_getElem? (i := 0) (by decide +kernel))) rfl, wcw_local⟩, ⟨by decide, by decide, by decide +kernel⟩, by decide, by decide⟩
theorem wcm_166 : gMv RL 166 z_local 2 := ⟨⟨W0_in (tp_12 (List.mem_of_getElem? (i := 46) (by decide +kernel))) rfl, W0_in (tp_12 (List.mem_of_getElem? (i := 47) (by decide +kernel))) rfl, W0_in (tp_12 (List.mem_of_getElem? (i := 48) (by decide +kernel))) rfl, W0_in (tp_1 (List.mem_of_getElem? (i := 10) (by decide +kernel))) rfl, cw_local⟩, ⟨by decide, by decide, by decide +kernel⟩, by decide, by decide⟩
theorem wcs_167 : gMs RL 167 zw_act 4 := ⟨⟨W0_in (tp_6 (List.mem_of_getElem? (i := 228) (by decide +kernel))) rfl, W0_in (tp_6 (List.mem_of_getElem? (i := 229) (by decide +kernel))) rfl, W0_in (tp_1 (List.mem_of_getElem? (i := 0) (by decide +kernel))) rfl, wcw_act⟩, ⟨by decide, by decide, by decide +kernel⟩, by decide, by decide⟩
theorem wcm_169 : gMv RL 169 z_act 2 := ⟨⟨W0_in (tp_12 (List.mem_of_getElem? (i := 50) (by decide +kernel))) rfl, W0_in (tp_12 (List.mem_of_getElem? (i := 51) (by decide +kernel))) rfl, W0_in (tp_12 (List.mem_of_getElem? (i := 52) (by decide +kernel))) rfl, W0_in (tp_1 (List.mem_of_getElem? (i := 10) (by decide +kernel))) rfl, cw_act⟩, ⟨by decide, by decide, by decide +kernel⟩, by decide, by decide⟩
theorem wcs_170 : gMs RL 170 zw_before 4 := ⟨⟨W0_in (tp_6 (List.mem_of_getElem? (i := 235) (by decide +kernel))) rfl, W0_in (tp_6 (List.mem_of_getElem? (i := 236) (by decide +kernel))) rfl, W0_in (tp_1 (List.mem_of_getElem? (i := 0) (by decide +kernel))) rfl, wcw_before⟩, ⟨by decide, by decide, by decide +kernel⟩, by decide, by decide⟩
theorem wcm_172 : gMv RL 172 z_before 2 := ⟨⟨W0_in (tp_12 (List.mem_of_getElem? (i := 54) (by decide +kernel))) rfl, W0_in (tp_12 (List.mem_of_getElem? (i := 55) (by decide +kernel))) rfl, W0_in (tp_12 (List.mem_of_getElem? (i := 56) (by decide +kernel))) rfl, W0_in (tp_1 (List.mem_of_getElem? (i := 10) (by decide +kernel))) rfl, cw_before⟩, ⟨by decide, by decide, by decide +kernel⟩, by decide, by decide⟩
theorem wcs_173 : gMs RL 173 zw_race 4 := ⟨⟨W0_in (tp_7 (List.mem_of_getElem? (i := 3) (by decide +kernel))) rfl, W0_in (tp_7 (List.mem_of_getElem? (i := 4) (by decide +kernel))) rfl, W0_in (tp_1 (List.mem_of_getElem? (i := 0) (by decide +kernel))) rfl, wcw_race⟩, ⟨by decide, by decide, by decide +kernel⟩, by decide, by decide⟩
theorem wcm_175 : gMv RL 175 z_race 2 := ⟨⟨W0_in (tp_12 (List.mem_of_getElem? (i := 58) (by decide +kernel))) rfl, W0_in (tp_12 (List.mem_of_getElem? (i := 59) (by decide +kernel))) rfl, W0_in (tp_12 (List.mem_of_getElem? (i := 60) (by decide +kernel))) rfl, W0_in (tp_1 (List.mem_of_getElem? (i := 10) (by decide +kernel))) rfl, cw_race⟩, ⟨by decide, by decide, by decide +kernel⟩, by decide, by decide⟩
theorem wcs_176 : gMs RL 176 zw_linear 3 := ⟨⟨W0_in (tp_7 (List.mem_of_getElem? (i := 18) (by decide +kernel))) rfl, W0_in (tp_7 (List.mem_of_getElem? (i := 19) (by decide +kernel))) rfl, W0_in (tp_1 (List.mem_of_getElem? (i := 0) (by decide +kernel))) rfl, wcw_linear⟩, ⟨by decide, by decide, by decide +kernel⟩, by decide, by decide⟩
theorem wcm_178 : gMv RL 178 z_linear 1 := ⟨⟨W0_in (tp_12 (List.mem_of_getElem? (i := 62) (by decide +kernel))) rfl, W0_in (tp_12 (List.mem_of_getElem? (i := 63) (by decide +kernel))) rfl, W0_in (tp_12 (List.mem_of_getElem? (i := 64) (by decide +kernel))) rfl, W0_in (tp_1 (List.mem_of_getElem? (i := 10) (by decide +kernel))) rfl, cw_linear⟩, ⟨by decide, by decide, by decide +kernel⟩, by decide, by decide⟩
theorem wcs_179 : gMs RL 179 zw_attempt 4 := ⟨⟨W0_in (tp_7 (List.mem_of_getElem? (i := 126) (by decide +kernel))) rfl, W0_in (tp_7 (List.mem_of_getElem? (i := 127) (by decide +kernel))) rfl, W0_in (tp_1 (List.mem_of_getElem? (i := 0) (by decide +kernel))) rfl, wcw_attempt⟩, ⟨by decide, by decide, by decide +kernel⟩, by decide, by decide⟩
theorem wcm_181 : gMv RL 181 z_attempt 2 := ⟨⟨W0_in (tp_12 (List.mem_of_getElem? (i := 86) (by decide +kernel))) rfl, W0_in (tp_12 (List.mem_of_getElem? (i := 87) (by decide +kernel))) rfl, W0_in (tp_12 (List.mem_of_getElem? (i := 88) (by decide +kernel))) rfl, W0_in (tp_1 (List.mem_of_getElem? (i := 10) (by decide +kernel))) rfl, cw_attempt⟩, ⟨by decide, by decide, by decide +kernel⟩, by decide, by decide⟩
theorem wcs_182 : gMs RL 182 zw_tried 4 := ⟨⟨W0_in (tp_8 (List.mem_of_getElem? (i := 112) (by decide +kernel))) rfl, W0_in (tp_8 (List.mem_of_getElem? (i := 113) (by decide +kernel))) rfl, W0_in (tp_1 (List.mem_of_getElem? (i := 0) (by decide +kernel))) rfl, wcw_tried⟩, ⟨by decide, by decide, by decide +kernel⟩, by decide, by decide⟩
theorem wcm_184 : gMv RL 184 z_tried 2 := ⟨⟨W0_in (tp_12 (List.mem_of_getElem? (i := 135) (by decide +kernel))) rfl, W0_in (tp_12 (List.mem_of_getElem? (i := 136) (by decide +kernel))) rfl, W0_in (tp_12 (List.mem_of_getElem? (i := 137) (by decide +kernel))) rfl, W0_in (tp_1 (List.mem_of_getElem? (i := 10) (by decide +kernel))) rfl, cw_tried⟩, ⟨by decide, by decide, by decide +kernel⟩, by decide, by decide⟩
theorem wcs_185 : gMs RL 185 zw_outcome 5 := ⟨⟨W0_in (tp_8 (List.mem_of_getElem? (i := 119) (by decide +kernel))) rfl, W0_in (tp_8 (List.mem_of_getElem? (i := 120) (by decide +kernel))) rfl, W0_in (tp_1 (List.mem_of_getElem? (i := 0) (by decide +kernel))) rfl, wcw_outcome⟩, ⟨by decide, by decide, by decide +kernel⟩, by decide, by decide⟩
theorem wcm_188 : gMv RL 188 z_outcome 3 := ⟨⟨W0_in (tp_12 (List.mem_of_getElem? (i := 139) (by decide +kernel))) rfl, W0_in (tp_12 (List.mem_of_getElem? (i := 140) (by decide +kernel))) rfl, W0_in (tp_12 (List.mem_of_getElem? (i := 141) (by decide +kernel))) rfl, W0_in (tp_1 (List.mem_of_getElem? (i := 10) (by decide +kernel))) rfl, cw_outcome⟩, ⟨by decide, by decide, by decide +kernel⟩, by decide, by decide⟩
theorem wcs_189 : gMs RL 189 zw_finding 4 := ⟨⟨W0_in (tp_8 (List.mem_of_getElem? (i := 130) (by decide +kernel))) rfl, W0_in (tp_8 (List.mem_of_getElem? (i := 131) (by decide +kernel))) rfl, W0_in (tp_1 (List.mem_of_getElem? (i := 0) (by decide +kernel))) rfl, wcw_finding⟩, ⟨by decide, by decide, by decide +kernel⟩, by decide, by decide⟩
theorem wcm_191 : gMv RL 191 z_finding 2 := ⟨⟨W0_in (tp_12 (List.mem_of_getElem? (i := 143) (by decide +kernel))) rfl, W0_in (tp_12 (List.mem_of_getElem? (i := 144) (by decide +kernel))) rfl, W0_in (tp_12 (List.mem_of_getElem? (i := 145) (by decide +kernel))) rfl, W0_in (tp_1 (List.mem_of_getElem? (i := 10) (by decide +kernel))) rfl, cw_finding⟩, ⟨by decide, by decide, by decide +kernel⟩, by decide, by decide⟩
theorem wcs_192 : gMs RL 192 zw_show 4 := ⟨⟨W0_in (tp_8 (List.mem_of_getElem? (i := 145) (by decide +kernel))) rfl, W0_in (tp_8 (List.mem_of_getElem? (i := 146) (by decide +kernel))) rfl, W0_in (tp_1 (List.mem_of_getElem? (i := 0) (by decide +kernel))) rfl, wcw_show⟩, ⟨by decide, by decide, by decide +kernel⟩, by decide, by decide⟩
theorem wcm_194 : gMv RL 194 z_show 2 := ⟨⟨W0_in (tp_12 (List.mem_of_getElem? (i := 147) (by decide +kernel))) rfl, W0_in (tp_12 (List.mem_of_getElem? (i := 148) (by decide +kernel))) rfl, W0_in (tp_12 (List.mem_of_getElem? (i := 149) (by decide +kernel))) rfl, W0_in (tp_1 (List.mem_of_getElem? (i := 10) (by decide +kernel))) rfl, cw_show⟩, ⟨by decide, by decide, by decide +kernel⟩, by decide, by decide⟩
theorem wcs_195 : gMs RL 195 zw_common 4 := ⟨⟨W0_in (tp_8 (List.mem_of_getElem? (i := 157) (by decide +kernel))) rfl, W0_in (tp_8 (List.mem_of_getElem? (i := 158) (by decide +kernel))) rfl, W0_in (tp_1 (List.mem_of_getElem? (i := 0) (by decide +kernel))) rfl, wcw_common⟩, ⟨by decide, by decide, by decide +kernel⟩, by decide, by decide⟩
theorem wcm_197 : gMv RL 197 z_common 2 := ⟨⟨W0_in (tp_12 (List.mem_of_getElem? (i := 151) (by decide +kernel))) rfl, W0_in (tp_12 (List.mem_of_getElem? (i := 152) (by decide +kernel))) rfl, W0_in (tp_12 (List.mem_of_getElem? (i := 153) (by decide +kernel))) rfl, W0_in (tp_1 (List.mem_of_getElem? (i := 10) (by decide +kernel))) rfl, cw_common⟩, ⟨by decide, by decide, by decide +kernel⟩, by decide, by decide⟩
theorem wcs_198 : gMs RL 198 zw_ring 3 := ⟨⟨W0_in (tp_8 (List.mem_of_getElem? (i := 164) (by decide +kernel))) rfl, W0_in (tp_8 (List.mem_of_getElem? (i := 165) (by decide +kernel))) rfl, W0_in (tp_1 (List.mem_of_getElem? (i := 0) (by decide +kernel))) rfl, wcw_ring⟩, ⟨by decide, by decide, by decide +kernel⟩, by decide, by decide⟩
theorem wcm_200 : gMv RL 200 z_ring 1 := ⟨⟨W0_in (tp_12 (List.mem_of_getElem? (i := 155) (by decide +kernel))) rfl, W0_in (tp_12 (List.mem_of_getElem? (i := 156) (by decide +kernel))) rfl, W0_in (tp_12 (List.mem_of_getElem? (i := 157) (by decide +kernel))) rfl, W0_in (tp_1 (List.mem_of_getElem? (i := 10) (by decide +kernel))) rfl, cw_ring⟩, ⟨by decide, by decide, by decide +kernel⟩, by decide, by decide⟩
theorem wcv_201 : gMv RL 201 zk_X11_alike 0 := ⟨⟨W0_in (tp_5 (List.mem_of_getElem? (i := 26) (by decide +kernel))) rfl, W0_in (tp_5 (List.mem_of_getElem? (i := 27) (by decide +kernel))) rfl, W0_in (tp_5 (List.mem_of_getElem? (i := 28) (by decide +kernel))) rfl, W0_in (tp_1 (List.mem_of_getElem? (i := 1) (by decide +kernel))) rfl, kcw_X11_alike⟩, ⟨by decide, by decide, by decide +kernel⟩, by decide, by decide⟩
theorem wcm_204 : gMv RL 204 z_alike 0 := ⟨⟨W0_in (tp_12 (List.mem_of_getElem? (i := 159) (by decide +kernel))) rfl, W0_in (tp_12 (List.mem_of_getElem? (i := 160) (by decide +kernel))) rfl, W0_in (tp_12 (List.mem_of_getElem? (i := 161) (by decide +kernel))) rfl, W0_in (tp_1 (List.mem_of_getElem? (i := 10) (by decide +kernel))) rfl, cw_alike⟩, ⟨by decide, by decide, by decide +kernel⟩, by decide, by decide⟩
end
section
set_option maxRecDepth 100000 in
set_option maxHeartbeats 4000000 in
theorem lc_0 {p : Program} {e : Env} {s : State} {m : MethodId} {args : Array Value} {below : List Frame} {meth : Method} {c : Code} {H : Heap} {locs : List Loc} {Q : State → Prop} {ls : Array Slot} {A : Nat → Prop} {G : kG} {x w : gd} {q : kP} {x0 m0 o0 b L k : Nat} {xs : Nat → Int32} {i : Int32} (C : gC (wE (kE G)) 1000 yLaw p room_1 s m args meth c A) (hX : va_X b L xs s s.heap) (hbl : b < s.heap.size) (hbA : ¬ A b) (hI : LI G A H x q w x0 m0 o0) (hJ : LJ k x q w) (hk : k < 64) (hS : va_S A s.heap H locs) (v1 : vp_in (i + 1) L) (v2 : vp_in (i + 2) L) (v3 : vp_in (i + 3) L) (hl : lv_has ls 7 [(4, .int i), (3, .ref o0), (2, .ref m0), (1, .ref x0), (0, .ref b)]) (kk : ∀ (x1 : gd) (q1 : kP) (w1 : gd) (H1 : Heap) (locs1 : List Loc) (ls1 : Array Slot), LI G A H1 x1 q1 w1 x0 m0 o0 → LJ (k + 1) x1 q1 w1 → va_S A s.heap H1 locs1 → lv_has ls1 7 [(4, .int i), (3, .ref o0), (2, .ref m0), (1, .ref x0), (0, .ref b)] → W p G.1 e room_1 s m args below meth c H1 locs1 (q1.ce + 200) (q1.sl + 960000) Q (F0 m 1187 ls1 [])) : W p G.1 e room_1 s m args below meth c H locs (q.ce + 200) (q.sl + 960000) Q (F0 m 168 ls []) := by
  have hx := C.1.1
  have hb : c.code = cL_law := C.1.2.1
  obtain ⟨hu, hH, hm, el, b1, b2⟩ := id hJ
  obtain ⟨C9, wr, n9, lm, hj⟩ := el
  have el := JH_J hj
  refine lv_aload_n hx hb dlw_168 rfl (lv_at hl 3 rfl) ?_
  refine lv_aload_n hx hb dlw_169 rfl (lv_at hl 4 rfl) ?_
  refine lv_iload hx hb dlw_170 (lv_at hl 0 rfl) ?_
  refine lv_iconst (v := 1) hx hb dlw_172 (by decide +kernel) ?_
  refine lv_iadd hx hb dlw_173 ?_
  refine va_sld hx hb hX hbl hbA hS (i := i + 1) v1 dlw_174 ?_
  refine lv_aload_n hx hb dlw_175 rfl (lv_at hl 4 rfl) ?_
  refine lv_iload hx hb dlw_176 (lv_at hl 0 rfl) ?_
  refine lv_iconst (v := 2) hx hb dlw_178 (by decide +kernel) ?_
  refine lv_iadd hx hb dlw_179 ?_
  refine va_sld hx hb hX hbl hbA hS (i := i + 2) v2 dlw_180 ?_
  refine lv_i2l (v := (xs (i + 2).toNatClampNeg).toInt64) hx hb dlw_181 rfl ?_
  refine lv_bipush (v := 32) hx hb dlw_182 (by decide +kernel) ?_
  refine lv_lshl (v := (xs (i + 2).toNatClampNeg).toInt64 <<< ((32 : Int32).toInt64 &&& 63)) hx hb dlw_184 rfl ?_
  refine lv_aload_n hx hb dlw_185 rfl (lv_at hl 4 rfl) ?_
  refine lv_iload hx hb dlw_186 (lv_at hl 0 rfl) ?_
  refine lv_iconst (v := 3) hx hb dlw_188 (by decide +kernel) ?_
  refine lv_iadd hx hb dlw_189 ?_
  refine va_sld hx hb hX hbl hbA hS (i := i + 3) v3 dlw_190 ?_
  refine lv_i2l (v := (xs (i + 3).toNatClampNeg).toInt64) hx hb dlw_191 rfl ?_
  refine lv_ldc2 (v := 4294967295) hx hb C.1.2.2.2.1 (C.1.2.2.2.2 _ kc_long) dlw_192 ?_
  refine lv_land hx hb dlw_195 ?_
  refine lv_lor hx hb dlw_196 ?_
  refine lv_aload_n hx hb dlw_197 rfl (lv_at hl 1 rfl) ?_
  refine LI_S C hI hu hS hl.1 [vi (xs (i + 1).toNatClampNeg), vl ((((xs (i + 2).toNatClampNeg).toInt64 <<< ((32 : Int32).toInt64 &&& 63)) ||| ((xs (i + 3).toNatClampNeg).toInt64 &&& 4294967295)))] [.int (xs (i + 1).toNatClampNeg), .long ((((xs (i + 2).toNatClampNeg).toInt64 <<< ((32 : Int32).toInt64 &&& 63)) ||| ((xs (i + 3).toNatClampNeg).toInt64 &&& 4294967295)))] (fun _ => rfl) dlw_198 wcs_105 rfl (by intro h; cases h) (Nat.le_of_ble_eq_true rfl) (kw_feed (d := 870) hu hH (xs (i + 1).toNatClampNeg) ((((xs (i + 2).toNatClampNeg).toInt64 <<< ((32 : Int32).toInt64 &&& 63)) ||| ((xs (i + 3).toNatClampNeg).toInt64 &&& 4294967295)))) (LJ_room hJ hk) (fun r1 x1 q1 H1 locs1 hI hu1 hk1 hH1 hp1 hS => ?_)
  refine lv_istore (lv' := (5, .int r1) :: [(4, .int i), (3, .ref o0), (2, .ref m0), (1, .ref x0), (0, .ref b)]) hx hb dlw_201 hl (by decide) rfl (fun ls hl => ?_)
  refine lv_aload_n hx hb dlw_203 rfl (lv_at hl 3 rfl) ?_
  refine lv_aload_n hx hb dlw_204 rfl (lv_at hl 5 rfl) ?_
  refine lv_iload hx hb dlw_205 (lv_at hl 1 rfl) ?_
  refine lv_iconst (v := 1) hx hb dlw_207 (by decide +kernel) ?_
  refine lv_iadd hx hb dlw_208 ?_
  refine va_sld hx hb hX hbl hbA hS (i := i + 1) v1 dlw_209 ?_
  refine lv_aload_n hx hb dlw_210 rfl (lv_at hl 5 rfl) ?_
  refine lv_iload hx hb dlw_211 (lv_at hl 1 rfl) ?_
  refine lv_iconst (v := 2) hx hb dlw_213 (by decide +kernel) ?_
  refine lv_iadd hx hb dlw_214 ?_
  refine va_sld hx hb hX hbl hbA hS (i := i + 2) v2 dlw_215 ?_
  refine lv_i2l (v := (xs (i + 2).toNatClampNeg).toInt64) hx hb dlw_216 rfl ?_
  refine lv_bipush (v := 32) hx hb dlw_217 (by decide +kernel) ?_
  refine lv_lshl (v := (xs (i + 2).toNatClampNeg).toInt64 <<< ((32 : Int32).toInt64 &&& 63)) hx hb dlw_219 rfl ?_
  refine lv_aload_n hx hb dlw_220 rfl (lv_at hl 5 rfl) ?_
  refine lv_iload hx hb dlw_221 (lv_at hl 1 rfl) ?_
  refine lv_iconst (v := 3) hx hb dlw_223 (by decide +kernel) ?_
  refine lv_iadd hx hb dlw_224 ?_
  refine va_sld hx hb hX hbl hbA hS (i := i + 3) v3 dlw_225 ?_
  refine lv_i2l (v := (xs (i + 3).toNatClampNeg).toInt64) hx hb dlw_226 rfl ?_
  refine lv_ldc2 (v := 4294967295) hx hb C.1.2.2.2.1 (C.1.2.2.2.2 _ kc_long) dlw_227 ?_
  refine lv_land hx hb dlw_230 ?_
  refine lv_lor hx hb dlw_231 ?_
  refine LI_M C hI hS hl.1 (restv := []) (d1 := 900) (F := fun _ w1 => MI w1 ∧ (okF w (xs (i + 1).toNatClampNeg) → ((w1.1 0 2 = w.1 0 2 + xs (i + 1).toNatClampNeg ∧ FBm w ((((xs (i + 2).toNatClampNeg).toInt64 <<< ((32 : Int32).toInt64 &&& 63)) ||| ((xs (i + 3).toNatClampNeg).toInt64 &&& 4294967295))) (xs (i + 1).toNatClampNeg).toNatClampNeg w1) ∧ w1.1 0 66 = 0 ∧ z5 w1) ∧ ZM w1) ∧ (¬ okF w (xs (i + 1).toNatClampNeg) → rdM C9 wr w w1)) [vi (xs (i + 1).toNatClampNeg), vl ((((xs (i + 2).toNatClampNeg).toInt64 <<< ((32 : Int32).toInt64 &&& 63)) ||| ((xs (i + 3).toNatClampNeg).toInt64 &&& 4294967295)))] [.int (xs (i + 1).toNatClampNeg), .long ((((xs (i + 2).toNatClampNeg).toInt64 <<< ((32 : Int32).toInt64 &&& 63)) ||| ((xs (i + 3).toNatClampNeg).toInt64 &&& 4294967295)))] (fun _ => rfl) dlw_232 wcm_110 rfl rfl (Nat.le_of_ble_eq_true rfl) (by decide) (by omega) (sp_feed (d := 899) (xs (i + 1).toNatClampNeg) ((((xs (i + 2).toNatClampNeg).toInt64 <<< ((32 : Int32).toInt64 &&& 63)) ||| ((xs (i + 3).toNatClampNeg).toInt64 &&& 4294967295))) hm.1 (fun hn w1 hmd _ => ⟨(MI_0 (mi_of hmd) hm).1, fun e9 => absurd e9 hn, fun _ => rd_0 (mi_of hmd) hm⟩) (fun hy w1 hg _ e9 => ⟨MI_wG hg, fun _ => ⟨⟨e9, hg.2.1, hg.2.2.2.2.2⟩, hg.2.2.1, hg.2.2.2.1, hg.2.2.2.2.1⟩, fun e8 => absurd hy e8⟩)) ⟨(LJ_room hJ hk q1 hu1 hk1).1, (LJ_room hJ hk q1 hu1 hk1).2⟩ (fun r2 w1 H1 locs1 hI hpm hS => ?_)
  refine lv_istore (lv' := (6, .int r2) :: (5, .int r1) :: [(4, .int i), (3, .ref o0), (2, .ref m0), (1, .ref x0), (0, .ref b)]) hx hb dlw_235 hl (by decide) rfl (fun ls hl => ?_)
  refine lv_goto (tgt := 1187) hx hb dlw_237 (by decide) ?_
  refine kk x1 q1 w1 H1 locs1 ls hI (LJ_next hJ hu1 hk1 hH1 hpm.1 ?_) hS (lv_tl (lv_tl hl))
  by_cases ho : okk x (xs (i + 1).toNatClampNeg)
  · have hoF : okF w (xs (i + 1).toNatClampNeg) := by
      unfold okk at ho; unfold okF; rw [← el.1.1]; exact ho
    obtain ⟨⟨a1, a2, a3⟩, a4⟩ := hp1.1 ho
    obtain ⟨⟨⟨c1, c2⟩, c3, c4⟩, c5⟩ := hpm.2.1 hoF
    have hL := hH.1
    unfold kL at hL
    unfold okk at ho
    exact JR3_z (JR_feed el ho hL.1 a1 a2 a3 c1 c2 c3 c4) a4 c5
  · have hoF : ¬ okF w (xs (i + 1).toNatClampNeg) := fun h => ho (by unfold okF at h; unfold okk; rw [el.1.1]; exact h)
    exact JQ_rd hj hH1 (hp1.2 ho) (hpm.2.2 hoF)
set_option maxRecDepth 100000 in
set_option maxHeartbeats 4000000 in
theorem lc_1 {p : Program} {e : Env} {s : State} {m : MethodId} {args : Array Value} {below : List Frame} {meth : Method} {c : Code} {H : Heap} {locs : List Loc} {Q : State → Prop} {ls : Array Slot} {A : Nat → Prop} {G : kG} {x w : gd} {q : kP} {x0 m0 o0 b L k : Nat} {xs : Nat → Int32} {i : Int32} (C : gC (wE (kE G)) 1000 yLaw p room_1 s m args meth c A) (hX : va_X b L xs s s.heap) (hbl : b < s.heap.size) (hbA : ¬ A b) (hI : LI G A H x q w x0 m0 o0) (hJ : LJ k x q w) (hk : k < 64) (hS : va_S A s.heap H locs) (v1 : vp_in (i + 1) L) (v2 : vp_in (i + 2) L) (v3 : vp_in (i + 3) L) (hl : lv_has ls 7 [(4, .int i), (3, .ref o0), (2, .ref m0), (1, .ref x0), (0, .ref b)]) (kk : ∀ (x1 : gd) (q1 : kP) (w1 : gd) (H1 : Heap) (locs1 : List Loc) (ls1 : Array Slot), LI G A H1 x1 q1 w1 x0 m0 o0 → LJ (k + 1) x1 q1 w1 → va_S A s.heap H1 locs1 → lv_has ls1 7 [(4, .int i), (3, .ref o0), (2, .ref m0), (1, .ref x0), (0, .ref b)] → W p G.1 e room_1 s m args below meth c H1 locs1 (q1.ce + 200) (q1.sl + 960000) Q (F0 m 1187 ls1 [])) : W p G.1 e room_1 s m args below meth c H locs (q.ce + 200) (q.sl + 960000) Q (F0 m 240 ls []) := by
  have hx := C.1.1
  have hb : c.code = cL_law := C.1.2.1
  obtain ⟨hu, hH, hm, el, b1, b2⟩ := id hJ
  obtain ⟨C9, wr, n9, lm, hj⟩ := el
  have el := JH_J hj
  refine lv_aload_n hx hb dlw_240 rfl (lv_at hl 3 rfl) ?_
  refine LI_K C hI hu hS hl.1 (restv := []) (P := fun r9 y9 _ => r9 = x.1 20 1 ∧ ((y9.1 20 1 = 0 ∧ y9.1 0 9 = 0) ∧ ZR y9)) dlw_241 wcv_111 rfl (Nat.le_of_ble_eq_true rfl) (by decide) (T_mono (kr_wipe (d := 899) hu.1 hH (P := fun v9 y9 => v9 = some (vi (x.1 20 1)) ∧ HOI y9 q ∧ ((y9.1 20 1 = 0 ∧ y9.1 0 9 = 0) ∧ ZR y9)) (fun y9 h1 h2 => ⟨rfl, h1, h2⟩)) (fun o9 x9 f9 w9 => by obtain ⟨rfl, v, rfl, rfl, h1, h2⟩ := w9; exact ⟨_, q, rfl, rfl, hu, kst_rf q, h1, rfl, h2⟩)) (LJ_room hJ hk) (fun r1 x1 x2 q1 H1 locs1 hI hu1 hk1 hH1 hp1 ex hS => ?_)
  refine lv_pop hx hb dlw_244 rfl ?_
  refine lv_aload_n hx hb dlw_245 rfl (lv_at hl 2 rfl) ?_
  refine LI_M C hI hS hl.1 (restv := []) (d1 := 900) (F := fun r9 w1 => r9 = w.1 0 2 ∧ MI w1 ∧ ((w1.1 0 2 = 0 ∧ w1.1 0 66 = 0 ∧ z5 w1) ∧ ZM w1)) [] [] (fun _ => rfl) dlw_246 wcm_114 rfl rfl (Nat.le_of_ble_eq_true rfl) (by decide) (by omega) (sp_wipe (d := 899) hm.1 (fun w1 hg e9 => ⟨rfl, MI_wG hg, ⟨e9, hg.2.1, hg.2.2.2.2.2⟩, hg.2.2.1, hg.2.2.2.1, hg.2.2.2.2.1⟩)) ⟨(LJ_room hJ hk q1 hu1 hk1).1, (LJ_room hJ hk q1 hu1 hk1).2⟩ (fun r2 w1 H1 locs1 hI hpm hS => ?_)
  refine lv_pop hx hb dlw_249 rfl ?_
  refine lv_goto (tgt := 1187) hx hb dlw_250 (by decide) ?_
  exact kk x1 q1 w1 H1 locs1 ls hI (LJ_next hJ hu1 hk1 hH1 hpm.2.1 (JR3_x ex (JR3_z (JR_wipe hp1.2.1.1 hp1.2.1.2 hpm.2.2.1.1 hpm.2.2.1.2.1 hpm.2.2.1.2.2) hp1.2.2 hpm.2.2.2))) hS hl
set_option maxRecDepth 100000 in
set_option maxHeartbeats 4000000 in
theorem lc_2 {p : Program} {e : Env} {s : State} {m : MethodId} {args : Array Value} {below : List Frame} {meth : Method} {c : Code} {H : Heap} {locs : List Loc} {Q : State → Prop} {ls : Array Slot} {A : Nat → Prop} {G : kG} {x w : gd} {q : kP} {x0 m0 o0 b L k : Nat} {xs : Nat → Int32} {i : Int32} (C : gC (wE (kE G)) 1000 yLaw p room_1 s m args meth c A) (hX : va_X b L xs s s.heap) (hbl : b < s.heap.size) (hbA : ¬ A b) (hI : LI G A H x q w x0 m0 o0) (hJ : LJ k x q w) (hk : k < 64) (hS : va_S A s.heap H locs) (v1 : vp_in (i + 1) L) (v2 : vp_in (i + 2) L) (v3 : vp_in (i + 3) L) (hl : lv_has ls 7 [(4, .int i), (3, .ref o0), (2, .ref m0), (1, .ref x0), (0, .ref b)]) (kk : ∀ (x1 : gd) (q1 : kP) (w1 : gd) (H1 : Heap) (locs1 : List Loc) (ls1 : Array Slot), LI G A H1 x1 q1 w1 x0 m0 o0 → LJ (k + 1) x1 q1 w1 → va_S A s.heap H1 locs1 → lv_has ls1 7 [(4, .int i), (3, .ref o0), (2, .ref m0), (1, .ref x0), (0, .ref b)] → W p G.1 e room_1 s m args below meth c H1 locs1 (q1.ce + 200) (q1.sl + 960000) Q (F0 m 1187 ls1 [])) : W p G.1 e room_1 s m args below meth c H locs (q.ce + 200) (q.sl + 960000) Q (F0 m 253 ls []) := by
  have hx := C.1.1
  have hb : c.code = cL_law := C.1.2.1
  obtain ⟨hu, hH, hm, el, b1, b2⟩ := id hJ
  obtain ⟨C9, wr, n9, lm, hj⟩ := el
  have el := JH_J hj
  refine lv_aload_n hx hb dlw_253 rfl (lv_at hl 3 rfl) ?_
  refine LI_K C hI hu hS hl.1 (restv := []) (P := fun _ y9 _ => y9.1 20 1 = x.1 20 1 ∧ CCf x y9 ∧ ZR y9) dlw_254 wcv_115 rfl (Nat.le_of_ble_eq_true rfl) (by decide) (T_mono (kr_compile (d := 886) hu hH (P := fun v9 y9 q9 => ∃ r, v9 = some (vi r) ∧ kU q9 ∧ kst q q9 ∧ HOI y9 q9 ∧ (y9.1 20 1 = x.1 20 1 ∧ CCf x y9 ∧ ZR y9)) (X := fun _ _ _ => False) (fun r y9 q9 hq9 g1 g2 g3 g4 g5 => ⟨r, rfl, g1, by rcases hq9 with e9 | e9 <;> rw [e9] <;> first | exact kst_rf q | exact kst_th q, g2, g3, g4, g5⟩)) (fun o9 x9 f9 w9 => by
    obtain ⟨q9, ⟨rfl, v, rfl, r, rfl, g1, g2, g3, g4⟩ | ⟨-, c9, -, hf⟩⟩ := w9
    · exact ⟨r, q9, rfl, rfl, g1, g2, g3, g4⟩
    · exact hf.elim)) (LJ_room hJ hk) (fun r1 x1 x2 q1 H1 locs1 hI hu1 hk1 hH1 hp1 ex hS => ?_)
  refine lv_pop hx hb dlw_257 rfl ?_
  refine lv_aload_n hx hb dlw_258 rfl (lv_at hl 2 rfl) ?_
  refine LI_M C hI hS hl.1 (restv := []) (d1 := 900) (F := fun _ w1 => ((MI w1 ∧ w1.1 0 2 = w.1 0 2) ∧ ZM w1) ∧ MCf w w1) [] [] (fun _ => rfl) dlw_259 wcm_118 rfl rfl (Nat.le_of_ble_eq_true rfl) (by decide) (by omega) (sf_compile (by omega) hm.1 (fun _ _ h h2 => ⟨⟨MI_cG h, h.2.2.2.1, h.2.2.2.2.1, h.2.2.2.2.2⟩, h2⟩)) ⟨(LJ_room hJ hk q1 hu1 hk1).1, (LJ_room hJ hk q1 hu1 hk1).2⟩ (fun r2 w1 H1 locs1 hI hpm hS => ?_)
  refine lv_pop hx hb dlw_262 rfl ?_
  refine lv_goto (tgt := 1187) hx hb dlw_263 (by decide) ?_
  exact kk x1 q1 w1 H1 locs1 ls hI (LJ_next hJ hu1 hk1 hH1 hpm.1.1.1 (JR3_x ex (JR3_z (JR_comp el.1 hp1.2.1 hp1.1 hpm.2 hpm.1.1.2 hpm.1.1.1.2.1) hp1.2.2 hpm.1.2))) hS hl
set_option maxRecDepth 100000 in
set_option maxHeartbeats 4000000 in
theorem lc_3 {p : Program} {e : Env} {s : State} {m : MethodId} {args : Array Value} {below : List Frame} {meth : Method} {c : Code} {H : Heap} {locs : List Loc} {Q : State → Prop} {ls : Array Slot} {A : Nat → Prop} {G : kG} {x w : gd} {q : kP} {x0 m0 o0 b L k : Nat} {xs : Nat → Int32} {i : Int32} (C : gC (wE (kE G)) 1000 yLaw p room_1 s m args meth c A) (hX : va_X b L xs s s.heap) (hbl : b < s.heap.size) (hbA : ¬ A b) (hI : LI G A H x q w x0 m0 o0) (hJ : LJ k x q w) (hk : k < 64) (hS : va_S A s.heap H locs) (v1 : vp_in (i + 1) L) (v2 : vp_in (i + 2) L) (v3 : vp_in (i + 3) L) (hl : lv_has ls 7 [(4, .int i), (3, .ref o0), (2, .ref m0), (1, .ref x0), (0, .ref b)]) (kk : ∀ (x1 : gd) (q1 : kP) (w1 : gd) (H1 : Heap) (locs1 : List Loc) (ls1 : Array Slot), LI G A H1 x1 q1 w1 x0 m0 o0 → LJ (k + 1) x1 q1 w1 → va_S A s.heap H1 locs1 → lv_has ls1 7 [(4, .int i), (3, .ref o0), (2, .ref m0), (1, .ref x0), (0, .ref b)] → W p G.1 e room_1 s m args below meth c H1 locs1 (q1.ce + 200) (q1.sl + 960000) Q (F0 m 1187 ls1 [])) : W p G.1 e room_1 s m args below meth c H locs (q.ce + 200) (q.sl + 960000) Q (F0 m 266 ls []) := by
  have hx := C.1.1
  have hb : c.code = cL_law := C.1.2.1
  obtain ⟨hu, hH, hm, el, b1, b2⟩ := id hJ
  obtain ⟨C9, wr, n9, lm, hj⟩ := el
  have el := JH_J hj
  refine lv_aload_n hx hb dlw_266 rfl (lv_at hl 3 rfl) ?_
  refine lv_aload_n hx hb dlw_267 rfl (lv_at hl 4 rfl) ?_
  refine lv_iload hx hb dlw_268 (lv_at hl 0 rfl) ?_
  refine lv_iconst (v := 1) hx hb dlw_270 (by decide +kernel) ?_
  refine lv_iadd hx hb dlw_271 ?_
  refine va_sld hx hb hX hbl hbA hS (i := i + 1) v1 dlw_272 ?_
  refine lv_aload_n hx hb dlw_273 rfl (lv_at hl 1 rfl) ?_
  refine LI_S C hI hu hS hl.1 [vi (xs (i + 1).toNatClampNeg)] [.int (xs (i + 1).toNatClampNeg)] (fun _ => rfl) dlw_274 wcs_119 rfl (by intro h; cases h) (Nat.le_of_ble_eq_true rfl) (kw_fault (d := 870) hu hH (xs (i + 1).toNatClampNeg)) (LJ_room hJ hk) (fun r1 x1 q1 H1 locs1 hI hu1 hk1 hH1 hp1 hS => ?_)
  refine lv_istore (lv' := (5, .int r1) :: [(4, .int i), (3, .ref o0), (2, .ref m0), (1, .ref x0), (0, .ref b)]) hx hb dlw_277 hl (by decide) rfl (fun ls hl => ?_)
  refine lv_aload_n hx hb dlw_279 rfl (lv_at hl 3 rfl) ?_
  refine lv_aload_n hx hb dlw_280 rfl (lv_at hl 5 rfl) ?_
  refine lv_iload hx hb dlw_281 (lv_at hl 1 rfl) ?_
  refine lv_iconst (v := 1) hx hb dlw_283 (by decide +kernel) ?_
  refine lv_iadd hx hb dlw_284 ?_
  refine va_sld hx hb hX hbl hbA hS (i := i + 1) v1 dlw_285 ?_
  refine LI_M C hI hS hl.1 (restv := []) (d1 := 900) (F := fun _ w1 => rdM C9 wr w w1) [vi (xs (i + 1).toNatClampNeg)] [.int (xs (i + 1).toNatClampNeg)] (fun _ => rfl) dlw_286 wcm_122 rfl rfl (Nat.le_of_ble_eq_true rfl) (by decide) (by omega) (sr_fault2 (D := 899) hm (xs (i + 1).toNatClampNeg) (fun _ _ h => h)) ⟨(LJ_room hJ hk q1 hu1 hk1).1, (LJ_room hJ hk q1 hu1 hk1).2⟩ (fun r2 w1 H1 locs1 hI hpm hS => ?_)
  refine lv_istore (lv' := (6, .int r2) :: (5, .int r1) :: [(4, .int i), (3, .ref o0), (2, .ref m0), (1, .ref x0), (0, .ref b)]) hx hb dlw_289 hl (by decide) rfl (fun ls hl => ?_)
  refine lv_goto (tgt := 1187) hx hb dlw_291 (by decide) ?_
  exact kk x1 q1 w1 H1 locs1 ls hI (LJ_next hJ hu1 hk1 hH1 hpm.1.1 (JQ_rd hj hH1 hp1 hpm)) hS (lv_tl (lv_tl hl))
set_option maxRecDepth 100000 in
set_option maxHeartbeats 4000000 in
theorem lc_4 {p : Program} {e : Env} {s : State} {m : MethodId} {args : Array Value} {below : List Frame} {meth : Method} {c : Code} {H : Heap} {locs : List Loc} {Q : State → Prop} {ls : Array Slot} {A : Nat → Prop} {G : kG} {x w : gd} {q : kP} {x0 m0 o0 b L k : Nat} {xs : Nat → Int32} {i : Int32} (C : gC (wE (kE G)) 1000 yLaw p room_1 s m args meth c A) (hX : va_X b L xs s s.heap) (hbl : b < s.heap.size) (hbA : ¬ A b) (hI : LI G A H x q w x0 m0 o0) (hJ : LJ k x q w) (hk : k < 64) (hS : va_S A s.heap H locs) (v1 : vp_in (i + 1) L) (v2 : vp_in (i + 2) L) (v3 : vp_in (i + 3) L) (hl : lv_has ls 7 [(4, .int i), (3, .ref o0), (2, .ref m0), (1, .ref x0), (0, .ref b)]) (kk : ∀ (x1 : gd) (q1 : kP) (w1 : gd) (H1 : Heap) (locs1 : List Loc) (ls1 : Array Slot), LI G A H1 x1 q1 w1 x0 m0 o0 → LJ (k + 1) x1 q1 w1 → va_S A s.heap H1 locs1 → lv_has ls1 7 [(4, .int i), (3, .ref o0), (2, .ref m0), (1, .ref x0), (0, .ref b)] → W p G.1 e room_1 s m args below meth c H1 locs1 (q1.ce + 200) (q1.sl + 960000) Q (F0 m 1187 ls1 [])) : W p G.1 e room_1 s m args below meth c H locs (q.ce + 200) (q.sl + 960000) Q (F0 m 294 ls []) := by
  have hx := C.1.1
  have hb : c.code = cL_law := C.1.2.1
  obtain ⟨hu, hH, hm, el, b1, b2⟩ := id hJ
  obtain ⟨C9, wr, n9, lm, hj⟩ := el
  have el := JH_J hj
  refine lv_aload_n hx hb dlw_294 rfl (lv_at hl 3 rfl) ?_
  refine lv_aload_n hx hb dlw_295 rfl (lv_at hl 4 rfl) ?_
  refine lv_iload hx hb dlw_296 (lv_at hl 0 rfl) ?_
  refine lv_iconst (v := 1) hx hb dlw_298 (by decide +kernel) ?_
  refine lv_iadd hx hb dlw_299 ?_
  refine va_sld hx hb hX hbl hbA hS (i := i + 1) v1 dlw_300 ?_
  refine lv_aload_n hx hb dlw_301 rfl (lv_at hl 1 rfl) ?_
  refine LI_S C hI hu hS hl.1 [vi (xs (i + 1).toNatClampNeg)] [.int (xs (i + 1).toNatClampNeg)] (fun _ => rfl) dlw_302 wcs_123 rfl (by intro h; cases h) (Nat.le_of_ble_eq_true rfl) (kw_count (d := 870) hu hH (xs (i + 1).toNatClampNeg)) (LJ_room hJ hk) (fun r1 x1 q1 H1 locs1 hI hu1 hk1 hH1 hp1 hS => ?_)
  refine lv_istore (lv' := (5, .int r1) :: [(4, .int i), (3, .ref o0), (2, .ref m0), (1, .ref x0), (0, .ref b)]) hx hb dlw_305 hl (by decide) rfl (fun ls hl => ?_)
  refine lv_aload_n hx hb dlw_307 rfl (lv_at hl 3 rfl) ?_
  refine lv_aload_n hx hb dlw_308 rfl (lv_at hl 5 rfl) ?_
  refine lv_iload hx hb dlw_309 (lv_at hl 1 rfl) ?_
  refine lv_iconst (v := 1) hx hb dlw_311 (by decide +kernel) ?_
  refine lv_iadd hx hb dlw_312 ?_
  refine va_sld hx hb hX hbl hbA hS (i := i + 1) v1 dlw_313 ?_
  refine LI_M C hI hS hl.1 (restv := []) (d1 := 900) (F := fun _ w1 => rdM C9 wr w w1) [vi (xs (i + 1).toNatClampNeg)] [.int (xs (i + 1).toNatClampNeg)] (fun _ => rfl) dlw_314 wcm_125 rfl rfl (Nat.le_of_ble_eq_true rfl) (by decide) (by omega) (sr_count (D := 899) hm (xs (i + 1).toNatClampNeg) (fun _ _ h _ => h)) ⟨(LJ_room hJ hk q1 hu1 hk1).1, (LJ_room hJ hk q1 hu1 hk1).2⟩ (fun r2 w1 H1 locs1 hI hpm hS => ?_)
  refine lv_istore (lv' := (6, .int r2) :: (5, .int r1) :: [(4, .int i), (3, .ref o0), (2, .ref m0), (1, .ref x0), (0, .ref b)]) hx hb dlw_317 hl (by decide) rfl (fun ls hl => ?_)
  refine lv_goto (tgt := 1187) hx hb dlw_319 (by decide) ?_
  exact kk x1 q1 w1 H1 locs1 ls hI (LJ_next hJ hu1 hk1 hH1 hpm.1.1 (JQ_rd hj hH1 hp1 hpm)) hS (lv_tl (lv_tl hl))
set_option maxRecDepth 100000 in
set_option maxHeartbeats 4000000 in
theorem lc_5 {p : Program} {e : Env} {s : State} {m : MethodId} {args : Array Value} {below : List Frame} {meth : Method} {c : Code} {H : Heap} {locs : List Loc} {Q : State → Prop} {ls : Array Slot} {A : Nat → Prop} {G : kG} {x w : gd} {q : kP} {x0 m0 o0 b L k : Nat} {xs : Nat → Int32} {i : Int32} (C : gC (wE (kE G)) 1000 yLaw p room_1 s m args meth c A) (hX : va_X b L xs s s.heap) (hbl : b < s.heap.size) (hbA : ¬ A b) (hI : LI G A H x q w x0 m0 o0) (hJ : LJ k x q w) (hk : k < 64) (hS : va_S A s.heap H locs) (v1 : vp_in (i + 1) L) (v2 : vp_in (i + 2) L) (v3 : vp_in (i + 3) L) (hl : lv_has ls 7 [(4, .int i), (3, .ref o0), (2, .ref m0), (1, .ref x0), (0, .ref b)]) (kk : ∀ (x1 : gd) (q1 : kP) (w1 : gd) (H1 : Heap) (locs1 : List Loc) (ls1 : Array Slot), LI G A H1 x1 q1 w1 x0 m0 o0 → LJ (k + 1) x1 q1 w1 → va_S A s.heap H1 locs1 → lv_has ls1 7 [(4, .int i), (3, .ref o0), (2, .ref m0), (1, .ref x0), (0, .ref b)] → W p G.1 e room_1 s m args below meth c H1 locs1 (q1.ce + 200) (q1.sl + 960000) Q (F0 m 1187 ls1 [])) : W p G.1 e room_1 s m args below meth c H locs (q.ce + 200) (q.sl + 960000) Q (F0 m 322 ls []) := by
  have hx := C.1.1
  have hb : c.code = cL_law := C.1.2.1
  obtain ⟨hu, hH, hm, el, b1, b2⟩ := id hJ
  obtain ⟨C9, wr, n9, lm, hj⟩ := el
  have el := JH_J hj
  refine lv_aload_n hx hb dlw_322 rfl (lv_at hl 3 rfl) ?_
  refine lv_aload_n hx hb dlw_323 rfl (lv_at hl 4 rfl) ?_
  refine lv_iload hx hb dlw_324 (lv_at hl 0 rfl) ?_
  refine lv_iconst (v := 1) hx hb dlw_326 (by decide +kernel) ?_
  refine lv_iadd hx hb dlw_327 ?_
  refine va_sld hx hb hX hbl hbA hS (i := i + 1) v1 dlw_328 ?_
  refine lv_aload_n hx hb dlw_329 rfl (lv_at hl 1 rfl) ?_
  refine LI_S C hI hu hS hl.1 [vi (xs (i + 1).toNatClampNeg)] [.int (xs (i + 1).toNatClampNeg)] (fun _ => rfl) dlw_330 wcs_126 rfl (by intro h; cases h) (Nat.le_of_ble_eq_true rfl) (kw_begin (d := 870) hj hu hH (xs (i + 1).toNatClampNeg)) (LJ_room hJ hk) (fun r1 x1 q1 H1 locs1 hI hu1 hk1 hH1 hp1 hS => ?_)
  refine lv_istore (lv' := (5, .int r1) :: [(4, .int i), (3, .ref o0), (2, .ref m0), (1, .ref x0), (0, .ref b)]) hx hb dlw_333 hl (by decide) rfl (fun ls hl => ?_)
  refine lv_aload_n hx hb dlw_335 rfl (lv_at hl 3 rfl) ?_
  refine lv_aload_n hx hb dlw_336 rfl (lv_at hl 5 rfl) ?_
  refine lv_iload hx hb dlw_337 (lv_at hl 1 rfl) ?_
  refine lv_iconst (v := 1) hx hb dlw_339 (by decide +kernel) ?_
  refine lv_iadd hx hb dlw_340 ?_
  refine va_sld hx hb hX hbl hbA hS (i := i + 1) v1 dlw_341 ?_
  refine LI_M C hI hS hl.1 (restv := []) (d1 := 900) (F := fun r9 w1 => ansM C9 wr (f1Bg w) (f2Bg w (xs (i + 1).toNatClampNeg)) (tBg C9 w (xs (i + 1).toNatClampNeg)) w r9 w1) [vi (xs (i + 1).toNatClampNeg)] [.int (xs (i + 1).toNatClampNeg)] (fun _ => rfl) dlw_342 wcm_128 rfl rfl (Nat.le_of_ble_eq_true rfl) (by decide) (by omega) (ma_begin hj hH hm (xs (i + 1).toNatClampNeg) (by omega) (fun _ _ h1 => h1)) ⟨(LJ_room hJ hk q1 hu1 hk1).1, (LJ_room hJ hk q1 hu1 hk1).2⟩ (fun r2 w1 H1 locs1 hI hpm hS => ?_)
  have hj2 := ja_begin hj hH1 hp1 hpm
  refine lv_istore (lv' := (6, .int r2) :: (5, .int r1) :: [(4, .int i), (3, .ref o0), (2, .ref m0), (1, .ref x0), (0, .ref b)]) hx hb dlw_345 hl (by decide) rfl (fun ls hl => ?_)
  refine lv_goto (tgt := 1187) hx hb dlw_347 (by decide) ?_
  exact kk x1 q1 w1 H1 locs1 ls hI (LJ_next hJ hu1 hk1 hH1 hpm.1 hj2.1) hS (lv_tl (lv_tl hl))
set_option maxRecDepth 100000 in
set_option maxHeartbeats 4000000 in
theorem lc_6 {p : Program} {e : Env} {s : State} {m : MethodId} {args : Array Value} {below : List Frame} {meth : Method} {c : Code} {H : Heap} {locs : List Loc} {Q : State → Prop} {ls : Array Slot} {A : Nat → Prop} {G : kG} {x w : gd} {q : kP} {x0 m0 o0 b L k : Nat} {xs : Nat → Int32} {i : Int32} (C : gC (wE (kE G)) 1000 yLaw p room_1 s m args meth c A) (hX : va_X b L xs s s.heap) (hbl : b < s.heap.size) (hbA : ¬ A b) (hI : LI G A H x q w x0 m0 o0) (hJ : LJ k x q w) (hk : k < 64) (hS : va_S A s.heap H locs) (v1 : vp_in (i + 1) L) (v2 : vp_in (i + 2) L) (v3 : vp_in (i + 3) L) (hl : lv_has ls 7 [(4, .int i), (3, .ref o0), (2, .ref m0), (1, .ref x0), (0, .ref b)]) (kk : ∀ (x1 : gd) (q1 : kP) (w1 : gd) (H1 : Heap) (locs1 : List Loc) (ls1 : Array Slot), LI G A H1 x1 q1 w1 x0 m0 o0 → LJ (k + 1) x1 q1 w1 → va_S A s.heap H1 locs1 → lv_has ls1 7 [(4, .int i), (3, .ref o0), (2, .ref m0), (1, .ref x0), (0, .ref b)] → W p G.1 e room_1 s m args below meth c H1 locs1 (q1.ce + 200) (q1.sl + 960000) Q (F0 m 1187 ls1 [])) : W p G.1 e room_1 s m args below meth c H locs (q.ce + 200) (q.sl + 960000) Q (F0 m 350 ls []) := by
  have hx := C.1.1
  have hb : c.code = cL_law := C.1.2.1
  obtain ⟨hu, hH, hm, el, b1, b2⟩ := id hJ
  obtain ⟨C9, wr, n9, lm, hj⟩ := el
  have el := JH_J hj
  refine lv_aload_n hx hb dlw_350 rfl (lv_at hl 3 rfl) ?_
  refine lv_aload_n hx hb dlw_351 rfl (lv_at hl 1 rfl) ?_
  refine LI_S C hI hu hS hl.1 [] [] (fun _ => rfl) dlw_352 wcs_129 rfl (by intro h; cases h) (Nat.le_of_ble_eq_true rfl) (kw_choices (d := 870) hu hH ) (LJ_room hJ hk) (fun r1 x1 q1 H1 locs1 hI hu1 hk1 hH1 hp1 hS => ?_)
  refine lv_istore (lv' := (5, .int r1) :: [(4, .int i), (3, .ref o0), (2, .ref m0), (1, .ref x0), (0, .ref b)]) hx hb dlw_355 hl (by decide) rfl (fun ls hl => ?_)
  refine lv_aload_n hx hb dlw_357 rfl (lv_at hl 3 rfl) ?_
  refine LI_M C hI hS hl.1 (restv := []) (d1 := 900) (F := fun r9 w1 => ansM C9 wr (f1Ch w) (False) (tCh C9 wr w) w r9 w1) [] [] (fun _ => rfl) dlw_358 wcm_132 rfl rfl (Nat.le_of_ble_eq_true rfl) (by decide) (by omega) (ma_choices hm  (by omega) (fun _ _ h1 => h1)) ⟨(LJ_room hJ hk q1 hu1 hk1).1, (LJ_room hJ hk q1 hu1 hk1).2⟩ (fun r2 w1 H1 locs1 hI hpm hS => ?_)
  have hj2 := ja_choices hj hH1 hp1 hpm
  refine lv_istore (lv' := (6, .int r2) :: (5, .int r1) :: [(4, .int i), (3, .ref o0), (2, .ref m0), (1, .ref x0), (0, .ref b)]) hx hb dlw_361 hl (by decide) rfl (fun ls hl => ?_)
  refine lv_goto (tgt := 1187) hx hb dlw_363 (by decide) ?_
  exact kk x1 q1 w1 H1 locs1 ls hI (LJ_next hJ hu1 hk1 hH1 hpm.1 hj2.1) hS (lv_tl (lv_tl hl))
set_option maxRecDepth 100000 in
set_option maxHeartbeats 4000000 in
theorem lc_7 {p : Program} {e : Env} {s : State} {m : MethodId} {args : Array Value} {below : List Frame} {meth : Method} {c : Code} {H : Heap} {locs : List Loc} {Q : State → Prop} {ls : Array Slot} {A : Nat → Prop} {G : kG} {x w : gd} {q : kP} {x0 m0 o0 b L k : Nat} {xs : Nat → Int32} {i : Int32} (C : gC (wE (kE G)) 1000 yLaw p room_1 s m args meth c A) (hX : va_X b L xs s s.heap) (hbl : b < s.heap.size) (hbA : ¬ A b) (hI : LI G A H x q w x0 m0 o0) (hJ : LJ k x q w) (hk : k < 64) (hS : va_S A s.heap H locs) (v1 : vp_in (i + 1) L) (v2 : vp_in (i + 2) L) (v3 : vp_in (i + 3) L) (hl : lv_has ls 7 [(4, .int i), (3, .ref o0), (2, .ref m0), (1, .ref x0), (0, .ref b)]) (kk : ∀ (x1 : gd) (q1 : kP) (w1 : gd) (H1 : Heap) (locs1 : List Loc) (ls1 : Array Slot), LI G A H1 x1 q1 w1 x0 m0 o0 → LJ (k + 1) x1 q1 w1 → va_S A s.heap H1 locs1 → lv_has ls1 7 [(4, .int i), (3, .ref o0), (2, .ref m0), (1, .ref x0), (0, .ref b)] → W p G.1 e room_1 s m args below meth c H1 locs1 (q1.ce + 200) (q1.sl + 960000) Q (F0 m 1187 ls1 [])) : W p G.1 e room_1 s m args below meth c H locs (q.ce + 200) (q.sl + 960000) Q (F0 m 366 ls []) := by
  have hx := C.1.1
  have hb : c.code = cL_law := C.1.2.1
  obtain ⟨hu, hH, hm, el, b1, b2⟩ := id hJ
  obtain ⟨C9, wr, n9, lm, hj⟩ := el
  have el := JH_J hj
  refine lv_aload_n hx hb dlw_366 rfl (lv_at hl 3 rfl) ?_
  refine lv_aload_n hx hb dlw_367 rfl (lv_at hl 4 rfl) ?_
  refine lv_iload hx hb dlw_368 (lv_at hl 0 rfl) ?_
  refine lv_iconst (v := 1) hx hb dlw_370 (by decide +kernel) ?_
  refine lv_iadd hx hb dlw_371 ?_
  refine va_sld hx hb hX hbl hbA hS (i := i + 1) v1 dlw_372 ?_
  refine lv_aload_n hx hb dlw_373 rfl (lv_at hl 4 rfl) ?_
  refine lv_iload hx hb dlw_374 (lv_at hl 0 rfl) ?_
  refine lv_iconst (v := 2) hx hb dlw_376 (by decide +kernel) ?_
  refine lv_iadd hx hb dlw_377 ?_
  refine va_sld hx hb hX hbl hbA hS (i := i + 2) v2 dlw_378 ?_
  refine lv_aload_n hx hb dlw_379 rfl (lv_at hl 1 rfl) ?_
  refine LI_S C hI hu hS hl.1 [vi (xs (i + 1).toNatClampNeg), vi (xs (i + 2).toNatClampNeg)] [.int (xs (i + 1).toNatClampNeg), .int (xs (i + 2).toNatClampNeg)] (fun _ => rfl) dlw_380 wcs_133 rfl (by intro h; cases h) (Nat.le_of_ble_eq_true rfl) (kw_choice (d := 870) hj hu hH (xs (i + 1).toNatClampNeg) (xs (i + 2).toNatClampNeg)) (LJ_room hJ hk) (fun r1 x1 q1 H1 locs1 hI hu1 hk1 hH1 hp1 hS => ?_)
  refine lv_istore (lv' := (5, .int r1) :: [(4, .int i), (3, .ref o0), (2, .ref m0), (1, .ref x0), (0, .ref b)]) hx hb dlw_383 hl (by decide) rfl (fun ls hl => ?_)
  refine lv_aload_n hx hb dlw_385 rfl (lv_at hl 3 rfl) ?_
  refine lv_aload_n hx hb dlw_386 rfl (lv_at hl 5 rfl) ?_
  refine lv_iload hx hb dlw_387 (lv_at hl 1 rfl) ?_
  refine lv_iconst (v := 1) hx hb dlw_389 (by decide +kernel) ?_
  refine lv_iadd hx hb dlw_390 ?_
  refine va_sld hx hb hX hbl hbA hS (i := i + 1) v1 dlw_391 ?_
  refine lv_aload_n hx hb dlw_392 rfl (lv_at hl 5 rfl) ?_
  refine lv_iload hx hb dlw_393 (lv_at hl 1 rfl) ?_
  refine lv_iconst (v := 2) hx hb dlw_395 (by decide +kernel) ?_
  refine lv_iadd hx hb dlw_396 ?_
  refine va_sld hx hb hX hbl hbA hS (i := i + 2) v2 dlw_397 ?_
  refine LI_M C hI hS hl.1 (restv := []) (d1 := 900) (F := fun r9 w1 => ansM C9 wr (f1Ch w) (f2Ci w (xs (i + 1).toNatClampNeg) (xs (i + 2).toNatClampNeg)) (tCi C9 wr n9 w (xs (i + 1).toNatClampNeg) (xs (i + 2).toNatClampNeg)) w r9 w1) [vi (xs (i + 1).toNatClampNeg), vi (xs (i + 2).toNatClampNeg)] [.int (xs (i + 1).toNatClampNeg), .int (xs (i + 2).toNatClampNeg)] (fun _ => rfl) dlw_398 wcm_136 rfl rfl (Nat.le_of_ble_eq_true rfl) (by decide) (by omega) (ma_choice hj hH hm (xs (i + 1).toNatClampNeg) (xs (i + 2).toNatClampNeg) (by omega) (fun _ _ h1 => h1)) ⟨(LJ_room hJ hk q1 hu1 hk1).1, (LJ_room hJ hk q1 hu1 hk1).2⟩ (fun r2 w1 H1 locs1 hI hpm hS => ?_)
  have hj2 := ja_choice hj hH1 hp1 hpm
  refine lv_istore (lv' := (6, .int r2) :: (5, .int r1) :: [(4, .int i), (3, .ref o0), (2, .ref m0), (1, .ref x0), (0, .ref b)]) hx hb dlw_401 hl (by decide) rfl (fun ls hl => ?_)
  refine lv_goto (tgt := 1187) hx hb dlw_403 (by decide) ?_
  exact kk x1 q1 w1 H1 locs1 ls hI (LJ_next hJ hu1 hk1 hH1 hpm.1 hj2.1) hS (lv_tl (lv_tl hl))
set_option maxRecDepth 100000 in
set_option maxHeartbeats 4000000 in
theorem lc_8 {p : Program} {e : Env} {s : State} {m : MethodId} {args : Array Value} {below : List Frame} {meth : Method} {c : Code} {H : Heap} {locs : List Loc} {Q : State → Prop} {ls : Array Slot} {A : Nat → Prop} {G : kG} {x w : gd} {q : kP} {x0 m0 o0 b L k : Nat} {xs : Nat → Int32} {i : Int32} (C : gC (wE (kE G)) 1000 yLaw p room_1 s m args meth c A) (hX : va_X b L xs s s.heap) (hbl : b < s.heap.size) (hbA : ¬ A b) (hI : LI G A H x q w x0 m0 o0) (hJ : LJ k x q w) (hk : k < 64) (hS : va_S A s.heap H locs) (v1 : vp_in (i + 1) L) (v2 : vp_in (i + 2) L) (v3 : vp_in (i + 3) L) (hl : lv_has ls 7 [(4, .int i), (3, .ref o0), (2, .ref m0), (1, .ref x0), (0, .ref b)]) (kk : ∀ (x1 : gd) (q1 : kP) (w1 : gd) (H1 : Heap) (locs1 : List Loc) (ls1 : Array Slot), LI G A H1 x1 q1 w1 x0 m0 o0 → LJ (k + 1) x1 q1 w1 → va_S A s.heap H1 locs1 → lv_has ls1 7 [(4, .int i), (3, .ref o0), (2, .ref m0), (1, .ref x0), (0, .ref b)] → W p G.1 e room_1 s m args below meth c H1 locs1 (q1.ce + 200) (q1.sl + 960000) Q (F0 m 1187 ls1 [])) : W p G.1 e room_1 s m args below meth c H locs (q.ce + 200) (q.sl + 960000) Q (F0 m 406 ls []) := by
  have hx := C.1.1
  have hb : c.code = cL_law := C.1.2.1
  obtain ⟨hu, hH, hm, el, b1, b2⟩ := id hJ
  obtain ⟨C9, wr, n9, lm, hj⟩ := el
  have el := JH_J hj
  refine lv_aload_n hx hb dlw_406 rfl (lv_at hl 3 rfl) ?_
  refine lv_aload_n hx hb dlw_407 rfl (lv_at hl 4 rfl) ?_
  refine lv_iload hx hb dlw_408 (lv_at hl 0 rfl) ?_
  refine lv_iconst (v := 1) hx hb dlw_410 (by decide +kernel) ?_
  refine lv_iadd hx hb dlw_411 ?_
  refine va_sld hx hb hX hbl hbA hS (i := i + 1) v1 dlw_412 ?_
  refine lv_aload_n hx hb dlw_413 rfl (lv_at hl 1 rfl) ?_
  refine LI_S C hI hu hS hl.1 [vi (xs (i + 1).toNatClampNeg)] [.int (xs (i + 1).toNatClampNeg)] (fun _ => rfl) dlw_414 wcs_137 rfl (by intro h; cases h) (Nat.le_of_ble_eq_true rfl) (kw_go (d := 870) hj hu hH (xs (i + 1).toNatClampNeg)) (LJ_room hJ hk) (fun r1 x1 q1 H1 locs1 hI hu1 hk1 hH1 hp1 hS => ?_)
  refine lv_istore (lv' := (5, .int r1) :: [(4, .int i), (3, .ref o0), (2, .ref m0), (1, .ref x0), (0, .ref b)]) hx hb dlw_417 hl (by decide) rfl (fun ls hl => ?_)
  refine lv_aload_n hx hb dlw_419 rfl (lv_at hl 3 rfl) ?_
  refine lv_aload_n hx hb dlw_420 rfl (lv_at hl 5 rfl) ?_
  refine lv_iload hx hb dlw_421 (lv_at hl 1 rfl) ?_
  refine lv_iconst (v := 1) hx hb dlw_423 (by decide +kernel) ?_
  refine lv_iadd hx hb dlw_424 ?_
  refine va_sld hx hb hX hbl hbA hS (i := i + 1) v1 dlw_425 ?_
  refine LI_M C hI hS hl.1 (restv := []) (d1 := 900) (F := fun r9 w1 => ansM C9 wr (f1Go w) (f2Go w (xs (i + 1).toNatClampNeg)) (tGo C9 wr n9 w (xs (i + 1).toNatClampNeg)) w r9 w1) [vi (xs (i + 1).toNatClampNeg)] [.int (xs (i + 1).toNatClampNeg)] (fun _ => rfl) dlw_426 wcm_139 rfl rfl (Nat.le_of_ble_eq_true rfl) (by decide) (by omega) (ma_go hj hH hm (xs (i + 1).toNatClampNeg) (by omega) (fun _ _ h1 => h1)) ⟨(LJ_room hJ hk q1 hu1 hk1).1, (LJ_room hJ hk q1 hu1 hk1).2⟩ (fun r2 w1 H1 locs1 hI hpm hS => ?_)
  have hj2 := ja_go hj hH1 hp1 hpm
  refine lv_istore (lv' := (6, .int r2) :: (5, .int r1) :: [(4, .int i), (3, .ref o0), (2, .ref m0), (1, .ref x0), (0, .ref b)]) hx hb dlw_429 hl (by decide) rfl (fun ls hl => ?_)
  refine lv_goto (tgt := 1187) hx hb dlw_431 (by decide) ?_
  exact kk x1 q1 w1 H1 locs1 ls hI (LJ_next hJ hu1 hk1 hH1 hpm.1 hj2.1) hS (lv_tl (lv_tl hl))
set_option maxRecDepth 100000 in
set_option maxHeartbeats 4000000 in
theorem lc_9 {p : Program} {e : Env} {s : State} {m : MethodId} {args : Array Value} {below : List Frame} {meth : Method} {c : Code} {H : Heap} {locs : List Loc} {Q : State → Prop} {ls : Array Slot} {A : Nat → Prop} {G : kG} {x w : gd} {q : kP} {x0 m0 o0 b L k : Nat} {xs : Nat → Int32} {i : Int32} (C : gC (wE (kE G)) 1000 yLaw p room_1 s m args meth c A) (hX : va_X b L xs s s.heap) (hbl : b < s.heap.size) (hbA : ¬ A b) (hI : LI G A H x q w x0 m0 o0) (hJ : LJ k x q w) (hk : k < 64) (hS : va_S A s.heap H locs) (v1 : vp_in (i + 1) L) (v2 : vp_in (i + 2) L) (v3 : vp_in (i + 3) L) (hl : lv_has ls 7 [(4, .int i), (3, .ref o0), (2, .ref m0), (1, .ref x0), (0, .ref b)]) (kk : ∀ (x1 : gd) (q1 : kP) (w1 : gd) (H1 : Heap) (locs1 : List Loc) (ls1 : Array Slot), LI G A H1 x1 q1 w1 x0 m0 o0 → LJ (k + 1) x1 q1 w1 → va_S A s.heap H1 locs1 → lv_has ls1 7 [(4, .int i), (3, .ref o0), (2, .ref m0), (1, .ref x0), (0, .ref b)] → W p G.1 e room_1 s m args below meth c H1 locs1 (q1.ce + 200) (q1.sl + 960000) Q (F0 m 1187 ls1 [])) : W p G.1 e room_1 s m args below meth c H locs (q.ce + 200) (q.sl + 960000) Q (F0 m 434 ls []) := by
  have hx := C.1.1
  have hb : c.code = cL_law := C.1.2.1
  obtain ⟨hu, hH, hm, el, b1, b2⟩ := id hJ
  obtain ⟨C9, wr, n9, lm, hj⟩ := el
  have el := JH_J hj
  refine lv_aload_n hx hb dlw_434 rfl (lv_at hl 3 rfl) ?_
  refine lv_aload_n hx hb dlw_435 rfl (lv_at hl 4 rfl) ?_
  refine lv_iload hx hb dlw_436 (lv_at hl 0 rfl) ?_
  refine lv_iconst (v := 1) hx hb dlw_438 (by decide +kernel) ?_
  refine lv_iadd hx hb dlw_439 ?_
  refine va_sld hx hb hX hbl hbA hS (i := i + 1) v1 dlw_440 ?_
  refine lv_aload_n hx hb dlw_441 rfl (lv_at hl 4 rfl) ?_
  refine lv_iload hx hb dlw_442 (lv_at hl 0 rfl) ?_
  refine lv_iconst (v := 2) hx hb dlw_444 (by decide +kernel) ?_
  refine lv_iadd hx hb dlw_445 ?_
  refine va_sld hx hb hX hbl hbA hS (i := i + 2) v2 dlw_446 ?_
  refine lv_aload_n hx hb dlw_447 rfl (lv_at hl 1 rfl) ?_
  refine LI_S C hI hu hS hl.1 [vi (xs (i + 1).toNatClampNeg), vi (xs (i + 2).toNatClampNeg)] [.int (xs (i + 1).toNatClampNeg), .int (xs (i + 2).toNatClampNeg)] (fun _ => rfl) dlw_448 wcs_140 rfl (by intro h; cases h) (Nat.le_of_ble_eq_true rfl) (kw_draw (d := 870) hj hu hH (xs (i + 1).toNatClampNeg) (xs (i + 2).toNatClampNeg)) (LJ_room hJ hk) (fun r1 x1 q1 H1 locs1 hI hu1 hk1 hH1 hp1 hS => ?_)
  refine lv_istore (lv' := (5, .int r1) :: [(4, .int i), (3, .ref o0), (2, .ref m0), (1, .ref x0), (0, .ref b)]) hx hb dlw_451 hl (by decide) rfl (fun ls hl => ?_)
  refine lv_aload_n hx hb dlw_453 rfl (lv_at hl 3 rfl) ?_
  refine lv_aload_n hx hb dlw_454 rfl (lv_at hl 5 rfl) ?_
  refine lv_iload hx hb dlw_455 (lv_at hl 1 rfl) ?_
  refine lv_iconst (v := 1) hx hb dlw_457 (by decide +kernel) ?_
  refine lv_iadd hx hb dlw_458 ?_
  refine va_sld hx hb hX hbl hbA hS (i := i + 1) v1 dlw_459 ?_
  refine lv_aload_n hx hb dlw_460 rfl (lv_at hl 5 rfl) ?_
  refine lv_iload hx hb dlw_461 (lv_at hl 1 rfl) ?_
  refine lv_iconst (v := 2) hx hb dlw_463 (by decide +kernel) ?_
  refine lv_iadd hx hb dlw_464 ?_
  refine va_sld hx hb hX hbl hbA hS (i := i + 2) v2 dlw_465 ?_
  refine LI_M C hI hS hl.1 (restv := []) (d1 := 900) (F := fun r9 w1 => ansM C9 wr (f1Ch w) (f2Dr w (xs (i + 2).toNatClampNeg)) (tDr C9 wr n9 w (xs (i + 1).toNatClampNeg) (xs (i + 2).toNatClampNeg)) w r9 w1) [vi (xs (i + 1).toNatClampNeg), vi (xs (i + 2).toNatClampNeg)] [.int (xs (i + 1).toNatClampNeg), .int (xs (i + 2).toNatClampNeg)] (fun _ => rfl) dlw_466 wcm_142 rfl rfl (Nat.le_of_ble_eq_true rfl) (by decide) (by omega) (ma_draw hj hH hm (xs (i + 1).toNatClampNeg) (xs (i + 2).toNatClampNeg) (by omega) (fun _ _ h1 => h1)) ⟨(LJ_room hJ hk q1 hu1 hk1).1, (LJ_room hJ hk q1 hu1 hk1).2⟩ (fun r2 w1 H1 locs1 hI hpm hS => ?_)
  have hj2 := ja_draw hj hH1 hp1 hpm
  refine lv_istore (lv' := (6, .int r2) :: (5, .int r1) :: [(4, .int i), (3, .ref o0), (2, .ref m0), (1, .ref x0), (0, .ref b)]) hx hb dlw_469 hl (by decide) rfl (fun ls hl => ?_)
  refine lv_goto (tgt := 1187) hx hb dlw_471 (by decide) ?_
  exact kk x1 q1 w1 H1 locs1 ls hI (LJ_next hJ hu1 hk1 hH1 hpm.1 hj2.1) hS (lv_tl (lv_tl hl))
end
section
set_option maxRecDepth 100000 in
set_option maxHeartbeats 4000000 in
theorem lc_10 {p : Program} {e : Env} {s : State} {m : MethodId} {args : Array Value} {below : List Frame} {meth : Method} {c : Code} {H : Heap} {locs : List Loc} {Q : State → Prop} {ls : Array Slot} {A : Nat → Prop} {G : kG} {x w : gd} {q : kP} {x0 m0 o0 b L k : Nat} {xs : Nat → Int32} {i : Int32} (C : gC (wE (kE G)) 1000 yLaw p room_1 s m args meth c A) (hX : va_X b L xs s s.heap) (hbl : b < s.heap.size) (hbA : ¬ A b) (hI : LI G A H x q w x0 m0 o0) (hJ : LJ k x q w) (hk : k < 64) (hS : va_S A s.heap H locs) (v1 : vp_in (i + 1) L) (v2 : vp_in (i + 2) L) (v3 : vp_in (i + 3) L) (hl : lv_has ls 7 [(4, .int i), (3, .ref o0), (2, .ref m0), (1, .ref x0), (0, .ref b)]) (kk : ∀ (x1 : gd) (q1 : kP) (w1 : gd) (H1 : Heap) (locs1 : List Loc) (ls1 : Array Slot), LI G A H1 x1 q1 w1 x0 m0 o0 → LJ (k + 1) x1 q1 w1 → va_S A s.heap H1 locs1 → lv_has ls1 7 [(4, .int i), (3, .ref o0), (2, .ref m0), (1, .ref x0), (0, .ref b)] → W p G.1 e room_1 s m args below meth c H1 locs1 (q1.ce + 200) (q1.sl + 960000) Q (F0 m 1187 ls1 [])) : W p G.1 e room_1 s m args below meth c H locs (q.ce + 200) (q.sl + 960000) Q (F0 m 474 ls []) := by
  have hx := C.1.1
  have hb : c.code = cL_law := C.1.2.1
  obtain ⟨hu, hH, hm, el, b1, b2⟩ := id hJ
  obtain ⟨C9, wr, n9, lm, hj⟩ := el
  have el := JH_J hj
  refine lv_aload_n hx hb dlw_474 rfl (lv_at hl 3 rfl) ?_
  refine lv_aload_n hx hb dlw_475 rfl (lv_at hl 4 rfl) ?_
  refine lv_iload hx hb dlw_476 (lv_at hl 0 rfl) ?_
  refine lv_iconst (v := 1) hx hb dlw_478 (by decide +kernel) ?_
  refine lv_iadd hx hb dlw_479 ?_
  refine va_sld hx hb hX hbl hbA hS (i := i + 1) v1 dlw_480 ?_
  refine lv_aload_n hx hb dlw_481 rfl (lv_at hl 1 rfl) ?_
  refine LI_S C hI hu hS hl.1 [vi (xs (i + 1).toNatClampNeg)] [.int (xs (i + 1).toNatClampNeg)] (fun _ => rfl) dlw_482 wcs_143 rfl (by intro h; cases h) (Nat.le_of_ble_eq_true rfl) (kw_again (d := 870) hj hu hH (xs (i + 1).toNatClampNeg)) (LJ_room hJ hk) (fun r1 x1 q1 H1 locs1 hI hu1 hk1 hH1 hp1 hS => ?_)
  refine lv_istore (lv' := (5, .int r1) :: [(4, .int i), (3, .ref o0), (2, .ref m0), (1, .ref x0), (0, .ref b)]) hx hb dlw_485 hl (by decide) rfl (fun ls hl => ?_)
  refine lv_aload_n hx hb dlw_487 rfl (lv_at hl 3 rfl) ?_
  refine lv_aload_n hx hb dlw_488 rfl (lv_at hl 5 rfl) ?_
  refine lv_iload hx hb dlw_489 (lv_at hl 1 rfl) ?_
  refine lv_iconst (v := 1) hx hb dlw_491 (by decide +kernel) ?_
  refine lv_iadd hx hb dlw_492 ?_
  refine va_sld hx hb hX hbl hbA hS (i := i + 1) v1 dlw_493 ?_
  refine LI_M C hI hS hl.1 (restv := []) (d1 := 900) (F := fun r9 w1 => ansM C9 wr (f1Ch w) (f2Ag w (xs (i + 1).toNatClampNeg)) (tAg C9 wr w (xs (i + 1).toNatClampNeg)) w r9 w1) [vi (xs (i + 1).toNatClampNeg)] [.int (xs (i + 1).toNatClampNeg)] (fun _ => rfl) dlw_494 wcm_145 rfl rfl (Nat.le_of_ble_eq_true rfl) (by decide) (by omega) (ma_again hj hm (xs (i + 1).toNatClampNeg) (by omega) (fun _ _ h1 => h1)) ⟨(LJ_room hJ hk q1 hu1 hk1).1, (LJ_room hJ hk q1 hu1 hk1).2⟩ (fun r2 w1 H1 locs1 hI hpm hS => ?_)
  have hj2 := ja_again hj hH1 hp1 hpm
  refine lv_istore (lv' := (6, .int r2) :: (5, .int r1) :: [(4, .int i), (3, .ref o0), (2, .ref m0), (1, .ref x0), (0, .ref b)]) hx hb dlw_497 hl (by decide) rfl (fun ls hl => ?_)
  refine lv_goto (tgt := 1187) hx hb dlw_499 (by decide) ?_
  exact kk x1 q1 w1 H1 locs1 ls hI (LJ_next hJ hu1 hk1 hH1 hpm.1 hj2.1) hS (lv_tl (lv_tl hl))
set_option maxRecDepth 100000 in
set_option maxHeartbeats 4000000 in
theorem lc_11 {p : Program} {e : Env} {s : State} {m : MethodId} {args : Array Value} {below : List Frame} {meth : Method} {c : Code} {H : Heap} {locs : List Loc} {Q : State → Prop} {ls : Array Slot} {A : Nat → Prop} {G : kG} {x w : gd} {q : kP} {x0 m0 o0 b L k : Nat} {xs : Nat → Int32} {i : Int32} (C : gC (wE (kE G)) 1000 yLaw p room_1 s m args meth c A) (hX : va_X b L xs s s.heap) (hbl : b < s.heap.size) (hbA : ¬ A b) (hI : LI G A H x q w x0 m0 o0) (hJ : LJ k x q w) (hk : k < 64) (hS : va_S A s.heap H locs) (v1 : vp_in (i + 1) L) (v2 : vp_in (i + 2) L) (v3 : vp_in (i + 3) L) (hl : lv_has ls 7 [(4, .int i), (3, .ref o0), (2, .ref m0), (1, .ref x0), (0, .ref b)]) (kk : ∀ (x1 : gd) (q1 : kP) (w1 : gd) (H1 : Heap) (locs1 : List Loc) (ls1 : Array Slot), LI G A H1 x1 q1 w1 x0 m0 o0 → LJ (k + 1) x1 q1 w1 → va_S A s.heap H1 locs1 → lv_has ls1 7 [(4, .int i), (3, .ref o0), (2, .ref m0), (1, .ref x0), (0, .ref b)] → W p G.1 e room_1 s m args below meth c H1 locs1 (q1.ce + 200) (q1.sl + 960000) Q (F0 m 1187 ls1 [])) : W p G.1 e room_1 s m args below meth c H locs (q.ce + 200) (q.sl + 960000) Q (F0 m 502 ls []) := by
  have hx := C.1.1
  have hb : c.code = cL_law := C.1.2.1
  obtain ⟨hu, hH, hm, el, b1, b2⟩ := id hJ
  obtain ⟨C9, wr, n9, lm, hj⟩ := el
  have el := JH_J hj
  refine lv_aload_n hx hb dlw_502 rfl (lv_at hl 3 rfl) ?_
  refine lv_aload_n hx hb dlw_503 rfl (lv_at hl 4 rfl) ?_
  refine lv_iload hx hb dlw_504 (lv_at hl 0 rfl) ?_
  refine lv_iconst (v := 1) hx hb dlw_506 (by decide +kernel) ?_
  refine lv_iadd hx hb dlw_507 ?_
  refine va_sld hx hb hX hbl hbA hS (i := i + 1) v1 dlw_508 ?_
  refine lv_aload_n hx hb dlw_509 rfl (lv_at hl 1 rfl) ?_
  refine LI_S C hI hu hS hl.1 [vi (xs (i + 1).toNatClampNeg)] [.int (xs (i + 1).toNatClampNeg)] (fun _ => rfl) dlw_510 wcs_146 rfl (by intro h; cases h) (Nat.le_of_ble_eq_true rfl) (kw_run (d := 870) hj hu hH (xs (i + 1).toNatClampNeg)) (LJ_room hJ hk) (fun r1 x1 q1 H1 locs1 hI hu1 hk1 hH1 hp1 hS => ?_)
  refine lv_istore (lv' := (5, .int r1) :: [(4, .int i), (3, .ref o0), (2, .ref m0), (1, .ref x0), (0, .ref b)]) hx hb dlw_513 hl (by decide) rfl (fun ls hl => ?_)
  refine lv_aload_n hx hb dlw_515 rfl (lv_at hl 3 rfl) ?_
  refine lv_aload_n hx hb dlw_516 rfl (lv_at hl 5 rfl) ?_
  refine lv_iload hx hb dlw_517 (lv_at hl 1 rfl) ?_
  refine lv_iconst (v := 1) hx hb dlw_519 (by decide +kernel) ?_
  refine lv_iadd hx hb dlw_520 ?_
  refine va_sld hx hb hX hbl hbA hS (i := i + 1) v1 dlw_521 ?_
  refine LI_M C hI hS hl.1 (restv := []) (d1 := 900) (F := fun r9 w1 => ansM C9 wr (f1Ch w) (f2Ru w (xs (i + 1).toNatClampNeg)) (tRu C9 wr n9 w (xs (i + 1).toNatClampNeg)) w r9 w1) [vi (xs (i + 1).toNatClampNeg)] [.int (xs (i + 1).toNatClampNeg)] (fun _ => rfl) dlw_522 wcm_148 rfl rfl (Nat.le_of_ble_eq_true rfl) (by decide) (by omega) (ma_run hj hH hm (xs (i + 1).toNatClampNeg) (by omega) (fun _ _ h1 => h1)) ⟨(LJ_room hJ hk q1 hu1 hk1).1, (LJ_room hJ hk q1 hu1 hk1).2⟩ (fun r2 w1 H1 locs1 hI hpm hS => ?_)
  have hj2 := ja_run hj hH1 hp1 hpm
  refine lv_istore (lv' := (6, .int r2) :: (5, .int r1) :: [(4, .int i), (3, .ref o0), (2, .ref m0), (1, .ref x0), (0, .ref b)]) hx hb dlw_525 hl (by decide) rfl (fun ls hl => ?_)
  refine lv_aload_n hx hb dlw_527 rfl (lv_at hl 4 rfl) ?_
  refine LI_M C hI hS hl.1 (restv := []) (d1 := 900) (F := fun r3 w2 => r3 = w1.1 0 0 ∧ w2 = w1) [] [] (fun _ => rfl) dlw_528 wcm_149 rfl rfl (Nat.le_of_ble_eq_true rfl) (by decide) (by omega) (sp_thrown (d := 899) ⟨rfl, rfl⟩) ⟨(LJ_room hJ hk q1 hu1 hk1).1, (LJ_room hJ hk q1 hu1 hk1).2⟩ (fun r3 w2 H2 locs2 hI2 hp3 hS2 => ?_)
  obtain ⟨h3, e2⟩ := hp3
  rw [e2] at hI2
  have hag : (r1 = 0 ∧ r3 = 0 ∧ x1.2 299 (0 : Int32).toNatClampNeg = r2.toInt64) ∨ (¬ r1 = 0 ∧ r3 = r1) := by
    rcases hj2.2 with ⟨z1, z2, z3⟩ | ⟨z1, z2⟩
    · exact Or.inl ⟨z1, h3.trans z2, z3⟩
    · exact Or.inr ⟨z1, h3.trans z2⟩
  refine lv_iload hx hb dlw_531 (lv_at hl 1 rfl) ?_
  refine lv_icmp_eq (tgt := 538) hx hb dlw_533 (by decide) (fun _ => ?_) (fun c9 => absurd (show r3 = r1 by rcases hag with h | h; exact h.2.1.trans h.1.symm; exact h.2) c9)
  refine lv_iload hx hb dlw_538 (lv_at hl 1 rfl) ?_
  refine lv_if_ne (tgt := 555) hx hb dlw_540 (by decide) (fun _ => ?_) (fun c0 => ?_)
  · skip
    refine lv_goto (tgt := 1187) hx hb dlw_555 (by decide) ?_
    exact kk x1 q1 w1 H2 locs2 ls hI2 (LJ_next hJ hu1 hk1 hH1 hpm.1 hj2.1) hS2 (lv_tl (lv_tl hl))
  · have hok := hag.resolve_right (fun h => absurd c0 h.1)
    refine lv_aload_n hx hb dlw_543 rfl (lv_at hl 3 rfl) ?_
    refine lv_iconst (v := 0) hx hb dlw_544 (by decide +kernel) ?_
    refine LI_O C hI2 dlw_545 ?_
    refine lv_iload hx hb dlw_546 (lv_at hl 0 rfl) ?_
    refine lv_i2l (v := r2.toInt64) hx hb dlw_548 rfl ?_
    refine W.lcmp hx hb dlw_549 ?_
    refine lv_if_eq (tgt := 555) hx hb dlw_550 (by decide) (fun _ => ?_) (fun c9 => absurd (by rw [hok.2.2]; exact lg_self _) c9)
    refine lv_goto (tgt := 1187) hx hb dlw_555 (by decide) ?_
    exact kk x1 q1 w1 H2 locs2 ls hI2 (LJ_next hJ hu1 hk1 hH1 hpm.1 hj2.1) hS2 (lv_tl (lv_tl hl))
set_option maxRecDepth 100000 in
set_option maxHeartbeats 4000000 in
theorem lc_12 {p : Program} {e : Env} {s : State} {m : MethodId} {args : Array Value} {below : List Frame} {meth : Method} {c : Code} {H : Heap} {locs : List Loc} {Q : State → Prop} {ls : Array Slot} {A : Nat → Prop} {G : kG} {x w : gd} {q : kP} {x0 m0 o0 b L k : Nat} {xs : Nat → Int32} {i : Int32} (C : gC (wE (kE G)) 1000 yLaw p room_1 s m args meth c A) (hX : va_X b L xs s s.heap) (hbl : b < s.heap.size) (hbA : ¬ A b) (hI : LI G A H x q w x0 m0 o0) (hJ : LJ k x q w) (hk : k < 64) (hS : va_S A s.heap H locs) (v1 : vp_in (i + 1) L) (v2 : vp_in (i + 2) L) (v3 : vp_in (i + 3) L) (hl : lv_has ls 7 [(4, .int i), (3, .ref o0), (2, .ref m0), (1, .ref x0), (0, .ref b)]) (kk : ∀ (x1 : gd) (q1 : kP) (w1 : gd) (H1 : Heap) (locs1 : List Loc) (ls1 : Array Slot), LI G A H1 x1 q1 w1 x0 m0 o0 → LJ (k + 1) x1 q1 w1 → va_S A s.heap H1 locs1 → lv_has ls1 7 [(4, .int i), (3, .ref o0), (2, .ref m0), (1, .ref x0), (0, .ref b)] → W p G.1 e room_1 s m args below meth c H1 locs1 (q1.ce + 200) (q1.sl + 960000) Q (F0 m 1187 ls1 [])) : W p G.1 e room_1 s m args below meth c H locs (q.ce + 200) (q.sl + 960000) Q (F0 m 558 ls []) := by
  have hx := C.1.1
  have hb : c.code = cL_law := C.1.2.1
  obtain ⟨hu, hH, hm, el, b1, b2⟩ := id hJ
  obtain ⟨C9, wr, n9, lm, hj⟩ := el
  have el := JH_J hj
  refine lv_aload_n hx hb dlw_558 rfl (lv_at hl 3 rfl) ?_
  refine lv_aload_n hx hb dlw_559 rfl (lv_at hl 4 rfl) ?_
  refine lv_iload hx hb dlw_560 (lv_at hl 0 rfl) ?_
  refine lv_iconst (v := 1) hx hb dlw_562 (by decide +kernel) ?_
  refine lv_iadd hx hb dlw_563 ?_
  refine va_sld hx hb hX hbl hbA hS (i := i + 1) v1 dlw_564 ?_
  refine lv_aload_n hx hb dlw_565 rfl (lv_at hl 1 rfl) ?_
  refine LI_S C hI hu hS hl.1 [vi (xs (i + 1).toNatClampNeg)] [.int (xs (i + 1).toNatClampNeg)] (fun _ => rfl) dlw_566 wcs_152 rfl (by intro h; cases h) (Nat.le_of_ble_eq_true rfl) (kw_cell (d := 870) hj hu hH (xs (i + 1).toNatClampNeg)) (LJ_room hJ hk) (fun r1 x1 q1 H1 locs1 hI hu1 hk1 hH1 hp1 hS => ?_)
  refine lv_istore (lv' := (5, .int r1) :: [(4, .int i), (3, .ref o0), (2, .ref m0), (1, .ref x0), (0, .ref b)]) hx hb dlw_569 hl (by decide) rfl (fun ls hl => ?_)
  refine lv_aload_n hx hb dlw_571 rfl (lv_at hl 3 rfl) ?_
  refine lv_aload_n hx hb dlw_572 rfl (lv_at hl 5 rfl) ?_
  refine lv_iload hx hb dlw_573 (lv_at hl 1 rfl) ?_
  refine lv_iconst (v := 1) hx hb dlw_575 (by decide +kernel) ?_
  refine lv_iadd hx hb dlw_576 ?_
  refine va_sld hx hb hX hbl hbA hS (i := i + 1) v1 dlw_577 ?_
  refine LI_M C hI hS hl.1 (restv := []) (d1 := 900) (F := fun r9 w1 => ansM C9 wr (f1Ch w) (f2Ce w (xs (i + 1).toNatClampNeg)) (tCe C9 wr n9 w (xs (i + 1).toNatClampNeg)) w r9 w1) [vi (xs (i + 1).toNatClampNeg)] [.int (xs (i + 1).toNatClampNeg)] (fun _ => rfl) dlw_578 wcm_154 rfl rfl (Nat.le_of_ble_eq_true rfl) (by decide) (by omega) (ma_cell hj hH hm (xs (i + 1).toNatClampNeg) (by omega) (fun _ _ h1 => h1)) ⟨(LJ_room hJ hk q1 hu1 hk1).1, (LJ_room hJ hk q1 hu1 hk1).2⟩ (fun r2 w1 H1 locs1 hI hpm hS => ?_)
  have hj2 := ja_cell hj hH1 hp1 hpm
  refine lv_istore (lv' := (6, .int r2) :: (5, .int r1) :: [(4, .int i), (3, .ref o0), (2, .ref m0), (1, .ref x0), (0, .ref b)]) hx hb dlw_581 hl (by decide) rfl (fun ls hl => ?_)
  refine lv_goto (tgt := 1187) hx hb dlw_583 (by decide) ?_
  exact kk x1 q1 w1 H1 locs1 ls hI (LJ_next hJ hu1 hk1 hH1 hpm.1 hj2.1) hS (lv_tl (lv_tl hl))
set_option maxRecDepth 100000 in
set_option maxHeartbeats 4000000 in
theorem lc_13 {p : Program} {e : Env} {s : State} {m : MethodId} {args : Array Value} {below : List Frame} {meth : Method} {c : Code} {H : Heap} {locs : List Loc} {Q : State → Prop} {ls : Array Slot} {A : Nat → Prop} {G : kG} {x w : gd} {q : kP} {x0 m0 o0 b L k : Nat} {xs : Nat → Int32} {i : Int32} (C : gC (wE (kE G)) 1000 yLaw p room_1 s m args meth c A) (hX : va_X b L xs s s.heap) (hbl : b < s.heap.size) (hbA : ¬ A b) (hI : LI G A H x q w x0 m0 o0) (hJ : LJ k x q w) (hk : k < 64) (hS : va_S A s.heap H locs) (v1 : vp_in (i + 1) L) (v2 : vp_in (i + 2) L) (v3 : vp_in (i + 3) L) (hl : lv_has ls 7 [(4, .int i), (3, .ref o0), (2, .ref m0), (1, .ref x0), (0, .ref b)]) (kk : ∀ (x1 : gd) (q1 : kP) (w1 : gd) (H1 : Heap) (locs1 : List Loc) (ls1 : Array Slot), LI G A H1 x1 q1 w1 x0 m0 o0 → LJ (k + 1) x1 q1 w1 → va_S A s.heap H1 locs1 → lv_has ls1 7 [(4, .int i), (3, .ref o0), (2, .ref m0), (1, .ref x0), (0, .ref b)] → W p G.1 e room_1 s m args below meth c H1 locs1 (q1.ce + 200) (q1.sl + 960000) Q (F0 m 1187 ls1 [])) : W p G.1 e room_1 s m args below meth c H locs (q.ce + 200) (q.sl + 960000) Q (F0 m 586 ls []) := by
  have hx := C.1.1
  have hb : c.code = cL_law := C.1.2.1
  obtain ⟨hu, hH, hm, el, b1, b2⟩ := id hJ
  obtain ⟨C9, wr, n9, lm, hj⟩ := el
  have el := JH_J hj
  refine lv_aload_n hx hb dlw_586 rfl (lv_at hl 3 rfl) ?_
  refine lv_aload_n hx hb dlw_587 rfl (lv_at hl 4 rfl) ?_
  refine lv_iload hx hb dlw_588 (lv_at hl 0 rfl) ?_
  refine lv_iconst (v := 1) hx hb dlw_590 (by decide +kernel) ?_
  refine lv_iadd hx hb dlw_591 ?_
  refine va_sld hx hb hX hbl hbA hS (i := i + 1) v1 dlw_592 ?_
  refine lv_aload_n hx hb dlw_593 rfl (lv_at hl 4 rfl) ?_
  refine lv_iload hx hb dlw_594 (lv_at hl 0 rfl) ?_
  refine lv_iconst (v := 2) hx hb dlw_596 (by decide +kernel) ?_
  refine lv_iadd hx hb dlw_597 ?_
  refine va_sld hx hb hX hbl hbA hS (i := i + 2) v2 dlw_598 ?_
  refine lv_aload_n hx hb dlw_599 rfl (lv_at hl 1 rfl) ?_
  refine LI_S C hI hu hS hl.1 [vi (xs (i + 1).toNatClampNeg), vi (xs (i + 2).toNatClampNeg)] [.int (xs (i + 1).toNatClampNeg), .int (xs (i + 2).toNatClampNeg)] (fun _ => rfl) dlw_600 wcs_155 rfl (by intro h; cases h) (Nat.le_of_ble_eq_true rfl) (kw_seen (d := 870) hj hu hH (xs (i + 1).toNatClampNeg) (xs (i + 2).toNatClampNeg)) (LJ_room hJ hk) (fun r1 x1 q1 H1 locs1 hI hu1 hk1 hH1 hp1 hS => ?_)
  refine lv_istore (lv' := (5, .int r1) :: [(4, .int i), (3, .ref o0), (2, .ref m0), (1, .ref x0), (0, .ref b)]) hx hb dlw_603 hl (by decide) rfl (fun ls hl => ?_)
  refine lv_aload_n hx hb dlw_605 rfl (lv_at hl 3 rfl) ?_
  refine lv_aload_n hx hb dlw_606 rfl (lv_at hl 5 rfl) ?_
  refine lv_iload hx hb dlw_607 (lv_at hl 1 rfl) ?_
  refine lv_iconst (v := 1) hx hb dlw_609 (by decide +kernel) ?_
  refine lv_iadd hx hb dlw_610 ?_
  refine va_sld hx hb hX hbl hbA hS (i := i + 1) v1 dlw_611 ?_
  refine lv_aload_n hx hb dlw_612 rfl (lv_at hl 5 rfl) ?_
  refine lv_iload hx hb dlw_613 (lv_at hl 1 rfl) ?_
  refine lv_iconst (v := 2) hx hb dlw_615 (by decide +kernel) ?_
  refine lv_iadd hx hb dlw_616 ?_
  refine va_sld hx hb hX hbl hbA hS (i := i + 2) v2 dlw_617 ?_
  refine LI_M C hI hS hl.1 (restv := []) (d1 := 900) (F := fun r9 w1 => ansM C9 wr (f1Ch w) (f2Se w (xs (i + 1).toNatClampNeg) (xs (i + 2).toNatClampNeg)) (tSe C9 wr n9 w (xs (i + 1).toNatClampNeg) (xs (i + 2).toNatClampNeg)) w r9 w1) [vi (xs (i + 1).toNatClampNeg), vi (xs (i + 2).toNatClampNeg)] [.int (xs (i + 1).toNatClampNeg), .int (xs (i + 2).toNatClampNeg)] (fun _ => rfl) dlw_618 wcm_157 rfl rfl (Nat.le_of_ble_eq_true rfl) (by decide) (by omega) (ma_seen hj hH hm (xs (i + 1).toNatClampNeg) (xs (i + 2).toNatClampNeg) (by omega) (fun _ _ h1 => h1)) ⟨(LJ_room hJ hk q1 hu1 hk1).1, (LJ_room hJ hk q1 hu1 hk1).2⟩ (fun r2 w1 H1 locs1 hI hpm hS => ?_)
  have hj2 := ja_seen hj hH1 hp1 hpm
  refine lv_istore (lv' := (6, .int r2) :: (5, .int r1) :: [(4, .int i), (3, .ref o0), (2, .ref m0), (1, .ref x0), (0, .ref b)]) hx hb dlw_621 hl (by decide) rfl (fun ls hl => ?_)
  refine lv_goto (tgt := 1187) hx hb dlw_623 (by decide) ?_
  exact kk x1 q1 w1 H1 locs1 ls hI (LJ_next hJ hu1 hk1 hH1 hpm.1 hj2.1) hS (lv_tl (lv_tl hl))
set_option maxRecDepth 100000 in
set_option maxHeartbeats 4000000 in
theorem lc_14 {p : Program} {e : Env} {s : State} {m : MethodId} {args : Array Value} {below : List Frame} {meth : Method} {c : Code} {H : Heap} {locs : List Loc} {Q : State → Prop} {ls : Array Slot} {A : Nat → Prop} {G : kG} {x w : gd} {q : kP} {x0 m0 o0 b L k : Nat} {xs : Nat → Int32} {i : Int32} (C : gC (wE (kE G)) 1000 yLaw p room_1 s m args meth c A) (hX : va_X b L xs s s.heap) (hbl : b < s.heap.size) (hbA : ¬ A b) (hI : LI G A H x q w x0 m0 o0) (hJ : LJ k x q w) (hk : k < 64) (hS : va_S A s.heap H locs) (v1 : vp_in (i + 1) L) (v2 : vp_in (i + 2) L) (v3 : vp_in (i + 3) L) (hl : lv_has ls 7 [(4, .int i), (3, .ref o0), (2, .ref m0), (1, .ref x0), (0, .ref b)]) (kk : ∀ (x1 : gd) (q1 : kP) (w1 : gd) (H1 : Heap) (locs1 : List Loc) (ls1 : Array Slot), LI G A H1 x1 q1 w1 x0 m0 o0 → LJ (k + 1) x1 q1 w1 → va_S A s.heap H1 locs1 → lv_has ls1 7 [(4, .int i), (3, .ref o0), (2, .ref m0), (1, .ref x0), (0, .ref b)] → W p G.1 e room_1 s m args below meth c H1 locs1 (q1.ce + 200) (q1.sl + 960000) Q (F0 m 1187 ls1 [])) : W p G.1 e room_1 s m args below meth c H locs (q.ce + 200) (q.sl + 960000) Q (F0 m 626 ls []) := by
  have hx := C.1.1
  have hb : c.code = cL_law := C.1.2.1
  obtain ⟨hu, hH, hm, el, b1, b2⟩ := id hJ
  obtain ⟨C9, wr, n9, lm, hj⟩ := el
  have el := JH_J hj
  refine lv_aload_n hx hb dlw_626 rfl (lv_at hl 3 rfl) ?_
  refine lv_aload_n hx hb dlw_627 rfl (lv_at hl 4 rfl) ?_
  refine lv_iload hx hb dlw_628 (lv_at hl 0 rfl) ?_
  refine lv_iconst (v := 1) hx hb dlw_630 (by decide +kernel) ?_
  refine lv_iadd hx hb dlw_631 ?_
  refine va_sld hx hb hX hbl hbA hS (i := i + 1) v1 dlw_632 ?_
  refine lv_aload_n hx hb dlw_633 rfl (lv_at hl 4 rfl) ?_
  refine lv_iload hx hb dlw_634 (lv_at hl 0 rfl) ?_
  refine lv_iconst (v := 2) hx hb dlw_636 (by decide +kernel) ?_
  refine lv_iadd hx hb dlw_637 ?_
  refine va_sld hx hb hX hbl hbA hS (i := i + 2) v2 dlw_638 ?_
  refine lv_aload_n hx hb dlw_639 rfl (lv_at hl 1 rfl) ?_
  refine LI_S C hI hu hS hl.1 [vi (xs (i + 1).toNatClampNeg), vi (xs (i + 2).toNatClampNeg)] [.int (xs (i + 1).toNatClampNeg), .int (xs (i + 2).toNatClampNeg)] (fun _ => rfl) dlw_640 wcs_158 rfl (by intro h; cases h) (Nat.le_of_ble_eq_true rfl) (kw_lock (d := 870) hu hH (xs (i + 1).toNatClampNeg) (xs (i + 2).toNatClampNeg)) (LJ_room hJ hk) (fun r1 x1 q1 H1 locs1 hI hu1 hk1 hH1 hp1 hS => ?_)
  refine lv_istore (lv' := (5, .int r1) :: [(4, .int i), (3, .ref o0), (2, .ref m0), (1, .ref x0), (0, .ref b)]) hx hb dlw_643 hl (by decide) rfl (fun ls hl => ?_)
  refine lv_aload_n hx hb dlw_645 rfl (lv_at hl 3 rfl) ?_
  refine lv_aload_n hx hb dlw_646 rfl (lv_at hl 5 rfl) ?_
  refine lv_iload hx hb dlw_647 (lv_at hl 1 rfl) ?_
  refine lv_iconst (v := 1) hx hb dlw_649 (by decide +kernel) ?_
  refine lv_iadd hx hb dlw_650 ?_
  refine va_sld hx hb hX hbl hbA hS (i := i + 1) v1 dlw_651 ?_
  refine lv_aload_n hx hb dlw_652 rfl (lv_at hl 5 rfl) ?_
  refine lv_iload hx hb dlw_653 (lv_at hl 1 rfl) ?_
  refine lv_iconst (v := 2) hx hb dlw_655 (by decide +kernel) ?_
  refine lv_iadd hx hb dlw_656 ?_
  refine va_sld hx hb hX hbl hbA hS (i := i + 2) v2 dlw_657 ?_
  refine LI_M C hI hS hl.1 (restv := []) (d1 := 900) (F := fun _ w1 => rdM C9 wr w w1) [vi (xs (i + 1).toNatClampNeg), vi (xs (i + 2).toNatClampNeg)] [.int (xs (i + 1).toNatClampNeg), .int (xs (i + 2).toNatClampNeg)] (fun _ => rfl) dlw_658 wcm_160 rfl rfl (Nat.le_of_ble_eq_true rfl) (by decide) (by omega) (sr_lock hm (xs (i + 1).toNatClampNeg) (xs (i + 2).toNatClampNeg) (by omega) (fun _ _ h => h)) ⟨(LJ_room hJ hk q1 hu1 hk1).1, (LJ_room hJ hk q1 hu1 hk1).2⟩ (fun r2 w1 H1 locs1 hI hpm hS => ?_)
  refine lv_istore (lv' := (6, .int r2) :: (5, .int r1) :: [(4, .int i), (3, .ref o0), (2, .ref m0), (1, .ref x0), (0, .ref b)]) hx hb dlw_661 hl (by decide) rfl (fun ls hl => ?_)
  refine lv_goto (tgt := 1187) hx hb dlw_663 (by decide) ?_
  exact kk x1 q1 w1 H1 locs1 ls hI (LJ_next hJ hu1 hk1 hH1 hpm.1.1 (JQ_rd hj hH1 hp1 hpm)) hS (lv_tl (lv_tl hl))
set_option maxRecDepth 100000 in
set_option maxHeartbeats 4000000 in
theorem lc_15 {p : Program} {e : Env} {s : State} {m : MethodId} {args : Array Value} {below : List Frame} {meth : Method} {c : Code} {H : Heap} {locs : List Loc} {Q : State → Prop} {ls : Array Slot} {A : Nat → Prop} {G : kG} {x w : gd} {q : kP} {x0 m0 o0 b L k : Nat} {xs : Nat → Int32} {i : Int32} (C : gC (wE (kE G)) 1000 yLaw p room_1 s m args meth c A) (hX : va_X b L xs s s.heap) (hbl : b < s.heap.size) (hbA : ¬ A b) (hI : LI G A H x q w x0 m0 o0) (hJ : LJ k x q w) (hk : k < 64) (hS : va_S A s.heap H locs) (v1 : vp_in (i + 1) L) (v2 : vp_in (i + 2) L) (v3 : vp_in (i + 3) L) (hl : lv_has ls 7 [(4, .int i), (3, .ref o0), (2, .ref m0), (1, .ref x0), (0, .ref b)]) (kk : ∀ (x1 : gd) (q1 : kP) (w1 : gd) (H1 : Heap) (locs1 : List Loc) (ls1 : Array Slot), LI G A H1 x1 q1 w1 x0 m0 o0 → LJ (k + 1) x1 q1 w1 → va_S A s.heap H1 locs1 → lv_has ls1 7 [(4, .int i), (3, .ref o0), (2, .ref m0), (1, .ref x0), (0, .ref b)] → W p G.1 e room_1 s m args below meth c H1 locs1 (q1.ce + 200) (q1.sl + 960000) Q (F0 m 1187 ls1 [])) : W p G.1 e room_1 s m args below meth c H locs (q.ce + 200) (q.sl + 960000) Q (F0 m 666 ls []) := by
  have hx := C.1.1
  have hb : c.code = cL_law := C.1.2.1
  obtain ⟨hu, hH, hm, el, b1, b2⟩ := id hJ
  obtain ⟨C9, wr, n9, lm, hj⟩ := el
  have el := JH_J hj
  refine lv_aload_n hx hb dlw_666 rfl (lv_at hl 3 rfl) ?_
  refine lv_aload_n hx hb dlw_667 rfl (lv_at hl 4 rfl) ?_
  refine lv_iload hx hb dlw_668 (lv_at hl 0 rfl) ?_
  refine lv_iconst (v := 1) hx hb dlw_670 (by decide +kernel) ?_
  refine lv_iadd hx hb dlw_671 ?_
  refine va_sld hx hb hX hbl hbA hS (i := i + 1) v1 dlw_672 ?_
  refine lv_aload_n hx hb dlw_673 rfl (lv_at hl 4 rfl) ?_
  refine lv_iload hx hb dlw_674 (lv_at hl 0 rfl) ?_
  refine lv_iconst (v := 2) hx hb dlw_676 (by decide +kernel) ?_
  refine lv_iadd hx hb dlw_677 ?_
  refine va_sld hx hb hX hbl hbA hS (i := i + 2) v2 dlw_678 ?_
  refine lv_aload_n hx hb dlw_679 rfl (lv_at hl 1 rfl) ?_
  refine LI_S C hI hu hS hl.1 [vi (xs (i + 1).toNatClampNeg), vi (xs (i + 2).toNatClampNeg)] [.int (xs (i + 1).toNatClampNeg), .int (xs (i + 2).toNatClampNeg)] (fun _ => rfl) dlw_680 wcs_161 rfl (by intro h; cases h) (Nat.le_of_ble_eq_true rfl) (kw_thread (d := 870) hu hH (xs (i + 1).toNatClampNeg) (xs (i + 2).toNatClampNeg)) (LJ_room hJ hk) (fun r1 x1 q1 H1 locs1 hI hu1 hk1 hH1 hp1 hS => ?_)
  refine lv_istore (lv' := (5, .int r1) :: [(4, .int i), (3, .ref o0), (2, .ref m0), (1, .ref x0), (0, .ref b)]) hx hb dlw_683 hl (by decide) rfl (fun ls hl => ?_)
  refine lv_aload_n hx hb dlw_685 rfl (lv_at hl 3 rfl) ?_
  refine lv_aload_n hx hb dlw_686 rfl (lv_at hl 5 rfl) ?_
  refine lv_iload hx hb dlw_687 (lv_at hl 1 rfl) ?_
  refine lv_iconst (v := 1) hx hb dlw_689 (by decide +kernel) ?_
  refine lv_iadd hx hb dlw_690 ?_
  refine va_sld hx hb hX hbl hbA hS (i := i + 1) v1 dlw_691 ?_
  refine lv_aload_n hx hb dlw_692 rfl (lv_at hl 5 rfl) ?_
  refine lv_iload hx hb dlw_693 (lv_at hl 1 rfl) ?_
  refine lv_iconst (v := 2) hx hb dlw_695 (by decide +kernel) ?_
  refine lv_iadd hx hb dlw_696 ?_
  refine va_sld hx hb hX hbl hbA hS (i := i + 2) v2 dlw_697 ?_
  refine LI_M C hI hS hl.1 (restv := []) (d1 := 900) (F := fun _ w1 => rdM C9 wr w w1) [vi (xs (i + 1).toNatClampNeg), vi (xs (i + 2).toNatClampNeg)] [.int (xs (i + 1).toNatClampNeg), .int (xs (i + 2).toNatClampNeg)] (fun _ => rfl) dlw_698 wcm_163 rfl rfl (Nat.le_of_ble_eq_true rfl) (by decide) (by omega) (sr_thread hm (xs (i + 1).toNatClampNeg) (xs (i + 2).toNatClampNeg) (by omega) (fun _ _ h => h)) ⟨(LJ_room hJ hk q1 hu1 hk1).1, (LJ_room hJ hk q1 hu1 hk1).2⟩ (fun r2 w1 H1 locs1 hI hpm hS => ?_)
  refine lv_istore (lv' := (6, .int r2) :: (5, .int r1) :: [(4, .int i), (3, .ref o0), (2, .ref m0), (1, .ref x0), (0, .ref b)]) hx hb dlw_701 hl (by decide) rfl (fun ls hl => ?_)
  refine lv_goto (tgt := 1187) hx hb dlw_703 (by decide) ?_
  exact kk x1 q1 w1 H1 locs1 ls hI (LJ_next hJ hu1 hk1 hH1 hpm.1.1 (JQ_rd hj hH1 hp1 hpm)) hS (lv_tl (lv_tl hl))
set_option maxRecDepth 100000 in
set_option maxHeartbeats 4000000 in
theorem lc_16 {p : Program} {e : Env} {s : State} {m : MethodId} {args : Array Value} {below : List Frame} {meth : Method} {c : Code} {H : Heap} {locs : List Loc} {Q : State → Prop} {ls : Array Slot} {A : Nat → Prop} {G : kG} {x w : gd} {q : kP} {x0 m0 o0 b L k : Nat} {xs : Nat → Int32} {i : Int32} (C : gC (wE (kE G)) 1000 yLaw p room_1 s m args meth c A) (hX : va_X b L xs s s.heap) (hbl : b < s.heap.size) (hbA : ¬ A b) (hI : LI G A H x q w x0 m0 o0) (hJ : LJ k x q w) (hk : k < 64) (hS : va_S A s.heap H locs) (v1 : vp_in (i + 1) L) (v2 : vp_in (i + 2) L) (v3 : vp_in (i + 3) L) (hl : lv_has ls 7 [(4, .int i), (3, .ref o0), (2, .ref m0), (1, .ref x0), (0, .ref b)]) (kk : ∀ (x1 : gd) (q1 : kP) (w1 : gd) (H1 : Heap) (locs1 : List Loc) (ls1 : Array Slot), LI G A H1 x1 q1 w1 x0 m0 o0 → LJ (k + 1) x1 q1 w1 → va_S A s.heap H1 locs1 → lv_has ls1 7 [(4, .int i), (3, .ref o0), (2, .ref m0), (1, .ref x0), (0, .ref b)] → W p G.1 e room_1 s m args below meth c H1 locs1 (q1.ce + 200) (q1.sl + 960000) Q (F0 m 1187 ls1 [])) : W p G.1 e room_1 s m args below meth c H locs (q.ce + 200) (q.sl + 960000) Q (F0 m 706 ls []) := by
  have hx := C.1.1
  have hb : c.code = cL_law := C.1.2.1
  obtain ⟨hu, hH, hm, el, b1, b2⟩ := id hJ
  obtain ⟨C9, wr, n9, lm, hj⟩ := el
  have el := JH_J hj
  refine lv_aload_n hx hb dlw_706 rfl (lv_at hl 3 rfl) ?_
  refine lv_aload_n hx hb dlw_707 rfl (lv_at hl 4 rfl) ?_
  refine lv_iload hx hb dlw_708 (lv_at hl 0 rfl) ?_
  refine lv_iconst (v := 1) hx hb dlw_710 (by decide +kernel) ?_
  refine lv_iadd hx hb dlw_711 ?_
  refine va_sld hx hb hX hbl hbA hS (i := i + 1) v1 dlw_712 ?_
  refine lv_aload_n hx hb dlw_713 rfl (lv_at hl 4 rfl) ?_
  refine lv_iload hx hb dlw_714 (lv_at hl 0 rfl) ?_
  refine lv_iconst (v := 2) hx hb dlw_716 (by decide +kernel) ?_
  refine lv_iadd hx hb dlw_717 ?_
  refine va_sld hx hb hX hbl hbA hS (i := i + 2) v2 dlw_718 ?_
  refine lv_aload_n hx hb dlw_719 rfl (lv_at hl 1 rfl) ?_
  refine LI_S C hI hu hS hl.1 [vi (xs (i + 1).toNatClampNeg), vi (xs (i + 2).toNatClampNeg)] [.int (xs (i + 1).toNatClampNeg), .int (xs (i + 2).toNatClampNeg)] (fun _ => rfl) dlw_720 wcs_164 rfl (by intro h; cases h) (Nat.le_of_ble_eq_true rfl) (kw_local (d := 870) hj hu hH (xs (i + 1).toNatClampNeg) (xs (i + 2).toNatClampNeg)) (LJ_room hJ hk) (fun r1 x1 q1 H1 locs1 hI hu1 hk1 hH1 hp1 hS => ?_)
  refine lv_istore (lv' := (5, .int r1) :: [(4, .int i), (3, .ref o0), (2, .ref m0), (1, .ref x0), (0, .ref b)]) hx hb dlw_723 hl (by decide) rfl (fun ls hl => ?_)
  refine lv_aload_n hx hb dlw_725 rfl (lv_at hl 3 rfl) ?_
  refine lv_aload_n hx hb dlw_726 rfl (lv_at hl 5 rfl) ?_
  refine lv_iload hx hb dlw_727 (lv_at hl 1 rfl) ?_
  refine lv_iconst (v := 1) hx hb dlw_729 (by decide +kernel) ?_
  refine lv_iadd hx hb dlw_730 ?_
  refine va_sld hx hb hX hbl hbA hS (i := i + 1) v1 dlw_731 ?_
  refine lv_aload_n hx hb dlw_732 rfl (lv_at hl 5 rfl) ?_
  refine lv_iload hx hb dlw_733 (lv_at hl 1 rfl) ?_
  refine lv_iconst (v := 2) hx hb dlw_735 (by decide +kernel) ?_
  refine lv_iadd hx hb dlw_736 ?_
  refine va_sld hx hb hX hbl hbA hS (i := i + 2) v2 dlw_737 ?_
  refine LI_M C hI hS hl.1 (restv := []) (d1 := 900) (F := fun r9 w1 => ansM C9 wr (f1Ch w) (f2Lo C9 wr n9 w (xs (i + 1).toNatClampNeg) (xs (i + 2).toNatClampNeg)) (tLo C9 wr n9 w (xs (i + 1).toNatClampNeg) (xs (i + 2).toNatClampNeg)) w r9 w1) [vi (xs (i + 1).toNatClampNeg), vi (xs (i + 2).toNatClampNeg)] [.int (xs (i + 1).toNatClampNeg), .int (xs (i + 2).toNatClampNeg)] (fun _ => rfl) dlw_738 wcm_166 rfl rfl (Nat.le_of_ble_eq_true rfl) (by decide) (by omega) (ma_local hj hH hm (xs (i + 1).toNatClampNeg) (xs (i + 2).toNatClampNeg) (by omega) (fun _ _ h1 => h1)) ⟨(LJ_room hJ hk q1 hu1 hk1).1, (LJ_room hJ hk q1 hu1 hk1).2⟩ (fun r2 w1 H1 locs1 hI hpm hS => ?_)
  have hj2 := ja_local hj hH1 hp1 hpm
  refine lv_istore (lv' := (6, .int r2) :: (5, .int r1) :: [(4, .int i), (3, .ref o0), (2, .ref m0), (1, .ref x0), (0, .ref b)]) hx hb dlw_741 hl (by decide) rfl (fun ls hl => ?_)
  refine lv_goto (tgt := 1187) hx hb dlw_743 (by decide) ?_
  exact kk x1 q1 w1 H1 locs1 ls hI (LJ_next hJ hu1 hk1 hH1 hpm.1 hj2.1) hS (lv_tl (lv_tl hl))
set_option maxRecDepth 100000 in
set_option maxHeartbeats 4000000 in
theorem lc_17 {p : Program} {e : Env} {s : State} {m : MethodId} {args : Array Value} {below : List Frame} {meth : Method} {c : Code} {H : Heap} {locs : List Loc} {Q : State → Prop} {ls : Array Slot} {A : Nat → Prop} {G : kG} {x w : gd} {q : kP} {x0 m0 o0 b L k : Nat} {xs : Nat → Int32} {i : Int32} (C : gC (wE (kE G)) 1000 yLaw p room_1 s m args meth c A) (hX : va_X b L xs s s.heap) (hbl : b < s.heap.size) (hbA : ¬ A b) (hI : LI G A H x q w x0 m0 o0) (hJ : LJ k x q w) (hk : k < 64) (hS : va_S A s.heap H locs) (v1 : vp_in (i + 1) L) (v2 : vp_in (i + 2) L) (v3 : vp_in (i + 3) L) (hl : lv_has ls 7 [(4, .int i), (3, .ref o0), (2, .ref m0), (1, .ref x0), (0, .ref b)]) (kk : ∀ (x1 : gd) (q1 : kP) (w1 : gd) (H1 : Heap) (locs1 : List Loc) (ls1 : Array Slot), LI G A H1 x1 q1 w1 x0 m0 o0 → LJ (k + 1) x1 q1 w1 → va_S A s.heap H1 locs1 → lv_has ls1 7 [(4, .int i), (3, .ref o0), (2, .ref m0), (1, .ref x0), (0, .ref b)] → W p G.1 e room_1 s m args below meth c H1 locs1 (q1.ce + 200) (q1.sl + 960000) Q (F0 m 1187 ls1 [])) : W p G.1 e room_1 s m args below meth c H locs (q.ce + 200) (q.sl + 960000) Q (F0 m 746 ls []) := by
  have hx := C.1.1
  have hb : c.code = cL_law := C.1.2.1
  obtain ⟨hu, hH, hm, el, b1, b2⟩ := id hJ
  obtain ⟨C9, wr, n9, lm, hj⟩ := el
  have el := JH_J hj
  refine lv_aload_n hx hb dlw_746 rfl (lv_at hl 3 rfl) ?_
  refine lv_aload_n hx hb dlw_747 rfl (lv_at hl 4 rfl) ?_
  refine lv_iload hx hb dlw_748 (lv_at hl 0 rfl) ?_
  refine lv_iconst (v := 1) hx hb dlw_750 (by decide +kernel) ?_
  refine lv_iadd hx hb dlw_751 ?_
  refine va_sld hx hb hX hbl hbA hS (i := i + 1) v1 dlw_752 ?_
  refine lv_aload_n hx hb dlw_753 rfl (lv_at hl 4 rfl) ?_
  refine lv_iload hx hb dlw_754 (lv_at hl 0 rfl) ?_
  refine lv_iconst (v := 2) hx hb dlw_756 (by decide +kernel) ?_
  refine lv_iadd hx hb dlw_757 ?_
  refine va_sld hx hb hX hbl hbA hS (i := i + 2) v2 dlw_758 ?_
  refine lv_aload_n hx hb dlw_759 rfl (lv_at hl 1 rfl) ?_
  refine LI_S C hI hu hS hl.1 [vi (xs (i + 1).toNatClampNeg), vi (xs (i + 2).toNatClampNeg)] [.int (xs (i + 1).toNatClampNeg), .int (xs (i + 2).toNatClampNeg)] (fun _ => rfl) dlw_760 wcs_167 rfl (by intro h; cases h) (Nat.le_of_ble_eq_true rfl) (kw_act (d := 870) hj hu hH (xs (i + 1).toNatClampNeg) (xs (i + 2).toNatClampNeg)) (LJ_room hJ hk) (fun r1 x1 q1 H1 locs1 hI hu1 hk1 hH1 hp1 hS => ?_)
  refine lv_istore (lv' := (5, .int r1) :: [(4, .int i), (3, .ref o0), (2, .ref m0), (1, .ref x0), (0, .ref b)]) hx hb dlw_763 hl (by decide) rfl (fun ls hl => ?_)
  refine lv_aload_n hx hb dlw_765 rfl (lv_at hl 3 rfl) ?_
  refine lv_aload_n hx hb dlw_766 rfl (lv_at hl 5 rfl) ?_
  refine lv_iload hx hb dlw_767 (lv_at hl 1 rfl) ?_
  refine lv_iconst (v := 1) hx hb dlw_769 (by decide +kernel) ?_
  refine lv_iadd hx hb dlw_770 ?_
  refine va_sld hx hb hX hbl hbA hS (i := i + 1) v1 dlw_771 ?_
  refine lv_aload_n hx hb dlw_772 rfl (lv_at hl 5 rfl) ?_
  refine lv_iload hx hb dlw_773 (lv_at hl 1 rfl) ?_
  refine lv_iconst (v := 2) hx hb dlw_775 (by decide +kernel) ?_
  refine lv_iadd hx hb dlw_776 ?_
  refine va_sld hx hb hX hbl hbA hS (i := i + 2) v2 dlw_777 ?_
  refine LI_M C hI hS hl.1 (restv := []) (d1 := 900) (F := fun r9 w1 => ansM C9 wr (f1Ch w) (f2Ac w (xs (i + 1).toNatClampNeg) (xs (i + 2).toNatClampNeg)) (tAc C9 wr n9 w (xs (i + 1).toNatClampNeg) (xs (i + 2).toNatClampNeg)) w r9 w1) [vi (xs (i + 1).toNatClampNeg), vi (xs (i + 2).toNatClampNeg)] [.int (xs (i + 1).toNatClampNeg), .int (xs (i + 2).toNatClampNeg)] (fun _ => rfl) dlw_778 wcm_169 rfl rfl (Nat.le_of_ble_eq_true rfl) (by decide) (by omega) (ma_act hj hH hm (xs (i + 1).toNatClampNeg) (xs (i + 2).toNatClampNeg) (by omega) (fun _ _ h1 => h1)) ⟨(LJ_room hJ hk q1 hu1 hk1).1, (LJ_room hJ hk q1 hu1 hk1).2⟩ (fun r2 w1 H1 locs1 hI hpm hS => ?_)
  have hj2 := ja_act hj hH1 hp1 hpm
  refine lv_istore (lv' := (6, .int r2) :: (5, .int r1) :: [(4, .int i), (3, .ref o0), (2, .ref m0), (1, .ref x0), (0, .ref b)]) hx hb dlw_781 hl (by decide) rfl (fun ls hl => ?_)
  refine lv_goto (tgt := 1187) hx hb dlw_783 (by decide) ?_
  exact kk x1 q1 w1 H1 locs1 ls hI (LJ_next hJ hu1 hk1 hH1 hpm.1 hj2.1) hS (lv_tl (lv_tl hl))
set_option maxRecDepth 100000 in
set_option maxHeartbeats 4000000 in
theorem lc_18 {p : Program} {e : Env} {s : State} {m : MethodId} {args : Array Value} {below : List Frame} {meth : Method} {c : Code} {H : Heap} {locs : List Loc} {Q : State → Prop} {ls : Array Slot} {A : Nat → Prop} {G : kG} {x w : gd} {q : kP} {x0 m0 o0 b L k : Nat} {xs : Nat → Int32} {i : Int32} (C : gC (wE (kE G)) 1000 yLaw p room_1 s m args meth c A) (hX : va_X b L xs s s.heap) (hbl : b < s.heap.size) (hbA : ¬ A b) (hI : LI G A H x q w x0 m0 o0) (hJ : LJ k x q w) (hk : k < 64) (hS : va_S A s.heap H locs) (v1 : vp_in (i + 1) L) (v2 : vp_in (i + 2) L) (v3 : vp_in (i + 3) L) (hl : lv_has ls 7 [(4, .int i), (3, .ref o0), (2, .ref m0), (1, .ref x0), (0, .ref b)]) (kk : ∀ (x1 : gd) (q1 : kP) (w1 : gd) (H1 : Heap) (locs1 : List Loc) (ls1 : Array Slot), LI G A H1 x1 q1 w1 x0 m0 o0 → LJ (k + 1) x1 q1 w1 → va_S A s.heap H1 locs1 → lv_has ls1 7 [(4, .int i), (3, .ref o0), (2, .ref m0), (1, .ref x0), (0, .ref b)] → W p G.1 e room_1 s m args below meth c H1 locs1 (q1.ce + 200) (q1.sl + 960000) Q (F0 m 1187 ls1 [])) : W p G.1 e room_1 s m args below meth c H locs (q.ce + 200) (q.sl + 960000) Q (F0 m 786 ls []) := by
  have hx := C.1.1
  have hb : c.code = cL_law := C.1.2.1
  obtain ⟨hu, hH, hm, el, b1, b2⟩ := id hJ
  obtain ⟨C9, wr, n9, lm, hj⟩ := el
  have el := JH_J hj
  refine lv_aload_n hx hb dlw_786 rfl (lv_at hl 3 rfl) ?_
  refine lv_aload_n hx hb dlw_787 rfl (lv_at hl 4 rfl) ?_
  refine lv_iload hx hb dlw_788 (lv_at hl 0 rfl) ?_
  refine lv_iconst (v := 1) hx hb dlw_790 (by decide +kernel) ?_
  refine lv_iadd hx hb dlw_791 ?_
  refine va_sld hx hb hX hbl hbA hS (i := i + 1) v1 dlw_792 ?_
  refine lv_aload_n hx hb dlw_793 rfl (lv_at hl 4 rfl) ?_
  refine lv_iload hx hb dlw_794 (lv_at hl 0 rfl) ?_
  refine lv_iconst (v := 2) hx hb dlw_796 (by decide +kernel) ?_
  refine lv_iadd hx hb dlw_797 ?_
  refine va_sld hx hb hX hbl hbA hS (i := i + 2) v2 dlw_798 ?_
  refine lv_aload_n hx hb dlw_799 rfl (lv_at hl 1 rfl) ?_
  refine LI_S C hI hu hS hl.1 [vi (xs (i + 1).toNatClampNeg), vi (xs (i + 2).toNatClampNeg)] [.int (xs (i + 1).toNatClampNeg), .int (xs (i + 2).toNatClampNeg)] (fun _ => rfl) dlw_800 wcs_170 rfl (by intro h; cases h) (Nat.le_of_ble_eq_true rfl) (kw_before (d := 870) hj hu hH (xs (i + 1).toNatClampNeg) (xs (i + 2).toNatClampNeg)) (LJ_room hJ hk) (fun r1 x1 q1 H1 locs1 hI hu1 hk1 hH1 hp1 hS => ?_)
  refine lv_istore (lv' := (5, .int r1) :: [(4, .int i), (3, .ref o0), (2, .ref m0), (1, .ref x0), (0, .ref b)]) hx hb dlw_803 hl (by decide) rfl (fun ls hl => ?_)
  refine lv_aload_n hx hb dlw_805 rfl (lv_at hl 3 rfl) ?_
  refine lv_aload_n hx hb dlw_806 rfl (lv_at hl 5 rfl) ?_
  refine lv_iload hx hb dlw_807 (lv_at hl 1 rfl) ?_
  refine lv_iconst (v := 1) hx hb dlw_809 (by decide +kernel) ?_
  refine lv_iadd hx hb dlw_810 ?_
  refine va_sld hx hb hX hbl hbA hS (i := i + 1) v1 dlw_811 ?_
  refine lv_aload_n hx hb dlw_812 rfl (lv_at hl 5 rfl) ?_
  refine lv_iload hx hb dlw_813 (lv_at hl 1 rfl) ?_
  refine lv_iconst (v := 2) hx hb dlw_815 (by decide +kernel) ?_
  refine lv_iadd hx hb dlw_816 ?_
  refine va_sld hx hb hX hbl hbA hS (i := i + 2) v2 dlw_817 ?_
  refine LI_M C hI hS hl.1 (restv := []) (d1 := 900) (F := fun r9 w1 => ansM C9 wr (f1Ch w) (f2Be w (xs (i + 1).toNatClampNeg) (xs (i + 2).toNatClampNeg)) (tBe C9 wr n9 w (xs (i + 1).toNatClampNeg) (xs (i + 2).toNatClampNeg)) w r9 w1) [vi (xs (i + 1).toNatClampNeg), vi (xs (i + 2).toNatClampNeg)] [.int (xs (i + 1).toNatClampNeg), .int (xs (i + 2).toNatClampNeg)] (fun _ => rfl) dlw_818 wcm_172 rfl rfl (Nat.le_of_ble_eq_true rfl) (by decide) (by omega) (ma_before hj hH hm (xs (i + 1).toNatClampNeg) (xs (i + 2).toNatClampNeg) (by omega) (fun _ _ h1 => h1)) ⟨(LJ_room hJ hk q1 hu1 hk1).1, (LJ_room hJ hk q1 hu1 hk1).2⟩ (fun r2 w1 H1 locs1 hI hpm hS => ?_)
  have hj2 := ja_before hj hH1 hp1 hpm
  refine lv_istore (lv' := (6, .int r2) :: (5, .int r1) :: [(4, .int i), (3, .ref o0), (2, .ref m0), (1, .ref x0), (0, .ref b)]) hx hb dlw_821 hl (by decide) rfl (fun ls hl => ?_)
  refine lv_goto (tgt := 1187) hx hb dlw_823 (by decide) ?_
  exact kk x1 q1 w1 H1 locs1 ls hI (LJ_next hJ hu1 hk1 hH1 hpm.1 hj2.1) hS (lv_tl (lv_tl hl))
set_option maxRecDepth 100000 in
set_option maxHeartbeats 4000000 in
theorem lc_19 {p : Program} {e : Env} {s : State} {m : MethodId} {args : Array Value} {below : List Frame} {meth : Method} {c : Code} {H : Heap} {locs : List Loc} {Q : State → Prop} {ls : Array Slot} {A : Nat → Prop} {G : kG} {x w : gd} {q : kP} {x0 m0 o0 b L k : Nat} {xs : Nat → Int32} {i : Int32} (C : gC (wE (kE G)) 1000 yLaw p room_1 s m args meth c A) (hX : va_X b L xs s s.heap) (hbl : b < s.heap.size) (hbA : ¬ A b) (hI : LI G A H x q w x0 m0 o0) (hJ : LJ k x q w) (hk : k < 64) (hS : va_S A s.heap H locs) (v1 : vp_in (i + 1) L) (v2 : vp_in (i + 2) L) (v3 : vp_in (i + 3) L) (hl : lv_has ls 7 [(4, .int i), (3, .ref o0), (2, .ref m0), (1, .ref x0), (0, .ref b)]) (kk : ∀ (x1 : gd) (q1 : kP) (w1 : gd) (H1 : Heap) (locs1 : List Loc) (ls1 : Array Slot), LI G A H1 x1 q1 w1 x0 m0 o0 → LJ (k + 1) x1 q1 w1 → va_S A s.heap H1 locs1 → lv_has ls1 7 [(4, .int i), (3, .ref o0), (2, .ref m0), (1, .ref x0), (0, .ref b)] → W p G.1 e room_1 s m args below meth c H1 locs1 (q1.ce + 200) (q1.sl + 960000) Q (F0 m 1187 ls1 [])) : W p G.1 e room_1 s m args below meth c H locs (q.ce + 200) (q.sl + 960000) Q (F0 m 826 ls []) := by
  have hx := C.1.1
  have hb : c.code = cL_law := C.1.2.1
  obtain ⟨hu, hH, hm, el, b1, b2⟩ := id hJ
  obtain ⟨C9, wr, n9, lm, hj⟩ := el
  have el := JH_J hj
  refine lv_aload_n hx hb dlw_826 rfl (lv_at hl 3 rfl) ?_
  refine lv_aload_n hx hb dlw_827 rfl (lv_at hl 4 rfl) ?_
  refine lv_iload hx hb dlw_828 (lv_at hl 0 rfl) ?_
  refine lv_iconst (v := 1) hx hb dlw_830 (by decide +kernel) ?_
  refine lv_iadd hx hb dlw_831 ?_
  refine va_sld hx hb hX hbl hbA hS (i := i + 1) v1 dlw_832 ?_
  refine lv_aload_n hx hb dlw_833 rfl (lv_at hl 4 rfl) ?_
  refine lv_iload hx hb dlw_834 (lv_at hl 0 rfl) ?_
  refine lv_iconst (v := 2) hx hb dlw_836 (by decide +kernel) ?_
  refine lv_iadd hx hb dlw_837 ?_
  refine va_sld hx hb hX hbl hbA hS (i := i + 2) v2 dlw_838 ?_
  refine lv_aload_n hx hb dlw_839 rfl (lv_at hl 1 rfl) ?_
  refine LI_S C hI hu hS hl.1 [vi (xs (i + 1).toNatClampNeg), vi (xs (i + 2).toNatClampNeg)] [.int (xs (i + 1).toNatClampNeg), .int (xs (i + 2).toNatClampNeg)] (fun _ => rfl) dlw_840 wcs_173 rfl (by intro h; cases h) (Nat.le_of_ble_eq_true rfl) (kw_race (d := 870) hj hu hH (xs (i + 1).toNatClampNeg) (xs (i + 2).toNatClampNeg)) (LJ_room hJ hk) (fun r1 x1 q1 H1 locs1 hI hu1 hk1 hH1 hp1 hS => ?_)
  refine lv_istore (lv' := (5, .int r1) :: [(4, .int i), (3, .ref o0), (2, .ref m0), (1, .ref x0), (0, .ref b)]) hx hb dlw_843 hl (by decide) rfl (fun ls hl => ?_)
  refine lv_aload_n hx hb dlw_845 rfl (lv_at hl 3 rfl) ?_
  refine lv_aload_n hx hb dlw_846 rfl (lv_at hl 5 rfl) ?_
  refine lv_iload hx hb dlw_847 (lv_at hl 1 rfl) ?_
  refine lv_iconst (v := 1) hx hb dlw_849 (by decide +kernel) ?_
  refine lv_iadd hx hb dlw_850 ?_
  refine va_sld hx hb hX hbl hbA hS (i := i + 1) v1 dlw_851 ?_
  refine lv_aload_n hx hb dlw_852 rfl (lv_at hl 5 rfl) ?_
  refine lv_iload hx hb dlw_853 (lv_at hl 1 rfl) ?_
  refine lv_iconst (v := 2) hx hb dlw_855 (by decide +kernel) ?_
  refine lv_iadd hx hb dlw_856 ?_
  refine va_sld hx hb hX hbl hbA hS (i := i + 2) v2 dlw_857 ?_
  refine LI_M C hI hS hl.1 (restv := []) (d1 := 900) (F := fun r9 w1 => ansM C9 wr (f1Ch w) (f2Ra C9 wr n9 w (xs (i + 1).toNatClampNeg) (xs (i + 2).toNatClampNeg)) (tRa C9 wr n9 w (xs (i + 1).toNatClampNeg) (xs (i + 2).toNatClampNeg)) w r9 w1) [vi (xs (i + 1).toNatClampNeg), vi (xs (i + 2).toNatClampNeg)] [.int (xs (i + 1).toNatClampNeg), .int (xs (i + 2).toNatClampNeg)] (fun _ => rfl) dlw_858 wcm_175 rfl rfl (Nat.le_of_ble_eq_true rfl) (by decide) (by omega) (ma_race hj hH hm (xs (i + 1).toNatClampNeg) (xs (i + 2).toNatClampNeg) (by omega) (fun _ _ h1 => h1)) ⟨(LJ_room hJ hk q1 hu1 hk1).1, (LJ_room hJ hk q1 hu1 hk1).2⟩ (fun r2 w1 H1 locs1 hI hpm hS => ?_)
  have hj2 := ja_race hj hH1 hp1 hpm
  refine lv_istore (lv' := (6, .int r2) :: (5, .int r1) :: [(4, .int i), (3, .ref o0), (2, .ref m0), (1, .ref x0), (0, .ref b)]) hx hb dlw_861 hl (by decide) rfl (fun ls hl => ?_)
  refine lv_goto (tgt := 1187) hx hb dlw_863 (by decide) ?_
  exact kk x1 q1 w1 H1 locs1 ls hI (LJ_next hJ hu1 hk1 hH1 hpm.1 hj2.1) hS (lv_tl (lv_tl hl))
end
section
set_option maxRecDepth 100000 in
set_option maxHeartbeats 4000000 in
theorem lc_20 {p : Program} {e : Env} {s : State} {m : MethodId} {args : Array Value} {below : List Frame} {meth : Method} {c : Code} {H : Heap} {locs : List Loc} {Q : State → Prop} {ls : Array Slot} {A : Nat → Prop} {G : kG} {x w : gd} {q : kP} {x0 m0 o0 b L k : Nat} {xs : Nat → Int32} {i : Int32} (C : gC (wE (kE G)) 1000 yLaw p room_1 s m args meth c A) (hX : va_X b L xs s s.heap) (hbl : b < s.heap.size) (hbA : ¬ A b) (hI : LI G A H x q w x0 m0 o0) (hJ : LJ k x q w) (hk : k < 64) (hS : va_S A s.heap H locs) (v1 : vp_in (i + 1) L) (v2 : vp_in (i + 2) L) (v3 : vp_in (i + 3) L) (hl : lv_has ls 7 [(4, .int i), (3, .ref o0), (2, .ref m0), (1, .ref x0), (0, .ref b)]) (kk : ∀ (x1 : gd) (q1 : kP) (w1 : gd) (H1 : Heap) (locs1 : List Loc) (ls1 : Array Slot), LI G A H1 x1 q1 w1 x0 m0 o0 → LJ (k + 1) x1 q1 w1 → va_S A s.heap H1 locs1 → lv_has ls1 7 [(4, .int i), (3, .ref o0), (2, .ref m0), (1, .ref x0), (0, .ref b)] → W p G.1 e room_1 s m args below meth c H1 locs1 (q1.ce + 200) (q1.sl + 960000) Q (F0 m 1187 ls1 [])) : W p G.1 e room_1 s m args below meth c H locs (q.ce + 200) (q.sl + 960000) Q (F0 m 866 ls []) := by
  have hx := C.1.1
  have hb : c.code = cL_law := C.1.2.1
  obtain ⟨hu, hH, hm, el, b1, b2⟩ := id hJ
  obtain ⟨C9, wr, n9, lm, hj⟩ := el
  have el := JH_J hj
  refine lv_aload_n hx hb dlw_866 rfl (lv_at hl 3 rfl) ?_
  refine lv_aload_n hx hb dlw_867 rfl (lv_at hl 4 rfl) ?_
  refine lv_iload hx hb dlw_868 (lv_at hl 0 rfl) ?_
  refine lv_iconst (v := 1) hx hb dlw_870 (by decide +kernel) ?_
  refine lv_iadd hx hb dlw_871 ?_
  refine va_sld hx hb hX hbl hbA hS (i := i + 1) v1 dlw_872 ?_
  refine lv_aload_n hx hb dlw_873 rfl (lv_at hl 1 rfl) ?_
  refine LI_S C hI hu hS hl.1 [vi (xs (i + 1).toNatClampNeg)] [.int (xs (i + 1).toNatClampNeg)] (fun _ => rfl) dlw_874 wcs_176 rfl (by intro h; cases h) (Nat.le_of_ble_eq_true rfl) (kw_linear (d := 870) hu hH (xs (i + 1).toNatClampNeg)) (LJ_room hJ hk) (fun r1 x1 q1 H1 locs1 hI hu1 hk1 hH1 hp1 hS => ?_)
  refine lv_istore (lv' := (5, .int r1) :: [(4, .int i), (3, .ref o0), (2, .ref m0), (1, .ref x0), (0, .ref b)]) hx hb dlw_877 hl (by decide) rfl (fun ls hl => ?_)
  refine lv_aload_n hx hb dlw_879 rfl (lv_at hl 3 rfl) ?_
  refine lv_aload_n hx hb dlw_880 rfl (lv_at hl 5 rfl) ?_
  refine lv_iload hx hb dlw_881 (lv_at hl 1 rfl) ?_
  refine lv_iconst (v := 1) hx hb dlw_883 (by decide +kernel) ?_
  refine lv_iadd hx hb dlw_884 ?_
  refine va_sld hx hb hX hbl hbA hS (i := i + 1) v1 dlw_885 ?_
  refine LI_M C hI hS hl.1 (restv := []) (d1 := 900) (F := fun _ w1 => rdM C9 wr w w1) [vi (xs (i + 1).toNatClampNeg)] [.int (xs (i + 1).toNatClampNeg)] (fun _ => rfl) dlw_886 wcm_178 rfl rfl (Nat.le_of_ble_eq_true rfl) (by decide) (by omega) (sr_linear hm (xs (i + 1).toNatClampNeg) (by omega) (fun _ _ h => h)) ⟨(LJ_room hJ hk q1 hu1 hk1).1, (LJ_room hJ hk q1 hu1 hk1).2⟩ (fun r2 w1 H1 locs1 hI hpm hS => ?_)
  refine lv_istore (lv' := (6, .int r2) :: (5, .int r1) :: [(4, .int i), (3, .ref o0), (2, .ref m0), (1, .ref x0), (0, .ref b)]) hx hb dlw_889 hl (by decide) rfl (fun ls hl => ?_)
  refine lv_goto (tgt := 1187) hx hb dlw_891 (by decide) ?_
  exact kk x1 q1 w1 H1 locs1 ls hI (LJ_next hJ hu1 hk1 hH1 hpm.1.1 (JQ_rd hj hH1 hp1 hpm)) hS (lv_tl (lv_tl hl))
set_option maxRecDepth 100000 in
set_option maxHeartbeats 4000000 in
theorem lc_21 {p : Program} {e : Env} {s : State} {m : MethodId} {args : Array Value} {below : List Frame} {meth : Method} {c : Code} {H : Heap} {locs : List Loc} {Q : State → Prop} {ls : Array Slot} {A : Nat → Prop} {G : kG} {x w : gd} {q : kP} {x0 m0 o0 b L k : Nat} {xs : Nat → Int32} {i : Int32} (C : gC (wE (kE G)) 1000 yLaw p room_1 s m args meth c A) (hX : va_X b L xs s s.heap) (hbl : b < s.heap.size) (hbA : ¬ A b) (hI : LI G A H x q w x0 m0 o0) (hJ : LJ k x q w) (hk : k < 64) (hS : va_S A s.heap H locs) (v1 : vp_in (i + 1) L) (v2 : vp_in (i + 2) L) (v3 : vp_in (i + 3) L) (hl : lv_has ls 7 [(4, .int i), (3, .ref o0), (2, .ref m0), (1, .ref x0), (0, .ref b)]) (kk : ∀ (x1 : gd) (q1 : kP) (w1 : gd) (H1 : Heap) (locs1 : List Loc) (ls1 : Array Slot), LI G A H1 x1 q1 w1 x0 m0 o0 → LJ (k + 1) x1 q1 w1 → va_S A s.heap H1 locs1 → lv_has ls1 7 [(4, .int i), (3, .ref o0), (2, .ref m0), (1, .ref x0), (0, .ref b)] → W p G.1 e room_1 s m args below meth c H1 locs1 (q1.ce + 200) (q1.sl + 960000) Q (F0 m 1187 ls1 [])) : W p G.1 e room_1 s m args below meth c H locs (q.ce + 200) (q.sl + 960000) Q (F0 m 894 ls []) := by
  have hx := C.1.1
  have hb : c.code = cL_law := C.1.2.1
  obtain ⟨hu, hH, hm, el, b1, b2⟩ := id hJ
  obtain ⟨C9, wr, n9, lm, hj⟩ := el
  have el := JH_J hj
  refine lv_aload_n hx hb dlw_894 rfl (lv_at hl 3 rfl) ?_
  refine lv_aload_n hx hb dlw_895 rfl (lv_at hl 4 rfl) ?_
  refine lv_iload hx hb dlw_896 (lv_at hl 0 rfl) ?_
  refine lv_iconst (v := 1) hx hb dlw_898 (by decide +kernel) ?_
  refine lv_iadd hx hb dlw_899 ?_
  refine va_sld hx hb hX hbl hbA hS (i := i + 1) v1 dlw_900 ?_
  refine lv_aload_n hx hb dlw_901 rfl (lv_at hl 4 rfl) ?_
  refine lv_iload hx hb dlw_902 (lv_at hl 0 rfl) ?_
  refine lv_iconst (v := 2) hx hb dlw_904 (by decide +kernel) ?_
  refine lv_iadd hx hb dlw_905 ?_
  refine va_sld hx hb hX hbl hbA hS (i := i + 2) v2 dlw_906 ?_
  refine lv_aload_n hx hb dlw_907 rfl (lv_at hl 1 rfl) ?_
  refine LI_S C hI hu hS hl.1 [vi (xs (i + 1).toNatClampNeg), vi (xs (i + 2).toNatClampNeg)] [.int (xs (i + 1).toNatClampNeg), .int (xs (i + 2).toNatClampNeg)] (fun _ => rfl) dlw_908 wcs_179 rfl (by intro h; cases h) (Nat.le_of_ble_eq_true rfl) (kw_attempt (d := 870) hj hu hH (xs (i + 1).toNatClampNeg) (xs (i + 2).toNatClampNeg)) (LJ_room hJ hk) (fun r1 x1 q1 H1 locs1 hI hu1 hk1 hH1 hp1 hS => ?_)
  refine lv_istore (lv' := (5, .int r1) :: [(4, .int i), (3, .ref o0), (2, .ref m0), (1, .ref x0), (0, .ref b)]) hx hb dlw_911 hl (by decide) rfl (fun ls hl => ?_)
  refine lv_aload_n hx hb dlw_913 rfl (lv_at hl 3 rfl) ?_
  refine lv_aload_n hx hb dlw_914 rfl (lv_at hl 5 rfl) ?_
  refine lv_iload hx hb dlw_915 (lv_at hl 1 rfl) ?_
  refine lv_iconst (v := 1) hx hb dlw_917 (by decide +kernel) ?_
  refine lv_iadd hx hb dlw_918 ?_
  refine va_sld hx hb hX hbl hbA hS (i := i + 1) v1 dlw_919 ?_
  refine lv_aload_n hx hb dlw_920 rfl (lv_at hl 5 rfl) ?_
  refine lv_iload hx hb dlw_921 (lv_at hl 1 rfl) ?_
  refine lv_iconst (v := 2) hx hb dlw_923 (by decide +kernel) ?_
  refine lv_iadd hx hb dlw_924 ?_
  refine va_sld hx hb hX hbl hbA hS (i := i + 2) v2 dlw_925 ?_
  refine LI_M C hI hS hl.1 (restv := []) (d1 := 900) (F := fun r9 w1 => ansM C9 wr (f1Bg w) (f2At w (xs (i + 1).toNatClampNeg) (xs (i + 2).toNatClampNeg)) (tAq C9 wr w (xs (i + 1).toNatClampNeg) (xs (i + 2).toNatClampNeg)) w r9 w1) [vi (xs (i + 1).toNatClampNeg), vi (xs (i + 2).toNatClampNeg)] [.int (xs (i + 1).toNatClampNeg), .int (xs (i + 2).toNatClampNeg)] (fun _ => rfl) dlw_926 wcm_181 rfl rfl (Nat.le_of_ble_eq_true rfl) (by decide) (by omega) (ma_attempt hj hH hm (xs (i + 1).toNatClampNeg) (xs (i + 2).toNatClampNeg) (by omega) (fun _ _ h1 => h1)) ⟨(LJ_room hJ hk q1 hu1 hk1).1, (LJ_room hJ hk q1 hu1 hk1).2⟩ (fun r2 w1 H1 locs1 hI hpm hS => ?_)
  have hj2 := ja_attempt hj hH1 hp1 hpm
  refine lv_istore (lv' := (6, .int r2) :: (5, .int r1) :: [(4, .int i), (3, .ref o0), (2, .ref m0), (1, .ref x0), (0, .ref b)]) hx hb dlw_929 hl (by decide) rfl (fun ls hl => ?_)
  refine lv_goto (tgt := 1187) hx hb dlw_931 (by decide) ?_
  exact kk x1 q1 w1 H1 locs1 ls hI (LJ_next hJ hu1 hk1 hH1 hpm.1 hj2.1) hS (lv_tl (lv_tl hl))
set_option maxRecDepth 100000 in
set_option maxHeartbeats 4000000 in
theorem lc_22 {p : Program} {e : Env} {s : State} {m : MethodId} {args : Array Value} {below : List Frame} {meth : Method} {c : Code} {H : Heap} {locs : List Loc} {Q : State → Prop} {ls : Array Slot} {A : Nat → Prop} {G : kG} {x w : gd} {q : kP} {x0 m0 o0 b L k : Nat} {xs : Nat → Int32} {i : Int32} (C : gC (wE (kE G)) 1000 yLaw p room_1 s m args meth c A) (hX : va_X b L xs s s.heap) (hbl : b < s.heap.size) (hbA : ¬ A b) (hI : LI G A H x q w x0 m0 o0) (hJ : LJ k x q w) (hk : k < 64) (hS : va_S A s.heap H locs) (v1 : vp_in (i + 1) L) (v2 : vp_in (i + 2) L) (v3 : vp_in (i + 3) L) (hl : lv_has ls 7 [(4, .int i), (3, .ref o0), (2, .ref m0), (1, .ref x0), (0, .ref b)]) (kk : ∀ (x1 : gd) (q1 : kP) (w1 : gd) (H1 : Heap) (locs1 : List Loc) (ls1 : Array Slot), LI G A H1 x1 q1 w1 x0 m0 o0 → LJ (k + 1) x1 q1 w1 → va_S A s.heap H1 locs1 → lv_has ls1 7 [(4, .int i), (3, .ref o0), (2, .ref m0), (1, .ref x0), (0, .ref b)] → W p G.1 e room_1 s m args below meth c H1 locs1 (q1.ce + 200) (q1.sl + 960000) Q (F0 m 1187 ls1 [])) : W p G.1 e room_1 s m args below meth c H locs (q.ce + 200) (q.sl + 960000) Q (F0 m 934 ls []) := by
  have hx := C.1.1
  have hb : c.code = cL_law := C.1.2.1
  obtain ⟨hu, hH, hm, el, b1, b2⟩ := id hJ
  obtain ⟨C9, wr, n9, lm, hj⟩ := el
  have el := JH_J hj
  refine lv_aload_n hx hb dlw_934 rfl (lv_at hl 3 rfl) ?_
  refine lv_aload_n hx hb dlw_935 rfl (lv_at hl 4 rfl) ?_
  refine lv_iload hx hb dlw_936 (lv_at hl 0 rfl) ?_
  refine lv_iconst (v := 1) hx hb dlw_938 (by decide +kernel) ?_
  refine lv_iadd hx hb dlw_939 ?_
  refine va_sld hx hb hX hbl hbA hS (i := i + 1) v1 dlw_940 ?_
  refine lv_aload_n hx hb dlw_941 rfl (lv_at hl 4 rfl) ?_
  refine lv_iload hx hb dlw_942 (lv_at hl 0 rfl) ?_
  refine lv_iconst (v := 2) hx hb dlw_944 (by decide +kernel) ?_
  refine lv_iadd hx hb dlw_945 ?_
  refine va_sld hx hb hX hbl hbA hS (i := i + 2) v2 dlw_946 ?_
  refine lv_aload_n hx hb dlw_947 rfl (lv_at hl 1 rfl) ?_
  refine LI_S C hI hu hS hl.1 [vi (xs (i + 1).toNatClampNeg), vi (xs (i + 2).toNatClampNeg)] [.int (xs (i + 1).toNatClampNeg), .int (xs (i + 2).toNatClampNeg)] (fun _ => rfl) dlw_948 wcs_182 rfl (by intro h; cases h) (Nat.le_of_ble_eq_true rfl) (kw_tried (d := 870) hu hH (xs (i + 1).toNatClampNeg) (xs (i + 2).toNatClampNeg)) (LJ_room hJ hk) (fun r1 x1 q1 H1 locs1 hI hu1 hk1 hH1 hp1 hS => ?_)
  refine lv_istore (lv' := (5, .int r1) :: [(4, .int i), (3, .ref o0), (2, .ref m0), (1, .ref x0), (0, .ref b)]) hx hb dlw_951 hl (by decide) rfl (fun ls hl => ?_)
  refine lv_aload_n hx hb dlw_953 rfl (lv_at hl 3 rfl) ?_
  refine lv_aload_n hx hb dlw_954 rfl (lv_at hl 5 rfl) ?_
  refine lv_iload hx hb dlw_955 (lv_at hl 1 rfl) ?_
  refine lv_iconst (v := 1) hx hb dlw_957 (by decide +kernel) ?_
  refine lv_iadd hx hb dlw_958 ?_
  refine va_sld hx hb hX hbl hbA hS (i := i + 1) v1 dlw_959 ?_
  refine lv_aload_n hx hb dlw_960 rfl (lv_at hl 5 rfl) ?_
  refine lv_iload hx hb dlw_961 (lv_at hl 1 rfl) ?_
  refine lv_iconst (v := 2) hx hb dlw_963 (by decide +kernel) ?_
  refine lv_iadd hx hb dlw_964 ?_
  refine va_sld hx hb hX hbl hbA hS (i := i + 2) v2 dlw_965 ?_
  refine LI_M C hI hS hl.1 (restv := []) (d1 := 900) (F := fun _ w1 => rdM C9 wr w w1) [vi (xs (i + 1).toNatClampNeg), vi (xs (i + 2).toNatClampNeg)] [.int (xs (i + 1).toNatClampNeg), .int (xs (i + 2).toNatClampNeg)] (fun _ => rfl) dlw_966 wcm_184 rfl rfl (Nat.le_of_ble_eq_true rfl) (by decide) (by omega) (sr_tried hm (xs (i + 1).toNatClampNeg) (xs (i + 2).toNatClampNeg) (by omega) (fun _ _ h => h)) ⟨(LJ_room hJ hk q1 hu1 hk1).1, (LJ_room hJ hk q1 hu1 hk1).2⟩ (fun r2 w1 H1 locs1 hI hpm hS => ?_)
  refine lv_istore (lv' := (6, .int r2) :: (5, .int r1) :: [(4, .int i), (3, .ref o0), (2, .ref m0), (1, .ref x0), (0, .ref b)]) hx hb dlw_969 hl (by decide) rfl (fun ls hl => ?_)
  refine lv_goto (tgt := 1187) hx hb dlw_971 (by decide) ?_
  exact kk x1 q1 w1 H1 locs1 ls hI (LJ_next hJ hu1 hk1 hH1 hpm.1.1 (JQ_rd hj hH1 hp1 hpm)) hS (lv_tl (lv_tl hl))
set_option maxRecDepth 100000 in
set_option maxHeartbeats 4000000 in
theorem lc_23 {p : Program} {e : Env} {s : State} {m : MethodId} {args : Array Value} {below : List Frame} {meth : Method} {c : Code} {H : Heap} {locs : List Loc} {Q : State → Prop} {ls : Array Slot} {A : Nat → Prop} {G : kG} {x w : gd} {q : kP} {x0 m0 o0 b L k : Nat} {xs : Nat → Int32} {i : Int32} (C : gC (wE (kE G)) 1000 yLaw p room_1 s m args meth c A) (hX : va_X b L xs s s.heap) (hbl : b < s.heap.size) (hbA : ¬ A b) (hI : LI G A H x q w x0 m0 o0) (hJ : LJ k x q w) (hk : k < 64) (hS : va_S A s.heap H locs) (v1 : vp_in (i + 1) L) (v2 : vp_in (i + 2) L) (v3 : vp_in (i + 3) L) (hl : lv_has ls 7 [(4, .int i), (3, .ref o0), (2, .ref m0), (1, .ref x0), (0, .ref b)]) (kk : ∀ (x1 : gd) (q1 : kP) (w1 : gd) (H1 : Heap) (locs1 : List Loc) (ls1 : Array Slot), LI G A H1 x1 q1 w1 x0 m0 o0 → LJ (k + 1) x1 q1 w1 → va_S A s.heap H1 locs1 → lv_has ls1 7 [(4, .int i), (3, .ref o0), (2, .ref m0), (1, .ref x0), (0, .ref b)] → W p G.1 e room_1 s m args below meth c H1 locs1 (q1.ce + 200) (q1.sl + 960000) Q (F0 m 1187 ls1 [])) : W p G.1 e room_1 s m args below meth c H locs (q.ce + 200) (q.sl + 960000) Q (F0 m 974 ls []) := by
  have hx := C.1.1
  have hb : c.code = cL_law := C.1.2.1
  obtain ⟨hu, hH, hm, el, b1, b2⟩ := id hJ
  obtain ⟨C9, wr, n9, lm, hj⟩ := el
  have el := JH_J hj
  refine lv_aload_n hx hb dlw_974 rfl (lv_at hl 3 rfl) ?_
  refine lv_aload_n hx hb dlw_975 rfl (lv_at hl 4 rfl) ?_
  refine lv_iload hx hb dlw_976 (lv_at hl 0 rfl) ?_
  refine lv_iconst (v := 1) hx hb dlw_978 (by decide +kernel) ?_
  refine lv_iadd hx hb dlw_979 ?_
  refine va_sld hx hb hX hbl hbA hS (i := i + 1) v1 dlw_980 ?_
  refine lv_aload_n hx hb dlw_981 rfl (lv_at hl 4 rfl) ?_
  refine lv_iload hx hb dlw_982 (lv_at hl 0 rfl) ?_
  refine lv_iconst (v := 2) hx hb dlw_984 (by decide +kernel) ?_
  refine lv_iadd hx hb dlw_985 ?_
  refine va_sld hx hb hX hbl hbA hS (i := i + 2) v2 dlw_986 ?_
  refine lv_aload_n hx hb dlw_987 rfl (lv_at hl 4 rfl) ?_
  refine lv_iload hx hb dlw_988 (lv_at hl 0 rfl) ?_
  refine lv_iconst (v := 3) hx hb dlw_990 (by decide +kernel) ?_
  refine lv_iadd hx hb dlw_991 ?_
  refine va_sld hx hb hX hbl hbA hS (i := i + 3) v3 dlw_992 ?_
  refine lv_aload_n hx hb dlw_993 rfl (lv_at hl 1 rfl) ?_
  refine LI_S C hI hu hS hl.1 [vi (xs (i + 1).toNatClampNeg), vi (xs (i + 2).toNatClampNeg), vi (xs (i + 3).toNatClampNeg)] [.int (xs (i + 1).toNatClampNeg), .int (xs (i + 2).toNatClampNeg), .int (xs (i + 3).toNatClampNeg)] (fun _ => rfl) dlw_994 wcs_185 rfl (by intro h; cases h) (Nat.le_of_ble_eq_true rfl) (kw_outcome (d := 870) hu hH (xs (i + 1).toNatClampNeg) (xs (i + 2).toNatClampNeg) (xs (i + 3).toNatClampNeg)) (LJ_room hJ hk) (fun r1 x1 q1 H1 locs1 hI hu1 hk1 hH1 hp1 hS => ?_)
  refine lv_istore (lv' := (5, .int r1) :: [(4, .int i), (3, .ref o0), (2, .ref m0), (1, .ref x0), (0, .ref b)]) hx hb dlw_997 hl (by decide) rfl (fun ls hl => ?_)
  refine lv_aload_n hx hb dlw_999 rfl (lv_at hl 3 rfl) ?_
  refine lv_aload_n hx hb dlw_1000 rfl (lv_at hl 5 rfl) ?_
  refine lv_iload hx hb dlw_1001 (lv_at hl 1 rfl) ?_
  refine lv_iconst (v := 1) hx hb dlw_1003 (by decide +kernel) ?_
  refine lv_iadd hx hb dlw_1004 ?_
  refine va_sld hx hb hX hbl hbA hS (i := i + 1) v1 dlw_1005 ?_
  refine lv_aload_n hx hb dlw_1006 rfl (lv_at hl 5 rfl) ?_
  refine lv_iload hx hb dlw_1007 (lv_at hl 1 rfl) ?_
  refine lv_iconst (v := 2) hx hb dlw_1009 (by decide +kernel) ?_
  refine lv_iadd hx hb dlw_1010 ?_
  refine va_sld hx hb hX hbl hbA hS (i := i + 2) v2 dlw_1011 ?_
  refine lv_aload_n hx hb dlw_1012 rfl (lv_at hl 5 rfl) ?_
  refine lv_iload hx hb dlw_1013 (lv_at hl 1 rfl) ?_
  refine lv_iconst (v := 3) hx hb dlw_1015 (by decide +kernel) ?_
  refine lv_iadd hx hb dlw_1016 ?_
  refine va_sld hx hb hX hbl hbA hS (i := i + 3) v3 dlw_1017 ?_
  refine LI_M C hI hS hl.1 (restv := []) (d1 := 900) (F := fun _ w1 => rdM C9 wr w w1) [vi (xs (i + 1).toNatClampNeg), vi (xs (i + 2).toNatClampNeg), vi (xs (i + 3).toNatClampNeg)] [.int (xs (i + 1).toNatClampNeg), .int (xs (i + 2).toNatClampNeg), .int (xs (i + 3).toNatClampNeg)] (fun _ => rfl) dlw_1018 wcm_188 rfl rfl (Nat.le_of_ble_eq_true rfl) (by decide) (by omega) (sr_outcome hm (xs (i + 1).toNatClampNeg) (xs (i + 2).toNatClampNeg) (xs (i + 3).toNatClampNeg) (by omega) (fun _ _ h => h)) ⟨(LJ_room hJ hk q1 hu1 hk1).1, (LJ_room hJ hk q1 hu1 hk1).2⟩ (fun r2 w1 H1 locs1 hI hpm hS => ?_)
  refine lv_istore (lv' := (6, .int r2) :: (5, .int r1) :: [(4, .int i), (3, .ref o0), (2, .ref m0), (1, .ref x0), (0, .ref b)]) hx hb dlw_1021 hl (by decide) rfl (fun ls hl => ?_)
  refine lv_goto (tgt := 1187) hx hb dlw_1023 (by decide) ?_
  exact kk x1 q1 w1 H1 locs1 ls hI (LJ_next hJ hu1 hk1 hH1 hpm.1.1 (JQ_rd hj hH1 hp1 hpm)) hS (lv_tl (lv_tl hl))
set_option maxRecDepth 100000 in
set_option maxHeartbeats 4000000 in
theorem lc_24 {p : Program} {e : Env} {s : State} {m : MethodId} {args : Array Value} {below : List Frame} {meth : Method} {c : Code} {H : Heap} {locs : List Loc} {Q : State → Prop} {ls : Array Slot} {A : Nat → Prop} {G : kG} {x w : gd} {q : kP} {x0 m0 o0 b L k : Nat} {xs : Nat → Int32} {i : Int32} (C : gC (wE (kE G)) 1000 yLaw p room_1 s m args meth c A) (hX : va_X b L xs s s.heap) (hbl : b < s.heap.size) (hbA : ¬ A b) (hI : LI G A H x q w x0 m0 o0) (hJ : LJ k x q w) (hk : k < 64) (hS : va_S A s.heap H locs) (v1 : vp_in (i + 1) L) (v2 : vp_in (i + 2) L) (v3 : vp_in (i + 3) L) (hl : lv_has ls 7 [(4, .int i), (3, .ref o0), (2, .ref m0), (1, .ref x0), (0, .ref b)]) (kk : ∀ (x1 : gd) (q1 : kP) (w1 : gd) (H1 : Heap) (locs1 : List Loc) (ls1 : Array Slot), LI G A H1 x1 q1 w1 x0 m0 o0 → LJ (k + 1) x1 q1 w1 → va_S A s.heap H1 locs1 → lv_has ls1 7 [(4, .int i), (3, .ref o0), (2, .ref m0), (1, .ref x0), (0, .ref b)] → W p G.1 e room_1 s m args below meth c H1 locs1 (q1.ce + 200) (q1.sl + 960000) Q (F0 m 1187 ls1 [])) : W p G.1 e room_1 s m args below meth c H locs (q.ce + 200) (q.sl + 960000) Q (F0 m 1026 ls []) := by
  have hx := C.1.1
  have hb : c.code = cL_law := C.1.2.1
  obtain ⟨hu, hH, hm, el, b1, b2⟩ := id hJ
  obtain ⟨C9, wr, n9, lm, hj⟩ := el
  have el := JH_J hj
  refine lv_aload_n hx hb dlw_1026 rfl (lv_at hl 3 rfl) ?_
  refine lv_aload_n hx hb dlw_1027 rfl (lv_at hl 4 rfl) ?_
  refine lv_iload hx hb dlw_1028 (lv_at hl 0 rfl) ?_
  refine lv_iconst (v := 1) hx hb dlw_1030 (by decide +kernel) ?_
  refine lv_iadd hx hb dlw_1031 ?_
  refine va_sld hx hb hX hbl hbA hS (i := i + 1) v1 dlw_1032 ?_
  refine lv_aload_n hx hb dlw_1033 rfl (lv_at hl 4 rfl) ?_
  refine lv_iload hx hb dlw_1034 (lv_at hl 0 rfl) ?_
  refine lv_iconst (v := 2) hx hb dlw_1036 (by decide +kernel) ?_
  refine lv_iadd hx hb dlw_1037 ?_
  refine va_sld hx hb hX hbl hbA hS (i := i + 2) v2 dlw_1038 ?_
  refine lv_aload_n hx hb dlw_1039 rfl (lv_at hl 1 rfl) ?_
  refine LI_S C hI hu hS hl.1 [vi (xs (i + 1).toNatClampNeg), vi (xs (i + 2).toNatClampNeg)] [.int (xs (i + 1).toNatClampNeg), .int (xs (i + 2).toNatClampNeg)] (fun _ => rfl) dlw_1040 wcs_189 rfl (by intro h; cases h) (Nat.le_of_ble_eq_true rfl) (kw_finding (d := 870) hj hu hH (xs (i + 1).toNatClampNeg) (xs (i + 2).toNatClampNeg)) (LJ_room hJ hk) (fun r1 x1 q1 H1 locs1 hI hu1 hk1 hH1 hp1 hS => ?_)
  refine lv_istore (lv' := (5, .int r1) :: [(4, .int i), (3, .ref o0), (2, .ref m0), (1, .ref x0), (0, .ref b)]) hx hb dlw_1043 hl (by decide) rfl (fun ls hl => ?_)
  refine lv_aload_n hx hb dlw_1045 rfl (lv_at hl 3 rfl) ?_
  refine lv_aload_n hx hb dlw_1046 rfl (lv_at hl 5 rfl) ?_
  refine lv_iload hx hb dlw_1047 (lv_at hl 1 rfl) ?_
  refine lv_iconst (v := 1) hx hb dlw_1049 (by decide +kernel) ?_
  refine lv_iadd hx hb dlw_1050 ?_
  refine va_sld hx hb hX hbl hbA hS (i := i + 1) v1 dlw_1051 ?_
  refine lv_aload_n hx hb dlw_1052 rfl (lv_at hl 5 rfl) ?_
  refine lv_iload hx hb dlw_1053 (lv_at hl 1 rfl) ?_
  refine lv_iconst (v := 2) hx hb dlw_1055 (by decide +kernel) ?_
  refine lv_iadd hx hb dlw_1056 ?_
  refine va_sld hx hb hX hbl hbA hS (i := i + 2) v2 dlw_1057 ?_
  refine LI_M C hI hS hl.1 (restv := []) (d1 := 900) (F := fun r9 w1 => ansM C9 wr (e1Sh (xs (i + 1).toNatClampNeg) (xs (i + 2).toNatClampNeg)) (False) (tFi C9 lm wr w (xs (i + 1).toNatClampNeg) (xs (i + 2).toNatClampNeg)) w r9 w1) [vi (xs (i + 1).toNatClampNeg), vi (xs (i + 2).toNatClampNeg)] [.int (xs (i + 1).toNatClampNeg), .int (xs (i + 2).toNatClampNeg)] (fun _ => rfl) dlw_1058 wcm_191 rfl rfl (Nat.le_of_ble_eq_true rfl) (by decide) (by omega) (ma_finding hj hH hm (xs (i + 1).toNatClampNeg) (xs (i + 2).toNatClampNeg) (by omega) (fun _ _ h1 => h1)) ⟨(LJ_room hJ hk q1 hu1 hk1).1, (LJ_room hJ hk q1 hu1 hk1).2⟩ (fun r2 w1 H1 locs1 hI hpm hS => ?_)
  have hj2 := ja_finding hj hH1 hp1 hpm
  refine lv_istore (lv' := (6, .int r2) :: (5, .int r1) :: [(4, .int i), (3, .ref o0), (2, .ref m0), (1, .ref x0), (0, .ref b)]) hx hb dlw_1061 hl (by decide) rfl (fun ls hl => ?_)
  refine lv_goto (tgt := 1187) hx hb dlw_1063 (by decide) ?_
  exact kk x1 q1 w1 H1 locs1 ls hI (LJ_next hJ hu1 hk1 hH1 hpm.1 hj2.1) hS (lv_tl (lv_tl hl))
set_option maxRecDepth 100000 in
set_option maxHeartbeats 4000000 in
theorem lc_25 {p : Program} {e : Env} {s : State} {m : MethodId} {args : Array Value} {below : List Frame} {meth : Method} {c : Code} {H : Heap} {locs : List Loc} {Q : State → Prop} {ls : Array Slot} {A : Nat → Prop} {G : kG} {x w : gd} {q : kP} {x0 m0 o0 b L k : Nat} {xs : Nat → Int32} {i : Int32} (C : gC (wE (kE G)) 1000 yLaw p room_1 s m args meth c A) (hX : va_X b L xs s s.heap) (hbl : b < s.heap.size) (hbA : ¬ A b) (hI : LI G A H x q w x0 m0 o0) (hJ : LJ k x q w) (hk : k < 64) (hS : va_S A s.heap H locs) (v1 : vp_in (i + 1) L) (v2 : vp_in (i + 2) L) (v3 : vp_in (i + 3) L) (hl : lv_has ls 7 [(4, .int i), (3, .ref o0), (2, .ref m0), (1, .ref x0), (0, .ref b)]) (kk : ∀ (x1 : gd) (q1 : kP) (w1 : gd) (H1 : Heap) (locs1 : List Loc) (ls1 : Array Slot), LI G A H1 x1 q1 w1 x0 m0 o0 → LJ (k + 1) x1 q1 w1 → va_S A s.heap H1 locs1 → lv_has ls1 7 [(4, .int i), (3, .ref o0), (2, .ref m0), (1, .ref x0), (0, .ref b)] → W p G.1 e room_1 s m args below meth c H1 locs1 (q1.ce + 200) (q1.sl + 960000) Q (F0 m 1187 ls1 [])) : W p G.1 e room_1 s m args below meth c H locs (q.ce + 200) (q.sl + 960000) Q (F0 m 1066 ls []) := by
  have hx := C.1.1
  have hb : c.code = cL_law := C.1.2.1
  obtain ⟨hu, hH, hm, el, b1, b2⟩ := id hJ
  obtain ⟨C9, wr, n9, lm, hj⟩ := el
  have el := JH_J hj
  refine lv_aload_n hx hb dlw_1066 rfl (lv_at hl 3 rfl) ?_
  refine lv_aload_n hx hb dlw_1067 rfl (lv_at hl 4 rfl) ?_
  refine lv_iload hx hb dlw_1068 (lv_at hl 0 rfl) ?_
  refine lv_iconst (v := 1) hx hb dlw_1070 (by decide +kernel) ?_
  refine lv_iadd hx hb dlw_1071 ?_
  refine va_sld hx hb hX hbl hbA hS (i := i + 1) v1 dlw_1072 ?_
  refine lv_aload_n hx hb dlw_1073 rfl (lv_at hl 4 rfl) ?_
  refine lv_iload hx hb dlw_1074 (lv_at hl 0 rfl) ?_
  refine lv_iconst (v := 2) hx hb dlw_1076 (by decide +kernel) ?_
  refine lv_iadd hx hb dlw_1077 ?_
  refine va_sld hx hb hX hbl hbA hS (i := i + 2) v2 dlw_1078 ?_
  refine lv_aload_n hx hb dlw_1079 rfl (lv_at hl 1 rfl) ?_
  refine LI_S C hI hu hS hl.1 [vi (xs (i + 1).toNatClampNeg), vi (xs (i + 2).toNatClampNeg)] [.int (xs (i + 1).toNatClampNeg), .int (xs (i + 2).toNatClampNeg)] (fun _ => rfl) dlw_1080 wcs_192 rfl (by intro h; cases h) (Nat.le_of_ble_eq_true rfl) (kw_show (d := 870) hj hu hH (xs (i + 1).toNatClampNeg) (xs (i + 2).toNatClampNeg)) (LJ_room hJ hk) (fun r1 x1 q1 H1 locs1 hI hu1 hk1 hH1 hp1 hS => ?_)
  refine lv_istore (lv' := (5, .int r1) :: [(4, .int i), (3, .ref o0), (2, .ref m0), (1, .ref x0), (0, .ref b)]) hx hb dlw_1083 hl (by decide) rfl (fun ls hl => ?_)
  refine lv_aload_n hx hb dlw_1085 rfl (lv_at hl 3 rfl) ?_
  refine lv_aload_n hx hb dlw_1086 rfl (lv_at hl 5 rfl) ?_
  refine lv_iload hx hb dlw_1087 (lv_at hl 1 rfl) ?_
  refine lv_iconst (v := 1) hx hb dlw_1089 (by decide +kernel) ?_
  refine lv_iadd hx hb dlw_1090 ?_
  refine va_sld hx hb hX hbl hbA hS (i := i + 1) v1 dlw_1091 ?_
  refine lv_aload_n hx hb dlw_1092 rfl (lv_at hl 5 rfl) ?_
  refine lv_iload hx hb dlw_1093 (lv_at hl 1 rfl) ?_
  refine lv_iconst (v := 2) hx hb dlw_1095 (by decide +kernel) ?_
  refine lv_iadd hx hb dlw_1096 ?_
  refine va_sld hx hb hX hbl hbA hS (i := i + 2) v2 dlw_1097 ?_
  refine LI_M C hI hS hl.1 (restv := []) (d1 := 900) (F := fun r9 w1 => ansM C9 wr (e1Sh (xs (i + 1).toNatClampNeg) (xs (i + 2).toNatClampNeg)) (f2Sh C9 lm w (xs (i + 1).toNatClampNeg) (xs (i + 2).toNatClampNeg)) (tSh C9 lm w (xs (i + 1).toNatClampNeg) (xs (i + 2).toNatClampNeg)) w r9 w1) [vi (xs (i + 1).toNatClampNeg), vi (xs (i + 2).toNatClampNeg)] [.int (xs (i + 1).toNatClampNeg), .int (xs (i + 2).toNatClampNeg)] (fun _ => rfl) dlw_1098 wcm_194 rfl rfl (Nat.le_of_ble_eq_true rfl) (by decide) (by omega) (ma_show hj hH hm (xs (i + 1).toNatClampNeg) (xs (i + 2).toNatClampNeg) (by omega) (fun _ _ h1 => h1)) ⟨(LJ_room hJ hk q1 hu1 hk1).1, (LJ_room hJ hk q1 hu1 hk1).2⟩ (fun r2 w1 H1 locs1 hI hpm hS => ?_)
  have hj2 := ja_show hj hH1 hp1 hpm
  refine lv_istore (lv' := (6, .int r2) :: (5, .int r1) :: [(4, .int i), (3, .ref o0), (2, .ref m0), (1, .ref x0), (0, .ref b)]) hx hb dlw_1101 hl (by decide) rfl (fun ls hl => ?_)
  refine lv_goto (tgt := 1187) hx hb dlw_1103 (by decide) ?_
  exact kk x1 q1 w1 H1 locs1 ls hI (LJ_next hJ hu1 hk1 hH1 hpm.1 hj2.1) hS (lv_tl (lv_tl hl))
set_option maxRecDepth 100000 in
set_option maxHeartbeats 4000000 in
theorem lc_26 {p : Program} {e : Env} {s : State} {m : MethodId} {args : Array Value} {below : List Frame} {meth : Method} {c : Code} {H : Heap} {locs : List Loc} {Q : State → Prop} {ls : Array Slot} {A : Nat → Prop} {G : kG} {x w : gd} {q : kP} {x0 m0 o0 b L k : Nat} {xs : Nat → Int32} {i : Int32} (C : gC (wE (kE G)) 1000 yLaw p room_1 s m args meth c A) (hX : va_X b L xs s s.heap) (hbl : b < s.heap.size) (hbA : ¬ A b) (hI : LI G A H x q w x0 m0 o0) (hJ : LJ k x q w) (hk : k < 64) (hS : va_S A s.heap H locs) (v1 : vp_in (i + 1) L) (v2 : vp_in (i + 2) L) (v3 : vp_in (i + 3) L) (hl : lv_has ls 7 [(4, .int i), (3, .ref o0), (2, .ref m0), (1, .ref x0), (0, .ref b)]) (kk : ∀ (x1 : gd) (q1 : kP) (w1 : gd) (H1 : Heap) (locs1 : List Loc) (ls1 : Array Slot), LI G A H1 x1 q1 w1 x0 m0 o0 → LJ (k + 1) x1 q1 w1 → va_S A s.heap H1 locs1 → lv_has ls1 7 [(4, .int i), (3, .ref o0), (2, .ref m0), (1, .ref x0), (0, .ref b)] → W p G.1 e room_1 s m args below meth c H1 locs1 (q1.ce + 200) (q1.sl + 960000) Q (F0 m 1187 ls1 [])) : W p G.1 e room_1 s m args below meth c H locs (q.ce + 200) (q.sl + 960000) Q (F0 m 1106 ls []) := by
  have hx := C.1.1
  have hb : c.code = cL_law := C.1.2.1
  obtain ⟨hu, hH, hm, el, b1, b2⟩ := id hJ
  obtain ⟨C9, wr, n9, lm, hj⟩ := el
  have el := JH_J hj
  refine lv_aload_n hx hb dlw_1106 rfl (lv_at hl 3 rfl) ?_
  refine lv_aload_n hx hb dlw_1107 rfl (lv_at hl 4 rfl) ?_
  refine lv_iload hx hb dlw_1108 (lv_at hl 0 rfl) ?_
  refine lv_iconst (v := 1) hx hb dlw_1110 (by decide +kernel) ?_
  refine lv_iadd hx hb dlw_1111 ?_
  refine va_sld hx hb hX hbl hbA hS (i := i + 1) v1 dlw_1112 ?_
  refine lv_aload_n hx hb dlw_1113 rfl (lv_at hl 4 rfl) ?_
  refine lv_iload hx hb dlw_1114 (lv_at hl 0 rfl) ?_
  refine lv_iconst (v := 2) hx hb dlw_1116 (by decide +kernel) ?_
  refine lv_iadd hx hb dlw_1117 ?_
  refine va_sld hx hb hX hbl hbA hS (i := i + 2) v2 dlw_1118 ?_
  refine lv_aload_n hx hb dlw_1119 rfl (lv_at hl 1 rfl) ?_
  refine LI_S C hI hu hS hl.1 [vi (xs (i + 1).toNatClampNeg), vi (xs (i + 2).toNatClampNeg)] [.int (xs (i + 1).toNatClampNeg), .int (xs (i + 2).toNatClampNeg)] (fun _ => rfl) dlw_1120 wcs_195 rfl (by intro h; cases h) (Nat.le_of_ble_eq_true rfl) (kw_common (d := 870) hu hH (xs (i + 1).toNatClampNeg) (xs (i + 2).toNatClampNeg)) (LJ_room hJ hk) (fun r1 x1 q1 H1 locs1 hI hu1 hk1 hH1 hp1 hS => ?_)
  refine lv_istore (lv' := (5, .int r1) :: [(4, .int i), (3, .ref o0), (2, .ref m0), (1, .ref x0), (0, .ref b)]) hx hb dlw_1123 hl (by decide) rfl (fun ls hl => ?_)
  refine lv_aload_n hx hb dlw_1125 rfl (lv_at hl 3 rfl) ?_
  refine lv_aload_n hx hb dlw_1126 rfl (lv_at hl 5 rfl) ?_
  refine lv_iload hx hb dlw_1127 (lv_at hl 1 rfl) ?_
  refine lv_iconst (v := 1) hx hb dlw_1129 (by decide +kernel) ?_
  refine lv_iadd hx hb dlw_1130 ?_
  refine va_sld hx hb hX hbl hbA hS (i := i + 1) v1 dlw_1131 ?_
  refine lv_aload_n hx hb dlw_1132 rfl (lv_at hl 5 rfl) ?_
  refine lv_iload hx hb dlw_1133 (lv_at hl 1 rfl) ?_
  refine lv_iconst (v := 2) hx hb dlw_1135 (by decide +kernel) ?_
  refine lv_iadd hx hb dlw_1136 ?_
  refine va_sld hx hb hX hbl hbA hS (i := i + 2) v2 dlw_1137 ?_
  refine LI_M C hI hS hl.1 (restv := []) (d1 := 900) (F := fun _ w1 => rdM C9 wr w w1) [vi (xs (i + 1).toNatClampNeg), vi (xs (i + 2).toNatClampNeg)] [.int (xs (i + 1).toNatClampNeg), .int (xs (i + 2).toNatClampNeg)] (fun _ => rfl) dlw_1138 wcm_197 rfl rfl (Nat.le_of_ble_eq_true rfl) (by decide) (by omega) (sr_common hm (xs (i + 1).toNatClampNeg) (xs (i + 2).toNatClampNeg) (by omega) (fun _ _ h => h)) ⟨(LJ_room hJ hk q1 hu1 hk1).1, (LJ_room hJ hk q1 hu1 hk1).2⟩ (fun r2 w1 H1 locs1 hI hpm hS => ?_)
  refine lv_istore (lv' := (6, .int r2) :: (5, .int r1) :: [(4, .int i), (3, .ref o0), (2, .ref m0), (1, .ref x0), (0, .ref b)]) hx hb dlw_1141 hl (by decide) rfl (fun ls hl => ?_)
  refine lv_goto (tgt := 1187) hx hb dlw_1143 (by decide) ?_
  exact kk x1 q1 w1 H1 locs1 ls hI (LJ_next hJ hu1 hk1 hH1 hpm.1.1 (JQ_rd hj hH1 hp1 hpm)) hS (lv_tl (lv_tl hl))
set_option maxRecDepth 100000 in
set_option maxHeartbeats 4000000 in
theorem lc_27 {p : Program} {e : Env} {s : State} {m : MethodId} {args : Array Value} {below : List Frame} {meth : Method} {c : Code} {H : Heap} {locs : List Loc} {Q : State → Prop} {ls : Array Slot} {A : Nat → Prop} {G : kG} {x w : gd} {q : kP} {x0 m0 o0 b L k : Nat} {xs : Nat → Int32} {i : Int32} (C : gC (wE (kE G)) 1000 yLaw p room_1 s m args meth c A) (hX : va_X b L xs s s.heap) (hbl : b < s.heap.size) (hbA : ¬ A b) (hI : LI G A H x q w x0 m0 o0) (hJ : LJ k x q w) (hk : k < 64) (hS : va_S A s.heap H locs) (v1 : vp_in (i + 1) L) (v2 : vp_in (i + 2) L) (v3 : vp_in (i + 3) L) (hl : lv_has ls 7 [(4, .int i), (3, .ref o0), (2, .ref m0), (1, .ref x0), (0, .ref b)]) (kk : ∀ (x1 : gd) (q1 : kP) (w1 : gd) (H1 : Heap) (locs1 : List Loc) (ls1 : Array Slot), LI G A H1 x1 q1 w1 x0 m0 o0 → LJ (k + 1) x1 q1 w1 → va_S A s.heap H1 locs1 → lv_has ls1 7 [(4, .int i), (3, .ref o0), (2, .ref m0), (1, .ref x0), (0, .ref b)] → W p G.1 e room_1 s m args below meth c H1 locs1 (q1.ce + 200) (q1.sl + 960000) Q (F0 m 1187 ls1 [])) : W p G.1 e room_1 s m args below meth c H locs (q.ce + 200) (q.sl + 960000) Q (F0 m 1146 ls []) := by
  have hx := C.1.1
  have hb : c.code = cL_law := C.1.2.1
  obtain ⟨hu, hH, hm, el, b1, b2⟩ := id hJ
  obtain ⟨C9, wr, n9, lm, hj⟩ := el
  have el := JH_J hj
  refine lv_aload_n hx hb dlw_1146 rfl (lv_at hl 3 rfl) ?_
  refine lv_aload_n hx hb dlw_1147 rfl (lv_at hl 4 rfl) ?_
  refine lv_iload hx hb dlw_1148 (lv_at hl 0 rfl) ?_
  refine lv_iconst (v := 1) hx hb dlw_1150 (by decide +kernel) ?_
  refine lv_iadd hx hb dlw_1151 ?_
  refine va_sld hx hb hX hbl hbA hS (i := i + 1) v1 dlw_1152 ?_
  refine lv_aload_n hx hb dlw_1153 rfl (lv_at hl 1 rfl) ?_
  refine LI_S C hI hu hS hl.1 [vi (xs (i + 1).toNatClampNeg)] [.int (xs (i + 1).toNatClampNeg)] (fun _ => rfl) dlw_1154 wcs_198 rfl (by intro h; cases h) (Nat.le_of_ble_eq_true rfl) (kw_ring (d := 870) hu hH (xs (i + 1).toNatClampNeg)) (LJ_room hJ hk) (fun r1 x1 q1 H1 locs1 hI hu1 hk1 hH1 hp1 hS => ?_)
  refine lv_istore (lv' := (5, .int r1) :: [(4, .int i), (3, .ref o0), (2, .ref m0), (1, .ref x0), (0, .ref b)]) hx hb dlw_1157 hl (by decide) rfl (fun ls hl => ?_)
  refine lv_aload_n hx hb dlw_1159 rfl (lv_at hl 3 rfl) ?_
  refine lv_aload_n hx hb dlw_1160 rfl (lv_at hl 5 rfl) ?_
  refine lv_iload hx hb dlw_1161 (lv_at hl 1 rfl) ?_
  refine lv_iconst (v := 1) hx hb dlw_1163 (by decide +kernel) ?_
  refine lv_iadd hx hb dlw_1164 ?_
  refine va_sld hx hb hX hbl hbA hS (i := i + 1) v1 dlw_1165 ?_
  refine LI_M C hI hS hl.1 (restv := []) (d1 := 900) (F := fun _ w1 => rdM C9 wr w w1) [vi (xs (i + 1).toNatClampNeg)] [.int (xs (i + 1).toNatClampNeg)] (fun _ => rfl) dlw_1166 wcm_200 rfl rfl (Nat.le_of_ble_eq_true rfl) (by decide) (by omega) (sr_ring hm (xs (i + 1).toNatClampNeg) (by omega) (fun _ _ h => h)) ⟨(LJ_room hJ hk q1 hu1 hk1).1, (LJ_room hJ hk q1 hu1 hk1).2⟩ (fun r2 w1 H1 locs1 hI hpm hS => ?_)
  refine lv_istore (lv' := (6, .int r2) :: (5, .int r1) :: [(4, .int i), (3, .ref o0), (2, .ref m0), (1, .ref x0), (0, .ref b)]) hx hb dlw_1169 hl (by decide) rfl (fun ls hl => ?_)
  refine lv_goto (tgt := 1187) hx hb dlw_1171 (by decide) ?_
  exact kk x1 q1 w1 H1 locs1 ls hI (LJ_next hJ hu1 hk1 hH1 hpm.1.1 (JQ_rd hj hH1 hp1 hpm)) hS (lv_tl (lv_tl hl))
set_option maxRecDepth 100000 in
set_option maxHeartbeats 4000000 in
theorem lc_28 {p : Program} {e : Env} {s : State} {m : MethodId} {args : Array Value} {below : List Frame} {meth : Method} {c : Code} {H : Heap} {locs : List Loc} {Q : State → Prop} {ls : Array Slot} {A : Nat → Prop} {G : kG} {x w : gd} {q : kP} {x0 m0 o0 b L k : Nat} {xs : Nat → Int32} {i : Int32} (C : gC (wE (kE G)) 1000 yLaw p room_1 s m args meth c A) (hX : va_X b L xs s s.heap) (hbl : b < s.heap.size) (hbA : ¬ A b) (hI : LI G A H x q w x0 m0 o0) (hJ : LJ k x q w) (hk : k < 64) (hS : va_S A s.heap H locs) (v1 : vp_in (i + 1) L) (v2 : vp_in (i + 2) L) (v3 : vp_in (i + 3) L) (hl : lv_has ls 7 [(4, .int i), (3, .ref o0), (2, .ref m0), (1, .ref x0), (0, .ref b)]) (kk : ∀ (x1 : gd) (q1 : kP) (w1 : gd) (H1 : Heap) (locs1 : List Loc) (ls1 : Array Slot), LI G A H1 x1 q1 w1 x0 m0 o0 → LJ (k + 1) x1 q1 w1 → va_S A s.heap H1 locs1 → lv_has ls1 7 [(4, .int i), (3, .ref o0), (2, .ref m0), (1, .ref x0), (0, .ref b)] → W p G.1 e room_1 s m args below meth c H1 locs1 (q1.ce + 200) (q1.sl + 960000) Q (F0 m 1187 ls1 [])) : W p G.1 e room_1 s m args below meth c H locs (q.ce + 200) (q.sl + 960000) Q (F0 m 1174 ls []) := by
  have hx := C.1.1
  have hb : c.code = cL_law := C.1.2.1
  obtain ⟨hu, hH, hm, el, b1, b2⟩ := id hJ
  obtain ⟨C9, wr, n9, lm, hj⟩ := el
  have el := JH_J hj
  refine lv_aload_n hx hb dlw_1174 rfl (lv_at hl 3 rfl) ?_
  refine LI_K C hI hu hS hl.1 (restv := []) (P := fun _ y9 _ => KRd x y9) dlw_1175 wcv_201 rfl (Nat.le_of_ble_eq_true rfl) (by decide) (T_mono (kr_alike (d := 898) hu.1 hH (P := fun v9 y9 => ∃ r, v9 = some (vi r) ∧ HOI y9 q ∧ KRd x y9) (fun r y9 h1 h2 => ⟨r, rfl, h1, h2⟩)) (fun o9 x9 f9 w9 => by obtain ⟨rfl, v, rfl, r, rfl, h1, h2⟩ := w9; exact ⟨r, q, rfl, rfl, hu, kst_rf q, h1, h2⟩)) (LJ_room hJ hk) (fun r1 x1 x2 q1 H1 locs1 hI hu1 hk1 hH1 hp1 ex hS => ?_)
  refine lv_pop hx hb dlw_1178 rfl ?_
  refine lv_aload_n hx hb dlw_1179 rfl (lv_at hl 2 rfl) ?_
  refine LI_M C hI hS hl.1 (restv := []) (d1 := 900) (F := fun _ w1 => rdM C9 wr w w1) [] [] (fun _ => rfl) dlw_1180 wcm_204 rfl rfl (Nat.le_of_ble_eq_true rfl) (by decide) (by omega) (sr_alike hm (fun _ _ h => h)) ⟨(LJ_room hJ hk q1 hu1 hk1).1, (LJ_room hJ hk q1 hu1 hk1).2⟩ (fun r2 w1 H1 locs1 hI hpm hS => ?_)
  refine lv_pop hx hb dlw_1183 rfl ?_
  refine lv_goto (tgt := 1187) hx hb dlw_1184 (by decide) ?_
  exact kk x1 q1 w1 H1 locs1 ls hI (LJ_next hJ hu1 hk1 hH1 hpm.1.1 (JR3_x ex (JQ_rd hj (HOI_1 ex.symm hu1 hH1) hp1 hpm))) hS hl
end
