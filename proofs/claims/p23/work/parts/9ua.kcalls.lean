section
/-! the calls of class and model, with what both hold and what they answer -/
section SMC
variable {G : mG} {d D : Nat} {x w : gd} {F : Int32 → gd → Prop} {C : gCo} {wr n : Nat} {lm : Nat → Nat} {q : kP}
theorem HistC_w (h : HistC C wr w) : wr = 0 ∨ wr = 1 := by
  obtain ⟨_, _, _, _, _, _, _, ⟨a1, _⟩, _⟩ := h
  exact a1
theorem JH_M (h : JH C wr n lm x w) (h67 : ¬ w.1 0 67 = 0) : ¬ w.1 0 66 = 0 ∧ HistC C wr w ∧ (w.1 0 94).toInt = (n : Nat) := by
  have r := JH_R h (fun z => h67 ((JH_10 h).mp z))
  exact ⟨fun z => r.1.1.1 ((JH_9 h).mpr z), r.2.2⟩
theorem an_1 {E1 E2 : Prop} {S : Int32 → gd → Prop} {w' : gd} {r : Int32} (hm : MI w) (e : E1) (m : rfK 1 w w') : ansM C wr E1 E2 S w r w' := ⟨(MI_0 m.1 hm).1, Or.inl ⟨e, m.2, rd_0 m.1 hm⟩⟩
theorem an_2 {E1 E2 : Prop} {S : Int32 → gd → Prop} {w' : gd} {r : Int32} (hm : MI w) (e : E2) (m : rfK 2 w w') : ansM C wr E1 E2 S w r w' := ⟨(MI_0 m.1 hm).1, Or.inr (Or.inl ⟨e, m.2, rd_0 m.1 hm⟩)⟩
theorem an_3 {E1 E2 : Prop} {S : Int32 → gd → Prop} {w' : gd} {r : Int32} (p : MI w') (e1 : ¬ E1) (e2 : ¬ E2) (e0 : w'.1 0 0 = 0) (s : S r w') : ansM C wr E1 E2 S w r w' := ⟨p, Or.inr (Or.inr ⟨e1, e2, e0, s⟩)⟩
theorem ma_choices (hm : MI w) (hD : 3 ≤ D) (hF : ∀ r w', ansM C wr (f1Ch w) False (tCh C wr w) w r w' → F r w') : MT G D z_choices 0 [(0, vr 0)] [] w (ri F) := by
  obtain ⟨D, rfl⟩ : ∃ D', D = D' + 2 := ⟨D - 2, by omega⟩
  refine sg_choices_0 (fun y e => ?_)
  have hy := z0_s e
  have e67 : y.1 0 67 = w.1 0 67 := hy.1.1 67 (by decide)
  have e84 : y.1 0 84 = w.1 0 84 := hy.1.1 84 (by decide)
  exact sc_noRunk hy (fun c => ⟨fun _ => ri_i (hF _ y (an_3 (MI_0 hy.1 hm).1 (show ¬ w.1 0 67 = 0 by rw [← e67]; exact c) (fun z => z) hy.2 ⟨e84, rd_0 hy.1 hm⟩)), fun q => absurd rfl q⟩) (fun c y' m => ⟨fun q => absurd q (by decide), fun _ => ri_i (hF _ y' (an_1 hm (show w.1 0 67 = 0 by rw [← e67]; exact c) m))⟩)
theorem ma_begin (h : JH C wr n lm x w) (hH : HOI x q) (hm : MI w) (l : Int32) (hD : 7 ≤ D) (hF : ∀ r w', ansM C wr (f1Bg w) (f2Bg w l) (tBg C w l) w r w' → F r w') : MT G D z_begin 0 [(0, vr 0), (1, vi l)] [] w (ri F) :=
  sk_begin hm l (fun h9 => ⟨(JH_K h (fun z => h9 ((JH_9 h).mp z))).2.2.1, (JH_gc h hH).1⟩) hD (fun e w' m => hF _ w' (an_1 hm e m)) (fun e1 e2 w' m => hF _ w' (an_2 hm ⟨e1, e2⟩ m)) (fun wn w' hc ew hh m e0 e67 e94 => by
    have p := PM_run hm hc m (HistC_H hh)
    exact hF _ w' (an_3 p.1 hc (fun z => z.2 (w_01 (HistC_w hh) ew)) e0 ⟨rfl, wn, HistC_w hh, ew, rnM_of m rfl p hh (by rw [e67]; decide) (by rw [e94]; rfl)⟩))
theorem ma_go (h : JH C wr n lm x w) (hH : HOI x q) (hm : MI w) (l : Int32) (hD : 7 ≤ D) (hF : ∀ r w', ansM C wr (f1Go w) (f2Go w l) (tGo C wr n w l) w r w' → F r w') : MT G D z_go 0 [(0, vr 0), (1, vi l)] [] w (ri F) :=
  sk_go hm (JH_gc h hH).1 (fun h67 => ⟨wr, (JH_M h h67).2.1⟩) l hD (fun e w' m => hF _ w' (an_1 hm e m)) (fun e1 e2 w' m => hF _ w' (an_2 hm ⟨e1, e2⟩ m)) (fun w9 w' h67 h4 l0 l1 hw hh m e0 e67 e94 ec rw' => by
    obtain ⟨hc, hh0, en⟩ := JH_M h h67
    have e9 := JH_wr hh0 hw
    subst e9
    have p := PM_run hm hc m (HistC_H hh)
    have et : (w.1 0 94).toInt.toNat = n := by rw [en]; rfl
    rw [et] at ec rw'
    exact hF _ w' (an_3 p.1 (fun z => z ⟨h67, h4⟩) (fun z => z.2 ⟨l0, l1⟩) e0 ⟨rfl, rnM_of m rfl p hh (by rw [e67]; exact h67) (by rw [e94, en]; push_cast; rfl), ec, rw'⟩))
theorem ma_draw (h : JH C wr n lm x w) (hH : HOI x q) (hm : MI w) (l1 l2 : Int32) (hD : 7 ≤ D) (hF : ∀ r w', ansM C wr (f1Ch w) (f2Dr w l2) (tDr C wr n w l1 l2) w r w' → F r w') : MT G D z_draw 0 [(0, vr 0), (1, vi l1), (2, vi l2)] [] w (ri F) :=
  sk_draw hm (JH_gc h hH).1 (fun h67 => ⟨wr, (JH_M h h67).2.1⟩) l1 l2 hD (fun e w' m => hF _ w' (an_1 hm e m)) (fun e1 e2 w' m => hF _ w' (an_2 hm ⟨e1, e2⟩ m)) (fun w9 r w' h67 n0 n4 hw hh m e0 e67 e94 rw' er => by
    obtain ⟨hc, hh0, en⟩ := JH_M h h67
    have e9 := JH_wr hh0 hw
    subst e9
    have p := PM_run hm hc m (HistC_H hh)
    have et : (w.1 0 94).toInt.toNat = n := by rw [en]; rfl
    rw [et] at e94 rw' er
    exact hF _ w' (an_3 p.1 h67 (fun z => z.2 ⟨n0, n4⟩) e0 ⟨by rw [er, en], rnM_of m rfl p hh (by rw [e67]; exact h67) e94, rw'⟩))
theorem ma_again (h : JH C wr n lm x w) (hm : MI w) (l : Int32) (hD : 7 ≤ D) (hF : ∀ r w', ansM C wr (f1Ch w) (f2Ag w l) (tAg C wr w l) w r w' → F r w') : MT G D z_again 0 [(0, vr 0), (1, vi l)] [] w (ri F) :=
  sk_again hm (fun h67 => ⟨wr, (JH_M h h67).2.1⟩) l hD (fun e w' m => hF _ w' (an_1 hm e m)) (fun e1 e2 w' m => hF _ w' (an_2 hm ⟨e1, e2⟩ m)) (fun w9 w' h67 n0 n4 hw hh m e0 e67 e94 ec => by
    obtain ⟨hc, hh0, en⟩ := JH_M h h67
    have e9 := JH_wr hh0 hw
    subst e9
    have p := PM_run hm hc m (HistC_H hh)
    exact hF _ w' (an_3 p.1 h67 (fun z => z.2 ⟨n0, n4⟩) e0 ⟨rfl, rnM_of m rfl p hh (by rw [e67]; decide) (by rw [e94]; omega), ec⟩))
theorem ma_show (h : JH C wr n lm x w) (hH : HOI x q) (hm : MI w) (l1 l2 : Int32) (hD : 8 ≤ D) (hF : ∀ r w', ansM C wr (e1Sh l1 l2) (f2Sh C lm w l1 l2) (tSh C lm w l1 l2) w r w' → F r w') : MT G D z_show 0 [(0, vr 0), (1, vi l1), (2, vi l2)] [] w (ri F) :=
  sc_show (Tw := twM C lm) hm (JH_gc h hH).1 (fun h9 => (JH_K h (fun z => h9 ((JH_9 h).mp z))).2.2.1) l1 l2 (fun v v01 hv => ⟨((JH_T h v v01).2 (fun z => hv ((JH_T h v v01).1.mp z))).2.2, TW_try⟩) hD (fun e w' m => hF _ w' (an_1 hm e m)) (fun e1 e2 w' m => hF _ w' (an_2 hm ⟨e1, e2⟩ m)) (fun v s w' v01 ev f0 f1 hv hfs l4 hh m e0 e67 e94 hp => by
    have hc : ¬ w.1 0 66 = 0 := (hm.2.2.2 v (by omega) hv).1
    have p := MI_new m rfl rfl hc (HistC_H hh) hm
    exact hF _ w' (an_3 p.1 (fun z => z ⟨w_01 v01 ev, f0, f1⟩) (fun z => z.2 ⟨v, s, v01, ev, f0, f1, hv, hfs, l4⟩) e0 ⟨rfl, v, s, ⟨v01, ev, hv, hfs⟩, rnM_of m rfl p hh (by rw [e67]; decide) e94, hp⟩))
theorem ma_attempt (h : JH C wr n lm x w) (hH : HOI x q) (hm : MI w) (l1 l2 : Int32) (hD : 8 ≤ D) (hF : ∀ r w', ansM C wr (f1Bg w) (f2At w l1 l2) (tAq C wr w l1 l2) w r w' → F r w') : MT G D z_attempt 0 [(0, vr 0), (1, vi l1), (2, vi l2)] [] w (ri F) :=
  sc_attempt (nl := (x.1 60 9).toInt.toNat) (wr := wr) hm (JH_gc h hH).1 (fun h9 => by
    have h9x : ¬ x.1 0 9 = 0 := fun z => h9 ((JH_9 h).mp z)
    have j := JH_K h h9x
    obtain ⟨-, -, a3, a4, -, a6, a7, a8, a9⟩ := JC_C (hH.2.1 h9x) j
    exact ⟨j.2.2.1, a4, a3, a6, a7, a8, a9⟩) (fun h67 => (JH_M h h67).2.1) l1 l2 hD (fun e w' m => hF _ w' (an_1 hm e m)) (fun e1 e2 w' m => hF _ w' (an_2 hm ⟨e1, e2⟩ m)) (fun wn lim w' w01 ew el b1 b3 hc p e0 hr ty h119 ho how => by
    have e9 : l1.toNatClampNeg = wn := by rcases w01 with e | e <;> rw [ew, e] <;> rfl
    exact hF _ w' (an_3 p.1 hc (fun z => z.2 ⟨w_01 w01 ew, by omega, by omega⟩) e0 ⟨wn, lim, ⟨w01, ew, el⟩, by rw [e9], p, hr, ty, h119, ho, how⟩))
end SMC
section KQC
variable {G : kG} {q : kP} {d : Nat} {x w : gd} {P : Option gv → gd → Prop} {X : String → gd → Prop} {C : gCo} {wr n : Nat} {lm : Nat → Nat}
theorem ka_choices (hq : kV q) (hH : HOI x q) (hX1 : e1Ch x → X iSE x) (hP : ¬ e1Ch x → ¬ False → ∀ r y, HOI y q → sCh x r y → P (some (vi r)) y) : KE G q (d + 7) zk_X11_choices 0 [(0, vr 0)] [] x P X :=
  kh_choices hq hH hX1 (fun h10 => hP h10 (fun z => z) _ x hH ⟨rfl, KR_rf⟩)
theorem ka_begin (h : JH C wr n lm x w) (hq : kV q) (hH : HOI x q) (l1 : Int32) (hX1 : e1Bg x → X iSE x) (hX2 : e2Bg x l1 → X iAE x) (hP : ¬ e1Bg x → ¬ e2Bg x l1 → ∀ r y, HOI y q → sBg C x l1 r y → P (some (vi r)) y) : KE G q (d + 7) zk_X11_begin 0 [(0, vr 0), (1, vi l1)] [] x P X :=
  kh_beginP (C := C) hq hH l1 (fun h9 => ⟨(JH_K h h9).2.1, (JH_gc h hH).1⟩) hX1 (fun a hn => hX2 ⟨a, hn⟩) (fun wn y h9 ew hy f hr h10 => hP h9 (fun z => z.2 (w_01 (hr (fun _ => 0)).2.2.1.1 ew)) _ y hy ⟨rfl, wn, (hr (fun _ => 0)).2.2.1.1, ew, f, hr, h10⟩)
theorem ka_go (h : JH C wr n lm x w) (hq : kV q) (hH : HOI x q) (l1 : Int32) (hX1 : e1Go n x → X iSE x) (hX2 : e2Go n x l1 → X iOE x) (hP : ¬ e1Go n x → ¬ e2Go n x l1 → ∀ r y, HOI y q → sGo C wr n (c96 w) x l1 r y → P (some (vi r)) y) : KE G q (d + 7) zk_X11_go 0 [(0, vr 0), (1, vi l1)] [] x P X :=
  kh_go hq hH (fun h10 => ⟨(JH_R h h10).1.2.1, JH_gc h hH⟩) (fun h10 => (JH_R h h10).2.1) l1 hX1 (fun a b hn => hX2 ⟨⟨a, b⟩, hn⟩) (fun y h10 n4 l0 l9 hy f hr e10 => hP (fun z => z ⟨h10, n4⟩) (fun z => z.2 ⟨l0, l9⟩) _ y hy ⟨rfl, f, hr, e10⟩)
theorem ka_draw (h : JH C wr n lm x w) (hq : kV q) (hH : HOI x q) (l1 l2 : Int32) (hX1 : e1Ch x → X iSE x) (hX2 : e2Dr x l2 → X iAE x) (hP : ¬ e1Ch x → ¬ e2Dr x l2 → ∀ r y, HOI y q → sDr C wr n (c96 w) x l1 l2 r y → P (some (vi r)) y) : KE G q (d + 7) zk_X11_draw 0 [(0, vr 0), (1, vi l1), (2, vi l2)] [] x P X :=
  kk_draw hq hH (fun h10 => ⟨(JH_R h h10).1.2.1, JH_gc h hH⟩) (fun h10 => (JH_R h h10).2.1) l1 l2 hX1 (fun a hn => hX2 ⟨a, hn⟩) (fun r y h10 l0 l4 hy f hr e10 er => hP h10 (fun z => z.2 ⟨l0, l4⟩) r y hy ⟨er, f, hr, e10⟩)
theorem ka_again (h : JH C wr n lm x w) (hq : kV q) (hH : HOI x q) (l1 : Int32) (hX1 : e1Ch x → X iSE x) (hX2 : e2Ag n x l1 → X iAE x) (hP : ¬ e1Ch x → ¬ e2Ag n x l1 → ∀ r y, HOI y q → sAg C wr (c96 w) x l1 r y → P (some (vi r)) y) : KE G q (d + 7) zk_X11_again 0 [(0, vr 0), (1, vi l1)] [] x P X :=
  kh_again hq hH (fun h10 => ⟨(JH_R h h10).1.2.1, JH_gc h hH⟩) (fun h10 => (JH_R h h10).2.1) l1 hX1 (fun a hn => hX2 ⟨a, hn⟩) (fun y h10 l0 l4 hy f hr e10 => hP h10 (fun z => z.2 ⟨l0, l4⟩) _ y hy ⟨rfl, f, hr, e10⟩)
theorem ka_show (h : JH C wr n lm x w) (hq : kV q) (hH : HOI x q) (l1 l2 : Int32) (hX1 : e1Sh l1 l2 → X iAE x) (hX2 : e2Sh C lm x l1 l2 → X iSE x) (hP : ¬ e1Sh l1 l2 → ¬ e2Sh C lm x l1 l2 → ∀ r y, HOI y q → sSh C lm x l1 l2 r y → P (some (vi r)) y) : KE G q (d + 7) zk_X11_show 0 [(0, vr 0), (1, vi l1), (2, vi l2)] [] x P X :=
  kh_show (C := C) (Tw := twM C lm) hq hH l1 l2 (fun v v01 hv => ⟨⟨((JH_T h v v01).2 hv).1.2.1, JH_gc h hH⟩, ((JH_T h v v01).2 hv).2.1, TW_try⟩) hX1 (fun v v01 ev f0 f1 hor => hX2 ⟨⟨w_01 v01 ev, f0, f1⟩, fun ⟨wn, s, a1, a2, a3, a4, a5, a6, a7⟩ => by
    have e := wn_eq a1 v01 a2 ev
    subst e
    rcases hor with z | ⟨-, z⟩
    · exact a5 z
    · have := z s a6
      omega⟩) (fun v s y v01 ev f0 f1 nz hfs l4 hy f hr h10 => by
    obtain ⟨c9, hc9⟩ : ∃ c9 : Nat → Nat, ∀ k v', (pth (twM C lm v) s)[k]? = some v' → c9 k = v' := ⟨fun k => ((pth (twM C lm v) s)[k]?).getD 0, fun k v' hk => congrArg (fun z : Option Nat => z.getD 0) hk⟩
    have e2 := (hr c9 hc9).2.2.2.1
    have er : Int32.ofNat (pth (twM C lm v) s).length = y.1 160 2 := (i32_of e2).symm
    exact hP (fun z => z ⟨w_01 v01 ev, f0, f1⟩) (fun z => z.2 ⟨v, s, v01, ev, f0, f1, nz, hfs, l4⟩) _ y hy ⟨er, v, s, ⟨v01, ev, nz, hfs⟩, f, hr, h10⟩)
end KQC
section KQM
variable {G : kG} {q : kP} {d : Nat} {x w : gd} {P : Option gv → gd → kP → Prop} {X : String → gd → kP → Prop} {C : gCo} {wr n : Nat} {lm : Nat → Nat}
theorem ka_attempt (h : JH C wr n lm x w) (hu : kU q) (hH : HOI x q) (l1 l2 : Int32) (hX1 : e1Bg x → X iSE x q) (hX2 : e2At x l1 l2 → X iAE x q) (hP : ¬ e1Bg x → ¬ e2At x l1 l2 → ∀ r y q1, kU q1 → kle q q1 → HOI y q1 → sAq C x l1 l2 r y → P (some (vi r)) y q1) : KM G q (d + 7) zk_X11_attempt 0 [(0, vr 0), (1, vi l1), (2, vi l2)] [] x P X :=
  kh_attempt (C := C) (nl := (x.1 60 9).toInt.toNat) hu hH l1 l2 (fun h9 => by
    have j := JH_K h h9
    obtain ⟨a1, a2, a3, a4, a5, -⟩ := JC_C (hH.2.1 h9) j
    exact ⟨j.2.1, a1.1, a1.2.1, a2, a3, a4, a5⟩) hX1 (fun a hn => hX2 ⟨a, hn⟩) (fun wn lim y q1 w01 ew el b1 b3 h9 hu1 hl1 hy kf f tr => hP h9 (fun z => z.2 ⟨w_01 w01 ew, by omega, by omega⟩) _ y q1 hu1 hl1 hy ⟨wn, lim, ⟨w01, ew, el⟩, rfl, kf, f, tr⟩)
end KQM
end
section
/-! calls that read the run's state: cell, seen -/
section RST
variable {G : mG} {d D : Nat} {x z w a : gd} {F : Int32 → gd → Prop} {C : gCo} {M : gMa} {wr n : Nat} {lm : Nat → Nat} {q : kP}
theorem MM1_eq (hN : NC C) (e : eqS (Sl a) a z) (h : MM1 a C M) : MM1 z C M := by
  obtain ⟨h1, h2, h3⟩ := h
  refine ⟨fun c hc => by rw [cA e (c := 70) (n := 24) (by decide) hc]; exact h1 c hc, fun l hl => by rw [cA e (c := 71) (n := 6) (by decide) hl, cA e (c := 72) (n := 6) (by decide) hl]; exact h2 l hl, fun t ht => ?_⟩
  obtain ⟨q0, q0', q1, q2, q3, q3', q4, q5, ⟨q6, q6'⟩, q7, q7'⟩ := h3 t ht
  have f := fun c (hc : (c, 6) ∈ coreL) => cA e hc ht
  refine ⟨by rw [f 73 (by decide)]; exact q0, q0', by rw [f 75 (by decide)]; exact q1, by rw [f 74 (by decide)]; exact q2, by rw [f 77 (by decide)]; exact q3, q3', by rw [f 78 (by decide)]; exact q4, by rw [f 79 (by decide)]; exact q5, ⟨by rw [f 80 (by decide)]; exact q6, fun j q hj => ?_⟩, fun hu p hp => ?_, fun k hk hn => ?_⟩
  · have hl := gt_lt hj
    have s : ∀ c, (c = 81 ∨ c = 82) → z.1 c (10 * t + j) = a.1 c (10 * t + j) := fun c hc => e c _ (Or.inr ⟨hc, t, j, ht, by omega, rfl⟩)
    rw [s 81 (Or.inl rfl), s 82 (Or.inr rfl)]; exact q6' j q hj
  · have s8 := stN_8 hN _ (slN_mem hp)
    rw [cA e (c := 76) (n := 48) (by decide) (by omega)]; exact q7 hu p hp
  · rw [cA e (c := 76) (n := 48) (by decide) (by omega)]; exact q7' k hk hn
theorem HistC_MM (hN : NC C) (h : HistC C wr w) (e94 : (w.1 0 94).toInt = (n : Nat)) : MM1 w C (runM C wr (c96 w) n) ∧ ∀ t, t < 6 → (w.1 80 t).toInt ≤ 8 := by
  obtain ⟨s, n', q1, q2, q3, q4, -⟩ := h
  have en : n' = n := by omega
  rw [en] at q4
  have am := q2 n (by omega)
  have el := eqS_w (Sl_Sm _) q4
  exact ⟨MM1_eq hN el am.2.2.1, fun t ht => by rw [cA el (c := 80) (n := 6) (by decide) ht]; exact (am.1.1.2 t ht).2.2.2.1⟩
theorem sp_see3 (t c : Int32) (ht : vp_in t 6) (hc : vp_in c 24) (q8 : (x.1 80 t.toNatClampNeg).toInt ≤ 8) {l : List (Nat × Int32)} (hl : mLt x t.toNatClampNeg l) (h : F (seL l c.toNatClampNeg (x.1 70 c.toNatClampNeg)) x) : MT G d z_see 0 [(0, vr 0), (1, vi t), (2, vi c)] [] x (ri F) := by
  have k1 : (1 : Int32).toInt = 1 := rfl
  obtain ⟨l1, l2⟩ := hl
  have cb := vp_in_iff.mp hc
  have cc := cl_i cb.1
  obtain ⟨R, eR⟩ : ∃ R, R = seL l c.toNatClampNeg (x.1 70 c.toNatClampNeg) := ⟨_, rfl⟩
  rw [← eR] at h
  have loop : ∀ (n : Nat) (v i : Int32), 0 ≤ i.toInt → (x.1 80 t.toNatClampNeg).toInt - i.toInt ≤ n → seL (l.drop i.toInt.toNat) c.toNatClampNeg v = R → MT G d z_see 10 [(0, vr 0), (1, vi t), (2, vi c), (3, vi v), (4, vi i)] [] x (ri F) := by
    have fin : ∀ (v i : Int32), (x.1 80 t.toNatClampNeg).toInt ≤ i.toInt → seL (l.drop i.toInt.toNat) c.toNatClampNeg v = R → ri F (some (vi v)) x := fun v i hi hs => by
      rw [List.drop_eq_nil_of_le (by omega)] at hs
      have hs : v = R := hs
      rw [hs]
      exact ri_i h
    intro n
    induction n with
    | zero =>
      intro v i i0 hi hs
      exact sg_see_10 _ _ _ _ ⟨ht, fun _ => fin v i (by omega) hs, fun c => absurd (t_le.mpr (by omega)) c⟩
    | succ n ih =>
      intro v i i0 hi hs
      refine sg_see_10 _ _ _ _ ⟨ht, fun c9 => fin v i (by rw [t_le] at c9; exact c9) hs, fun c9 => ?_⟩
      rw [t_le] at c9
      have a1 := (t10 ht (i := i) i0 (by omega)).1
      have i1 : (i + 1).toInt = i.toInt + 1 := by rw [t_add (by omega) (by omega), k1]
      have hi' : i.toInt.toNat < l.length := by omega
      obtain ⟨b1, b2, b3⟩ := l2 i.toInt.toNat _ (List.getElem?_eq_getElem hi')
      rw [List.drop_eq_getElem_cons hi', seL] at hs
      have ea : (10 * t + i).toNatClampNeg = 10 * t.toNatClampNeg + i.toInt.toNat := by rw [(t10 ht i0 (by omega)).2, t_cl i]
      have en : (i + 1).toInt.toNat = i.toInt.toNat + 1 := by omega
      have ec : Int32.ofNat l[i.toInt.toNat].1 = c ↔ l[i.toInt.toNat].1 = c.toNatClampNeg := by
        have e9 : (Int32.ofNat l[i.toInt.toNat].1).toInt = (l[i.toInt.toNat].1 : Nat) := Int32.toInt_ofNat_of_lt (by omega)
        rw [t_eq, e9]
        omega
      refine ⟨a1, fun c9 => ih _ _ (by omega) (by omega) ?_, fun c9 => ⟨a1, ih _ _ (by omega) (by omega) ?_⟩⟩
      · rw [ea, b1] at c9
        rw [if_neg (fun z => c9 (ec.mpr z))] at hs
        rw [en]; exact hs
      · rw [ea, b1] at c9
        rw [if_pos (ec.mp c9)] at hs
        rw [en, ea, b2]; exact hs
  exact sg_see_0 _ _ ⟨hc, loop _ _ 0 (by decide) (Int.self_le_toNat _) eR.symm⟩
abbrev e2Ce (x : gd) (l : Int32) : Prop := ¬ x.1 0 10 = 0 ∧ ¬ (0 ≤ l.toInt ∧ l.toInt < (x.1 60 6).toInt)
def sCe (C : gCo) (wr n : Nat) (c : Nat → Nat) (x : gd) (l r : Int32) (y : gd) : Prop := r = (runM C wr c n).1 l.toInt.toNat ∧ KRd x y
abbrev f2Ce (w : gd) (l : Int32) : Prop := ¬ w.1 0 67 = 0 ∧ ¬ (0 ≤ l.toInt ∧ l.toInt < (w.1 0 23).toInt)
def tCe (C : gCo) (wr n : Nat) (w : gd) (l r : Int32) (w' : gd) : Prop := r = (runM C wr (c96 w) n).1 l.toInt.toNat ∧ rdM C wr w w'
abbrev e2Se (x : gd) (l1 l2 : Int32) : Prop := ¬ x.1 0 10 = 0 ∧ ¬ ((0 ≤ l1.toInt ∧ l1.toInt < (x.1 60 10).toInt) ∧ 0 ≤ l2.toInt ∧ l2.toInt < (x.1 60 6).toInt)
def sSe (C : gCo) (wr n : Nat) (c : Nat → Nat) (x : gd) (l1 l2 r : Int32) (y : gd) : Prop := r = seM (runM C wr c n) l1.toInt.toNat l2.toInt.toNat ∧ KRd x y
abbrev f2Se (w : gd) (l1 l2 : Int32) : Prop := ¬ w.1 0 67 = 0 ∧ ¬ ((0 ≤ l1.toInt ∧ l1.toInt < (w.1 0 25).toInt) ∧ 0 ≤ l2.toInt ∧ l2.toInt < (w.1 0 23).toInt)
def tSe (C : gCo) (wr n : Nat) (w : gd) (l1 l2 r : Int32) (w' : gd) : Prop := r = seM (runM C wr (c96 w) n) l1.toInt.toNat l2.toInt.toNat ∧ rdM C wr w w'
theorem in_ge {v n : Int32} (h : ¬ ((0 : Int32) ≤ v ∧ v ≤ n - 1)) (n0 : 0 ≤ n.toInt) : ¬ (0 ≤ v.toInt ∧ v.toInt < n.toInt) := fun z => by
  have k0 : (0 : Int32).toInt = 0 := rfl
  have k1 : (1 : Int32).toInt = 1 := rfl
  have nb := Int32.toInt_lt n
  refine h ⟨t_le.mpr (by rw [k0]; exact z.1), t_le.mpr ?_⟩
  rw [t_sub (by rw [k1]; omega) (by rw [k1]; omega), k1]
  omega
theorem ma_cell (h : JH C wr n lm x w) (hH : HOI x q) (hm : MI w) (l : Int32) (hD : 3 ≤ D) (hF : ∀ r w', ansM C wr (f1Ch w) (f2Ce w l) (tCe C wr n w l) w r w' → F r w') : MT G D z_cell 0 [(0, vr 0), (1, vi l)] [] w (ri F) := by
  obtain ⟨D, rfl⟩ : ∃ D', D = D' + 2 := ⟨D - 2, by omega⟩
  refine sg_cell_0 _ (fun y e => ?_)
  have hy := z0_s e
  have e67 : y.1 0 67 = w.1 0 67 := hy.1.1 67 (by decide)
  have e23 : y.1 0 23 = w.1 0 23 := hy.1.1 23 (by decide)
  have e70 : y.1 70 = w.1 70 := hy.1.2 70 (by decide) (by simp)
  have qy := (MI_0 hy.1 hm).1
  refine sc_noRunk hy (fun hr => ⟨fun q => absurd rfl q, fun _ => ?_⟩) (fun c y' m => ⟨fun _ => ri_i (hF _ y' (an_1 hm (show w.1 0 67 = 0 by rw [← e67]; exact c) m)), fun q => absurd q (by decide)⟩)
  obtain ⟨cp, _, _⟩ := RS_of qy hr
  have g := cp.1
  rw [e67] at hr
  obtain ⟨hc, hh, e94⟩ := JH_M h hr
  have mm := (HistC_MM (JH_gc h hH).1.1 hh e94).1
  have p32 : ∀ b : Int32, (b = 0 → 0 ≤ l.toInt ∧ l.toInt < (y.1 0 23).toInt) → (¬ b = 0 → ¬ (0 ≤ l.toInt ∧ l.toInt < (y.1 0 23).toInt)) → MT G (D + 2) z_cell 32 [(0, vr 0), (1, vi l)] [vi b, vr 0] y (ri F) := fun b hb hb2 => sg_cell_32 _ _ (sc_refk b 2 hy (by decide) (fun b0 => ⟨fun _ => ⟨by rw [vp_in_iff]; have := hb b0; have := g.2.1; omega, ri_i (hF _ y (an_3 qy hr (fun z => z.2 (by rw [← e23]; exact hb b0)) hy.2 ⟨by
    rw [e70, t_cl]
    exact mm.1 _ (by have := hb b0; have := g.2.1; omega), rd_0 hy.1 hm⟩))⟩, fun q => absurd rfl q⟩) (fun nb y' m => ⟨fun q => absurd q (by decide), fun _ => ri_i (hF _ y' (an_2 hm ⟨hr, by rw [← e23]; exact hb2 nb⟩ m))⟩))
  exact sp_in _ _ _ ⟨fun cc => p32 0 (fun _ => in_lt (bi_ne.mp cc) g.1) (fun z => absurd rfl z), fun cc => p32 1 (fun q => absurd q (by decide)) (fun _ => in_ge (bi_eq.mp cc) g.1)⟩
theorem ma_seen (h : JH C wr n lm x w) (hH : HOI x q) (hm : MI w) (t c : Int32) (hD : 3 ≤ D) (hF : ∀ r w', ansM C wr (f1Ch w) (f2Se w t c) (tSe C wr n w t c) w r w' → F r w') : MT G D z_seen 0 [(0, vr 0), (1, vi t), (2, vi c)] [] w (ri F) := by
  obtain ⟨D, rfl⟩ : ∃ D', D = D' + 2 := ⟨D - 2, by omega⟩
  refine sg_seen_0 _ _ (fun y e => ?_)
  have hy := z0_s e
  have e67 : y.1 0 67 = w.1 0 67 := hy.1.1 67 (by decide)
  have e23 : y.1 0 23 = w.1 0 23 := hy.1.1 23 (by decide)
  have e25 : y.1 0 25 = w.1 0 25 := hy.1.1 25 (by decide)
  have qy := (MI_0 hy.1 hm).1
  refine sc_noRunk hy (fun hr => ⟨fun q => absurd rfl q, fun _ => ?_⟩) (fun c y' m => ⟨fun _ => ri_i (hF _ y' (an_1 hm (show w.1 0 67 = 0 by rw [← e67]; exact c) m)), fun q => absurd q (by decide)⟩)
  obtain ⟨cp, _, _⟩ := RS_of qy hr
  have g := cp.1
  rw [e67] at hr
  obtain ⟨hc, hh, e94⟩ := JH_M h hr
  obtain ⟨mm, m8⟩ := HistC_MM (JH_gc h hH).1.1 (HistC_0 hy.1 hh) (n := n) (by rw [hy.1.1 94 (by decide)]; exact e94)
  have cy : c96 y = c96 w := by unfold c96; rw [hy.1.2 96 (by decide) (by simp)]
  rw [cy] at mm
  have p46 : ∀ b : Int32, (b = 0 → (0 ≤ t.toInt ∧ t.toInt < (y.1 0 25).toInt) ∧ 0 ≤ c.toInt ∧ c.toInt < (y.1 0 23).toInt) → (¬ b = 0 → ¬ ((0 ≤ t.toInt ∧ t.toInt < (y.1 0 25).toInt) ∧ 0 ≤ c.toInt ∧ c.toInt < (y.1 0 23).toInt)) → MT G (D + 2) z_seen 46 [(0, vr 0), (1, vi t), (2, vi c)] [vi b, vr 0] y (ri F) := fun b hb hb2 => sg_seen_46 _ _ _ (sc_refk b 2 hy (by decide) (fun b0 => ⟨fun _ => by
    obtain ⟨b1, b2⟩ := hb b0
    have g2 := g.2.1
    have g6 := g.2.2.2.2.2.1
    have tv : vp_in t 6 := by rw [vp_in_iff]; omega
    have tq := mm.2.2 _ (vt tv)
    refine sp_see3 t c tv (by rw [vp_in_iff]; omega) (m8 _ (vt tv)) tq.2.2.2.2.2.2.2.2.1 (ri_i (hF _ y (an_3 qy hr (fun z => z.2 (by rw [← e23, ← e25]; exact hb b0)) hy.2 ⟨?_, rd_0 hy.1 hm⟩)))
    unfold seM
    rw [mm.1 c.toNatClampNeg (by have := t_cl c; omega), t_cl, t_cl], fun q => absurd rfl q⟩) (fun nb y' m => ⟨fun q => absurd q (by decide), fun _ => ri_i (hF _ y' (an_2 hm ⟨hr, by rw [← e23, ← e25]; exact hb2 nb⟩ m))⟩))
  exact sp_in _ _ _ ⟨fun c1 => p46 1 (fun q => absurd q (by decide)) (fun _ z => in_ge (bi_eq.mp c1) g.2.2.2.2.1 z.1), fun c1 => sp_in _ _ _ ⟨fun c2 => p46 0 (fun _ => ⟨in_lt (bi_ne.mp c1) g.2.2.2.2.1, in_lt (bi_ne.mp c2) g.1⟩) (fun z => absurd rfl z), fun c2 => p46 1 (fun q => absurd q (by decide)) (fun _ z => in_ge (bi_eq.mp c2) g.1 z.2)⟩⟩
end RST
section KRS
variable {G : kG} {q : kP} {d : Nat} {x y w w' : gd} {P : Option gv → gd → Prop} {X : String → gd → Prop} {C : gCo} {wr n : Nat} {lm : Nat → Nat}
theorem ka_cell (h : JH C wr n lm x w) (hq : kV q) (hH : HOI x q) (l1 : Int32) (hX1 : e1Ch x → X iSE x) (hX2 : e2Ce x l1 → X iOE x) (hP : ¬ e1Ch x → ¬ e2Ce x l1 → ∀ r y, HOI y q → sCe C wr n (c96 w) x l1 r y → P (some (vi r)) y) : KE G q (d + 7) zk_X11_cell 0 [(0, vr 0), (1, vi l1)] [] x P X :=
  kg_X11_cell_0 hq l1 (kh_run hq hH hX1 (fun h10 hR => kh_ix hq l1 _ (fun hn => hX2 ⟨h10, hn⟩) (fun l0 l9 => ⟨by have := hR.1.1.1.1; rw [vp_in_iff]; omega, hP h10 (fun z => z.2 ⟨l0, l9⟩) _ x hH ⟨by
    have g := (JH_R h h10).2.1.2.1.1.1.1 l1.toInt.toNat (by omega)
    rw [t_cl]
    exact g, KR_rf⟩⟩)))
theorem ka_seen (h : JH C wr n lm x w) (hq : kV q) (hH : HOI x q) (l1 l2 : Int32) (hX1 : e1Ch x → X iSE x) (hX2 : e2Se x l1 l2 → X iOE x) (hP : ¬ e1Ch x → ¬ e2Se x l1 l2 → ∀ r y, HOI y q → sSe C wr n (c96 w) x l1 l2 r y → P (some (vi r)) y) : KE G q (d + 7) zk_X11_seen 0 [(0, vr 0), (1, vi l1), (2, vi l2)] [] x P X := by
  refine kg_X11_seen_0 hq l1 l2 (kh_run hq hH hX1 (fun h10 hR => kh_ix hq l1 _ (fun hn => hX2 ⟨h10, fun z => hn z.1⟩) (fun l0 l9 => kh_ix hq l2 _ (fun hn => hX2 ⟨h10, fun z => hn z.2⟩) (fun g0 g9 => ?_))))
  obtain ⟨j, r, -, -⟩ := JH_R h h10
  have e10 : (x.1 60 10).toInt = (C.2.1.length : Nat) := j.2.1.2.1.1
  exact kh_seenBy hq (Or.inl rfl) hR.1 j.2.1 r.2.1.1 l1 l2 (T := l1.toInt.toNat) (c' := l2.toInt.toNat) (by omega) (by omega) (by omega) (by omega) (hP h10 (fun z => z.2 ⟨⟨l0, l9⟩, g0, g9⟩) _ x hH ⟨rfl, KR_rf⟩)
theorem ja_cell {l r9 r : Int32} (h : JH C wr n lm x w) (hH : HOI y q) (k : ansK (e1Ch x) (e2Ce x l) (sCe C wr n (c96 w) x l) x r9 y) (m : ansM C wr (f1Ch w) (f2Ce w l) (tCe C wr n w l) w r w') : JR3 y w' ∧ ansE r9 r y w' := by
  have e9 := JH_10 h
  refine ans_eq h hH e9 ⟨fun z => ⟨fun a => z.1 (e9.mpr a), by rw [← (JH_R h z.1).1.1.2.2.1]; exact z.2⟩, fun z => ⟨fun a => z.1 (e9.mp a), by rw [(JH_R h (fun a => z.1 (e9.mp a))).1.1.2.2.1]; exact z.2⟩⟩ (fun a z => z.1 a) k m (fun c _ r' s t => ⟨JQ_rd h hH s.2 t.2, s.1.trans t.1.symm⟩)
theorem ja_seen {l1 l2 r9 r : Int32} (h : JH C wr n lm x w) (hH : HOI y q) (k : ansK (e1Ch x) (e2Se x l1 l2) (sSe C wr n (c96 w) x l1 l2) x r9 y) (m : ansM C wr (f1Ch w) (f2Se w l1 l2) (tSe C wr n w l1 l2) w r w') : JR3 y w' ∧ ansE r9 r y w' := by
  have e9 := JH_10 h
  refine ans_eq h hH e9 ⟨fun z => ⟨fun a => z.1 (e9.mpr a), by rw [← (JH_R h z.1).1.1.2.2.1, ← (JH_R h z.1).1.1.2.2.2.2.1]; exact z.2⟩, fun z => ⟨fun a => z.1 (e9.mp a), by rw [(JH_R h (fun a => z.1 (e9.mp a))).1.1.2.2.1, (JH_R h (fun a => z.1 (e9.mp a))).1.1.2.2.2.2.1]; exact z.2⟩⟩ (fun a z => z.1 a) k m (fun c _ r' s t => ⟨JQ_rd h hH s.2 t.2, s.1.trans t.1.symm⟩)
end KRS
end
section
/-! finding: how far the first state is that shows it -/
def fdV (tr : Nat → Prop) (C : gCo) (lm : Nat → Nat) (l1 l2 r : Int32) : Prop := ∃ wn : Nat, (wn = 0 ∨ wn = 1) ∧ l1 = Int32.ofNat wn ∧ ((∃ s, tr wn ∧ fsF C wn (twM C lm wn) l2.toInt.toNat s ∧ r.toInt = ((pth (twM C lm wn) s).length : Nat)) ∨ ((∀ s, tr wn → ¬ fsF C wn (twM C lm wn) l2.toInt.toNat s) ∧ r = -1))
def sFi (C : gCo) (lm : Nat → Nat) (x : gd) (l1 l2 r : Int32) (y : gd) : Prop := fdV (fun v => ¬ x.1 (260 + 20 * v) 0 = 0) C lm l1 l2 r ∧ KRd x y
def tFi (C : gCo) (lm : Nat → Nat) (wr : Nat) (w : gd) (l1 l2 r : Int32) (w' : gd) : Prop := fdV (fun v => ¬ w.1 119 v = 0) C lm l1 l2 r ∧ rdM C wr w w'
theorem fdV_eq {tr tr' : Nat → Prop} {C : gCo} {lm : Nat → Nat} {l1 l2 r r' : Int32} (e : ∀ v, (v = 0 ∨ v = 1) → (tr v ↔ tr' v)) (h : fdV tr C lm l1 l2 r) (g : fdV tr' C lm l1 l2 r') : r = r' := by
  obtain ⟨wn, a1, a2, a3⟩ := h
  obtain ⟨wn', b1, b2, b3⟩ := g
  have ew := wn_eq b1 a1 b2 a2
  subst ew
  rcases a3 with ⟨s, c1, c2, c3⟩ | ⟨c1, c2⟩
  · rcases b3 with ⟨s', d1, d2, d3⟩ | ⟨d1, -⟩
    · have := fsF_u c2 d2
      subst this
      rw [t_eq, c3, d3]
    · exact absurd c2 (d1 s ((e _ a1).mp c1))
  · rcases b3 with ⟨s', d1, d2, d3⟩ | ⟨d1, d2⟩
    · exact absurd d2 (c1 s' ((e _ a1).mpr d1))
    · rw [c2, d2]
section KFI
variable {G : kG} {q : kP} {d : Nat} {x y w w' : gd} {P : Option gv → gd → Prop} {X : String → gd → Prop} {C : gCo} {wr n : Nat} {lm : Nat → Nat}
theorem ja_finding {l1 l2 r9 r : Int32} (h : JH C wr n lm x w) (hH : HOI y q) (k : ansK (e1Sh l1 l2) False (sFi C lm x l1 l2) x r9 y) (m : ansM C wr (e1Sh l1 l2) False (tFi C lm wr w l1 l2) w r w') : JR3 y w' ∧ ansE r9 r y w' :=
  ans_eq h hH Iff.rfl Iff.rfl (fun _ z => z) k m (fun c _ r' s t => ⟨JQ_rd h hH s.2 t.2, fdV_eq (fun v v01 => ⟨fun a b => a ((JH_T h v v01).1.mpr b), fun a b => a ((JH_T h v v01).1.mp b)⟩) s.1 t.1⟩)
theorem ka_finding (h : JH C wr n lm x w) (hq : kV q) (hH : HOI x q) (l1 l2 : Int32) (hX1 : e1Sh l1 l2 → X iAE x) (hP : ¬ e1Sh l1 l2 → ¬ False → ∀ r y, HOI y q → sFi C lm x l1 l2 r y → P (some (vi r)) y) : KE G q (d + 7) zk_X11_finding 0 [(0, vr 0), (1, vi l1), (2, vi l2)] [] x P X := by
  refine kg_X11_finding_0 hq l1 l2 (kf_way hq l1 (fun z => hX1 (fun z2 => z z2.1)) (fun hw => kh_fnd hq l2 (fun z => hX1 (fun z2 => z z2.2)) (fun f0 f11 => ?_)))
  obtain ⟨v, w01, ew, ewn⟩ := w_nat hw
  have ok : ¬ e1Sh l1 l2 := fun z => z ⟨hw, f0, f11⟩
  have hP := hP ok (fun z => z)
  refine kg_X11_firstState_0 hq l1 l2 (kh_was (w := v) hq hH l1 w01 ew (fun c0 => ⟨fun _ => ?_, fun c => absurd rfl c⟩) (fun e7 ho hz hC nz => ⟨fun c => absurd c (by decide), fun _ => ⟨way_in hw, fun u5 e5 => ⟨260 + 20 * v, by rw [e5, ewn, e7], ho, by rw [vp_in_iff]; omega, ?_⟩⟩⟩))
  · exact ri_i ⟨fun c => absurd rfl c, fun _ => hP _ x hH ⟨⟨v, w01, ew, Or.inr ⟨fun s t => absurd c0 t, rfl⟩⟩, KR_rf⟩⟩
  obtain ⟨-, ⟨⟨t0, -⟩, hPA, hFN⟩, -⟩ := (JH_T h v w01).2 nz
  have F2 : l2.toNatClampNeg = l2.toInt.toNat := rfl
  have b3 := hz.1.2
  rw [F2]
  rcases hFN l2.toInt.toNat (by omega) with ⟨g1, g2⟩ | ⟨s, p, g1, g2, g3, g4, g5⟩
  · rw [g1]
    refine ri_i ⟨fun c => absurd rfl c, fun _ => hP _ x hH ⟨⟨v, w01, ew, Or.inr ⟨fun s _ hs => ?_, rfl⟩⟩, KR_rf⟩⟩
    obtain ⟨p, a1, a2, -⟩ := hs
    exact g2 s p (gt_lt a1) a1 a2
  · obtain ⟨r, er⟩ : ∃ r, r = x.1 (260 + 20 * v + 7) l2.toInt.toNat := ⟨_, rfl⟩
    rw [← er] at g2 ⊢
    have rS : r.toNatClampNeg = s := by rw [t_cl, g2]; rfl
    have sl := gt_lt g3
    refine ri_i ⟨fun c => ⟨way_in hw, fun u7 e => ⟨260 + 20 * v, by rw [e, ewn, e7], ho, by rw [vp_in_iff]; omega, ?_⟩⟩, fun c => ?_⟩
    · rw [rS]
      exact hP _ x hH ⟨⟨v, w01, ew, Or.inl ⟨s, nz, ⟨p, g3, g4, g5⟩, PA_d TW_try hPA s s p (Nat.le_refl _) g3⟩⟩, KR_rf⟩
    · rw [c, tm1] at g2; omega
end KFI
section MFI
variable {G : mG} {d D : Nat} {x w : gd} {F : Int32 → gd → Prop} {C : gCo} {wr n : Nat} {lm : Nat → Nat} {q : kP}
theorem ma_finding (h : JH C wr n lm x w) (hH : HOI x q) (hm : MI w) (l1 l2 : Int32) (hD : 3 ≤ D) (hF : ∀ r w', ansM C wr (e1Sh l1 l2) False (tFi C lm wr w l1 l2) w r w' → F r w') : MT G D z_finding 0 [(0, vr 0), (1, vi l1), (2, vi l2)] [] w (ri F) := by
  obtain ⟨D, rfl⟩ : ∃ D', D = D' + 1 := ⟨D - 1, by omega⟩
  have km1 : (-1 : Int32).toInt = -1 := rfl
  refine sg_finding_0 _ _ (fun y e => ?_)
  have hy := z0_s e
  have qy := (MI_0 hy.1 hm).1
  have g119 : y.1 119 = w.1 119 := hy.1.2 119 (by decide) (by simp)
  have p63 : ∀ v : Nat, (v = 0 ∨ v = 1) → l1 = Int32.ofNat v → vp_in l1 2 → 0 ≤ l2.toInt → l2.toInt < 11 → ∀ s : Int32, (s = -1 → ∀ S, ¬ w.1 119 v = 0 → ¬ fsF C v (twM C lm v) l2.toInt.toNat S) → (¬ s = -1 → ¬ w.1 119 v = 0 ∧ ∃ S : Nat, s.toInt = (S : Nat) ∧ fsF C v (twM C lm v) l2.toInt.toNat S) → MT G (D + 1) z_finding 63 [(0, vr 0), (1, vi l1)] [vi s] y (ri F) := by
    intro v w01 ew wv f0 f1 s h1 h2
    have ok : ¬ e1Sh l1 l2 := fun z => z ⟨w_01 w01 ew, f0, f1⟩
    refine sg_finding_63 _ _ ⟨fun ne => ?_, fun e1 => ri_i (hF _ y (an_3 qy ok (fun z => z) hy.2 ⟨⟨v, w01, ew, Or.inr ⟨h1 e1, rfl⟩⟩, rd_0 hy.1 hm⟩))⟩
    obtain ⟨tr, S, es, hfs⟩ := h2 ne
    have tyw := ((JH_T h v w01).2 (fun z => tr ((JH_T h v w01).1.mp z))).2.2
    have ty : TYc C v y (twM C lm v) := TYc_mi hy.1 rfl tyw
    obtain ⟨p9, hp9, -⟩ := id hfs
    have sS := gt_lt hp9
    have b3 := ty.2.1
    have tm := tmul (k := 3000) (K := 3000) (N := 6000) (n := 3000) (i := s) rfl wv (by omega) (by omega) (by omega) (by omega) (by omega)
    have e9 : l1.toNatClampNeg = v := by rcases w01 with e | e <;> rw [ew, e] <;> rfl
    have cs : s.toNatClampNeg = S := by rw [t_cl, es]; rfl
    refine ⟨tm.1, ri_i (hF _ y (an_3 qy ok (fun z => z) hy.2 ⟨⟨v, w01, ew, Or.inl ⟨S, tr, hfs, ?_⟩⟩, rd_0 hy.1 hm⟩))⟩
    rw [tm.2, e9, cs]
    exact TYc_d TW_try ty S S p9 (Nat.le_refl _) hp9
  have p30 : ∀ b : Int32, (b = 0 → (vp_in l1 2 ∧ (l1 = 0 ∨ l1 = 1)) ∧ 0 ≤ l2.toInt ∧ l2.toInt < 11) → (¬ b = 0 → e1Sh l1 l2) → MT G (D + 1) z_finding 30 [(0, vr 0), (1, vi l1), (2, vi l2)] [vi b, vr 0] y (ri F) := by
    intro b hb hb2
    refine sg_finding_30 _ _ _ (sc_refk b 1 hy (by decide) (fun b0 => ⟨fun _ => ?_, fun q => absurd rfl q⟩) (fun nb y' m => ⟨fun q => absurd q (by decide), fun _ => ri_i (hF _ y' (an_1 hm (hb2 nb) m))⟩))
    obtain ⟨⟨wv, hw⟩, f0, f1⟩ := hb b0
    obtain ⟨v, w01, ew, ewn⟩ := w_nat hw
    obtain ⟨fv, fe⟩ := t11 wv f0 f1
    rw [ewn, g119]
    refine ⟨wv, fun t0 => p63 v w01 ew wv f0 f1 _ (fun _ S t => absurd t0 t) (fun z => absurd rfl z), fun tr => ⟨fv, ?_⟩⟩
    have tyw := ((JH_T h v w01).2 (fun z => tr ((JH_T h v w01).1.mp z))).2.2
    have ty : TYc C v y (twM C lm v) := TYc_mi hy.1 rfl tyw
    have cf : l2.toNatClampNeg = l2.toInt.toNat := rfl
    rw [fe, ewn, cf]
    refine p63 v w01 ew wv f0 f1 _ (fun e1 S _ hS => ?_) (fun ne => ⟨tr, ?_⟩)
    · rcases ty.2.2.1 l2.toInt.toNat (by omega) with ⟨-, g2⟩ | ⟨s9, p8, -, g2, -⟩
      · obtain ⟨p, a1, a2, -⟩ := hS
        exact g2 S p (gt_lt a1) a1 a2
      · have g2 : (y.1 126 (11 * v + l2.toInt.toNat)).toInt = (s9 : Nat) := g2
        rw [e1, km1] at g2; omega
    · rcases ty.2.2.1 l2.toInt.toNat (by omega) with ⟨g1, -⟩ | ⟨s9, p8, g1, g2, g3, g4, g5⟩
      · exact absurd g1 ne
      · exact ⟨s9, g2, p8, g3, g4, g5⟩
  refine sp_in _ _ _ ⟨fun c1 => p30 1 (fun q => absurd q (by decide)) (fun _ hg => ?_), fun c1 => sp_in _ _ _ ⟨fun c2 => p30 0 (fun _ => ⟨w_in (bi_ne.mp c1), f_in (bi_ne.mp c2)⟩) (fun z => absurd rfl z), fun c2 => p30 1 (fun q => absurd q (by decide)) (fun _ hg => ?_)⟩⟩
  · refine bi_eq.mp c1 ?_
    rcases hg.1 with e9 | e9 <;> rw [e9]
    · exact ⟨by decide, by decide⟩
    · exact ⟨by decide, by decide⟩
  · have k0 : (0 : Int32).toInt = 0 := rfl
    have k10 : (10 : Int32).toInt = 10 := rfl
    refine bi_eq.mp c2 ⟨t_le.mpr (by rw [k0]; exact hg.2.1), t_le.mpr ?_⟩
    have := hg.2.2
    rw [k10]; omega
end MFI
end
section
/-! local: a local that is known -/
def lowc (sl : List Nat) (k : Nat) : Nat := (sl.filter (fun s => decide (s < k))).length
def knL (C : gCo) (h : gTq) : Nat := if h.1 = 1 ∨ h.1 = 3 then (stN C h.2.2.1).2.1.length else 0
section LOC
variable {sl r : List Nat} {a k : Nat}
theorem lowc_c : lowc (a :: r) k = lowc r k + (if a < k then 1 else 0) := by
  unfold lowc
  by_cases c : a < k
  · rw [List.filter_cons_of_pos (by simpa using c), List.length_cons, if_pos c]
  · rw [List.filter_cons_of_neg (by simpa using c), if_neg c]; rfl
theorem lowc_s : ∀ {sl : List Nat}, sl.Pairwise (fun a b => b < a) → ∀ k, lowc sl (k + 1) = lowc sl k + (if k ∈ sl then 1 else 0) := by
  intro sl
  induction sl with
  | nil => intro _ k; rw [if_neg (by simp)]; rfl
  | cons a r ih =>
    intro h k
    obtain ⟨h1, h2⟩ := List.pairwise_cons.mp h
    rw [lowc_c, lowc_c, ih h2 k]
    by_cases c : a = k
    · rw [if_pos (show a < k + 1 by omega), if_neg (show ¬ a < k by omega), if_neg (fun z => by have := h1 k z; omega), if_pos (by rw [c]; exact List.mem_cons_self)]
    · have e : (k ∈ a :: r) ↔ k ∈ r := ⟨fun z => (List.mem_cons.mp z).resolve_left (fun z => c z.symm), fun z => List.mem_cons_of_mem _ z⟩
      by_cases d : k ∈ r
      · rw [if_pos d, if_pos (e.mpr d)]
        have := h1 k d
        rw [if_neg (by omega), if_neg (by omega)]
      · rw [if_neg d, if_neg (fun z => d (e.mp z))]
        by_cases f : a < k
        · rw [if_pos (by omega), if_pos f]
        · rw [if_neg (by omega), if_neg f]
theorem lowc_in : ∀ {sl : List Nat}, sl.Pairwise (fun a b => b < a) → ∀ {k : Nat}, k ∈ sl → lowc sl k < sl.length ∧ slN sl (lowc sl k) = k := by
  intro sl
  induction sl with
  | nil => intro _ k hk; cases hk
  | cons a r ih =>
    intro h k hk
    obtain ⟨h1, h2⟩ := List.pairwise_cons.mp h
    rw [lowc_c]
    by_cases c : a = k
    · have e : lowc r k = r.length := by
        unfold lowc
        rw [List.filter_eq_self.mpr (fun b hb => by have := h1 b hb; simpa using (show b < k by omega))]
      rw [if_neg (by omega), e, Nat.add_zero]
      exact ⟨Nat.lt_succ_self _, by rw [slN, if_pos rfl, c]⟩
    · have hk' := (List.mem_cons.mp hk).resolve_left (fun z => c z.symm)
      have := h1 k hk'
      obtain ⟨i1, i2⟩ := ih h2 hk'
      rw [if_neg (by omega), Nat.add_zero]
      exact ⟨Nat.lt_succ_of_lt i1, by rw [slN, if_neg (by omega)]; exact i2⟩
theorem lowc_8 (h : ∀ s ∈ sl, s < 8) : lowc sl 8 = sl.length := by
  unfold lowc
  rw [List.filter_eq_self.mpr (fun b hb => by simpa using h b hb)]
theorem lowc_0 : lowc sl 0 = 0 := by
  unfold lowc
  rw [List.filter_eq_nil_iff.mpr (fun b _ => by simp)]
  rfl
theorem lowc_le (h : sl.Pairwise (fun a b => b < a)) : ∀ k, lowc sl k ≤ k := by
  intro k
  induction k with
  | zero => rw [lowc_0]; exact Nat.le_refl _
  | succ k ih =>
    rw [lowc_s h k]
    split <;> omega
end LOC
theorem st_4 : ∀ a, a < 4 → ∀ b, b < 4 → ((Int32.ofNat a = Int32.ofNat b) ↔ a = b) := by decide +kernel
abbrev inL (nt : Int) (kn : Nat → Nat) (l1 l2 : Int32) : Prop := (0 ≤ l1.toInt ∧ l1.toInt < nt) ∧ 0 ≤ l2.toInt ∧ l2.toInt < (kn l1.toInt.toNat : Nat)
abbrev e2Lo (C : gCo) (wr n : Nat) (c : Nat → Nat) (x : gd) (l1 l2 : Int32) : Prop := ¬ x.1 0 10 = 0 ∧ ¬ inL (x.1 60 10).toInt (fun t => knL C ((runM C wr c n).2.2 t)) l1 l2
def sLo (C : gCo) (wr n : Nat) (c : Nat → Nat) (x : gd) (l1 l2 r : Int32) (y : gd) : Prop := r = ((runM C wr c n).2.2 l1.toInt.toNat).2.2.2.2.2.2.2 l2.toInt.toNat ∧ KRd x y
abbrev f2Lo (C : gCo) (wr n : Nat) (w : gd) (l1 l2 : Int32) : Prop := ¬ w.1 0 67 = 0 ∧ ¬ inL (w.1 0 25).toInt (fun t => knL C ((runM C wr (c96 w) n).2.2 t)) l1 l2
def tLo (C : gCo) (wr n : Nat) (w : gd) (l1 l2 r : Int32) (w' : gd) : Prop := r = ((runM C wr (c96 w) n).2.2 l1.toInt.toNat).2.2.2.2.2.2.2 l2.toInt.toNat ∧ rdM C wr w w'
section KLO
variable {G : kG} {q : kP} {d : Nat} {x y w w' : gd} {P : Option gv → gd → Prop} {X : String → gd → Prop} {C : gCo} {wr n : Nat} {lm : Nat → Nat}
/-- a thread stands at a step that there is -/
theorem JH_st (h : JH C wr n lm x w) (hH : HOI x q) (h10 : ¬ x.1 0 10 = 0) {t : Nat} (ht : (t : Int) < (x.1 60 10).toInt) : ∃ st, C.1[((runM C wr (c96 w) n).2.2 t).2.2.1]? = some st ∧ stN C ((runM C wr (c96 w) n).2.2 t).2.2.1 = st := by
  obtain ⟨j, r, -, -⟩ := JH_R h h10
  have hR := hH.2.2.1 h10
  have ta := (hR.1.2.2 t ht).1.1
  have e10 : (x.1 60 10).toInt = (C.2.1.length : Nat) := j.2.1.2.1.1
  have kq := r.2.1.1.2 t (by omega)
  have e2 := kq.2.2.1
  have el : (x.1 80 9).toInt = (C.1.length : Nat) := j.2.1.1.1
  have ss : ssm x = (x.1 80 9).toInt := rfl
  have hl : ((runM C wr (c96 w) n).2.2 t).2.2.1 < C.1.length := by omega
  have hg := List.getElem?_eq_getElem hl
  exact ⟨_, hg, by unfold stN; rw [hg]; rfl⟩
theorem ka_local (h : JH C wr n lm x w) (hq : kV q) (hH : HOI x q) (l1 l2 : Int32) (hX1 : e1Ch x → X iSE x) (hX2 : e2Lo C wr n (c96 w) x l1 l2 → X iOE x) (hP : ¬ e1Ch x → ¬ e2Lo C wr n (c96 w) x l1 l2 → ∀ r y, HOI y q → sLo C wr n (c96 w) x l1 l2 r y → P (some (vi r)) y) : KE G q (d + 7) zk_X11_local 0 [(0, vr 0), (1, vi l1), (2, vi l2)] [] x P X := by
  have hm : kiM q 120 := Or.inl rfl
  have k8 : (8 : Int32).toInt = 8 := rfl
  refine kg_X11_local_0 hq l1 l2 (kh_run hq hH hX1 (fun h10 hR => kh_ix hq l1 _ (fun hn => hX2 ⟨h10, fun z => hn z.1⟩) (fun l0 l9 => ?_)))
  have hT : ((l1.toInt.toNat : Nat) : Int) < (x.1 60 10).toInt := by omega
  have eT : l1.toInt = ((l1.toInt.toNat : Nat) : Int) := by omega
  have hT6 := MM_6 hR.1.1 hT
  have hA := (hR.1.2.2 _ hT).1
  obtain ⟨st, hs, es⟩ := JH_st h hH h10 hT
  obtain ⟨j, r, -, -⟩ := JH_R h h10
  have e10 : (x.1 60 10).toInt = (C.2.1.length : Nat) := j.2.1.2.1.1
  obtain ⟨H, eH⟩ : ∃ H, H = (runM C wr (c96 w) n).2.2 l1.toInt.toNat := ⟨_, rfl⟩
  have kq := r.2.1.1.2 l1.toInt.toNat (by omega)
  rw [← eH] at kq hs es
  obtain ⟨⟨q0, q0'⟩, -, q2, -, -, -, -, qv, ql⟩ := kq
  have e83 : (x.1 83 H.2.2.1).toInt = (st.2.1.length : Nat) := (j.2.1.1.2 _ st hs).2.1
  have s13 : (rg x 120 l1.toInt.toNat 0 = 1 ∨ rg x 120 l1.toInt.toNat 0 = 3) ↔ (H.1 = 1 ∨ H.1 = 3) := by
    rw [q0]
    exact or_congr (st_4 _ (by omega) 1 (by decide)) (st_4 _ (by omega) 3 (by decide))
  refine kh_known hq hm hR.1.1 hR.1.2.1 l1 eT hT6 hA (fun r9 r0 r8 a1 a2 => ?_)
  have er : r9.toInt = (knL C H : Nat) := by
    unfold knL
    by_cases c : H.1 = 1 ∨ H.1 = 3
    · have e2 : (rg x 120 l1.toInt.toNat 2).toInt.toNat = H.2.2.1 := by rw [q2]; rfl
      rw [a1 (s13.mpr c), if_pos c, es, e2]; exact e83
    · rw [a2 (fun z => c (s13.mp z)), if_neg c]; rfl
  have inq : inL (x.1 60 10).toInt (fun t => knL C ((runM C wr (c96 w) n).2.2 t)) l1 l2 ↔ ((0 ≤ l1.toInt ∧ l1.toInt < (x.1 60 10).toInt) ∧ 0 ≤ l2.toInt ∧ l2.toInt < (knL C H : Nat)) := by
    rw [eH]
  refine kh_ix hq l2 r9 (fun hn => hX2 ⟨h10, fun z => hn ?_⟩) (fun g0 g9 => ?_)
  · have := (inq.mp z).2
    rw [er]; exact this
  rw [er] at g9
  have c13 : H.1 = 1 ∨ H.1 = 3 := by
    apply Classical.byContradiction
    intro c
    unfold knL at g9
    rw [if_neg c] at g9
    omega
  have gl : l2.toInt < (st.2.1.length : Nat) := by
    unfold knL at g9
    rw [if_pos c13, es] at g9
    exact g9
  have g13 := ql c13
  rw [es] at g13
  refine kp_get hq hm hR.1.1 hR.1.2.1 l1 (8 + l2) (K := 8 + l2.toInt.toNat) eT ?_ hT6 (by omega) (hP h10 (fun z => z.2 (inq.mpr ⟨⟨l0, l9⟩, g0, g9⟩)) _ x hH ⟨?_, KR_rf⟩)
  · rw [t_add (by rw [k8]; omega) (by rw [k8]; omega), k8]; omega
  · rw [← eH]
    exact qv l2.toInt.toNat (by omega)
theorem ja_local {l1 l2 r9 r : Int32} (h : JH C wr n lm x w) (hH : HOI y q) (k : ansK (e1Ch x) (e2Lo C wr n (c96 w) x l1 l2) (sLo C wr n (c96 w) x l1 l2) x r9 y) (m : ansM C wr (f1Ch w) (f2Lo C wr n w l1 l2) (tLo C wr n w l1 l2) w r w') : JR3 y w' ∧ ansE r9 r y w' := by
  have e9 := JH_10 h
  refine ans_eq h hH e9 ⟨fun z => ⟨fun a => z.1 (e9.mpr a), by rw [← (JH_R h z.1).1.1.2.2.2.2.1]; exact z.2⟩, fun z => ⟨fun a => z.1 (e9.mp a), by rw [(JH_R h (fun a => z.1 (e9.mp a))).1.1.2.2.2.2.1]; exact z.2⟩⟩ (fun a z => z.1 a) k m (fun c _ r' s t => ⟨JQ_rd h hH s.2 t.2, s.1.trans t.1.symm⟩)
end KLO
section MLO
variable {G : mG} {d D : Nat} {x w : gd} {F : Int32 → gd → Prop} {C : gCo} {wr n : Nat} {lm : Nat → Nat} {q : kP}
theorem ma_local (h : JH C wr n lm x w) (hH : HOI x q) (hm : MI w) (t i : Int32) (hD : 3 ≤ D) (hF : ∀ r w', ansM C wr (f1Ch w) (f2Lo C wr n w t i) (tLo C wr n w t i) w r w' → F r w') : MT G D z_local 0 [(0, vr 0), (1, vi t), (2, vi i)] [] w (ri F) := by
  obtain ⟨D, rfl⟩ : ∃ D', D = D' + 2 := ⟨D - 2, by omega⟩
  have k0 : (0 : Int32).toInt = 0 := rfl
  have k1 : (1 : Int32).toInt = 1 := rfl
  have k8 : (8 : Int32).toInt = 8 := rfl
  refine sg_local_0 _ _ (fun y e => ?_)
  have hy := z0_s e
  have e67 : y.1 0 67 = w.1 0 67 := hy.1.1 67 (by decide)
  have e25 : y.1 0 25 = w.1 0 25 := hy.1.1 25 (by decide)
  have qy := (MI_0 hy.1 hm).1
  refine sc_noRunk hy (fun hr => ⟨fun q => absurd rfl q, fun _ => ?_⟩) (fun c y' m => ⟨fun _ => ri_i (hF _ y' (an_1 hm (show w.1 0 67 = 0 by rw [← e67]; exact c) m)), fun q => absurd q (by decide)⟩)
  obtain ⟨cp, _, rt⟩ := RS_of qy hr
  have g := cp.1
  have g6 := g.2.2.2.2.2.1
  rw [e67] at hr
  have h10 : ¬ x.1 0 10 = 0 := fun z => hr ((JH_10 h).mp z)
  obtain ⟨hc, hh, e94⟩ := JH_M h hr
  have gc := (JH_gc h hH).1
  obtain ⟨mm, m8⟩ := HistC_MM gc.1 (HistC_0 hy.1 hh) (n := n) (by rw [hy.1.1 94 (by decide)]; exact e94)
  have cy : c96 y = c96 w := by unfold c96; rw [hy.1.2 96 (by decide) (by simp)]
  rw [cy] at mm
  have hKy : MK y C := MK_mi hy.1 rfl rfl (JH_R h h10).1.2.2.1
  have jn : x.1 60 10 = w.1 0 25 := (JH_R h h10).1.1.2.2.2.2.1
  -- the locals of a thread that there is
  have main : 0 ≤ t.toInt → t.toInt < (y.1 0 25).toInt → MT G (D + 1) z_knownOf 0 [(0, vr 0), (1, vi t)] [] y (ri (fun r4 x3 => MT G (D + 2) z_local 53 [(0, vr 0), (1, vi t), (2, vi i), (3, vi r4), (4, vi 0), (5, vi 0)] [] x3 (ri F))) := by
    intro t0 t1
    have tv : vp_in t 6 := by rw [vp_in_iff]; omega
    have ct := t_cl t
    have t6 : t.toInt.toNat < 6 := by omega
    obtain ⟨H, eH⟩ : ∃ H, H = (runM C wr (c96 w) n).2.2 t.toInt.toNat := ⟨_, rfl⟩
    obtain ⟨st, hs, es⟩ := JH_st h hH h10 (t := t.toInt.toNat) (by rw [jn, ← e25]; omega)
    have tq := mm.2.2 t.toInt.toNat t6
    rw [← eH] at hs es tq
    obtain ⟨q0, q0', -, q2, -, -, -, -, -, q7, -⟩ := tq
    obtain ⟨np, nl, n8⟩ := (gc.1.1 _ st hs).2.2.2.2.1
    have s8 : ∀ s ∈ st.2.1, s < 8 := fun s hs9 => by have := nl s hs9; omega
    have e62 : y.1 62 H.2.2.1 = kmN st.2.1 := (hKy.1.2 _ st hs).2.2.2.2.2.2.2.2
    have inq : inL (w.1 0 25).toInt (fun t => knL C ((runM C wr (c96 w) n).2.2 t)) t i ↔ ((0 ≤ t.toInt ∧ t.toInt < (w.1 0 25).toInt) ∧ 0 ≤ i.toInt ∧ i.toInt < (knL C H : Nat)) := by
      rw [eH]
    -- over the slots
    obtain ⟨sl, esl⟩ : ∃ sl : List Nat, sl = (if H.1 = 1 ∨ H.1 = 3 then st.2.1 else []) := ⟨_, rfl⟩
    have slp : sl.Pairwise (fun a b => b < a) := by rw [esl]; split; exact np; exact List.Pairwise.nil
    have sl8 : ∀ s ∈ sl, s < 8 := by rw [esl]; split; exact s8; exact fun s hs9 => nomatch hs9
    have kl : knL C H = sl.length := by
      unfold knL
      rw [esl, es]
      split
      · rfl
      · rfl
    have loop : ∀ (m k : Nat) (s : Int32), 8 - k ≤ m → k ≤ 8 → s.toInt = (lowc sl k : Nat) → ¬ (0 ≤ i.toInt ∧ i.toInt < (lowc sl k : Nat)) → MT G (D + 2) z_local 53 [(0, vr 0), (1, vi t), (2, vi i), (3, vi (kmN sl)), (4, vi s), (5, vi (Int32.ofNat k))] [] y (ri F) := by
      intro m
      have last : ∀ k : Nat, k = 8 → ¬ (0 ≤ i.toInt ∧ i.toInt < (lowc sl k : Nat)) → MT G (D + 1) z_refuses 0 [(0, vr 0), (1, vi 1), (2, vi 2)] [] y (ri (fun r3 x2 => ri F (some (vi 0)) x2)) := fun k ek hn => sc_refk 1 2 hy (by decide) (fun q => absurd q (by decide)) (fun _ y' m => ri_i (hF _ y' (an_2 hm ⟨hr, fun z => hn (by
        rw [ek, lowc_8 sl8, ← kl]
        exact (inq.mp z).2)⟩ m)))
      have ok : ∀ k, k ≤ 8 → (Int32.ofNat k).toInt = (k : Nat) := fun k hk => Int32.toInt_ofNat_of_lt (by omega)
      induction m with
      | zero =>
        intro k s hk hk8 hs9 hn
        exact sg_local_53 _ _ _ _ _ ⟨fun _ => last k (by omega) hn, fun c => absurd (t_le.mpr (by rw [k8, ok k hk8]; omega)) c⟩
      | succ m ih =>
        intro k s hk hk8 hs9 hn
        refine sg_local_53 _ _ _ _ _ ⟨fun c => last k (by rw [t_le, k8, ok k hk8] at c; omega) hn, fun c => ?_⟩
        rw [t_le, k8, ok k hk8] at c
        have kl8 : k < 8 := by omega
        have e1 : Int32.ofNat k + 1 = Int32.ofNat (k + 1) := by
          rw [t_eq, t_add (by rw [ok k hk8]; omega) (by rw [ok k hk8]; omega), ok k hk8, ok (k + 1) (by omega), k1]
          push_cast; rfl
        have lb : lowc sl k ≤ 8 := by
          unfold lowc
          have h1 := List.length_filter_le (fun s => decide (s < k)) sl
          have h2 : sl.length ≤ 8 := by rw [← lowc_8 sl8]; exact lowc_le slp 8
          omega
        have bit := km_bit sl8 k kl8
        rw [e1, bit]
        have step := lowc_s slp k
        by_cases ck : k ∈ sl
        · rw [if_pos ck] at step ⊢
          refine ⟨fun z => absurd rfl z, fun _ => ⟨fun ne => ih (k + 1) (s + 1) (by omega) (by omega) ?_ ?_, fun eq => ⟨?_, ?_⟩⟩⟩
          · rw [t_add (by rw [k1]; omega) (by rw [k1]; omega), k1, hs9, step]; push_cast; rfl
          · intro z
            rw [step] at z
            have : i.toInt = (lowc sl k : Nat) := by
              have := z.2
              push_cast at this
              omega
            exact ne (t_eq.mpr (by rw [hs9, this]))
          · have m9 : (8 * t).toInt = 8 * t.toInt := by rw [t_mul (by rw [k8]; omega) (by rw [k8]; omega), k8]
            rw [vp_in_iff, t_add (by rw [ok k hk8]; omega) (by rw [ok k hk8]; omega), m9, ok k hk8]; omega
          · obtain ⟨i1, i2⟩ := lowc_in slp ck
            have ei : i.toInt = (lowc sl k : Nat) := by rw [← eq]; exact hs9
            have m9 : (8 * t).toInt = 8 * t.toInt := by rw [t_mul (by rw [k8]; omega) (by rw [k8]; omega), k8]
            have m10 : (8 * t + Int32.ofNat k).toNatClampNeg = 8 * t.toInt.toNat + k := by
              rw [t_cl, t_add (by rw [ok k hk8]; omega) (by rw [ok k hk8]; omega), m9, ok k hk8]; omega
            have c13 : H.1 = 1 ∨ H.1 = 3 := by
              apply Classical.byContradiction
              intro z
              rw [esl, if_neg z] at ck
              cases ck
            have eS : sl = st.2.1 := by rw [esl, if_pos c13]
            refine ri_i (hF _ y (an_3 qy hr (fun z => z.2 (inq.mpr ⟨⟨t0, by rw [← e25]; exact t1⟩, by omega, by rw [kl]; omega⟩)) hy.2 ⟨?_, rd_0 hy.1 hm⟩))
            rw [m10, ← eH]
            have v := q7 c13 i.toInt.toNat (by rw [es, ← eS]; omega)
            rw [es, ← eS, show i.toInt.toNat = lowc sl k by omega, i2] at v
            rw [v, show i.toInt.toNat = lowc sl k by omega]
        · rw [if_neg ck] at step ⊢
          refine ⟨fun _ => ih (k + 1) s (by omega) (by omega) (by rw [hs9, step]; rfl) (by rw [step]; exact hn), fun z => absurd z (by decide)⟩
    have fin := loop 8 0 0 (by omega) (by omega) (by rw [lowc_0]; rfl) (by rw [lowc_0]; intro z; have := z.2; omega)
    have v74 : vp_in (y.1 74 t.toNatClampNeg) 1500 := by rw [vp_in_iff]; exact ⟨(rt _ (vt tv)).1, (rt _ (vt tv)).2.1⟩
    have e74 : (y.1 74 t.toNatClampNeg).toNatClampNeg = H.2.2.1 := by rw [ct, t_cl, q2]; rfl
    have e73 : y.1 73 t.toNatClampNeg = Int32.ofNat H.1 := by rw [ct]; exact q0
    have s4 := fun b hb => st_4 H.1 (by omega) b hb
    refine sg_knownOf_0 _ ⟨tv, fun c => ⟨tv, v74, ri_i ?_⟩, fun c => ⟨tv, fun c3 => ri_i ?_, fun c3 => ⟨tv, v74, ri_i ?_⟩⟩⟩
    · rw [e73] at c
      have c1 : H.1 = 1 := (s4 1 (by decide)).mp c
      rw [e74, e62]
      rw [esl, if_pos (Or.inl c1)] at fin
      exact fin
    · rw [e73] at c c3
      rw [esl, if_neg (fun z => by
        rcases z with z | z
        · exact c ((s4 1 (by decide)).mpr z)
        · exact c3 ((s4 3 (by decide)).mpr z))] at fin
      exact fin
    · rw [e73] at c3
      have c1 : H.1 = 3 := (s4 3 (by decide)).mp c3
      rw [e74, e62]
      rw [esl, if_pos (Or.inr c1)] at fin
      exact fin
  have p32 : ∀ b : Int32, (b = 0 → 0 ≤ t.toInt ∧ t.toInt < (y.1 0 25).toInt) → (¬ b = 0 → ¬ (0 ≤ t.toInt ∧ t.toInt < (y.1 0 25).toInt)) → MT G (D + 2) z_local 32 [(0, vr 0), (1, vi t), (2, vi i)] [vi b, vr 0] y (ri F) := by
    intro b hb hb2
    exact sg_local_32 _ _ _ (sc_refk b 2 hy (by decide) (fun b0 => ⟨fun _ => main (hb b0).1 (hb b0).2, fun q => absurd rfl q⟩) (fun nb y' m => ⟨fun q => absurd q (by decide), fun _ => ri_i (hF _ y' (an_2 hm ⟨hr, fun z => hb2 nb (by rw [e25]; exact z.1)⟩ m))⟩))
  exact sp_in _ _ _ ⟨fun c1 => p32 0 (fun _ => in_lt (bi_ne.mp c1) g.2.2.2.2.1) (fun z => absurd rfl z), fun c1 => p32 1 (fun q => absurd q (by decide)) (fun _ => in_ge (bi_eq.mp c1) g.2.2.2.2.1)⟩
end MLO
end
