/-! the calls of class and model, with what both hold and what they answer -/
section SMC
variable {G : mG} {d D : Nat} {x w : gd} {F : Int32 → gd → Prop} {C : gCo} {wr n : Nat} {lm : Nat → Nat} {q : kP}
theorem HistC_w (h : HistC C wr w) : wr = 0 ∨ wr = 1 := by
  obtain ⟨_, _, _, _, _, _, _, ⟨a1, _⟩, _⟩ := h
  exact a1
theorem JH_M (h : JH C wr n lm x w) (h67 : ¬ w.1 0 67 = 0) : ¬ w.1 0 66 = 0 ∧ HistC C wr w ∧ (w.1 0 94).toInt = (n : Nat) := by
  have r := JH_R h (fun z => h67 ((JH_10 h).mp z))
  exact ⟨fun z => r.1.1.1 ((JH_9 h).mpr z), r.2.2⟩
theorem an_1 {E1 E2 : Prop} {S : Int32 → gd → Prop} {w' : gd} {r : Int32} (hm : MI w) (e : E1) (m : rfK 1 w w') : ansM C wr E1 E2 S w r w' := ⟨(MI_0 m.1 hm).1, Or.inl ⟨e, m.2, rd_0 m.1 hm⟩⟩
theorem an_2 {E1 E2 : Prop} {S : Int32 → gd → Prop} {w' : gd} {r : Int32} (hm : MI w) (e : E2) (m : rfK 2 w w') : ansM C wr E1 E2 S w r w' := ⟨(MI_0 m.1 hm).1, Or.inr (Or.inl ⟨e, m.2, rd_0 m.1 hm⟩)⟩
theorem an_3 {E1 E2 : Prop} {S : Int32 → gd → Prop} {w' : gd} {r : Int32} (p : MI w') (e1 : ¬ E1) (e2 : ¬ E2) (e0 : w'.1 0 0 = 0) (s : S r w') : ansM C wr E1 E2 S w r w' := ⟨p, Or.inr (Or.inr ⟨e1, e2, e0, s⟩)⟩
theorem ma_choices (hm : MI w) (hD : 3 ≤ D) (hF : ∀ r w', ansM C wr (f1Ch w) False (tCh C wr w) w r w' → F r w') : MT G D z_choices 0 [(0, vr 0)] [] w (ri F) := by
  obtain ⟨D, rfl⟩ : ∃ D', D = D' + 2 := ⟨D - 2, by omega⟩
  refine sg_choices_0 (fun y e => ?_)
  have hy := z0_s e
  have e67 : y.1 0 67 = w.1 0 67 := hy.1.1 67 (by decide)
  have e84 : y.1 0 84 = w.1 0 84 := hy.1.1 84 (by decide)
  exact sc_noRunk hy (fun c => ⟨fun _ => ri_i (hF _ y (an_3 (MI_0 hy.1 hm).1 (show ¬ w.1 0 67 = 0 by rw [← e67]; exact c) (fun z => z) hy.2 ⟨e84, rd_0 hy.1 hm⟩)), fun q => absurd rfl q⟩) (fun c y' m => ⟨fun q => absurd q (by decide), fun _ => ri_i (hF _ y' (an_1 hm (show w.1 0 67 = 0 by rw [← e67]; exact c) m))⟩)
theorem ma_begin (h : JH C wr n lm x w) (hH : HOI x q) (hm : MI w) (l : Int32) (hD : 7 ≤ D) (hF : ∀ r w', ansM C wr (f1Bg w) (f2Bg w l) (tBg C w l) w r w' → F r w') : MT G D z_begin 0 [(0, vr 0), (1, vi l)] [] w (ri F) :=
  sk_begin hm l (fun h9 => ⟨(JH_K h (fun z => h9 ((JH_9 h).mp z))).2.2.1, (JH_gc h hH).1⟩) hD (fun e w' m => hF _ w' (an_1 hm e m)) (fun e1 e2 w' m => hF _ w' (an_2 hm ⟨e1, e2⟩ m)) (fun wn w' hc ew hh m e0 e67 e94 => by
    have p := PM_run hm hc m (HistC_H hh)
    exact hF _ w' (an_3 p.1 hc (fun z => z.2 (w_01 (HistC_w hh) ew)) e0 ⟨rfl, wn, HistC_w hh, ew, rnM_of m rfl p hh (by rw [e67]; decide) (by rw [e94]; rfl)⟩))
theorem ma_go (h : JH C wr n lm x w) (hH : HOI x q) (hm : MI w) (l : Int32) (hD : 7 ≤ D) (hF : ∀ r w', ansM C wr (f1Go w) (f2Go w l) (tGo C wr n w l) w r w' → F r w') : MT G D z_go 0 [(0, vr 0), (1, vi l)] [] w (ri F) :=
  sk_go hm (JH_gc h hH).1 (fun h67 => ⟨wr, (JH_M h h67).2.1⟩) l hD (fun e w' m => hF _ w' (an_1 hm e m)) (fun e1 e2 w' m => hF _ w' (an_2 hm ⟨e1, e2⟩ m)) (fun w9 w' h67 h4 l0 l1 hw hh m e0 e67 e94 ec rw' => by
    obtain ⟨hc, hh0, en⟩ := JH_M h h67
    have e9 := JH_wr hh0 hw
    subst e9
    have p := PM_run hm hc m (HistC_H hh)
    have et : (w.1 0 94).toInt.toNat = n := by rw [en]; rfl
    rw [et] at ec rw'
    exact hF _ w' (an_3 p.1 (fun z => z ⟨h67, h4⟩) (fun z => z.2 ⟨l0, l1⟩) e0 ⟨rfl, rnM_of m rfl p hh (by rw [e67]; exact h67) (by rw [e94, en]; push_cast; rfl), ec, rw'⟩))
theorem ma_draw (h : JH C wr n lm x w) (hH : HOI x q) (hm : MI w) (l1 l2 : Int32) (hD : 7 ≤ D) (hF : ∀ r w', ansM C wr (f1Ch w) (f2Dr w l2) (tDr C wr n w l1 l2) w r w' → F r w') : MT G D z_draw 0 [(0, vr 0), (1, vi l1), (2, vi l2)] [] w (ri F) :=
  sk_draw hm (JH_gc h hH).1 (fun h67 => ⟨wr, (JH_M h h67).2.1⟩) l1 l2 hD (fun e w' m => hF _ w' (an_1 hm e m)) (fun e1 e2 w' m => hF _ w' (an_2 hm ⟨e1, e2⟩ m)) (fun w9 r w' h67 n0 n4 hw hh m e0 e67 e94 rw' er => by
    obtain ⟨hc, hh0, en⟩ := JH_M h h67
    have e9 := JH_wr hh0 hw
    subst e9
    have p := PM_run hm hc m (HistC_H hh)
    have et : (w.1 0 94).toInt.toNat = n := by rw [en]; rfl
    rw [et] at e94 rw' er
    exact hF _ w' (an_3 p.1 h67 (fun z => z.2 ⟨n0, n4⟩) e0 ⟨by rw [er, en], rnM_of m rfl p hh (by rw [e67]; exact h67) e94, rw'⟩))
theorem ma_again (h : JH C wr n lm x w) (hm : MI w) (l : Int32) (hD : 7 ≤ D) (hF : ∀ r w', ansM C wr (f1Ch w) (f2Ag w l) (tAg C wr w l) w r w' → F r w') : MT G D z_again 0 [(0, vr 0), (1, vi l)] [] w (ri F) :=
  sk_again hm (fun h67 => ⟨wr, (JH_M h h67).2.1⟩) l hD (fun e w' m => hF _ w' (an_1 hm e m)) (fun e1 e2 w' m => hF _ w' (an_2 hm ⟨e1, e2⟩ m)) (fun w9 w' h67 n0 n4 hw hh m e0 e67 e94 ec => by
    obtain ⟨hc, hh0, en⟩ := JH_M h h67
    have e9 := JH_wr hh0 hw
    subst e9
    have p := PM_run hm hc m (HistC_H hh)
    exact hF _ w' (an_3 p.1 h67 (fun z => z.2 ⟨n0, n4⟩) e0 ⟨rfl, rnM_of m rfl p hh (by rw [e67]; decide) (by rw [e94]; omega), ec⟩))
theorem ma_show (h : JH C wr n lm x w) (hH : HOI x q) (hm : MI w) (l1 l2 : Int32) (hD : 8 ≤ D) (hF : ∀ r w', ansM C wr (e1Sh l1 l2) (f2Sh C lm w l1 l2) (tSh C lm w l1 l2) w r w' → F r w') : MT G D z_show 0 [(0, vr 0), (1, vi l1), (2, vi l2)] [] w (ri F) :=
  sc_show (Tw := twM C lm) hm (JH_gc h hH).1 (fun h9 => (JH_K h (fun z => h9 ((JH_9 h).mp z))).2.2.1) l1 l2 (fun v v01 hv => ⟨((JH_T h v v01).2 (fun z => hv ((JH_T h v v01).1.mp z))).2.2, TW_try⟩) hD (fun e w' m => hF _ w' (an_1 hm e m)) (fun e1 e2 w' m => hF _ w' (an_2 hm ⟨e1, e2⟩ m)) (fun v s w' v01 ev f0 f1 hv hfs l4 hh m e0 e67 e94 hp => by
    have hc : ¬ w.1 0 66 = 0 := (hm.2.2.2 v (by omega) hv).1
    have p := MI_new m rfl rfl hc (HistC_H hh) hm
    exact hF _ w' (an_3 p.1 (fun z => z ⟨w_01 v01 ev, f0, f1⟩) (fun z => z.2 ⟨v, s, v01, ev, f0, f1, hv, hfs, l4⟩) e0 ⟨rfl, v, s, ⟨v01, ev, hv, hfs⟩, rnM_of m rfl p hh (by rw [e67]; decide) e94, hp⟩))
theorem ma_attempt (h : JH C wr n lm x w) (hH : HOI x q) (hm : MI w) (l1 l2 : Int32) (hD : 8 ≤ D) (hF : ∀ r w', ansM C wr (f1Bg w) (f2At w l1 l2) (tAq C wr w l1 l2) w r w' → F r w') : MT G D z_attempt 0 [(0, vr 0), (1, vi l1), (2, vi l2)] [] w (ri F) :=
  sc_attempt (nl := (x.1 60 9).toInt.toNat) (wr := wr) hm (JH_gc h hH).1 (fun h9 => by
    have h9x : ¬ x.1 0 9 = 0 := fun z => h9 ((JH_9 h).mp z)
    have j := JH_K h h9x
    obtain ⟨-, -, a3, a4, -, a6, a7, a8, a9⟩ := JC_C (hH.2.1 h9x) j
    exact ⟨j.2.2.1, a4, a3, a6, a7, a8, a9⟩) (fun h67 => (JH_M h h67).2.1) l1 l2 hD (fun e w' m => hF _ w' (an_1 hm e m)) (fun e1 e2 w' m => hF _ w' (an_2 hm ⟨e1, e2⟩ m)) (fun wn lim w' w01 ew el b1 b3 hc p e0 hr ty h119 ho how => by
    have e9 : l1.toNatClampNeg = wn := by rcases w01 with e | e <;> rw [ew, e] <;> rfl
    exact hF _ w' (an_3 p.1 hc (fun z => z.2 ⟨w_01 w01 ew, by omega, by omega⟩) e0 ⟨wn, lim, ⟨w01, ew, el⟩, by rw [e9], p, hr, ty, h119, ho, how⟩))
end SMC
section KQC
variable {G : kG} {q : kP} {d : Nat} {x w : gd} {P : Option gv → gd → Prop} {X : String → gd → Prop} {C : gCo} {wr n : Nat} {lm : Nat → Nat}
theorem ka_choices (hq : kV q) (hH : HOI x q) (hX1 : e1Ch x → X iSE x) (hP : ¬ e1Ch x → ¬ False → ∀ r y, HOI y q → sCh x r y → P (some (vi r)) y) : KE G q (d + 7) zk_X11_choices 0 [(0, vr 0)] [] x P X :=
  kh_choices hq hH hX1 (fun h10 => hP h10 (fun z => z) _ x hH ⟨rfl, KR_rf⟩)
theorem ka_begin (h : JH C wr n lm x w) (hq : kV q) (hH : HOI x q) (l1 : Int32) (hX1 : e1Bg x → X iSE x) (hX2 : e2Bg x l1 → X iAE x) (hP : ¬ e1Bg x → ¬ e2Bg x l1 → ∀ r y, HOI y q → sBg C x l1 r y → P (some (vi r)) y) : KE G q (d + 7) zk_X11_begin 0 [(0, vr 0), (1, vi l1)] [] x P X :=
  kh_beginP (C := C) hq hH l1 (fun h9 => ⟨(JH_K h h9).2.1, (JH_gc h hH).1⟩) hX1 (fun a hn => hX2 ⟨a, hn⟩) (fun wn y h9 ew hy f hr h10 => hP h9 (fun z => z.2 (w_01 (hr (fun _ => 0)).2.2.1.1 ew)) _ y hy ⟨rfl, wn, (hr (fun _ => 0)).2.2.1.1, ew, f, hr, h10⟩)
theorem ka_go (h : JH C wr n lm x w) (hq : kV q) (hH : HOI x q) (l1 : Int32) (hX1 : e1Go n x → X iSE x) (hX2 : e2Go n x l1 → X iOE x) (hP : ¬ e1Go n x → ¬ e2Go n x l1 → ∀ r y, HOI y q → sGo C wr n (c96 w) x l1 r y → P (some (vi r)) y) : KE G q (d + 7) zk_X11_go 0 [(0, vr 0), (1, vi l1)] [] x P X :=
  kh_go hq hH (fun h10 => ⟨(JH_R h h10).1.2.1, JH_gc h hH⟩) (fun h10 => (JH_R h h10).2.1) l1 hX1 (fun a b hn => hX2 ⟨⟨a, b⟩, hn⟩) (fun y h10 n4 l0 l9 hy f hr e10 => hP (fun z => z ⟨h10, n4⟩) (fun z => z.2 ⟨l0, l9⟩) _ y hy ⟨rfl, f, hr, e10⟩)
theorem ka_draw (h : JH C wr n lm x w) (hq : kV q) (hH : HOI x q) (l1 l2 : Int32) (hX1 : e1Ch x → X iSE x) (hX2 : e2Dr x l2 → X iAE x) (hP : ¬ e1Ch x → ¬ e2Dr x l2 → ∀ r y, HOI y q → sDr C wr n (c96 w) x l1 l2 r y → P (some (vi r)) y) : KE G q (d + 7) zk_X11_draw 0 [(0, vr 0), (1, vi l1), (2, vi l2)] [] x P X :=
  kk_draw hq hH (fun h10 => ⟨(JH_R h h10).1.2.1, JH_gc h hH⟩) (fun h10 => (JH_R h h10).2.1) l1 l2 hX1 (fun a hn => hX2 ⟨a, hn⟩) (fun r y h10 l0 l4 hy f hr e10 er => hP h10 (fun z => z.2 ⟨l0, l4⟩) r y hy ⟨er, f, hr, e10⟩)
theorem ka_again (h : JH C wr n lm x w) (hq : kV q) (hH : HOI x q) (l1 : Int32) (hX1 : e1Ch x → X iSE x) (hX2 : e2Ag n x l1 → X iAE x) (hP : ¬ e1Ch x → ¬ e2Ag n x l1 → ∀ r y, HOI y q → sAg C wr (c96 w) x l1 r y → P (some (vi r)) y) : KE G q (d + 7) zk_X11_again 0 [(0, vr 0), (1, vi l1)] [] x P X :=
  kh_again hq hH (fun h10 => ⟨(JH_R h h10).1.2.1, JH_gc h hH⟩) (fun h10 => (JH_R h h10).2.1) l1 hX1 (fun a hn => hX2 ⟨a, hn⟩) (fun y h10 l0 l4 hy f hr e10 => hP h10 (fun z => z.2 ⟨l0, l4⟩) _ y hy ⟨rfl, f, hr, e10⟩)
theorem ka_show (h : JH C wr n lm x w) (hq : kV q) (hH : HOI x q) (l1 l2 : Int32) (hX1 : e1Sh l1 l2 → X iAE x) (hX2 : e2Sh C lm x l1 l2 → X iSE x) (hP : ¬ e1Sh l1 l2 → ¬ e2Sh C lm x l1 l2 → ∀ r y, HOI y q → sSh C lm x l1 l2 r y → P (some (vi r)) y) : KE G q (d + 7) zk_X11_show 0 [(0, vr 0), (1, vi l1), (2, vi l2)] [] x P X :=
  kh_show (C := C) (Tw := twM C lm) hq hH l1 l2 (fun v v01 hv => ⟨⟨((JH_T h v v01).2 hv).1.2.1, JH_gc h hH⟩, ((JH_T h v v01).2 hv).2.1, TW_try⟩) hX1 (fun v v01 ev f0 f1 hor => hX2 ⟨⟨w_01 v01 ev, f0, f1⟩, fun ⟨wn, s, a1, a2, a3, a4, a5, a6, a7⟩ => by
    have e := wn_eq a1 v01 a2 ev
    subst e
    rcases hor with z | ⟨-, z⟩
    · exact a5 z
    · have := z s a6
      omega⟩) (fun v s y v01 ev f0 f1 nz hfs l4 hy f hr h10 => by
    obtain ⟨c9, hc9⟩ : ∃ c9 : Nat → Nat, ∀ k v', (pth (twM C lm v) s)[k]? = some v' → c9 k = v' := ⟨fun k => ((pth (twM C lm v) s)[k]?).getD 0, fun k v' hk => congrArg (fun z : Option Nat => z.getD 0) hk⟩
    have e2 := (hr c9 hc9).2.2.2.1
    have er : Int32.ofNat (pth (twM C lm v) s).length = y.1 160 2 := (i32_of e2).symm
    exact hP (fun z => z ⟨w_01 v01 ev, f0, f1⟩) (fun z => z.2 ⟨v, s, v01, ev, f0, f1, nz, hfs, l4⟩) _ y hy ⟨er, v, s, ⟨v01, ev, nz, hfs⟩, f, hr, h10⟩)
end KQC
section KQM
variable {G : kG} {q : kP} {d : Nat} {x w : gd} {P : Option gv → gd → kP → Prop} {X : String → gd → kP → Prop} {C : gCo} {wr n : Nat} {lm : Nat → Nat}
theorem ka_attempt (h : JH C wr n lm x w) (hu : kU q) (hH : HOI x q) (l1 l2 : Int32) (hX1 : e1Bg x → X iSE x q) (hX2 : e2At x l1 l2 → X iAE x q) (hP : ¬ e1Bg x → ¬ e2At x l1 l2 → ∀ r y q1, kU q1 → kle q q1 → HOI y q1 → sAq C x l1 l2 r y → P (some (vi r)) y q1) : KM G q (d + 7) zk_X11_attempt 0 [(0, vr 0), (1, vi l1), (2, vi l2)] [] x P X :=
  kh_attempt (C := C) (nl := (x.1 60 9).toInt.toNat) hu hH l1 l2 (fun h9 => by
    have j := JH_K h h9
    obtain ⟨a1, a2, a3, a4, a5, -⟩ := JC_C (hH.2.1 h9) j
    exact ⟨j.2.1, a1.1, a1.2.1, a2, a3, a4, a5⟩) hX1 (fun a hn => hX2 ⟨a, hn⟩) (fun wn lim y q1 w01 ew el b1 b3 h9 hu1 hl1 hy kf f tr => hP h9 (fun z => z.2 ⟨w_01 w01 ew, by omega, by omega⟩) _ y q1 hu1 hl1 hy ⟨wn, lim, ⟨w01, ew, el⟩, rfl, kf, f, tr⟩)
end KQM
