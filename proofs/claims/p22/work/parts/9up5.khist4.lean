/-! the class: a history taken, and its search -/
def HKc (x : gd) (H : gHi) (c : Nat) : Prop := x.1 181 c = (H.2.2.1 c).1 ∧ x.1 182 c = (H.2.2.1 c).2.1 ∧ (x.1 184 c).toInt = ((H.2.2.1 c).2.2.1 : Nat) ∧ (∀ p, (H.2.2.1 c).2.2.2 = some p → (x.1 185 c).toInt = (p.1 : Nat) ∧ x.1 183 c = p.2) ∧ ((H.2.2.1 c).2.2.2 = none → x.1 185 c = 1000000) ∧ mb (x.1 186 c) (fun o => decide (o < H.1) && erB H c o)
def HKr (x : gd) (H : gHi) : Prop := (x.1 180 6).toInt = (H.1 : Nat) ∧ H.1 ≤ 12 ∧ ∀ c, c < H.1 → HKc x H c
def HKo (x : gd) (H : gHi) : Prop := HKr x H ∧ ∀ t, t < 6 → (∀ c, H.2.2.2 t = some c → x.1 189 t = Int32.ofNat c) ∧ (H.2.2.2 t = none → x.1 189 t = -1)
section KHT
variable {G : kG} {q : kP} {d : Nat} {x x0 y z : gd} {F : Int32 → gd → Prop} {Fv : gd → Prop} {H : gHi} {e : gDe} {J : List gDe}
theorem HKc_f {c : Nat} (f : ∀ a, 181 ≤ a → a ≤ 186 → y.1 a c = x.1 a c) (h : HKc x H c) : HKc y H c := by
  unfold HKc
  rw [f 181 (by omega) (by omega), f 182 (by omega) (by omega), f 183 (by omega) (by omega), f 184 (by omega) (by omega), f 185 (by omega) (by omega), f 186 (by omega) (by omega)]
  exact h
theorem HKr_f (f : ∀ a k, (a = 180 ∧ k = 6) ∨ (181 ≤ a ∧ a ≤ 186) → y.1 a k = x.1 a k) (h : HKr x H) : HKr y H := ⟨by rw [f 180 6 (Or.inl ⟨rfl, rfl⟩)]; exact h.1, h.2.1, fun c hc => HKc_f (fun a a1 a2 => f a c (Or.inr ⟨a1, a2⟩)) (h.2.2 c hc)⟩
theorem er_B (hw : hiW H) {c o : Nat} (hc : c < H.1) (ho : o < H.1) : erB (hiB H e) c o = erB H c o := by
  unfold erB hiB
  show (match (upf H.2.2.1 H.1 (e.2.2.1, e.2.2.2.2.1, H.2.1, none) o).2.2.2 with | some p => decide (p.1 < (upf H.2.2.1 H.1 (e.2.2.1, e.2.2.2.2.1, H.2.1, none) c).2.2.1) | none => false) = _
  rw [upf_ne (show ¬ o = H.1 by omega), upf_ne (show ¬ c = H.1 by omega)]
  all_goals rfl
theorem er_Bn {c : Nat} : erB (hiB H e) c H.1 = false := by
  unfold erB hiB
  show (match (upf H.2.2.1 H.1 (e.2.2.1, e.2.2.2.2.1, H.2.1, none) H.1).2.2.2 with | some p => decide (p.1 < (upf H.2.2.1 H.1 (e.2.2.1, e.2.2.2.2.1, H.2.1, none) c).2.2.1) | none => false) = _
  rw [upf_eq]
theorem er_Bo (hw : hiW H) {o : Nat} (ho : o < H.1) : erB (hiB H e) H.1 o = true ↔ ¬ (H.2.2.1 o).2.2.2 = none := by
  unfold erB hiB
  show (match (upf H.2.2.1 H.1 (e.2.2.1, e.2.2.2.2.1, H.2.1, none) o).2.2.2 with | some p => decide (p.1 < (upf H.2.2.1 H.1 (e.2.2.1, e.2.2.2.2.1, H.2.1, none) H.1).2.2.1) | none => false) = true ↔ _
  rw [upf_ne (show ¬ o = H.1 by omega), upf_eq]
  have a := (hw.2.1 o ho).2
  cases hq : (H.2.2.1 o).2.2.2 with
  | none => exact ⟨fun z => (nomatch z), fun z => absurd rfl z⟩
  | some p =>
    have := (a p hq).2
    exact ⟨fun _ z => (nomatch z), fun _ => decide_eq_true (show p.1 < H.2.1 by omega)⟩
theorem er_E (hw : hiW H) {k c o : Nat} (hk : H.2.2.2 e.1 = some k) (hc : c < H.1) : erB (hiE H e k) c o = erB H c o := by
  obtain ⟨k1, k2⟩ := hw.2.2.2.1 e.1 k hk
  have fr : (upf H.2.2.1 k ((H.2.2.1 k).1, (H.2.2.1 k).2.1, (H.2.2.1 k).2.2.1, some (H.2.1, e.2.2.2.2.1)) c).2.2.1 = (H.2.2.1 c).2.2.1 := by
    by_cases e1 : c = k
    · rw [e1, upf_eq]
    · rw [upf_ne e1]
  have fc := (hw.2.1 c hc).1
  unfold erB hiE
  show (match (upf H.2.2.1 k ((H.2.2.1 k).1, (H.2.2.1 k).2.1, (H.2.2.1 k).2.2.1, some (H.2.1, e.2.2.2.2.1)) o).2.2.2 with | some p => decide (p.1 < (upf H.2.2.1 k ((H.2.2.1 k).1, (H.2.2.1 k).2.1, (H.2.2.1 k).2.2.1, some (H.2.1, e.2.2.2.2.1)) c).2.2.1) | none => false) = _
  rw [fr]
  by_cases e1 : o = k
  · rw [e1, upf_eq, k2]
    exact decide_eq_false (show ¬ H.2.1 < (H.2.2.1 c).2.2.1 by omega)
  · rw [upf_ne e1]
    all_goals rfl
theorem kt_begin (hq : kV q) (hh : q.hi = true) (t k v : Int32) (et : t = Int32.ofNat e.1) (e6 : e.1 < 6) (ek : k = e.2.2.1) (ev : v = e.2.2.2.2.1) (hk : HKo x H) (h7 : (x.1 180 7).toInt = (H.2.1 : Nat)) (h4 : H.2.1 ≤ 400) (hw : hiW H) (h12 : H.1 < 12) (h : ∀ y, fm sHi x y → HKo y (hiB H e) → y.1 180 7 = x.1 180 7 → Fv y) : KT G q d zk_X3_beginCall 0 [(0, vr 180), (1, vi t), (2, vi k), (3, vi v)] [] x (rv Fv) := by
  obtain ⟨⟨c6, -, hc⟩, ho⟩ := hk
  have k12 : (12 : Int32).toInt = 12 := rfl
  have k1 : (1 : Int32).toInt = 1 := rfl
  have kM : (1000000 : Int32).toInt = 1000000 := rfl
  have tI : t.toInt = (e.1 : Nat) := by rw [et, Int32.toInt_ofNat_of_lt (by omega)]
  have eT : t.toNatClampNeg = e.1 := by rw [t_cl, tI]; rfl
  have cN : (x.1 180 6).toNatClampNeg = H.1 := by rw [t_cl, c6]; rfl
  -- what stands while the loop goes
  have loop : ∀ (n i0 : Nat) (i : Int32) (y : gd), i.toInt = i0 → i0 ≤ H.1 → fm (fun c k => 181 ≤ c ∧ c ≤ 186 ∧ k = H.1) x y → y.1 181 H.1 = k → y.1 182 H.1 = v → y.1 184 H.1 = x.1 180 7 → y.1 185 H.1 = 1000000 → mb (y.1 186 H.1) (fun o => decide (o < i0) && erB (hiB H e) H.1 o) → H.1 - i0 ≤ n → KT G q d zk_X3_beginCall 67 [(0, vr 180), (1, vi t), (4, vi i)] [] y (rv Fv) := by
    intro n
    have out : ∀ (i0 : Nat) y, H.1 ≤ i0 → i0 ≤ H.1 → fm (fun c k => 181 ≤ c ∧ c ≤ 186 ∧ k = H.1) x y → y.1 181 H.1 = k → y.1 182 H.1 = v → y.1 184 H.1 = x.1 180 7 → y.1 185 H.1 = 1000000 → mb (y.1 186 H.1) (fun o => decide (o < i0) && erB (hiB H e) H.1 o) → vp_in t 6 ∧ (∀ x3, x3 = si y 189 (t).toNatClampNeg (y.1 180 6) → (∀ x4, x4 = si x3 180 6 ((x3.1 180 6) + 1) → rv Fv none x4)) := by
      intro i0 y hi hi2 fy y1 y2 y4 y5 y6
      have ei : i0 = H.1 := by omega
      rw [ei] at y6
      refine ⟨by rw [vp_in_iff]; omega, fun x3 e3 x4 e4 => ?_⟩
      rw [eT, fy 180 6 (by omega)] at e3
      have f3 : x3.1 180 6 = x.1 180 6 := by rw [e3, si_cell (by decide), fy 180 6 (by omega)]
      rw [f3] at e4
      have g : ∀ a k', 181 ≤ a → a ≤ 186 → x4.1 a k' = y.1 a k' := fun a k' a1 a2 => by rw [e4, si_get, if_neg (by omega), e3, si_get, if_neg (by omega)]
      have g6 : (x4.1 180 6).toInt = ((H.1 + 1 : Nat) : Int) := by rw [e4, si_get, if_pos ⟨rfl, rfl⟩, t_add (by rw [k1]; omega) (by rw [k1]; omega), k1, c6]; rfl
      refine rv_i (h x4 ?_ ⟨⟨g6, by show H.1 + 1 ≤ 12; omega, fun c hcl => ?_⟩, fun u hu => ?_⟩ ?_)
      · rw [e4, e3]; exact fm_si (fm_si (fm_w fy (fun c k q => by unfold sHi; omega)) (by unfold sHi; omega)) (by unfold sHi; omega)
      · have hcl : c < H.1 + 1 := hcl
        unfold HKc
        rw [g 181 c (by omega) (by omega), g 182 c (by omega) (by omega), g 183 c (by omega) (by omega), g 184 c (by omega) (by omega), g 185 c (by omega) (by omega), g 186 c (by omega) (by omega)]
        by_cases cc : c = H.1
        · rw [cc]
          have eN : (hiB H e).2.2.1 H.1 = (e.2.2.1, e.2.2.2.2.1, H.2.1, none) := upf_eq
          rw [eN, y1, y2, y4, y5]
          refine ⟨ek, ev, h7, fun p hp => (nomatch hp), fun _ => rfl, mb_cg y6 (fun o _ => ?_)⟩
          show (decide (o < H.1) && erB (hiB H e) H.1 o) = (decide (o < H.1 + 1) && erB (hiB H e) H.1 o)
          by_cases co : o = H.1
          · rw [co, er_Bn, Bool.and_false, Bool.and_false]
          · rw [show decide (o < H.1) = decide (o < H.1 + 1) from decide_eq_decide.mpr (by omega)]
        · have eN : (hiB H e).2.2.1 c = H.2.2.1 c := upf_ne cc
          rw [eN, fy 181 c (by omega), fy 182 c (by omega), fy 183 c (by omega), fy 184 c (by omega), fy 185 c (by omega), fy 186 c (by omega)]
          obtain ⟨q1, q2, q3, q4, q5, q6⟩ := hc c (by omega)
          refine ⟨q1, q2, q3, q4, q5, mb_cg q6 (fun o _ => ?_)⟩
          show (decide (o < H.1) && erB H c o) = (decide (o < H.1 + 1) && erB (hiB H e) c o)
          by_cases co : o = H.1
          · rw [co, er_Bn, decide_eq_false (Nat.lt_irrefl _), Bool.false_and, Bool.and_false]
          · by_cases c2 : o < H.1
            · rw [er_B hw (by omega) c2, decide_eq_true c2, decide_eq_true (show o < H.1 + 1 by omega)]
            · rw [decide_eq_false c2, decide_eq_false (show ¬ o < H.1 + 1 by omega), Bool.false_and, Bool.false_and]
      · have eO : x4.1 189 u = if u = e.1 then x.1 180 6 else x.1 189 u := by
          rw [e4, si_cell (by decide), e3, si_get]
          by_cases cu : u = e.1
          · rw [if_pos ⟨rfl, cu⟩, if_pos cu]
          · rw [if_neg (fun q => cu q.2), if_neg cu, fy 189 u (by omega)]
        rw [eO]
        show (∀ c, upf H.2.2.2 e.1 (some H.1) u = some c → _) ∧ (upf H.2.2.2 e.1 (some H.1) u = none → _)
        by_cases cu : u = e.1
        · rw [if_pos cu, cu, upf_eq]
          exact ⟨fun c hc9 => by rw [← Option.some.inj hc9]; exact i32_of c6, fun z => nomatch z⟩
        · rw [if_neg cu, upf_ne cu]
          exact ho u hu
      · rw [e4, si_get, if_neg (by omega), e3, si_cell (by decide), fy 180 7 (by omega)]
    induction n with
    | zero =>
      intro i0 i y ei hi fy y1 y2 y4 y5 y6 hn
      refine kg_X3_beginCall_67 hq hh _ _ ⟨fun _ => out i0 y (by omega) hi fy y1 y2 y4 y5 y6, fun c => ?_⟩
      rw [t_le, fy 180 6 (by omega)] at c; omega
    | succ n ih =>
      intro i0 i y ei hi fy y1 y2 y4 y5 y6 hn
      refine kg_X3_beginCall_67 hq hh _ _ ⟨fun c => out i0 y (by rw [t_le, fy 180 6 (by omega)] at c; omega) hi fy y1 y2 y4 y5 y6, fun c => ?_⟩
      rw [t_le, fy 180 6 (by omega)] at c
      have hl : i0 < H.1 := by omega
      have e1 : (i + 1).toInt = ((i0 + 1 : Nat) : Int) := by rw [t_add (by show _ ≤ _ + (1 : Int); omega) (by show _ + (1 : Int) ≤ _; omega), ei]; rfl
      have v6 : vp_in (y.1 180 6) 12 := by rw [vp_in_iff, fy 180 6 (by omega)]; omega
      have ci : i.toNatClampNeg = i0 := by rw [t_cl, ei]; rfl
      rw [ci, fy 180 7 (by omega), fy 185 i0 (by omega), fy 180 6 (by omega), cN]
      obtain ⟨-, -, -, q4, q5, -⟩ := hc i0 hl
      have er := er_Bo (e := e) hw hl
      refine ⟨by rw [vp_in_iff]; omega, fun le => ih (i0 + 1) _ y e1 hl fy y1 y2 y4 y5 (mb_cg y6 (fun o _ => ?_)) (by omega), fun nle => ⟨by rw [← fy 180 6 (by omega)]; exact v6, by rw [← fy 180 6 (by omega)]; exact v6, fun z ez => ?_⟩⟩
      · have ef : erB (hiB H e) H.1 i0 = false := Bool.eq_false_iff.mpr (fun z => by
          have nz := er.mp z
          cases hq9 : (H.2.2.1 i0).2.2.2 with
          | none => exact nz hq9
          | some p =>
            have p1 := (q4 p hq9).1
            have p2 := ((hw.2.1 i0 hl).2 p hq9).2
            rw [t_le, h7, p1] at le
            omega)
        by_cases co : o = i0
        · rw [co, ef, Bool.and_false, Bool.and_false]
        · rw [show decide (o < i0) = decide (o < i0 + 1) from decide_eq_decide.mpr (by omega)]
      · have et9 : erB (hiB H e) H.1 i0 = true := er.mpr (fun z => by
          rw [t_le, h7, q5 z, kM] at nle
          omega)
        have gz : ∀ a, ¬ a = 186 → z.1 a H.1 = y.1 a H.1 := fun a ha => by rw [ez, si_get, if_neg (fun q => ha q.1)]
        refine ih (i0 + 1) _ z e1 hl (by rw [ez]; exact fm_si fy (by omega)) (by rw [gz 181 (by decide)]; exact y1) (by rw [gz 182 (by decide)]; exact y2) (by rw [gz 184 (by decide)]; exact y4) (by rw [gz 185 (by decide)]; exact y5) ?_ (by omega)
        rw [ez, si_get, if_pos ⟨rfl, rfl⟩]
        refine mb_cg (mb_or y6 ei (by omega)) (fun o _ => ?_)
        by_cases co : o = i0
        · rw [co, upf_eq, et9, decide_eq_true (Nat.lt_succ_self _)]; rfl
        · rw [upf_ne co, show decide (o < i0) = decide (o < i0 + 1) from decide_eq_decide.mpr (by omega)]
  refine kg_X3_beginCall_0 hq hh _ _ _ ⟨fun c => ?_, fun c => absurd (t_lt.mpr (by rw [c6, k12]; omega)) c⟩
  have v6 : vp_in (x.1 180 6) 12 := by rw [vp_in_iff]; omega
  rw [cN]
  refine ⟨v6, fun x3 e3 => ?_⟩
  have f3 : fm (fun c k => 181 ≤ c ∧ c ≤ 186 ∧ k = H.1) x x3 := by rw [e3]; exact fm_si (fm_rf _ _) (by omega)
  rw [f3 180 6 (by omega), cN]
  refine ⟨v6, fun x5 e5 => ?_⟩
  have f5 : fm (fun c k => 181 ≤ c ∧ c ≤ 186 ∧ k = H.1) x x5 := by rw [e5]; exact fm_si f3 (by omega)
  rw [f5 180 6 (by omega), f5 180 7 (by omega), cN]
  refine ⟨v6, fun x7 e7 => ?_⟩
  have f7 : fm (fun c k => 181 ≤ c ∧ c ≤ 186 ∧ k = H.1) x x7 := by rw [e7]; exact fm_si f5 (by omega)
  rw [f7 180 6 (by omega), cN]
  refine ⟨v6, fun x9 e9 => ?_⟩
  have f9 : fm (fun c k => 181 ≤ c ∧ c ≤ 186 ∧ k = H.1) x x9 := by rw [e9]; exact fm_si f7 (by omega)
  rw [f9 180 6 (by omega), cN]
  refine ⟨v6, fun xa ea => ?_⟩
  have fa : fm (fun c k => 181 ≤ c ∧ c ≤ 186 ∧ k = H.1) x xa := by rw [ea]; exact fm_si f9 (by omega)
  refine loop H.1 0 _ xa rfl (Nat.zero_le _) fa ?_ ?_ ?_ ?_ ?_ (by omega)
  · rw [ea, e9, e7, e5, e3]; (simp only [si_get, sfl_get, Nat.reduceEqDiff, eq_self, and_false, false_and, and_true, true_and, if_true, if_false, reduceIte, reduceCtorEq])
  · rw [ea, e9, e7, e5]; (simp only [si_get, sfl_get, Nat.reduceEqDiff, eq_self, and_false, false_and, and_true, true_and, if_true, if_false, reduceIte, reduceCtorEq])
  · rw [ea, e9, e7]; (simp only [si_get, sfl_get, Nat.reduceEqDiff, eq_self, and_false, false_and, and_true, true_and, if_true, if_false, reduceIte, reduceCtorEq])
  · rw [ea, e9]; (simp only [si_get, sfl_get, Nat.reduceEqDiff, eq_self, and_false, false_and, and_true, true_and, if_true, if_false, reduceIte, reduceCtorEq])
  · have : xa.1 186 H.1 = 0 := by rw [ea]; (simp only [si_get, sfl_get, Nat.reduceEqDiff, eq_self, and_false, false_and, and_true, true_and, if_true, if_false, reduceIte, reduceCtorEq])
    rw [this]
    exact mb_cg mb_0 (fun o _ => by rw [decide_eq_false (Nat.not_lt_zero _), Bool.false_and])
theorem kt_end (hq : kV q) (hh : q.hi = true) (t v : Int32) (et : t = Int32.ofNat e.1) (e6 : e.1 < 6) (ev : v = e.2.2.2.2.1) (h14 : s14 e) (hk : HKo x H) (h7 : (x.1 180 7).toInt = (H.2.1 : Nat)) (hw : hiW H) (h : ∀ y, fm sHi x y → HKo y (hiS H e) → y.1 180 7 = x.1 180 7 → Fv y) : KT G q d zk_X3_endCall 0 [(0, vr 180), (1, vi t), (2, vi v)] [] x (rv Fv) := by
  obtain ⟨⟨c6, l12, hc⟩, ho⟩ := hk
  have tI : t.toInt = (e.1 : Nat) := by rw [et, Int32.toInt_ofNat_of_lt (by omega)]
  have eT : t.toNatClampNeg = e.1 := by rw [t_cl, tI]; rfl
  have vt : vp_in t 6 := by rw [vp_in_iff]; omega
  obtain ⟨o1, o2⟩ := ho e.1 e6
  refine kg_X3_endCall_0 hq hh _ _ ⟨vt, fun c => ?_, fun c => ⟨vt, ?_⟩⟩
  · rw [eT] at c
    cases hq9 : H.2.2.2 e.1 with
    | none =>
      refine rv_i (h x (fm_rf _ _) ?_ rfl)
      rw [hi_E0 h14 hq9]
      exact ⟨⟨c6, l12, hc⟩, ho⟩
    | some k =>
      have k1 := (hw.2.2.2.1 e.1 k hq9).1
      rw [o1 k hq9] at c
      have : ∀ n, n < 12 → ¬ Int32.ofNat n = -1 := by decide +kernel
      exact absurd c (this k (by omega))
  rw [eT] at c ⊢
  cases hq9 : H.2.2.2 e.1 with
  | none => exact absurd (o2 hq9) c
  | some k =>
    obtain ⟨k1, k2⟩ := hw.2.2.2.1 e.1 k hq9
    have ok := o1 k hq9
    have kI : (x.1 189 e.1).toInt = (k : Nat) := by rw [ok, Int32.toInt_ofNat_of_lt (by omega)]
    have ck : (x.1 189 e.1).toNatClampNeg = k := by rw [t_cl, kI]; rfl
    have vo : vp_in (x.1 189 e.1) 12 := by rw [vp_in_iff]; omega
    rw [ck]
    refine ⟨vo, fun x5 e5 => ⟨vt, ?_⟩⟩
    have f5 : ∀ a k', ¬ (a = 183 ∧ k' = k) → x5.1 a k' = x.1 a k' := fun a k' ha => by rw [e5, si_get, if_neg ha]
    rw [f5 189 e.1 (by omega), f5 180 7 (by omega), ck]
    refine ⟨vo, fun x8 e8 => ⟨vt, fun z ez => rv_i (h z ?_ ?_ ?_)⟩⟩
    · rw [ez, e8, e5]; exact fm_si (fm_si (fm_si (fm_rf _ _) (by unfold sHi; omega)) (by unfold sHi; omega)) (by unfold sHi; omega)
    · rw [hi_E h14 hq9]
      have g : ∀ a k', ¬ (a = 183 ∧ k' = k) → ¬ (a = 185 ∧ k' = k) → ¬ a = 189 → z.1 a k' = x.1 a k' := fun a k' h1 h2 h3 => by rw [ez, si_get, if_neg (fun q => h3 q.1), e8, si_get, if_neg h2, f5 a k' h1]
      refine ⟨⟨by rw [g 180 6 (by omega) (by omega) (by omega)]; exact c6, l12, fun c hcl => ?_⟩, fun u hu => ?_⟩
      · have hcl : c < H.1 := hcl
        obtain ⟨q1, q2, q3, q4, q5, q6⟩ := hc c hcl
        unfold HKc
        have m6 : mb (z.1 186 c) (fun o => decide (o < H.1) && erB (hiE H e k) c o) := by
          rw [g 186 c (by omega) (by omega) (by omega)]
          exact mb_cg q6 (fun o _ => by rw [er_E hw hq9 hcl])
        rw [g 181 c (by omega) (by omega) (by omega), g 182 c (by omega) (by omega) (by omega), g 184 c (by omega) (by omega) (by omega)]
        by_cases cc : c = k
        · have eN : (hiE H e k).2.2.1 c = ((H.2.2.1 k).1, (H.2.2.1 k).2.1, (H.2.2.1 k).2.2.1, some (H.2.1, e.2.2.2.2.1)) := by rw [cc]; exact upf_eq
          rw [eN]
          rw [cc] at q1 q2 q3
          have z5 : z.1 185 c = x.1 180 7 := by rw [ez, si_cell (by decide), e8, si_get, if_pos ⟨rfl, cc⟩]
          have z3 : z.1 183 c = v := by rw [ez, si_cell (by decide), e8, si_get, if_neg (by omega), e5, si_get, if_pos ⟨rfl, cc⟩]
          rw [z5, z3, cc]
          rw [cc] at m6
          refine ⟨q1, q2, q3, fun p hp => ?_, fun z9 => (nomatch z9), m6⟩
          rw [← Option.some.inj hp]
          exact ⟨h7, ev⟩
        · have eN : (hiE H e k).2.2.1 c = H.2.2.1 c := upf_ne cc
          rw [eN, g 185 c (by omega) (by omega) (by omega), g 183 c (by omega) (by omega) (by omega)]
          exact ⟨q1, q2, q3, q4, q5, m6⟩
      · show (∀ c, upf H.2.2.2 e.1 none u = some c → _) ∧ (upf H.2.2.2 e.1 none u = none → _)
        by_cases cu : u = e.1
        · rw [cu, upf_eq]
          exact ⟨fun c z9 => (nomatch z9), fun _ => by rw [ez, si_get, if_pos ⟨rfl, rfl⟩]⟩
        · rw [upf_ne cu]
          have : z.1 189 u = x.1 189 u := by rw [ez, si_get, if_neg (fun q => cu q.2), e8, si_cell (by decide), e5, si_cell (by decide)]
          rw [this]; exact ho u hu
    · rw [ez, si_cell (by decide), e8, si_cell (by decide), f5 180 7 (by omega)]
theorem hi_mono : ∀ {J : List gDe} {H : gHi}, H.1 ≤ (J.foldl hiS H).1 := by
  intro J
  induction J with
  | nil => intro H; exact Nat.le_refl _
  | cons e J ih =>
    intro H
    have a := ih (H := hiS H e)
    have b : H.1 ≤ (hiS H e).1 := by
      by_cases c1 : s13 e
      · rw [hi_B c1]; exact Nat.le_succ _
      · by_cases c2 : s14 e
        · cases o : H.2.2.2 e.1 with
          | none => rw [hi_E0 c2 o]; exact Nat.le_refl _
          | some k => rw [hi_E c2 o]; exact Nat.le_refl _
        · rw [hi_n c1 c2]; exact Nat.le_refl _
    exact Nat.le_trans b a
theorem hi_tk {k : Nat} : (hiJ (J.take k)).1 ≤ (hiJ J).1 := by
  have e1 : hiJ J = (J.drop k).foldl hiS (hiJ (J.take k)) := by
    unfold hiJ
    rw [← List.foldl_append, List.take_append_drop]
  rw [e1]
  exact hi_mono
theorem kt_take (hq : kV q) (hh : q.hi = true) (hJ : JN x) (hj : KJo x J) (e6 : ∀ (a : Nat) (e : gDe), J[a]? = some e → e.1 < 6) (h12 : (hiJ J).1 ≤ 12) (h : ∀ y, fm sHi x y → HKo y (hiJ J) → (y.1 180 7).toInt = ((hiJ J).2.1 : Nat) → Fv y) : KT G q (d + 1) zk_X3_take 0 [(0, vr 180), (1, vr 160)] [] x (rv Fv) := by
  obtain ⟨b1, b2, b3⟩ := hJ.1
  have jl := hj.1
  have k0 : (0 : Int32).toInt = 0 := rfl
  have k1 : (1 : Int32).toInt = 1 := rfl
  have loop : ∀ (n k : Nat) (i : Int32) (y : gd), i.toInt = k → k ≤ J.length → fm sHi x y → HKo y (hiJ (J.take k)) → (y.1 180 7).toInt = ((hiJ (J.take k)).2.1 : Nat) → J.length - k ≤ n → KT G q (d + 1) zk_X3_take 20 [(0, vr 180), (1, vr 160), (2, vi i)] [] y (rv Fv) := by
    intro n
    have fin : ∀ (k : Nat) (y : gd), J.length ≤ k → fm sHi x y → HKo y (hiJ (J.take k)) → (y.1 180 7).toInt = ((hiJ (J.take k)).2.1 : Nat) → rv Fv none y := fun k y hk fy hy h7 => by
      rw [List.take_of_length_le hk] at hy h7
      exact rv_i (h y fy hy h7)
    induction n with
    | zero =>
      intro k i y ei hk fy hy h7 hn
      refine kg_X3_take_20 hq hh _ ⟨fun _ => fin k y (by omega) fy hy h7, fun c => ?_⟩
      rw [t_le, fy 160 3 (by unfold sHi; omega)] at c; omega
    | succ n ih =>
      intro k i y ei hk fy hy h7 hn
      refine kg_X3_take_20 hq hh _ ⟨fun c => fin k y (by rw [t_le, fy 160 3 (by unfold sHi; omega)] at c; omega) fy hy h7, fun c => ?_⟩
      rw [t_le, fy 160 3 (by unfold sHi; omega)] at c
      have hl : k < J.length := by omega
      obtain ⟨e, he⟩ : ∃ e, J[k]? = some e := ⟨_, List.getElem?_eq_getElem hl⟩
      have e1 : (i + 1).toInt = ((k + 1 : Nat) : Int) := by rw [t_add (by show _ ≤ _ + (1 : Int); omega) (by show _ + (1 : Int) ≤ _; omega), ei]; rfl
      have vi_ : vp_in i 400 := by rw [vp_in_iff]; omega
      have eN : i.toNatClampNeg = k := by rw [t_cl, ei]; rfl
      obtain ⟨j0, j1, j2, -, j4, j5⟩ := hj.2.2 k e he
      have tk := hiJ_tk he
      have hw : hiW (hiJ (J.take k)) := hiW_J
      have e400 : (hiJ (J.take k)).2.1 ≤ k := Nat.le_trans hi_ge (by rw [List.length_take]; omega)
      have go : ∀ z, fm sHi x z → HKo z (hiJ (J.take (k + 1))) → (z.1 180 7).toInt = ((hiJ (J.take (k + 1))).2.1 : Nat) → KT G q (d + 1) zk_X3_take 20 [(0, vr 180), (1, vr 160), (2, vi (i + 1))] [] z (rv Fv) := fun z fz hz z7 => ih (k + 1) _ z e1 hl fz hz z7 (by omega)
      rw [eN, fy 171 k (by unfold sHi; omega), fy 167 k (by unfold sHi; omega), j1, j5]
      have fd : (if e.2.2.2.2.2.1 = true then (1 : Int32) else 0) = 0 ↔ e.2.2.2.2.2.1 = false := by
        cases e.2.2.2.2.2.1 with
        | true => exact ⟨fun z => absurd z (by decide), fun z => nomatch z⟩
        | false => exact ⟨fun _ => rfl, fun _ => rfl⟩
      have skip : ¬ s13 e → ¬ s14 e → KT G q (d + 1) zk_X3_take 20 [(0, vr 180), (1, vr 160), (2, vi (i + 1))] [] y (rv Fv) := fun n1 n2 => by
        rw [hi_n n1 n2] at tk
        exact go y fy (by rw [tk]; exact hy) (by rw [tk]; exact h7)
      -- an event is told
      have nx : ∀ z, fm sHi x z → HKo z (hiJ (J.take (k + 1))) → z.1 180 7 = y.1 180 7 → (hiJ (J.take (k + 1))).2.1 = (hiJ (J.take k)).2.1 + 1 → ∀ w, w = si z 180 7 ((z.1 180 7) + 1) → KT G q (d + 1) zk_X3_take 20 [(0, vr 180), (1, vr 160), (2, vi (i + 1))] [] w (rv Fv) := by
        intro z fz hz ez e21 w ew
        have g : ∀ a k', ¬ (a = 180 ∧ k' = 7) → w.1 a k' = z.1 a k' := fun a k' ha => by rw [ew, si_get, if_neg ha]
        refine go w (by rw [ew]; exact fm_si fz (by unfold sHi; omega)) ⟨HKr_f (fun a k' ha => g a k' (by omega)) hz.1, fun t ht => by rw [g 189 t (by omega)]; exact hz.2 t ht⟩ ?_
        rw [ew, si_get, if_pos ⟨rfl, rfl⟩, ez, t_add (by rw [k1]; omega) (by rw [k1]; omega), k1, h7, e21]; rfl
      have g59 : ∀ s : Int32, s = Int32.ofNat e.2.1 → (s13 e ∨ s14 e) → KT G q (d + 1) zk_X3_take 59 [(0, vr 180), (1, vr 160), (2, vi i), (3, vi s)] [] y (rv Fv) := by
        intro s es hs
        refine kg_X3_take_59 hq hh _ _ ?_
        rw [eN, fy 166 k (by unfold sHi; omega), fy 168 k (by unfold sHi; omega), fy 170 k (by unfold sHi; omega), j0, j2, j4, es]
        refine ⟨fun n13 => ⟨vi_, vi_, ?_⟩, fun c13 => ⟨vi_, vi_, vi_, ?_⟩⟩
        · have h14 : s14 e := hs.resolve_left (fun z => n13 z.2)
          refine kt_end hq hh _ _ rfl (e6 k e he) rfl h14 hy h7 hw (fun z fz hz ez => nx z (fm_tr fy fz) (by rw [tk]; exact hz) ez ?_)
          rw [tk]
          cases o : (hiJ (J.take k)).2.2.2 e.1 with
          | none => rw [hi_E0 h14 o]
          | some c9 => rw [hi_E h14 o]; rfl
        · have h13 : s13 e := hs.resolve_right (fun z => absurd (c13.symm.trans z.2) (by decide))
          rw [hi_B h13] at tk
          have b12 : (hiJ (J.take (k + 1))).1 ≤ 12 := Nat.le_trans hi_tk h12
          rw [tk] at b12
          have b12 : (hiJ (J.take k)).1 + 1 ≤ 12 := b12
          exact kt_begin hq hh _ _ _ rfl (e6 k e he) rfl rfl hy h7 (by omega) hw (by omega) (fun z fz hz ez => nx z (fm_tr fy fz) (by rw [tk]; exact hz) ez (by rw [tk]; rfl))
      exact ⟨vi_, vi_, fun nf => skip (fun z => nf (fd.mpr z.1)) (fun z => nf (fd.mpr z.1)), fun f0 => ⟨fun c13 => g59 _ rfl (Or.inl ⟨fd.mp f0, c13⟩), fun n13 => ⟨fun c14 => g59 _ rfl (Or.inr ⟨fd.mp f0, c14⟩), fun n14 => skip (fun z => n13 z.2) (fun z => n14 z.2)⟩⟩⟩
  refine kg_X3_take_0 hq hh (fun x1 e1 x2 e2 x3 e3 => ?_)
  have z6 : x3.1 180 6 = 0 := by rw [e3, e2, e1]; (simp only [si_get, sfl_get, Nat.reduceEqDiff, eq_self, and_false, false_and, and_true, true_and, if_true, if_false, reduceIte, reduceCtorEq])
  have z7 : x3.1 180 7 = 0 := by rw [e3, e2, e1]; (simp only [si_get, sfl_get, Nat.reduceEqDiff, eq_self, and_false, false_and, and_true, true_and, if_true, if_false, reduceIte, reduceCtorEq])
  refine loop J.length 0 _ x3 rfl (Nat.zero_le _) ?_ (by rw [hiJ_0]; exact ⟨⟨by rw [z6]; rfl, Nat.zero_le _, fun c hc => absurd hc (Nat.not_lt_zero _)⟩, fun t ht => ⟨fun c z => absurd z hi0_n, fun _ => by rw [e3, sfl_get, if_pos ⟨rfl, ht⟩]⟩⟩) (by rw [hiJ_0, z7]; rfl) (by omega)
  rw [e3, e2, e1]; exact fm_fl (fm_si (fm_si (fm_rf _ _) (by unfold sHi; omega)) (by unfold sHi; omega)) (fun k _ => by unfold sHi; omega)
/-- what the search reads: the calls, the masks, which it is -/
def HKm (x : gd) (H : gHi) (s m : Nat) : Prop := HKr x H ∧ mb (x.1 180 11) (fun c => decide (c < H.1) && decide ((H.2.2.1 c).2.2.1 < m)) ∧ mb (x.1 180 12) (fun c => decide (c < H.1) && ovB H m c) ∧ x.1 180 10 = Int32.ofNat s
theorem HKm_f {s m : Nat} (f : ∀ a k, 180 ≤ a → a ≤ 186 → y.1 a k = x.1 a k) (h : HKm x H s m) : HKm y H s m := by
  obtain ⟨h1, h2, h3, h4⟩ := h
  refine ⟨HKr_f (fun a k ha => f a k (by omega) (by omega)) h1, ?_, ?_, ?_⟩
  · rw [f 180 11 (by omega) (by omega)]; exact h2
  · rw [f 180 12 (by omega) (by omega)]; exact h3
  · rw [f 180 10 (by omega) (by omega)]; exact h4
theorem HS_f {s a b : Nat} {st : gHt} (f : ∀ k, k < 14 → y.1 b k = x.1 a k) (hb : HBd s st 12) (h : HS x s st a) : HS y s st b := by
  obtain ⟨h0, h1, h2⟩ := h
  refine ⟨fun c => by rw [f 0 (by omega)]; exact h0 c, fun c => ?_, fun c => ?_⟩
  · have := hb.1 c
    obtain ⟨a1, a2⟩ := h1 c
    exact ⟨by rw [f 0 (by omega)]; exact a1, fun i hi => by rw [f (i + 1) (by omega)]; exact a2 i hi⟩
  · have bl := hb.2 c
    obtain ⟨a1, a2, a3⟩ := h2 c
    refine ⟨by rw [f 0 (by omega)]; exact a1, fun v => ?_, fun i j hi hj e => a3 i j hi hj ?_⟩
    · rw [a2 v]
      constructor
      · rintro ⟨i, i1, i2⟩; exact ⟨i, i1, by rw [f (i + 1) (by omega)]; exact i2⟩
      · rintro ⟨i, i1, i2⟩; exact ⟨i, i1, by rw [← f (i + 1) (by omega)]; exact i2⟩
    · rw [f (i + 1) (by omega), f (j + 1) (by omega)] at e; exact e
theorem HBd_up {s D D' : Nat} {st : gHt} (h : HBd s st D) (hd : D ≤ D') : HBd s st D' := ⟨fun c => Nat.le_trans (h.1 c) hd, fun c => Nat.le_trans (h.2 c) hd⟩
theorem kt_can (hq : kV q) (hh : q.hi = true) {s m : Nat} (s4 : s < 4) (n : Nat) : ∀ (D : Nat) (x : gd) (F : Int32 → gd → Prop) (l1 l2 : Int32) (P : Nat → Bool) (st : gHt), D + n = 12 → l1.toInt = D → HKm x H s m → mb l2 P → HS x s st (300 + D) → HBd s st D → (∀ r y, gbool r → fm (sHs D) x y → (¬ r = 0 ↔ goH s H m n P st) → F r y) → KT G q (d + n + 3) zk_X3_canGoOn 0 [(0, vr 180), (1, vi l1), (2, vi l2)] [] x (ri F) := by
  have k12 : (12 : Int32).toInt = 12 := rfl
  have alq : ∀ (x : gd) (l2 : Int32) (P : Nat → Bool), HKm x H s m → mb l2 P → ((x.1 180 12 &&& (l2 ^^^ (-1))) = 0 ↔ alH H m P) := fun x l2 P hx hp => by
    rw [mb_sub hx.2.2.1 hp]
    have l12 := hx.1.2.1
    constructor
    · intro z c hc ho
      exact z c (by omega) (by rw [decide_eq_true hc, ho]; rfl)
    · intro z c hc ha
      rw [Bool.and_eq_true, decide_eq_true_iff] at ha
      exact z c ha.1 ha.2
  have n01 : ¬ (1 : Int32) = 0 := by decide
  induction n with
  | zero =>
    intro D x F l1 l2 P st hD e1 hx hp hs hb h
    refine kg_X3_canGoOn_0 (d := d + 1) hq hh _ _ ⟨fun na => ⟨fun c => ?_, fun _ => ri_i (h _ _ gbool_0 (fm_rf _ _) ⟨fun z => absurd rfl z, fun z => absurd ((alq x l2 P hx hp).mpr z) na⟩)⟩, fun al => ri_i (h _ _ gbool_1 (fm_rf _ _) ⟨fun _ => (alq x l2 P hx hp).mp al, fun _ => n01⟩)⟩
    rw [t_lt, k12] at c; omega
  | succ n ih =>
    intro D x F l1 l2 P st hD e1 hx hp hs hb h
    have l12 := hx.1.2.1
    have n6 := hx.1.1
    have al := alq x l2 P hx hp
    have loop : ∀ (nm k : Nat) (i : Int32) (l3 : Int32) (y : gd), i.toInt = k → mb l3 (fun c => (decide (c < H.1) && decide ((H.2.2.1 c).2.2.1 < m)) && !P c) → fm (sHs D) x y → ¬ alH H m P → (goH s H m (n + 1) P st ↔ rsH s H m n P st k) → H.1 - k ≤ nm → KT G q (d + n + 2 + 2) zk_X3_canGoOn 33 [(0, vr 180), (1, vi l1), (2, vi l2), (3, vi l3), (4, vi i)] [] y (ri F) := by
      intro nm
      have fin : ∀ (k : Nat) (y : gd), H.1 ≤ k → fm (sHs D) x y → (goH s H m (n + 1) P st ↔ rsH s H m n P st k) → ri F (some (vi 0)) y := fun k y hk fy hR => ri_i (h _ _ gbool_0 fy ⟨fun z => absurd rfl z, fun z => absurd (hR.mp z) (rs_end hk)⟩)
      induction nm with
      | zero =>
        intro k i l3 y ei h3 fy na hR hm
        refine kg_X3_canGoOn_33 (d := d + n + 2) hq hh _ _ _ _ ⟨fun _ => fin k y (by omega) fy hR, fun c => ?_⟩
        rw [t_le, fy 180 6 (by unfold sHs; omega)] at c; omega
      | succ nm ihm =>
        intro k i l3 y ei h3 fy na hR hm
        refine kg_X3_canGoOn_33 (d := d + n + 2) hq hh _ _ _ _ ⟨fun c => fin k y (by rw [t_le, fy 180 6 (by unfold sHs; omega)] at c; omega) fy hR, fun c => ?_⟩
        rw [t_le, fy 180 6 (by unfold sHs; omega)] at c
        have kl : k < H.1 := by omega
        have ei1 : (i + 1).toInt = ((k + 1 : Nat) : Int) := by rw [t_add (by show _ ≤ _ + (1 : Int); omega) (by show _ + (1 : Int) ≤ _; omega), ei]; rfl
        have el1 : (l1 + 1).toInt = ((D + 1 : Nat) : Int) := by rw [t_add (by show _ ≤ _ + (1 : Int); omega) (by show _ + (1 : Int) ≤ _; omega), e1]; rfl
        have ci : i.toNatClampNeg = k := by rw [t_cl, ei]; rfl
        have go : ∀ w, fm (sHs D) x w → (goH s H m (n + 1) P st ↔ rsH s H m n P st (k + 1)) → KT G q (d + n + 2 + 2) zk_X3_canGoOn 33 [(0, vr 180), (1, vi l1), (2, vi l2), (3, vi l3), (4, vi (i + 1))] [] w (ri F) := fun w fw hR' => ihm (k + 1) _ _ w ei1 h3 fw na hR' (by omega)
        have no : ¬ cnH s H m P st k → (goH s H m (n + 1) P st ↔ rsH s H m n P st (k + 1)) := fun nc => hR.trans (rs_no nc)
        have v4 : vp_in i 12 := by rw [vp_in_iff]; omega
        have v1 : vp_in l1 13 := by rw [vp_in_iff]; omega
        have v2 : vp_in (l1 + 1) 13 := by rw [vp_in_iff]; omega
        have n1 : l1.toNatClampNeg = D := by rw [t_cl, e1]; rfl
        have n2 : (l1 + 1).toNatClampNeg = D + 1 := by rw [t_cl, el1]; rfl
        obtain ⟨q1, q2, q3, q4, q5, q6⟩ := hx.1.2.2 k kl
        have lb := mb_bit h3 ei (by omega)
        have eb : ((x.1 186 k &&& (l2 ^^^ (-1))) = 0 ↔ ∀ o, o < H.1 → erB H k o = true → P o = true) := by
          rw [mb_sub q6 hp]
          constructor
          · intro z o ho he
            exact z o (by omega) (by rw [decide_eq_true ho, he]; rfl)
          · intro z o ho ha
            rw [Bool.and_eq_true, decide_eq_true_iff] at ha
            exact z o ha.1 ha.2
        rw [ci, fy 186 k (by unfold sHs; omega)]
        refine ⟨fun z => go y fy (no (fun cn => ?_)), fun nz => ⟨v4, fun er0 => ⟨v1, fun u6 e6 => ⟨v2, fun u8 e8 => ?_⟩⟩, fun ner => go y fy (no (fun cn => ner (eb.mpr cn.2.2.1)))⟩⟩
        · have := lb.mp z
          rw [decide_eq_true kl, decide_eq_true cn.1, cn.2.1] at this
          exact nomatch this
        have hlb : (decide (k < H.1) && decide ((H.2.2.1 k).2.2.1 < m) && !P k) = true := by
          cases hb9 : (decide (k < H.1) && decide ((H.2.2.1 k).2.2.1 < m) && !P k) with
          | true => rfl
          | false => exact absurd (lb.mpr hb9) nz
        rw [Bool.and_eq_true, Bool.and_eq_true, decide_eq_true_iff, decide_eq_true_iff] at hlb
        have bm := hlb.1.2
        have pk : P k = false := by
          cases hp9 : P k with
          | false => rfl
          | true => rw [hp9] at hlb; exact nomatch hlb.2
        have er := eb.mp er0
        rw [n1, hh_r (by omega)] at e6
        rw [n2, hh_r (by omega)] at e8
        have hD1 : D + 1 < 13 := by omega
        refine ⟨_, e6, hh_k (by omega), hh_m hq hh (by omega), _, e8, hh_k hD1, hh_m hq hh hD1, by decide, by decide, by decide, by decide, by decide, fun z ez => ⟨v2, fun u22 e22 => ⟨v4, v4, ?_⟩⟩⟩
        rw [n2, hh_r (by omega)] at e22
        refine ⟨_, e22, hh_k hD1, hh_m hq hh hD1, ?_⟩
        have zg : ∀ c j, ¬ c = 300 + (D + 1) → z.1 c j = y.1 c j := fun c j hc => by rw [ez, scp_get, if_neg (fun q => hc q.1)]
        have fz : fm (sHs D) x z := fun c j hs => by rw [zg c j (by unfold sHs at hs; omega)]; exact fy c j hs
        have zh : HS z s st (300 + (D + 1)) := HS_f (x := x) (a := 300 + D) (fun k' hk' => by
          rw [ez, scp_get, if_pos ⟨rfl, by show 0 ≤ k'; omega, by show k' < 0 + 14; omega⟩]
          show y.1 (300 + D) (0 + (k' - 0)) = _
          rw [show 0 + (k' - 0) = k' by omega]
          exact fy _ _ (by unfold sHs; omega)) (HBd_up hb (by omega)) hs
        rw [fz 181 k (by unfold sHs; omega), fz 182 k (by unfold sHs; omega), q1, q2]
        refine kt_serve (d := d + n + 1) (D := D) hq hh (hh_k hD1) (hh_m hq hh hD1) _ _ s4 (by rw [fz 180 10 (by unfold sHs; omega)]; exact hx.2.2.2) zh hb (by omega) (fun r w fw er9 hw => ?_)
        have fw2 : fm (sHs D) x w := fm_tr fz (fm_w fw (fun c k q => by unfold sHs; omega))
        have yes : (ovB H m k = true → (svH s st (H.2.2.1 k).1 (H.2.2.1 k).2.1).1 = anS H k) → KT G q (d + n + 2 + 2) zk_X3_canGoOn 148 [(0, vr 180), (1, vi l1), (2, vi l2), (3, vi l3), (4, vi i), (5, vi (1 <<< (i &&& 31 : Int32)))] [vi 1] w (ri F) := by
          intro fit
          have cn : cnH s H m P st k := ⟨bm, pk, er, fit⟩
          refine kg_X3_canGoOn_148 (d := d + n + 2) hq hh _ _ _ _ _ _ ⟨fun z => absurd z n01, fun _ => ih (D + 1) w _ _ _ (upf P k true) (svH s st (H.2.2.1 k).1 (H.2.2.1 k).2.1).2 (by omega) el1 (HKm_f (fun a k' a1 a2 => fw2 a k' (by unfold sHs; omega)) hx) (mb_or hp ei (by omega)) hw (sv_le hb) (fun r2 v hr2 fv g2 => ?_)⟩
          have fv2 : fm (sHs D) x v := fm_tr fw2 (fm_w fv (fun c k q => by unfold sHs at q ⊢; omega))
          have ry := rs_yes (k := n) kl cn
          refine ⟨fun z => go v fv2 (hR.trans (ry.trans ⟨fun o => o.resolve_left (fun g => g2.mpr g z), Or.inr⟩)), fun nz2 => ri_i (h _ _ gbool_1 fv2 ⟨fun _ => hR.mpr (ry.mpr (Or.inl (g2.mp nz2))), fun _ => n01⟩)⟩
        have ob := mb_bit hx.2.2.1 ei (show k < 12 by omega)
        rw [decide_eq_true kl, Bool.true_and] at ob
        rw [fw2 180 12 (by unfold sHs; omega), fw2 183 k (by unfold sHs; omega), er9]
        refine ⟨fun z => yes (fun o => by rw [ob.mp z] at o; exact nomatch o), fun nz3 => ⟨v4, fun ne => ?_, fun ee => yes (fun o => ?_)⟩⟩
        · refine kg_X3_canGoOn_148 (d := d + n + 2) hq hh _ _ _ _ _ _ ⟨fun _ => go w fw2 (no (fun cn => ne ?_)), fun z => absurd rfl z⟩
          have ov : ovB H m k = true := by
            cases hb9 : ovB H m k with
            | true => rfl
            | false => exact absurd (ob.mpr hb9) nz3
          rw [cn.2.2.2 ov]
          unfold ovB at ov
          unfold anS
          cases hp9 : (H.2.2.1 k).2.2.2 with
          | none => rw [hp9] at ov; exact nomatch ov
          | some p => exact (q4 p hp9).2.symm
        · rw [ee]
          unfold ovB at o
          unfold anS
          cases hp9 : (H.2.2.1 k).2.2.2 with
          | none => rw [hp9] at o; exact nomatch o
          | some p => exact (q4 p hp9).2
    refine kg_X3_canGoOn_0 (d := d + n + 2) hq hh _ _ ⟨fun na => ⟨fun c => loop H.1 0 _ _ x rfl (mb_dif hx.2.1 hp) (fm_rf _ _) (fun z => na (al.mpr z)) (rs_0.trans ⟨fun o => o.resolve_left (fun z => na (al.mpr z)), Or.inr⟩) (by omega), fun c => absurd (t_lt.mpr (by rw [e1, k12]; omega)) c⟩, fun a0 => ri_i (h _ _ gbool_1 (fm_rf _ _) ⟨fun _ => Or.inl (al.mp a0), fun _ => n01⟩)⟩
theorem kt_isLinear (hq : kV q) (hh : q.hi = true) {s m : Nat} (s4 : s < 4) (l1 : Int32) (e1 : l1.toInt = (m : Nat)) (m4 : m ≤ 400) (hr : HKr x H) (hw : hiW H) (es : x.1 180 10 = Int32.ofNat s) (h : ∀ r y, gbool r → fm sHl x y → y.1 180 10 = x.1 180 10 → (¬ r = 0 ↔ liH s H m) → F r y) : KT G q (d + 16) zk_X3_isLinear 0 [(0, vr 180), (1, vi l1)] [] x (ri F) := by
  have k0 : (0 : Int32).toInt = 0 := rfl
  have kM : (1000000 : Int32).toInt = 1000000 := rfl
  obtain ⟨n6, l12, hc⟩ := hr
  have sM : ∀ c k, (c = 180 ∧ 11 ≤ k ∧ k ≤ 12) → sHl c k := fun c k q => by unfold sHl; omega
  have loop : ∀ (n k : Nat) (i : Int32) (y : gd), i.toInt = k → k ≤ H.1 → fm (fun c k => c = 180 ∧ 11 ≤ k ∧ k ≤ 12) x y → mb (y.1 180 11) (fun c => decide (c < k) && decide ((H.2.2.1 c).2.2.1 < m)) → mb (y.1 180 12) (fun c => decide (c < k) && ovB H m c) → H.1 - k ≤ n → KT G q (d + 16) zk_X3_isLinear 12 [(0, vr 180), (1, vi l1), (2, vi i)] [] y (ri F) := by
    intro n
    have out : ∀ (k : Nat) (y : gd), H.1 ≤ k → k ≤ H.1 → fm (fun c k => c = 180 ∧ 11 ≤ k ∧ k ≤ 12) x y → mb (y.1 180 11) (fun c => decide (c < k) && decide ((H.2.2.1 c).2.2.1 < m)) → mb (y.1 180 12) (fun c => decide (c < k) && ovB H m c) → vp_in 0 13 ∧ (∀ u3, u3 = (kf q).1 190 (0 : Int32).toNatClampNeg → ∃ c4, u3 = some c4 ∧ kK c4 = .inr (.int, 14) ∧ c4 ∈ (kf q).2.1 ∧ (∀ x7, x7 = sfl y c4 0 14 → KT G q (d + 15) zk_X3_canGoOn 0 [(0, vr 180), (1, vi 0), (2, vi 0)] [] x7 (ri (fun r9 x8 => gbool r9 ∧ ri F (some (vi r9)) x8)))) := by
      intro k y hk1 hk2 fy m1 m2
      have ek : k = H.1 := by omega
      rw [ek] at m1 m2
      refine ⟨vin0 (by omega), fun u3 e3 => ?_⟩
      rw [tn0, hh_r (by omega)] at e3
      refine ⟨_, e3, hh_k (by omega), hh_m hq hh (by omega), fun z ez => ?_⟩
      have fz : fm sHl x z := by rw [ez]; exact fm_fl (fm_w fy sM) (fun k _ => by unfold sHl; omega)
      have zz : ∀ k, k < 14 → z.1 (300 + 0) k = 0 := fun k hk => by rw [ez, sfl_get, if_pos ⟨rfl, hk⟩]
      have zy : ∀ a k, a < 300 → z.1 a k = y.1 a k := fun a k ha => by rw [ez, sfl_get, if_neg (by omega)]
      refine kt_can (d := d) (H := H) (s := s) (m := m) hq hh s4 12 0 z _ _ _ (fun _ => false) hs0 (by omega) rfl ⟨HKr_f (fun a k ha => by rw [zy a k (by omega)]; exact fy a k (by omega)) ⟨n6, l12, hc⟩, by rw [zy 180 11 (by omega)]; exact m1, by rw [zy 180 12 (by omega)]; exact m2, by rw [zy 180 10 (by omega), fy 180 10 (by omega)]; exact es⟩ mb_0 ⟨fun _ => zz 0 (by omega), fun _ => ⟨by rw [zz 0 (by omega)]; rfl, fun i hi => absurd hi (Nat.not_lt_zero _)⟩, fun _ => ⟨by rw [zz 0 (by omega)]; rfl, fun v => ⟨fun z9 => absurd (show false = true from z9) (by decide), fun ⟨i, i1, _⟩ => absurd i1 (Nat.not_lt_zero _)⟩, fun i j hi => absurd hi (Nat.not_lt_zero _)⟩⟩ HBd_0 (fun r w hr fw g => ⟨hr, ri_i (h _ _ hr (fm_tr fz (fm_w fw (fun c k q => by unfold sHs at q; unfold sHl; omega))) ?_ g)⟩)
      rw [fw 180 10 (by unfold sHs; omega), zy 180 10 (by omega), fy 180 10 (by omega)]
    induction n with
    | zero =>
      intro k i y ei hk fy m1 m2 hn
      refine kg_X3_isLinear_12 (d := d + 15) hq hh _ _ ⟨fun _ => out k y (by omega) hk fy m1 m2, fun c => ?_⟩
      rw [t_le, fy 180 6 (by omega)] at c; omega
    | succ n ih =>
      intro k i y ei hk fy m1 m2 hn
      refine kg_X3_isLinear_12 (d := d + 15) hq hh _ _ ⟨fun c => out k y (by rw [t_le, fy 180 6 (by omega)] at c; omega) hk fy m1 m2, fun c => ?_⟩
      rw [t_le, fy 180 6 (by omega)] at c
      have kl : k < H.1 := by omega
      have v4 : vp_in i 12 := by rw [vp_in_iff]; omega
      have ei1 : (i + 1).toInt = ((k + 1 : Nat) : Int) := by rw [t_add (by show _ ≤ _ + (1 : Int); omega) (by show _ + (1 : Int) ≤ _; omega), ei]; rfl
      have ci : i.toNatClampNeg = k := by rw [t_cl, ei]; rfl
      obtain ⟨-, -, q3, q4, q5, -⟩ := hc k kl
      have up : ∀ {u : Int32} {A : Nat → Bool}, A k = false → mb u (fun c => decide (c < k) && A c) → mb u (fun c => decide (c < k + 1) && A c) := fun ha hm => mb_cg hm (fun o _ => by
        by_cases co : o = k
        · rw [co, ha, Bool.and_false, Bool.and_false]
        · rw [show decide (o < k) = decide (o < k + 1) from decide_eq_decide.mpr (by omega)])
      have up1 : ∀ {u : Int32} {A : Nat → Bool}, A k = true → mb u (fun c => decide (c < k) && A c) → mb (u ||| (1 <<< (i &&& 31 : Int32))) (fun c => decide (c < k + 1) && A c) := fun ha hm => mb_cg (mb_or hm ei (by omega)) (fun o _ => by
        by_cases co : o = k
        · rw [co, upf_eq, ha, decide_eq_true (Nat.lt_succ_self _)]; rfl
        · rw [upf_ne co, show decide (o < k) = decide (o < k + 1) from decide_eq_decide.mpr (by omega)])
      have g42 : ∀ w, fm (fun c k => c = 180 ∧ 11 ≤ k ∧ k ≤ 12) x w → mb (w.1 180 11) (fun c => decide (c < k + 1) && decide ((H.2.2.1 c).2.2.1 < m)) → mb (w.1 180 12) (fun c => decide (c < k) && ovB H m c) → KT G q (d + 16) zk_X3_isLinear 42 [(0, vr 180), (1, vi l1), (2, vi i)] [] w (ri F) := by
        intro w fw w1 w2
        refine kg_X3_isLinear_42 (d := d + 15) hq hh _ _ ?_
        rw [ci, fw 185 k (by omega)]
        refine ⟨v4, fun le => ih (k + 1) _ w ei1 kl fw w1 (up ?_ w2) (by omega), fun nle z ez => ih (k + 1) _ z ei1 kl (by rw [ez]; exact fm_si fw (by omega)) ?_ ?_ (by omega)⟩
        · unfold ovB
          cases hp : (H.2.2.1 k).2.2.2 with
          | none => rfl
          | some p =>
            rw [t_le, e1, (q4 p hp).1] at le
            exact decide_eq_false (show ¬ p.1 < m by omega)
        · rw [ez, si_get, if_neg (by omega)]; exact w1
        · rw [ez, si_get, if_pos ⟨rfl, rfl⟩]
          refine up1 ?_ w2
          unfold ovB
          cases hp : (H.2.2.1 k).2.2.2 with
          | none =>
            rw [t_le, e1, q5 hp, kM] at nle
            omega
          | some p =>
            rw [t_le, e1, (q4 p hp).1] at nle
            exact decide_eq_true (show p.1 < m by omega)
      rw [ci, fy 184 k (by omega)]
      refine ⟨v4, fun le => g42 y fy (up ?_ m1) m2, fun nle z ez => g42 z (by rw [ez]; exact fm_si fy (by omega)) ?_ ?_⟩
      · rw [t_le, e1, q3] at le
        exact decide_eq_false (by omega)
      · rw [ez, si_get, if_pos ⟨rfl, rfl⟩]
        refine up1 ?_ m1
        rw [t_le, e1, q3] at nle
        exact decide_eq_true (by omega)
      · rw [ez, si_get, if_neg (by omega)]; exact m2
  refine kg_X3_isLinear_0 (d := d + 15) hq hh _ (fun x1 e1' x2 e2 => loop H.1 0 _ x2 rfl (Nat.zero_le _) (by rw [e2, e1']; exact fm_si (fm_si (fm_rf _ _) (by omega)) (by omega)) ?_ ?_ (by omega))
  · have : x2.1 180 11 = 0 := by rw [e2, e1']; (simp only [si_get, sfl_get, Nat.reduceEqDiff, eq_self, and_false, false_and, and_true, true_and, if_true, if_false, reduceIte, reduceCtorEq])
    rw [this]; exact mb_cg mb_0 (fun o _ => by rw [decide_eq_false (Nat.not_lt_zero _), Bool.false_and])
  · have : x2.1 180 12 = 0 := by rw [e2]; (simp only [si_get, sfl_get, Nat.reduceEqDiff, eq_self, and_false, false_and, and_true, true_and, if_true, if_false, reduceIte, reduceCtorEq])
    rw [this]; exact mb_cg mb_0 (fun o _ => by rw [decide_eq_false (Nat.not_lt_zero _), Bool.false_and])
theorem kt_fewest (hq : kV q) (hh : q.hi = true) {s : Nat} (s4 : s < 4) (l1 : Int32) (el : l1 = Int32.ofNat s) (hr : HKr x H) (h7 : (x.1 180 7).toInt = (H.2.1 : Nat)) (h4 : H.2.1 ≤ 400) (hw : hiW H) (h : ∀ (r : Int32) (y : gd), fm sHl x y → ((r = -1 ∧ liH s H H.2.1) ∨ ∃ n, fwH s H n ∧ r.toInt = (n : Nat)) → F r y) : KT G q (d + 17) zk_X3_fewestThatFail 0 [(0, vr 180), (1, vi l1)] [] x (ri F) := by
  have kM : (1000000 : Int32).toInt = 1000000 := rfl
  have k1 : (1 : Int32).toInt = 1 := rfl
  have k2 : (2 : Int32).toInt = 2 := rfl
  have cy : ∀ y, fm sHl x y → HKr y H := fun y fy => HKr_f (fun a k ha => fy a k (by unfold sHl; omega)) hr
  have loop : ∀ (n k G9 B9 : Nat) (l2 l3 i : Int32) (y : gd), i.toInt = k → l2.toInt = (G9 : Nat) → l3.toInt = (B9 : Nat) → G9 < B9 → B9 ≤ H.2.1 → liH s H G9 → ¬ liH s H B9 → B9 - G9 ≤ n + 1 → k + n ≤ 1000 → fm sHl x y → y.1 180 10 = Int32.ofNat s → KT G q (d + 17) zk_X3_fewestThatFail 28 [(0, vr 180), (2, vi l2), (3, vi l3), (4, vi i)] [] y (ri F) := by
    intro n
    have fin : ∀ (G9 B9 : Nat) (l3 : Int32) (y : gd), l3.toInt = (B9 : Nat) → B9 = G9 + 1 → B9 ≤ H.2.1 → liH s H G9 → ¬ liH s H B9 → fm sHl x y → ri F (some (vi l3)) y := fun G9 B9 l3 y e3 eB bl hg hb fy => ri_i (h _ _ fy (Or.inr ⟨B9, ⟨by omega, bl, hb, fun m hm => go_mono (show m ≤ G9 by omega) hg⟩, e3⟩))
    induction n with
    | zero =>
      intro k G9 B9 l2 l3 i y ei e2 e3 gb bl hg hb hn hk fy ey
      refine kg_X3_fewestThatFail_28 (d := d + 16) hq hh _ _ _ ⟨fun _ => fin G9 B9 l3 y e3 (by omega) bl hg hb fy, fun c => ⟨fun _ => fin G9 B9 l3 y e3 (by omega) bl hg hb fy, fun c2 => absurd (t_le.mpr ?_) c2⟩⟩
      rw [t_sub (by omega) (by omega), k1]; omega
    | succ n ih =>
      intro k G9 B9 l2 l3 i y ei e2 e3 gb bl hg hb hn hk fy ey
      have d1 : (l3 - l2).toInt = (B9 : Int) - G9 := by rw [t_sub (by omega) (by omega)]; omega
      refine kg_X3_fewestThatFail_28 (d := d + 16) hq hh _ _ _ ⟨fun c => ?_, fun c => ⟨fun c2 => fin G9 B9 l3 y e3 (by rw [t_le, d1, k1] at c2; omega) bl hg hb fy, fun c2 => ⟨by decide, ?_⟩⟩⟩
      · rw [t_le, kM] at c; omega
      rw [t_le, d1, k1] at c2
      have ei1 : (i + 1).toInt = ((k + 1 : Nat) : Int) := by rw [t_add (by show _ ≤ _ + (1 : Int); omega) (by show _ + (1 : Int) ≤ _; omega), ei]; rfl
      have s1 : (l2 + l3).toInt = (G9 : Int) + B9 := by rw [t_add (by omega) (by omega)]; omega
      have dv : ((l2 + l3) / 2).toInt = (((G9 + B9) / 2 : Nat) : Int) := by rw [t_div (by omega) (by rw [k2]; omega), s1, k2]; omega
      refine kt_isLinear hq hh s4 _ dv (by omega) (cy y fy) hw ey (fun r z hr9 fz ez g => ⟨fun r0 => ih (k + 1) G9 ((G9 + B9) / 2) _ _ _ z ei1 e2 dv (by omega) (by omega) hg (fun w => g.mpr w r0) (by omega) (by omega) (fm_tr fy fz) (by rw [ez]; exact ey), fun nr => ih (k + 1) ((G9 + B9) / 2) B9 _ _ _ z ei1 dv e3 (by omega) bl (g.mp nr) hb (by omega) (by omega) (fm_tr fy fz) (by rw [ez]; exact ey)⟩)
  refine kg_X3_fewestThatFail_0 (d := d + 16) hq hh _ (fun x1 e1 => ?_)
  have f1 : fm sHl x x1 := by rw [e1]; exact fm_si (fm_rf _ _) (by unfold sHl; omega)
  have g7 : x1.1 180 7 = x.1 180 7 := by rw [e1, si_get, if_neg (by omega)]
  have g10 : x1.1 180 10 = Int32.ofNat s := by rw [e1, si_get, if_pos ⟨rfl, rfl⟩]; exact el
  refine kt_isLinear hq hh s4 (m := H.2.1) _ (by rw [g7]; exact h7) h4 (cy x1 f1) hw g10 (fun r z hr9 fz ez g => ⟨fun r0 => ?_, fun nr => ri_i (h _ _ (fm_tr f1 fz) (Or.inl ⟨rfl, g.mp nr⟩))⟩)
  have z7 : (z.1 180 7).toInt = (H.2.1 : Nat) := by rw [fz 180 7 (by unfold sHl; omega), g7]; exact h7
  have nl : ¬ liH s H H.2.1 := fun w => g.mpr w r0
  have h0 : 0 < H.2.1 := by
    rcases Nat.eq_zero_or_pos H.2.1 with z9 | z9
    · rw [z9] at nl; exact absurd li_0 nl
    · exact z9
  exact loop 500 0 0 H.2.1 0 _ 0 z rfl rfl z7 h0 (Nat.le_refl _) li_0 nl (by omega) (by omega) (fm_tr f1 fz) (by rw [ez]; exact g10)
end KHT
