/-! the model's steps, as the row of events says them -/
section MSR
variable (sN : Nat → Nat → Bool) (T : gTd) (V K : Nat → Int32)
def mWh (op : Nat) : Int32 := if op < 16 then 6 else if op = 16 then 0 else if op = 17 then 2 else if op = 18 then 1 else if op = 19 then 4 else if op = 20 then 3 else 5
def mOf (st : gSt) : Int32 := match st.2.2.2.2.1 with
  | none => -1
  | some t => if st.1 ≤ 4 then Int32.ofNat (nmT sN 0 t T) else if st.1 ≤ 8 then Int32.ofNat (nmT sN 1 t T) else if st.1 ≤ 10 then Int32.ofNat (nmT sN 2 t T) else V t
def mSz (st : gSt) : Int32 := if st.2.2.2.2.2.1 = true then (if st.1 ≤ 4 then Int32.ofNat (rsT sN T (st.2.2.2.2.1.getD 0)) else 1) else 0
def mSu (x : gd) (ks : gK) (v : Int32) : Option gU → Prop
  | none => v = -1
  | some N => SUm x v (nPs sN T V K ks N)
/-- the slot of a local by its place: one of those known, or the next -/
def slP (kn : gK × Nat) (p : Nat) : Nat := if p = kn.1.length then kn.2 else slt kn.1 p
def mTo (st : gSt) : Int32 := match st.2.2.2.1 with
  | none => -1
  | some n => if st.1 = 17 ∨ st.1 = 20 then Int32.ofNat n else Int32.ofNat (slP st.2.2.1 n)
def mS (x : gd) (j : Nat) (st : gSt) : Prop := x.1 54 j = mWh st.1 ∧ (st.1 < 16 → x.1 55 j = Int32.ofNat st.1) ∧ x.1 56 j = mOf sN T V st ∧ x.1 57 j = mSz sN T st ∧ mSu sN T V K x st.2.2.1.1 (x.1 58 j) st.2.2.2.2.2.2.1 ∧ mSu sN T V K x st.2.2.1.1 (x.1 59 j) st.2.2.2.2.2.2.2.1 ∧ mSu sN T V K x st.2.2.1.1 (x.1 60 j) st.2.2.2.2.2.2.2.2 ∧ x.1 61 j = mTo st ∧ x.1 62 j = kms st.2.2.1.1
def SR (x : gd) (S : List gSt) : Prop := (x.1 0 52).toInt = S.length ∧ ∀ j st, S[j]? = some st → mS sN T V K x j st
end MSR
section MSL
variable {sN : Nat → Nat → Bool} {T : gTd} {V K : Nat → Int32} {x y z : gd} {S : List gSt} {j n w : Nat} {st : gSt} {E : gV} {M N : gU}
theorem mSu_keep {ks : gK} {v : Int32} {o : Option gU} (a : LF x y n w) (h : mSu sN T V K x ks v o) : mSu sN T V K y ks v o := by
  cases o with
  | none => exact h
  | some N => exact SUm_keep a.2.2.2.2.1 a.2.2.2.2.2.2.1 h
theorem mS_keep (a : LF x y n w) (hj : (j : Int) < (x.1 0 52).toInt) (h : mS sN T V K x j st) : mS sN T V K y j st := by
  have e := fun c h1 h2 => a.2.2.2.2.2.2.2 c h1 h2 j hj
  obtain ⟨h1, h2, h3, h4, h5, h6, h7, h8, h9⟩ := h
  unfold mS
  rw [e 54 (by decide) (by decide), e 55 (by decide) (by decide), e 56 (by decide) (by decide), e 57 (by decide) (by decide), e 58 (by decide) (by decide), e 59 (by decide) (by decide), e 60 (by decide) (by decide), e 61 (by decide) (by decide), e 62 (by decide) (by decide)]
  exact ⟨h1, h2, h3, h4, mSu_keep a h5, mSu_keep a h6, mSu_keep a h7, h8, h9⟩
theorem SR_keep (a : LF x y 0 w) (h : SR sN T V K x S) : SR sN T V K y S := by
  have a3 := a.2.2.1
  have a4 := a.2.2.2.1
  refine ⟨by have := h.1; omega, fun j st hj => mS_keep a ?_ (h.2 j st hj)⟩
  have := gt_lt hj
  have := h.1
  omega
theorem SR_snoc {wh so of sz at' e f to : Int32} (h : SR sN T V K x S) (a : LF x y 0 w) (hp : stp y z wh so of sz at' e f to) (hn : (x.1 0 52).toInt ≤ 1499) (hm : z.1 62 (y.1 0 52).toNatClampNeg = kms st.2.2.1.1) (h1 : wh = mWh st.1) (h2 : st.1 < 16 → so = Int32.ofNat st.1) (h3 : of = mOf sN T V st) (h4 : sz = mSz sN T st) (h5 : mSu sN T V K y st.2.2.1.1 at' st.2.2.2.2.2.2.1) (h6 : mSu sN T V K y st.2.2.1.1 e st.2.2.2.2.2.2.2.1) (h7 : mSu sN T V K y st.2.2.1.1 f st.2.2.2.2.2.2.2.2) (h8 : to = mTo st) : SR sN T V K z (S ++ [st]) := by
  have hy := SR_keep a h
  have ex : (y.1 0 52).toInt = (x.1 0 52).toInt := by rw [hy.1, h.1]
  have l0 := h.1
  have b := LF_stp hp a.2.1 (by omega) (by omega)
  have u := stp_up hp (by omega) (by omega)
  refine ⟨by rw [u, hy.1, List.length_append]; rfl, sn_get (fun j r hr => mS_keep b ?_ (hy.2 j r hr)) ?_⟩
  · have := gt_lt hr
    have := hy.1
    omega
  · have en : (y.1 0 52).toNatClampNeg = S.length := by rw [t_cl, hy.1]; omega
    obtain ⟨g1, g2, g3, v54, v55, v56, v57, v58, v59, v60, v61⟩ := hp
    rw [en] at v54 v55 v56 v57 v58 v59 v60 v61 hm
    unfold mS
    rw [v54, v55, v56, v57, v58, v59, v60, v61, hm]
    exact ⟨h1, h2, h3, h4, mSu_keep b h5, mSu_keep b h6, mSu_keep b h7, h8, rfl⟩
/-- a step's target is set -/
theorem SR_to {v : Int32} {i : Nat} (h : SR sN T V K y S) (hz : z = si y 61 i v) (hi : i < S.length) (hs : ∀ st, S[i]? = some st → st.1 = 17 ∨ st.1 = 20) (hv : v.toInt = n) : SR sN T V K z (cTo S i n) := by
  have m := md_a y 61 i v (by decide)
  rw [← hz] at m
  refine ⟨by rw [cTo_len, m.1 52 (by decide)]; exact h.1, fun j st hj => ?_⟩
  rw [cTo_at] at hj
  obtain ⟨s0, h0, e⟩ := Option.map_eq_some_iff.mp hj
  have g := h.2 j s0 h0
  have e51 : z.1 51 = y.1 51 := m.2.1 51 (by decide) (by decide)
  have e52 : z.1 52 = y.1 52 := m.2.1 52 (by decide) (by decide)
  have e49 : z.1 0 49 = y.1 0 49 := m.1 49 (by decide)
  have ku : ∀ {ks : gK} {v : Int32} {o : Option gU}, mSu sN T V K y ks v o → mSu sN T V K z ks v o := fun {ks v o} q => by
    cases o with
    | none => exact q
    | some N => exact SUm_keep (by rw [e49]; omega) (fun j _ => by rw [e51, e52]; exact ⟨rfl, rfl⟩) q
  have ec := fun (c : Nat) (hc : c ≠ 0) (h61 : c ∉ [61]) => congrFun (m.2.1 c hc h61) j
  obtain ⟨g1, g2, g3, g4, g5, g6, g7, g8, g9⟩ := g
  unfold mS
  rw [ec 54 (by decide) (by decide), ec 55 (by decide) (by decide), ec 56 (by decide) (by decide), ec 57 (by decide) (by decide), ec 58 (by decide) (by decide), ec 59 (by decide) (by decide), ec 60 (by decide) (by decide), ec 62 (by decide) (by decide)]
  by_cases c : j = i
  · rw [if_pos c] at e
    subst c
    rw [← e]
    refine ⟨g1, g2, g3, g4, ku g5, ku g6, ku g7, ?_, g9⟩
    rw [hz, si_get, if_pos ⟨rfl, rfl⟩]
    show v = if s0.1 = 17 ∨ s0.1 = 20 then Int32.ofNat n else _
    rw [if_pos (hs s0 h0)]
    exact i32_of hv
  · rw [if_neg c] at e
    subst e
    refine ⟨g1, g2, g3, g4, ku g5, ku g6, ku g7, ?_, g9⟩
    rw [hz, si_get, if_neg (fun q => c q.2)]
    exact g8
theorem SUm_md {L A : List Nat} {r : Int32} {P : List (Int32 × Int32)} (h : md L A y z) (h49 : 49 ∉ L) (h51 : 51 ∉ A) (h52 : 52 ∉ A) (q : SUm y r P) : SUm z r P := by
  unfold SUm
  rw [h.1 49 h49, h.2.1 51 (by decide) h51, h.2.1 52 (by decide) h52]
  exact q
theorem SR_md {L A : List Nat} (h : md L A y z) (hL : [49, 52].all (fun k => !L.elem k) = true) (hA : [51, 52, 54, 55, 56, 57, 58, 59, 60, 61, 62].all (fun k => !A.elem k) = true) (q : SR sN T V K y S) : SR sN T V K z S := by
  have f := fun k hk => h.1 k (all_no' hL k hk)
  have g := fun k (h0 : k ≠ 0) hk => h.2.1 k h0 (all_no' hA k hk)
  have ku : ∀ {ks : gK} {v : Int32} {o : Option gU}, mSu sN T V K y ks v o → mSu sN T V K z ks v o := fun {ks v o} q => by
    cases o with
    | none => exact q
    | some N => exact SUm_md h (all_no' hL 49 (by decide)) (all_no' hA 51 (by decide)) (all_no' hA 52 (by decide)) q
  refine ⟨by rw [f 52 (by decide)]; exact q.1, fun j st hj => ?_⟩
  obtain ⟨g1, g2, g3, g4, g5, g6, g7, g8, g9⟩ := q.2 j st hj
  unfold mS
  rw [g 54 (by decide) (by decide), g 55 (by decide) (by decide), g 56 (by decide) (by decide), g 57 (by decide) (by decide), g 58 (by decide) (by decide), g 59 (by decide) (by decide), g 60 (by decide) (by decide), g 61 (by decide) (by decide), g 62 (by decide) (by decide)]
  exact ⟨g1, g2, g3, g4, ku g5, ku g6, ku g7, g8, g9⟩
theorem nPs_54 {ks : gK} : nPs sN T V K ks (N ++ [(54, 0, 0)]) = nPs sN T V K ks N := by
  rw [nPs_app]
  exact List.append_nil _
/-- steps are added, those before stay -/
def xtS (S S' : List gSt) : Prop := S.length ≤ S'.length ∧ ∀ j, j < S.length → S'[j]? = S[j]?
theorem xtS_rf : xtS S S := ⟨Nat.le_refl _, fun _ _ => rfl⟩
theorem xtS_tr {S2 S3 : List gSt} (a : xtS S S2) (b : xtS S2 S3) : xtS S S3 := ⟨Nat.le_trans a.1 b.1, fun j hj => by rw [b.2 j (Nat.lt_of_lt_of_le hj a.1), a.2 j hj]⟩
theorem xtS_sn : xtS S (S ++ [st]) := ⟨by rw [List.length_append]; omega, fun j hj => List.getElem?_append_left hj⟩
theorem xtS_to {S2 : List gSt} {i : Nat} (a : xtS S S2) (h : S.length ≤ i) : xtS S (cTo S2 i n) := ⟨by rw [cTo_len]; exact a.1, fun j hj => by
  rw [cTo_at, a.2 j hj]
  have c : ¬ j = i := by omega
  simp only [if_neg c]
  exact Option.map_id'⟩
/-- laying statements: what becomes of the steps -/
def CQ (sN : Nat → Nat → Bool) (T : gTd) (V K : Nat → Int32) (x x' : gd) (E : gV) (M : gU) : Prop := ¬ flt sN T V M E → ¬ E.2.1 = [] → ∀ S k w, SR sN T V K x S → ∃ S', cds sN K M (E, S, k, rg0, w) = (exs M E, S', k, rg0, w) ∧ SR sN T V K x' S' ∧ xtS S S'
/-- a block, but for what its end adds -/
def CB (sN : Nat → Nat → Bool) (T : gTd) (V K : Nat → Int32) (x x' : gd) (E : gV) (z : Nat) (M : gU) : Prop := ¬ flt sN T V M E → ∀ S k w, SR sN T V K x S → ∃ S', cds sN K M (E, S, k, rg0, w) = cCl (exs M E, S', k, rg0, w) z ∧ SR sN T V K x' S' ∧ xtS S S'
/-- a right side; slot: where it goes -/
def RQ (sN : Nat → Nat → Bool) (T : gTd) (V K : Nat → Int32) (x x' : gd) (E : gV) (M : gU) (slot : Int32) : Prop := ¬ flt sN T V M E → ¬ E.2.1 = [] → ∀ S k w tg tk p, toL sN E.1 tg = some p → slot.toInt = slP (knw E) p → SR sN T V K x S → ∃ S', cds sN K M (E, S, k, ([], [], 0, false, tg, tk), w) = (E, S', k, rg0, w) ∧ SR sN T V K x' S' ∧ xtS S S'
theorem RQ_mk {wh so of sz at' e f slot : Int32} {op : Nat} {ob : Option Nat} {ro : Bool} {ix es fs : Option gU} (a : LF x y 0 w) (hp : stp y z wh so of sz at' e f slot) (hn : (x.1 0 52).toInt ≤ 1499) (hm : z.1 62 (y.1 0 52).toNatClampNeg = kms E.1) (h1 : wh = mWh op) (h2 : op < 16 → so = Int32.ofNat op) (h17 : ¬ (op = 17 ∨ op = 20)) (hc : ¬ flt sN T V M E → ¬ E.2.1 = [] → (∀ S k w tg tk p, toL sN E.1 tg = some p → cds sN K M (E, S, k, ([], [], 0, false, tg, tk), w) = (E, S ++ [(op, tk, knw E, some p, ob, ro, ix, es, fs)], k, rg0, w)) ∧ of = mOf sN T V (op, 0, knw E, none, ob, ro, ix, es, fs) ∧ sz = mSz sN T (op, 0, knw E, none, ob, ro, ix, es, fs) ∧ mSu sN T V K y E.1 at' ix ∧ mSu sN T V K y E.1 e es ∧ mSu sN T V K y E.1 f fs) : RQ sN T V K x z E M slot := by
  intro nf hE S k w' tg tk p hto hsl hS
  obtain ⟨c1, c2, c3, c4, c5, c6⟩ := hc nf hE
  refine ⟨_, c1 S k w' tg tk p hto, SR_snoc (st := (op, tk, knw E, some p, ob, ro, ix, es, fs)) hS a hp hn hm h1 h2 c2 c3 c4 c5 c6 ?_, xtS_sn⟩
  show slot = if op = 17 ∨ op = 20 then _ else Int32.ofNat (slP (knw E) p)
  rw [if_neg h17]
  exact i32_of hsl
theorem CQ_mk {wh so of sz at' e f to : Int32} (a : LF x y 0 w) (hp : stp y z wh so of sz at' e f to) (hn : (x.1 0 52).toInt ≤ 1499) (hm : z.1 62 (y.1 0 52).toNatClampNeg = kms st.2.2.1.1) (hM : exs M E = E) (hc : ¬ flt sN T V M E → ¬ E.2.1 = [] → (∀ S k w, cds sN K M (E, S, k, rg0, w) = (E, S ++ [st], k, rg0, w)) ∧ wh = mWh st.1 ∧ (st.1 < 16 → so = Int32.ofNat st.1) ∧ of = mOf sN T V st ∧ sz = mSz sN T st ∧ mSu sN T V K y st.2.2.1.1 at' st.2.2.2.2.2.2.1 ∧ mSu sN T V K y st.2.2.1.1 e st.2.2.2.2.2.2.2.1 ∧ mSu sN T V K y st.2.2.1.1 f st.2.2.2.2.2.2.2.2 ∧ to = mTo st) : CQ sN T V K x z E M := by
  intro nf hE S k w' hS
  obtain ⟨c1, c2, c3, c4, c5, c6, c7, c8, c9⟩ := hc nf hE
  exact ⟨_, by rw [c1, hM], SR_snoc hS a hp hn hm c2 c3 c4 c5 c6 c7 c8 c9, xtS_sn⟩
theorem CQ_tr (a : CQ sN T V K x y E M) (b : CQ sN T V K y z (exs M E) N) (h : (exs M E).2.1 = E.2.1) : CQ sN T V K x z E (M ++ N) := by
  intro nf hE S k w hS
  rw [flt_app] at nf
  obtain ⟨S1, e1, s1, x1⟩ := a (fun q => nf (Or.inl q)) hE S k w hS
  obtain ⟨S2, e2, s2, x2⟩ := b (fun q => nf (Or.inr q)) (by rw [h]; exact hE) S1 k w s1
  exact ⟨S2, by rw [cds_app, e1, e2, exs_app], s2, xtS_tr x1 x2⟩
end MSL
