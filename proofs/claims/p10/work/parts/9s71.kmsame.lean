/-! the class: when two rows are one state; the mix of a row -/
def NBm (M : gMa) : Prop := ∀ t, (M.2.2 t).2.1 ≤ 9
section PNB
variable {C : gCo} {M : gMa} {w t s c i n own : Nat} {e f me : Int32} {wk : Option Nat} {ch : gCh} {h : gTq} {lv : Nat → Int32} {r : gTr}
theorem ow1_9 {st : gNs} (q : ow1 me s st lv = .inl r) : r.2.1 ≤ 9 := by
  unfold ow1 at q
  split at q
  · cases q
    exact (by decide : (0 : Nat) ≤ 9)
  · split at q
    · exact nomatch q
    · split at q
      · cases q
        exact (by decide : (1 : Nat) ≤ 9)
      · split at q
        · cases q
          exact (by decide : (5 : Nat) ≤ 9)
        · exact nomatch q
theorem setP_9 : ∀ {n own s : Nat} {lv : Nat → Int32}, setP C me n own s lv = some r → r.2.1 ≤ 9 := by
  intro n
  induction n with
  | zero => intro own s lv q; exact absurd q (by simp [setP])
  | succ n ih =>
    intro own s lv q
    cases hs : C.1[s]? with
    | none =>
      rw [setP] at q
      simp only [hs] at q
      exact absurd q (by simp)
    | some st =>
      by_cases c1 : st.1 < 16
      · rw [set_act hs c1] at q
        cases q
        exact (by decide : (0 : Nat) ≤ 9)
      · by_cases c2 : st.1 < 20 ∧ 300 ≤ own
        · rw [set_6 hs c1 c2] at q
          cases q
          exact (by decide : (6 : Nat) ≤ 9)
        · cases e1 : ow1 me s st lv with
          | inl r9 =>
            rw [set_l hs c1 c2 e1] at q
            cases q
            exact ow1_9 e1
          | inr z =>
            rw [set_r hs c1 c2 e1] at q
            exact ih q
theorem owR_9 : (owR C me s lv).2.1 ≤ 9 := by
  by_cases q : ∃ r, ∃ n, setP C me n 0 s lv = some r
  · obtain ⟨r, n, q⟩ := q
    rw [owR_is q]
    exact setP_9 q
  · have : owR C me s lv = (0, 0, 0, fun _ => 0) := by
      unfold owR
      rw [dif_neg q]
    rw [this]
    exact Nat.zero_le _
theorem lkM_9 : (lkM C w M t).1 ≤ 9 := by
  have rs : ∀ s c, rsF C w M t s c ≤ 9 := fun s c => by
    unfold rsF
    split
    · decide
    · split
      · decide
      · split
        · decide
        · split
          · decide
          · split <;> decide
  have li : (lkI C M t).1 ≤ 9 := by
    unfold lkI
    split
    · exact Nat.zero_le _
    · split
      · exact (by decide : (1 : Nat) ≤ 9)
      · split
        · exact (by decide : (2 : Nat) ≤ 9)
        · exact Nat.zero_le _
  unfold lkM
  split
  · exact Nat.zero_le _
  · split
    · exact li
    · split
      · exact (by decide : (1 : Nat) ≤ 9)
      · split
        · exact (by decide : (1 : Nat) ≤ 9)
        · exact rs _ _
theorem NBm_up (q : NBm M) (hh : h.2.1 ≤ 9) : NBm (upT M t h) := fun t' => by
  show (upf M.2.2 t h t').2.1 ≤ 9
  by_cases z : t' = t
  · rw [z, upf_eq]; exact hh
  · rw [upf_ne z]; exact q t'
theorem NBm_fs : NBm (fsM C) := fun t => by
  by_cases q : t < C.2.1.length
  · obtain ⟨q9, hq⟩ : ∃ q9, C.2.1[t]? = some q9 := ⟨_, List.getElem?_eq_getElem q⟩
    by_cases c1 : q9.2 = 1
    · rw [fs_idle hq c1]; exact Nat.zero_le _
    · rw [fs_go hq c1]; exact owR_9
  · rw [fs_out (by omega)]; exact Nat.zero_le _
theorem NBm_ef (q : NBm M) : NBm (efM C w M t s c e f wk).1 := by
  by_cases c0 : s = 0
  · rw [c0, ef_0]; exact q
  by_cases c1 : s = 1
  · rw [c1, ef_1]
    by_cases z : w = 0 ∨ suM C c = true
    · rw [if_pos z]; exact q
    · rw [if_neg z]; exact NBm_up q (q t)
  by_cases c2 : s = 2
  · rw [c2, ef_2]; exact q
  by_cases c3 : s = 3
  · rw [c3, ef_3]; exact q
  by_cases c4 : s = 4
  · rw [c4, ef_4]; exact q
  by_cases c5 : s = 5
  · rw [c5, ef_5]; exact q
  by_cases c6 : s = 6
  · rw [c6, ef_6]; exact q
  by_cases c7 : s = 7
  · rw [c7, ef_7]; exact NBm_up (M := upL M c (0, 0)) q (q t)
  by_cases c8 : s = 8
  · rw [c8, ef_8]
    intro t'
    show (wkT C M t c wk t').2.1 ≤ 9
    unfold wkT
    split
    · exact q t'
    · exact q t'
  by_cases c9 : s = 9
  · cases hq : C.2.1[c]? with
    | none =>
      have a : efM C w M t 9 c e f wk = (match C.2.1[c]? with | some q => upT M c (thN C c (M.2.2 c) q.1 (M.2.2 c).2.2.2.2.2.2.2) | none => M, 0) := by unfold efM; rfl
      rw [c9, a, hq]; exact q
    | some q9 => rw [c9, ef_9 hq]; exact NBm_up q owR_9
  by_cases c13 : s = 13
  · rw [c13, ef_13]; exact NBm_up q (q t)
  by_cases c14 : s = 14
  · rw [c14, ef_14]; exact NBm_up q (q t)
  by_cases c15 : s = 15
  · rw [c15, ef_15]; exact NBm_up (M := upL M c (t + 1, (M.2.2 t).2.2.2.2.1)) q (q t)
  · have a : efM C w M t s c e f wk = (M, 0) := by
      unfold efM
      rw [if_neg c0, if_neg c1, if_neg c2, if_neg c3, if_neg c4, if_neg c5, if_neg c6, if_neg c7, if_neg c8, if_neg c9, if_neg c13, if_neg c14, if_neg c15]
    rw [a]; exact q
theorem NBm_do (q : NBm M) : NBm (doM C w M ch) := by
  unfold doM
  cases ch.2.1 with
  | some j =>
    show NBm (laM M ch.1 j)
    unfold laM
    cases (M.2.2 ch.1).2.2.2.2.2.2.1[j]? with
    | none => exact q
    | some z9 => exact NBm_up (M := upC M z9.1 z9.2) q (q ch.1)
  | none =>
    show NBm (acM C w M ch.1 ch.2.2)
    by_cases L0 : (lkM C w M ch.1).1 = 0
    · by_cases c7 : soM C (M.2.2 ch.1) = 7
      · rw [acM_7 L0 c7]; exact NBm_ef q
      · rw [acM_is (E := (efM C w M ch.1 (soM C (M.2.2 ch.1)) (lkM C w M ch.1).2.1.toNatClampNeg (lkM C w M ch.1).2.2.1 (lkM C w M ch.1).2.2.2 ch.2.2).1) (v := (efM C w M ch.1 (soM C (M.2.2 ch.1)) (lkM C w M ch.1).2.1.toNatClampNeg (lkM C w M ch.1).2.2.1 (lkM C w M ch.1).2.2.2 ch.2.2).2) L0 c7 rfl]
        exact NBm_up (NBm_ef q) owR_9
    · rw [acM_F L0]
      exact NBm_up q lkM_9
end PNB
/-- the mix of a row -/
def mxS (a v : Int32) : Int32 := ((a ^^^ v) * 16777619) ^^^ ((((a ^^^ v) * 16777619 : Int32).toUInt32 >>> ((15 : Int32).toUInt32 &&& Int32.toUInt32 31)).toInt32)
def mxF (S : Int32 → Int32 → Int32) (R : Nat → Int32) : Nat → Nat → Int32 → Int32
  | 0, _, a => a
  | n + 1, f, a => mxF S R n (f + 1) (S a (R f))
def mxT (S : Int32 → Int32 → Int32) (R : Nat → Int32) (o7 o8 : Nat) (lt : Nat → Nat) : Nat → Int32 → Int32
  | 0, a => a
  | n + 1, a => mxF S R (lt n) (o7 + n * o8) (mxT S R o7 o8 lt n a)
/-- how many fields of a thread count -/
def usN (x : gd) (o t : Nat) : Nat := (x.1 o 9).toInt.toNat + 2 * (rg x o t 7).toInt.toNat
def mxO (x : gd) (o : Nat) : Int32 := mxT mxS (x.1 (o + 5)) (x.1 o 7).toInt.toNat (x.1 o 8).toInt.toNat (usN x o) (x.1 60 10).toInt.toNat (mxF mxS (x.1 (o + 5)) (x.1 o 7).toInt.toNat 0 0)
/-- rows that are the same where it counts -/
def rwS (x : gd) (o : Nat) (A : Nat → Int32) : Prop := (∀ j : Nat, (j : Int) < (x.1 o 7).toInt → x.1 (o + 5) j = A j) ∧ ∀ t k : Nat, (t : Int) < (x.1 60 10).toInt → k < usN x o t → x.1 (o + 5) (pa x o t k) = A (pa x o t k)
section KSM
variable {G : kG} {q : kP} {d : Nat} {x y z : gd} {o : Nat} {F : Int32 → gd → Prop} {Fv : gd → Prop} {C : gCo} {M M' : gMa} {R A : Nat → Int32} {S : Int32 → Int32 → Int32}
theorem mxF_cg : ∀ {n f : Nat} {a : Int32}, (∀ j, f ≤ j → j < f + n → R j = A j) → mxF S R n f a = mxF S A n f a := by
  intro n
  induction n with
  | zero => intro f a _; rfl
  | succ n ih =>
    intro f a h
    rw [mxF, mxF, h f (Nat.le_refl _) (by omega)]
    exact ih (fun j h1 h2 => h j (by omega) (by omega))
theorem mxT_cg {o7 o8 : Nat} {lt : Nat → Nat} : ∀ {n : Nat} {a : Int32}, (∀ t k, t < n → k < lt t → R (o7 + t * o8 + k) = A (o7 + t * o8 + k)) → mxT S R o7 o8 lt n a = mxT S A o7 o8 lt n a := by
  intro n
  induction n with
  | zero => intro a _; rfl
  | succ n ih =>
    intro a h
    rw [mxT, mxT, ih (fun t k ht hk => h t k (by omega) hk)]
    refine mxF_cg (fun j h1 h2 => ?_)
    have := h n (j - (o7 + n * o8)) (by omega) (by omega)
    rw [show o7 + n * o8 + (j - (o7 + n * o8)) = j by omega] at this
    exact this
theorem kh_mixPart (hq : kV q) (ho : kiM q o) (b f m : Int32) {f' m' : Nat} (ef : f.toInt = f') (em : m.toInt = m') (h2 : f' + m' ≤ 228) (hF : F (mxF mxS (x.1 (o + 5)) m' f' b) x) : KT G q d zk_X5_mixPart 0 [(0, vr o), (1, vi b), (2, vi f), (3, vi m)] [] x (ri F) := by
  have efm : (f + m).toInt = f.toInt + m.toInt := t_add (by omega) (by omega)
  have loop : ∀ (n I : Nat) (a i : Int32), i.toInt = I → I + n = f' + m' → F (mxF mxS (x.1 (o + 5)) n I a) x → KT G q d zk_X5_mixPart 6 [(0, vr o), (2, vi f), (3, vi m), (4, vi a), (5, vi i)] [] x (ri F) := by
    intro n
    induction n with
    | zero =>
      intro I a i ei hn hf
      refine kg_X5_mixPart_6 hq ho _ _ _ _ ⟨fun _ => ri_i hf, fun c => ?_⟩
      exfalso; rw [t_le] at c; omega
    | succ n ih =>
      intro I a i ei hn hf
      refine kg_X5_mixPart_6 hq ho _ _ _ _ ⟨fun c => ?_, fun c => ?_⟩
      · exfalso; rw [t_le] at c; omega
      have e1 : (i + 1).toInt = ((I + 1 : Nat) : Int) := by rw [t_add (by show _ ≤ _ + (1 : Int); omega) (by show _ + (1 : Int) ≤ _; omega), ei]; rfl
      have eN : i.toNatClampNeg = I := by rw [t_cl, ei]; rfl
      refine ⟨by rw [vp_in_iff]; omega, ?_⟩
      rw [eN]
      rw [mxF] at hf
      have hv : mxS a (x.1 (o + 5) I) = ((a ^^^ x.1 (o + 5) I) * 16777619) ^^^ ((((a ^^^ x.1 (o + 5) I) * 16777619 : Int32).toUInt32 >>> ((15 : Int32).toUInt32 &&& Int32.toUInt32 31)).toInt32) := by unfold mxS; rfl
      rw [← hv]
      exact ih (I + 1) _ _ e1 (by omega) hf
  exact kg_X5_mixPart_0 hq ho _ _ _ (loop m' f' _ _ ef rfl hF)
theorem kh_usedOf (hq : kV q) (ho : kiM q o) (h : MM x o) (t : Int32) {T : Nat} (et : t.toInt = T) (hT : (T : Int) < (x.1 60 10).toInt) (hF : ∀ r : Int32, r.toInt = (usN x o T : Nat) → usN x o T ≤ 32 → F r x) : KT G q (d + 1) zk_X5_usedOf 0 [(0, vr o), (1, vi t)] [] x (ri F) := by
  have hT6 := MM_6 h.1 hT
  have l8 := (h.2.2 T hT).1.2.1
  obtain ⟨b1, b2, b3, -⟩ := MG_b h.1 h.2.1
  have k2 : (2 : Int32).toInt = 2 := rfl
  refine kg_X5_usedOf_0 hq ho _ (kp_get hq ho h.1 h.2.1 _ _ et (show (7 : Int32).toInt = ((7 : Nat) : Int) from rfl) hT6 (by omega) (ri_i ?_))
  have e1 : (2 * rg x o T 7).toInt = 2 * (rg x o T 7).toInt := by rw [t_mul (by rw [k2]; omega) (by rw [k2]; omega), k2]
  have e2 : (x.1 o 9 + 2 * rg x o T 7).toInt = (x.1 o 9).toInt + 2 * (rg x o T 7).toInt := by rw [t_add (by omega) (by omega), e1]
  exact hF _ (by unfold usN; omega) (by unfold usN; omega)
theorem th_ix2 (h : MM x o) {t : Int32} {T : Nat} (et : t.toInt = T) (hT : T < 6) : (x.1 o 7 + t * x.1 o 8).toInt = (((x.1 o 7).toInt.toNat + T * (x.1 o 8).toInt.toNat : Nat) : Int) ∧ (x.1 o 7).toInt.toNat + T * (x.1 o 8).toInt.toNat ≤ 196 := by
  obtain ⟨b1, b2, -⟩ := MG_b h.1 h.2.1
  obtain ⟨u0, u1⟩ := th_ix h et hT
  obtain ⟨e1, -⟩ := pa_ix et (show (0 : Int32).toInt = ((0 : Nat) : Int) from rfl) b1 (s := x.1 o 8) (by omega) hT (by omega)
  have z : x.1 o 7 + t * x.1 o 8 + 0 = x.1 o 7 + t * x.1 o 8 := Int32.add_zero _
  rw [z, t_cl, Nat.add_zero] at e1
  omega
theorem kh_mix (hq : kV q) (ho : kiM q o) (h : MM x o) (hF : F (mxO x o) x) : KT G q (d + 2) zk_X5_mix 0 [(0, vr o)] [] x (ri F) := by
  have t6 := h.1.1.2.2.1
  obtain ⟨b1, b2, -⟩ := MG_b h.1 h.2.1
  obtain ⟨a0, ea0⟩ : ∃ a0, a0 = mxF mxS (x.1 (o + 5)) (x.1 o 7).toInt.toNat 0 0 := ⟨_, rfl⟩
  unfold mxO at hF
  rw [← ea0] at hF
  have loop : ∀ (n k : Nat) (a i : Int32), i.toInt = k → k + n = (x.1 60 10).toInt.toNat → a = mxT mxS (x.1 (o + 5)) (x.1 o 7).toInt.toNat (x.1 o 8).toInt.toNat (usN x o) k a0 → KT G q (d + 2) zk_X5_mix 13 [(0, vr o), (1, vi a), (2, vi i)] [] x (ri F) := by
    intro n
    induction n with
    | zero =>
      intro k a i ei hn ea
      refine kg_X5_mix_13 hq ho _ _ ⟨fun _ => ri_i ?_, fun c => ?_⟩
      · rw [ea, show k = (x.1 60 10).toInt.toNat by omega]; exact hF
      · exfalso; rw [t_le] at c; omega
    | succ n ih =>
      intro k a i ei hn ea
      refine kg_X5_mix_13 hq ho _ _ ⟨fun c => ?_, fun c => ?_⟩
      · exfalso; rw [t_le] at c; omega
      have e1 : (i + 1).toInt = ((k + 1 : Nat) : Int) := by rw [t_add (by show _ ≤ _ + (1 : Int); omega) (by show _ + (1 : Int) ≤ _; omega), ei]; rfl
      obtain ⟨u0, u1⟩ := th_ix2 h ei (by omega)
      refine kh_usedOf hq ho h _ ei (by omega) (fun r er r32 => kh_mixPart hq ho _ _ _ u0 er (by omega) (ih (k + 1) _ _ e1 (by omega) ?_))
      rw [mxT, ← ea]
  exact kg_X5_mix_0 hq ho (kh_mixPart hq ho _ _ _ (f' := 0) (m' := (x.1 o 7).toInt.toNat) rfl (by omega) (by omega) (loop (x.1 60 10).toInt.toNat 0 _ _ rfl (by omega) (by rw [mxT, ea0])))
theorem kh_isSamePart (hq : kV q) (ho : kiM q o) {a1 : Nat} (ka : kK a1 = .inr (.int, 228)) (ma : a1 ∈ (kf q).2.1) (f m : Int32) {f' m' : Nat} (ef : f.toInt = f') (em : m.toInt = m') (h2 : f' + m' ≤ 228) (hF : ∀ r : Int32, gbool r → (¬ r = 0 ↔ ∀ j, f' ≤ j → j < f' + m' → x.1 (o + 5) j = x.1 a1 j) → F r x) : KT G q d zk_X5_isSamePart 0 [(0, vr o), (1, vr a1), (2, vi f), (3, vi m)] [] x (ri F) := by
  have efm : (f + m).toInt = f.toInt + m.toInt := t_add (by omega) (by omega)
  have loop : ∀ (n I : Nat) (i : Int32), i.toInt = I → I + n = f' + m' → f' ≤ I → (∀ j, f' ≤ j → j < I → x.1 (o + 5) j = x.1 a1 j) → KT G q d zk_X5_isSamePart 3 [(0, vr o), (1, vr a1), (2, vi f), (3, vi m), (4, vi i)] [] x (ri F) := by
    intro n
    induction n with
    | zero =>
      intro I i ei hn hfI hs
      refine kg_X5_isSamePart_3 hq ho ka ma _ _ _ ⟨fun _ => ri_i (hF _ gbool_1 ⟨fun _ j h1 h9 => hs j h1 (by omega), fun _ => by decide⟩), fun c => ?_⟩
      exfalso; rw [t_le] at c; omega
    | succ n ih =>
      intro I i ei hn hfI hs
      refine kg_X5_isSamePart_3 hq ho ka ma _ _ _ ⟨fun c => ?_, fun c => ?_⟩
      · exfalso; rw [t_le] at c; omega
      have e1 : (i + 1).toInt = ((I + 1 : Nat) : Int) := by rw [t_add (by show _ ≤ _ + (1 : Int); omega) (by show _ + (1 : Int) ≤ _; omega), ei]; rfl
      have eN : i.toNatClampNeg = I := by rw [t_cl, ei]; rfl
      have v : vp_in i 228 := by rw [vp_in_iff]; omega
      rw [eN]
      refine ⟨v, v, fun ce => ih (I + 1) _ e1 (by omega) (by omega) (fun j h1 h9 => ?_), fun ce => ri_i (hF _ gbool_0 ⟨fun z => absurd rfl z, fun z => absurd (z I hfI (by omega)) ce⟩)⟩
      by_cases cj : j = I
      · rw [cj]; exact ce
      · exact hs j h1 (by omega)
  exact kg_X5_isSamePart_0 hq ho ka ma _ _ (loop m' f' _ ef rfl (Nat.le_refl _) (fun j h1 h9 => by omega))
theorem kh_isSame (hq : kV q) (ho : kiM q o) (h : MM x o) {a1 : Nat} (ka : kK a1 = .inr (.int, 228)) (ma : a1 ∈ (kf q).2.1) (hF : ∀ r : Int32, gbool r → (¬ r = 0 ↔ rwS x o (x.1 a1)) → F r x) : KT G q (d + 2) zk_X5_isSame 0 [(0, vr o), (1, vr a1)] [] x (ri F) := by
  have t6 := h.1.1.2.2.1
  obtain ⟨b1, b2, -⟩ := MG_b h.1 h.2.1
  have loop : ∀ (n k : Nat) (a i : Int32), gbool a → i.toInt = k → k + n = (x.1 60 10).toInt.toNat → (¬ a = 0 ↔ (∀ j : Nat, (j : Int) < (x.1 o 7).toInt → x.1 (o + 5) j = x.1 a1 j) ∧ ∀ t j : Nat, t < k → j < usN x o t → x.1 (o + 5) (pa x o t j) = x.1 a1 (pa x o t j)) → KT G q (d + 2) zk_X5_isSame 13 [(0, vr o), (1, vr a1), (2, vi a), (3, vi i)] [] x (ri F) := by
    intro n
    induction n with
    | zero =>
      intro k a i ga ei hn ha
      refine kg_X5_isSame_13 hq ho ka ma _ _ ⟨fun _ => ⟨ga, ri_i (hF _ ga ?_)⟩, fun c => ?_⟩
      · rw [ha]
        exact ⟨fun z => ⟨z.1, fun t j ht hj => z.2 t j (by omega) hj⟩, fun z => ⟨z.1, fun t j ht hj => z.2 t j (by omega) hj⟩⟩
      · exfalso; rw [t_le] at c; omega
    | succ n ih =>
      intro k a i ga ei hn ha
      refine kg_X5_isSame_13 hq ho ka ma _ _ ⟨fun c => ?_, fun c => ⟨fun c0 => ⟨ga, ri_i (hF _ ga ?_)⟩, fun c0 => ?_⟩⟩
      · exfalso; rw [t_le] at c; omega
      · refine ⟨fun z => absurd c0 z, fun z => ?_⟩
        exact absurd c0 (ha.mpr ⟨z.1, fun t j ht hj => z.2 t j (by omega) hj⟩)
      have e1 : (i + 1).toInt = ((k + 1 : Nat) : Int) := by rw [t_add (by show _ ≤ _ + (1 : Int); omega) (by show _ + (1 : Int) ≤ _; omega), ei]; rfl
      obtain ⟨u0, u1⟩ := th_ix2 h ei (by omega)
      refine kh_usedOf hq ho h _ ei (by omega) (fun r er r32 => kh_isSamePart hq ho ka ma _ _ u0 er (by omega) (fun r5 g5 h5 => ih (k + 1) _ _ g5 e1 (by omega) ?_))
      obtain ⟨p1, p2⟩ := ha.mp c0
      rw [h5]
      refine ⟨fun z => ⟨p1, fun t j ht hj => ?_⟩, fun z j h1 h9 => ?_⟩
      · by_cases ct : t = k
        · rw [ct] at hj ⊢
          exact z (pa x o k j) (by unfold pa; omega) (by unfold pa; omega)
        · exact p2 t j (by omega) hj
      · have := z.2 k (j - ((x.1 o 7).toInt.toNat + k * (x.1 o 8).toInt.toNat)) (by omega) (by omega)
        unfold pa at this
        rw [show (x.1 o 7).toInt.toNat + k * (x.1 o 8).toInt.toNat + (j - ((x.1 o 7).toInt.toNat + k * (x.1 o 8).toInt.toNat)) = j by omega] at this
        exact this
  refine kg_X5_isSame_0 hq ho ka ma (kh_isSamePart hq ho ka ma _ _ (f' := 0) (m' := (x.1 o 7).toInt.toNat) rfl (by omega) (by omega) (fun r gr hr => loop (x.1 60 10).toInt.toNat 0 _ _ gr rfl (by omega) ?_))
  rw [hr]
  exact ⟨fun z => ⟨fun j hj => z j (Nat.zero_le _) (by omega), fun t j ht => absurd ht (Nat.not_lt_zero _)⟩, fun z j _ hj => z.1 j (by omega)⟩
end KSM
