/-! the code in numbers depends on the text's tokens alone -/
section CDC
variable {K K' V V' : Nat → Int32} {sN sN' : Nat → Nat → Bool} {L N : gU} {c : gCd} {v : Nat × Nat × Nat} {E : gV} {tk i w t : Nat} {tg : Option Nat} {T : gTd} {S : List gSt}
theorem ite_c {α : Type} {p : Prop} [Decidable p] {a a' b b' : α} (h1 : p → a = a') (h2 : ¬ p → b = b') : (if p then a else b) = (if p then a' else b') := by
  by_cases h : p
  · rw [if_pos h, if_pos h, h1 h]
  · rw [if_neg h, if_neg h, h2 h]
theorem ite_q {α : Type} {P : α → Prop} {p : Prop} [Decidable p] {a b : α} (h1 : p → P a) (h2 : ¬ p → P b) : P (if p then a else b) := by
  by_cases h : p
  · rw [if_pos h]; exact h1 h
  · rw [if_neg h]; exact h2 h
theorem toL_c (hs : ∀ a b, gdN K' a → gdN K' b → sN a b = sN' a b) (ht : ∀ a, tg = some a → gdN K' a) {ks : gK} (hk : ∀ k ∈ ks, gdN K' k.1) : toL sN ks tg = toL sN' ks tg := by
  cases tg with
  | none => rfl
  | some a => exact kfi_c hs (ht a rfl) hk
theorem cSe_cg (e : toL sN c.1.1 tg = toL sN' c.1.1 tg) : cSe sN c tg tk N = cSe sN' c tg tk N := by
  unfold cSe
  rw [e]
theorem cAl_c (e : toL sN c.1.1 tg = toL sN' c.1.1 tg) (k : kfi sN c.1.1 i = kfi sN' c.1.1 i) : cAl sN c tg tk i = cAl sN' c tg tk i := by
  unfold cAl
  rw [k]
  cases kfi sN' c.1.1 i with
  | some p => exact cSe_cg e
  | none => exact congrArg (fun o => cEm c (0, tk, knw c.1, o, some i, false, none, none, none)) e
theorem cXc_c (e : toL sN c.1.1 c.2.2.2.1.2.2.2.2.1 = toL sN' c.1.1 c.2.2.2.1.2.2.2.2.1) (hK : K i = K' i) : cXc sN K c i = cXc sN' K' c i := by
  unfold cXc
  rw [e, hK]
theorem cdV_c (hs : ∀ a b, gdN K' a → gdN K' b → sN a b = sN' a b) (hK : ∀ j, ¬ K' j = 0 → K j = K' j) (hz : oZ K' v) (hy : oY K' v) (hE : ∀ k ∈ c.1.1, gdN K' k.1) (ht : ∀ a, c.2.2.2.1.2.2.2.2.1 = some a → gdN K' a) : cdV sN K c v = cdV sN' K' c v := by
  have e := toL_c hs ht hE
  unfold cdV
  refine ite_c (fun _ => rfl) (fun _ => ite_c (fun _ => rfl) (fun _ => ite_c (fun _ => rfl) (fun _ => ite_c (fun _ => rfl) (fun _ => ite_c (fun _ => rfl) (fun _ => ite_c (fun _ => rfl) (fun _ => ite_c (fun _ => rfl) (fun _ => ite_c (fun _ => rfl) (fun _ => ?_))))))))
  refine ite_c (fun h => cAl_c e (kfi_c hs (hz.1 (by rw [h]; decide)) hE)) (fun _ => ?_)
  refine ite_c (fun h => cAl_c (toL_c hs (fun a z => by cases Option.some.inj z; exact (hz.2.1 h).1) hE) (kfi_c hs (hz.2.1 h).2 hE)) (fun _ => ?_)
  refine ite_c (fun _ => cSe_cg e) (fun _ => ?_)
  refine ite_c (fun _ => by rw [e]) (fun _ => ?_)
  refine ite_c (fun h => cXc_c e (hK _ (hy.1 (by rw [h]; decide)))) (fun _ => ?_)
  refine ite_c (fun _ => rfl) (fun _ => ite_c (fun _ => rfl) (fun _ => ite_c (fun _ => rfl) (fun _ => ite_c (fun _ => rfl) (fun _ => ite_c (fun _ => rfl) (fun _ => ?_)))))
  refine ite_c (fun h => by rw [hK _ (hy.1 (by rcases h with h | h <;> rw [h] <;> decide))]) (fun _ => ?_)
  refine ite_c (fun h => by rw [hK _ (hy.1 (by rw [h]; decide))]) (fun _ => ?_)
  refine ite_c (fun h => by rw [hK _ (hy.1 (by rw [h]; decide))]) (fun _ => ?_)
  rfl
/-- names kept in the code so far -/
def gI (K' : Nat → Int32) (c : gCd) : Prop := (∀ k ∈ c.1.1, gdN K' k.1) ∧ (∀ a, c.2.2.2.1.2.2.2.2.1 = some a → gdN K' a) ∧ ∀ st ∈ c.2.1, ∀ k ∈ st.2.2.1.1, gdN K' k.1
theorem gS_add {st : gSt} (h : ∀ st ∈ S, ∀ k ∈ st.2.2.1.1, gdN K' k.1) (g : ∀ k ∈ st.2.2.1.1, gdN K' k.1) : ∀ s ∈ S ++ [st], ∀ k ∈ s.2.2.1.1, gdN K' k.1 := fun s hs => (List.mem_append.mp hs).elim (h s) (fun hs => by rw [List.mem_singleton.mp hs]; exact g)
theorem gS_to {j n : Nat} (h : ∀ st ∈ S, ∀ k ∈ st.2.2.1.1, gdN K' k.1) : ∀ s ∈ cTo S j n, ∀ k ∈ s.2.2.1.1, gdN K' k.1 := fun s hs => by
  unfold cTo at hs
  obtain ⟨i, hi, e⟩ := List.mem_mapIdx.mp hs
  rw [← e]
  have g := h _ (List.getElem_mem hi)
  refine ite_q (P := fun s : gSt => ∀ k ∈ s.2.2.1.1, gdN K' k.1) (fun _ => g) (fun _ => g)
theorem gI_em {st : gSt} (h : gI K' c) (g : ∀ k ∈ st.2.2.1.1, gdN K' k.1) : gI K' (cEm c st) := ⟨h.1, fun a z => (by cases z), gS_add h.2.2 g⟩
theorem gI_pu {st : gSt} (h : gI K' c) (g : ∀ k ∈ st.2.2.1.1, gdN K' k.1) : gI K' (cPu c st) := ⟨h.1, fun a z => (by cases z), gS_add h.2.2 g⟩
theorem gI_se (h : gI K' c) : gI K' (cSe sN c tg tk N) := by
  unfold cSe
  cases toL sN c.1.1 tg with
  | some p => exact gI_em h h.1
  | none => exact gI_em h h.1
theorem gI_al (h : gI K' c) : gI K' (cAl sN c tg tk i) := by
  unfold cAl
  cases kfi sN c.1.1 i with
  | some p => exact gI_se h
  | none => exact gI_em h h.1
theorem gI_xc (h : gI K' c) : gI K' (cXc sN K c i) := by
  unfold cXc
  exact ite_q (P := gI K') (fun _ => gI_em h h.1) (fun _ => gI_em h h.1)
theorem gI_cl {z : Nat} (h : gI K' c) : gI K' (cCl c z) := by
  unfold cCl
  refine ite_q (P := gI K') (fun _ => ⟨h.1, h.2.1, gS_add h.2.2 h.1⟩) (fun _ => ite_q (P := gI K') (fun _ => ⟨h.1, h.2.1, gS_to (gS_add h.2.2 h.1)⟩) (fun _ => ite_q (P := gI K') (fun _ => ⟨h.1, h.2.1, gS_add h.2.2 h.1⟩) (fun _ => h)))
theorem cdV_I (hz : oZ K' v) (h : gI K' c) : gI K' (cdV sN K c v) := by
  have hx : gI K' (exV c.1 v, c.2) := ⟨exV_g h.1 (fun e => hz.1 (by rw [e]; decide)), h.2⟩
  unfold cdV
  refine ite_q (P := gI K') (fun _ => h) (fun _ => ite_q (P := gI K') (fun _ => ite_q (P := gI K') (fun _ => h) (fun _ => h)) (fun _ => ite_q (P := gI K') (fun _ => ite_q (P := gI K') (fun _ => h) (fun _ => h)) (fun _ => ?_)))
  refine ite_q (P := gI K') (fun _ => hx) (fun _ => ite_q (P := gI K') (fun _ => gI_cl hx) (fun _ => ite_q (P := gI K') (fun _ => hx) (fun _ => ?_)))
  refine ite_q (P := gI K') (fun _ => ⟨h.1, fun a z => (by cases z), h.2.2⟩) (fun _ => ?_)
  refine ite_q (P := gI K') (fun e => ⟨h.1, fun a z => by cases Option.some.inj z; exact hz.1 (by rcases e with e | e <;> rw [e] <;> decide), h.2.2⟩) (fun _ => ?_)
  refine ite_q (P := gI K') (fun _ => gI_al h) (fun _ => ite_q (P := gI K') (fun _ => gI_al h) (fun _ => ite_q (P := gI K') (fun _ => gI_se h) (fun _ => ?_)))
  refine ite_q (P := gI K') (fun _ => gI_em h h.1) (fun _ => ite_q (P := gI K') (fun _ => gI_xc h) (fun _ => ite_q (P := gI K') (fun _ => gI_em h h.1) (fun _ => ?_)))
  refine ite_q (P := gI K') (fun _ => gI_pu h h.1) (fun _ => ite_q (P := gI K') (fun _ => gI_pu h h.1) (fun _ => ?_))
  refine ite_q (P := gI K') (fun _ => ⟨h.1, h.2.1, gS_to (gS_add h.2.2 h.1)⟩) (fun _ => ite_q (P := gI K') (fun _ => ⟨h.1, h.2.1, gS_to h.2.2⟩) (fun _ => ?_))
  refine ite_q (P := gI K') (fun _ => gI_em h h.1) (fun _ => ite_q (P := gI K') (fun _ => gI_em h h.1) (fun _ => ite_q (P := gI K') (fun _ => gI_em h h.1) (fun _ => ite_q (P := gI K') (fun _ => gI_em h h.1) (fun _ => ?_))))
  refine ite_q (P := gI K') (fun _ => ⟨fun k hk => (by cases hk), fun a z => (by cases z), h.2.2⟩) (fun _ => ite_q (P := gI K') (fun _ => h) (fun _ => h))
theorem cds_c (hs : ∀ a b, gdN K' a → gdN K' b → sN a b = sN' a b) (hK : ∀ j, ¬ K' j = 0 → K j = K' j) : ∀ {L : gU} {c : gCd}, (∀ v ∈ L, oZ K' v ∧ oY K' v) → gI K' c → cds sN K L c = cds sN' K' L c ∧ gI K' (cds sN' K' L c) := by
  intro L
  induction L with
  | nil => intro c _ h; exact ⟨rfl, h⟩
  | cons v L ih =>
    intro c hL h
    obtain ⟨hz, hy⟩ := hL v List.mem_cons_self
    rw [cds_cons, cds_cons, cdV_c hs hK hz hy h.1 h.2.1]
    exact ih (fun u hu => hL u (List.mem_cons_of_mem _ hu)) (cdV_I hz h)
theorem nmT_c (hs : ∀ a b, gdN K' a → gdN K' b → sN a b = sN' a b) (ht : gdN K' t) : ∀ {T : gTd}, (∀ q ∈ T, gdN K' q.1) → nmT sN w t T = nmT sN' w t T := by
  intro T
  induction T with
  | nil => intro _; rfl
  | cons q T ih =>
    intro hT
    rw [nmT, nmT, hs _ _ (hT q List.mem_cons_self) ht, ih (fun z hz => hT z (List.mem_cons_of_mem _ hz))]
theorem nQs_c (hs : ∀ a b, gdN K' a → gdN K' b → sN a b = sN' a b) (hK : ∀ j, ¬ K' j = 0 → K j = K' j) (hV : ∀ j, K' j = 2 → V j = V' j) (hT : ∀ q ∈ T, gdN K' q.1) {ks : gK} (hk : ∀ k ∈ ks, gdN K' k.1) (hN : ∀ v ∈ N, sVv K' v) : nQs sN T V K ks N = nQs sN' T V' K' ks N := by
  unfold nQs
  refine fm_cg (fun v hv => ?_)
  obtain ⟨h50, h51, h52, hn, h12⟩ := hN v hv
  unfold nQt
  refine ite_c (fun h => by rw [hV _ (h52 h)]) (fun _ => ite_c (fun _ => rfl) (fun _ => ?_))
  refine ite_c (fun h => by rw [kfi_c hs (hn (Or.inl h)) hk]) (fun _ => ?_)
  refine ite_c (fun h => by rw [nmT_c hs (hn (Or.inr (Or.inl h))) hT]) (fun _ => ?_)
  refine ite_c (fun h => by rw [nmT_c hs (h12 h).2 hT, hV _ (h12 h).1]) (fun _ => ?_)
  refine ite_c (fun h => by rw [hK _ (by rcases h50 h with e | e <;> rw [e] <;> decide)]) (fun _ => ?_)
  refine ite_c (fun h => by rw [hK _ (fun z => h51 h (by rw [z]; rfl))]) (fun _ => rfl)
theorem oQs_c (hs : ∀ a b, gdN K' a → gdN K' b → sN a b = sN' a b) (hK : ∀ j, ¬ K' j = 0 → K j = K' j) (hV : ∀ j, K' j = 2 → V j = V' j) (hT : ∀ q ∈ T, gdN K' q.1) {ks : gK} (hk : ∀ k ∈ ks, gdN K' k.1) {o : Option gU} (ho : sOo sN' K' E o) : o.map (nQs sN T V K ks) = o.map (nQs sN' T V' K' ks) := by
  cases o with
  | none => rfl
  | some N => exact congrArg some (nQs_c hs hK hV hT hk (ho N rfl).2.1)
theorem nStp_c (hs : ∀ a b, gdN K' a → gdN K' b → sN a b = sN' a b) (hK : ∀ j, ¬ K' j = 0 → K j = K' j) (hV : ∀ j, K' j = 2 → V j = V' j) (hT : ∀ q ∈ T, gdN K' q.1) {st : gSt} (hk : ∀ k ∈ st.2.2.1.1, gdN K' k.1) (h : stLk sN' K' E st) : nStp sN T V K st = nStp sN' T V' K' st := by
  obtain ⟨q1, ⟨q2, q2'⟩, q3, q4, q5, q5', q6, q7, q8, q9, so0, so1, so2⟩ := h
  have e1 : mOf sN T V st = mOf sN' T V' st := by
    unfold mOf
    by_cases c10 : st.1 ≤ 10
    · obtain ⟨t, et, kt⟩ := q4 c10
      rw [et]
      show (if st.1 ≤ 4 then Int32.ofNat (nmT sN 0 t T) else if st.1 ≤ 8 then Int32.ofNat (nmT sN 1 t T) else if st.1 ≤ 10 then Int32.ofNat (nmT sN 2 t T) else V t) = (if st.1 ≤ 4 then Int32.ofNat (nmT sN' 0 t T) else if st.1 ≤ 8 then Int32.ofNat (nmT sN' 1 t T) else if st.1 ≤ 10 then Int32.ofNat (nmT sN' 2 t T) else V' t)
      rw [nmT_c hs kt hT, nmT_c hs kt hT, nmT_c hs kt hT, if_pos c10, if_pos c10]
    · by_cases c13 : st.1 = 13
      · obtain ⟨t, et, kt⟩ := q5 c13
        rw [et]
        show (if st.1 ≤ 4 then Int32.ofNat (nmT sN 0 t T) else if st.1 ≤ 8 then Int32.ofNat (nmT sN 1 t T) else if st.1 ≤ 10 then Int32.ofNat (nmT sN 2 t T) else V t) = (if st.1 ≤ 4 then Int32.ofNat (nmT sN' 0 t T) else if st.1 ≤ 8 then Int32.ofNat (nmT sN' 1 t T) else if st.1 ≤ 10 then Int32.ofNat (nmT sN' 2 t T) else V' t)
        rw [if_neg (by omega), if_neg (by omega), if_neg (by omega), if_neg (by omega), if_neg (by omega), if_neg (by omega), hV _ kt]
      · rw [q5' (by omega) c13]
  have e2 : mSz sN T st = mSz sN' T st := by
    unfold mSz
    by_cases c4 : st.1 ≤ 4
    · obtain ⟨t, et, kt⟩ := q4 (by omega)
      rw [et]
      show (if _ then (if st.1 ≤ 4 then Int32.ofNat (rsT sN T t) else 1) else 0) = (if _ then (if st.1 ≤ 4 then Int32.ofNat (rsT sN' T t) else 1) else 0)
      unfold rsT
      rw [mtP_c hs kt hT]
    · rw [if_neg c4, if_neg c4]
  unfold nStp
  rw [e1, e2, oQs_c hs hK hV hT hk so0, oQs_c hs hK hV hT hk so1, oQs_c hs hK hV hT hk so2.1]
theorem ces_c (hK : ∀ j, ¬ K' j = 0 → K j = K' j) (hV : ∀ j, K' j = 2 → V j = V' j) : ∀ {L : gU} {d : Nat × Int32 × List (Int32 × Bool)}, (∀ v ∈ L, oZ K' v ∧ oY K' v) → ces K V L d = ces K' V' L d := by
  intro L
  induction L with
  | nil => intro d _; rfl
  | cons v L ih =>
    intro d hL
    obtain ⟨hz, hy⟩ := hL v List.mem_cons_self
    show ces K V L (ceV K V d v) = ces K' V' L (ceV K' V' d v)
    have e : ceV K V d v = ceV K' V' d v := by
      unfold ceV
      refine ite_c (fun _ => rfl) (fun _ => ?_)
      refine ite_c (fun h => ?_) (fun _ => ?_)
      · have z := hz.2.2.2.2 (by rw [h]; decide)
        have ep : prz K V v.2.2 = prz K' V' v.2.2 := by
          unfold prz
          rw [hK _ (by rw [z]; decide), hV _ z]
        rw [ep]
      · refine ite_c (fun h => by rw [hV _ (hy.2 (by rw [h]; decide))]) (fun _ => ite_c (fun h => by rw [hV _ (hy.2 (by rw [h]; decide))]) (fun _ => ite_c (fun _ => rfl) (fun _ => ite_c (fun h => by rw [hK _ (hy.1 (by rw [h]; decide))]) (fun _ => rfl))))
    rw [e]
    exact ih (fun u hu => hL u (List.mem_cons_of_mem _ hu))
theorem codN_c (hs : ∀ a b, gdN K' a → gdN K' b → sN a b = sN' a b) (hK : ∀ j, ¬ K' j = 0 → K j = K' j) (hV : ∀ j, K' j = 2 → V j = V' j) (hL : ∀ v ∈ L, oZ K' v ∧ oY K' v) (hw : WC sN' K' (fun v => v ∈ L) (cds sN' K' L cd0)) : codN sN V K L = codN sN' V' K' L := by
  obtain ⟨ec, gi⟩ := cds_c (c := cd0) hs hK hL ⟨fun k hk => (by cases hk), fun a z => (by cases z), fun st hst => by cases hst⟩
  have eT : L.filterMap (te1 K V) = L.filterMap (te1 K' V') := by
    refine fM_c (fun v hv => ?_)
    unfold te1
    by_cases c : v.1 = 32
    · have z := (hL v hv).1.2.2.2.2 (by rw [c]; decide)
      have ep : prz K V v.2.2 = prz K' V' v.2.2 := by
        unfold prz
        rw [hK _ (by rw [z]; decide), hV _ z]
      rw [ep]
    · rw [if_neg c, if_neg c]
  have hT : ∀ q ∈ L.filterMap (te1 K' V'), gdN K' q.1 := fun q hq => by
    obtain ⟨v, hv, ev⟩ := te_mem hq
    obtain ⟨g1, g2, -⟩ := te_is ev
    show K' q.1 = 1
    rw [g2]
    exact (hL v hv).1.1 (by rcases g1 with g | g | g | g <;> rw [g] <;> decide)
  obtain ⟨E, S, r, b, l, e, -, -, w1, w2, w3⟩ := hw
  have e1 : (cds sN' K' L cd0).2.1 = S := by rw [e]
  have e3 : (cds sN' K' L cd0).2.2.2.2.2 = l := by rw [e]
  have gs := gi.2.2
  rw [e1] at gs
  have cl : ∀ u, (clF u l).map (nQs sN (L.filterMap (te1 K' V')) V K []) = (clF u l).map (nQs sN' (L.filterMap (te1 K' V')) V' K' []) := fun u => List.map_congr_left (fun N hN => by
    obtain ⟨q, hq, e9⟩ := List.mem_filterMap.mp hN
    have e9 : q.2 = N := by
      split at e9
      · exact Option.some.inj e9
      · exact absurd e9 (by simp)
    obtain ⟨z1, -⟩ := w3 q hq
    rw [e9] at z1
    exact nQs_c hs hK hV hT (fun k hk => by cases hk) z1.2.1)
  have st : S.map (nStp sN (L.filterMap (te1 K' V')) V K) = S.map (nStp sN' (L.filterMap (te1 K' V')) V' K') := List.map_congr_left (fun s hs9 => by
    obtain ⟨j, hj, ej⟩ := List.getElem_of_mem hs9
    obtain ⟨-, E0, hL0, -⟩ := w1 j s (by rw [List.getElem?_eq_getElem hj, ej])
    exact nStp_c hs hK hV hT (gs s hs9) hL0)
  have ce : cel K V L = cel K' V' L := by
    unfold cel
    rw [ces_c hK hV hL]
  unfold codN
  rw [ec, eT, e1, e3, st, ce, cl, cl]
end CDC
