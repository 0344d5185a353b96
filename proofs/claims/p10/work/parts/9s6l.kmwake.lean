/-! the class: wake, call and back -/
/-- those below k that are woken -/
def wkU (M : gMa) (k : Nat) (P : Nat → Bool) : gMa := (M.1, M.2.1, fun o => if o < k ∧ P o = true then ((M.2.2 o).1, (M.2.2 o).2.1, (M.2.2 o).2.2.1, 2, (M.2.2 o).2.2.2.2) else M.2.2 o)
/-- a thread with other locals -/
def wLv (h : gTq) (lv : Nat → Int32) : gTq := (h.1, h.2.1, h.2.2.1, h.2.2.2.1, h.2.2.2.2.1, h.2.2.2.2.2.1, h.2.2.2.2.2.2.1, lv)
section KMW
variable {G : kG} {q : kP} {d : Nat} {x x0 y z : gd} {o : Nat} {F : Int32 → gd → Prop} {Fv : gd → Prop} {C : gCo} {M : gMa} {h h' : gTq} {t T w k : Nat} {P : Nat → Bool}
theorem wkU_0 : wkU M 0 P = M := by
  unfold wkU
  refine Prod.ext rfl (Prod.ext rfl (funext fun i => ?_))
  show (if i < 0 ∧ P i = true then (((M.2.2 i).1, (M.2.2 i).2.1, (M.2.2 i).2.2.1, 2, (M.2.2 i).2.2.2.2) : gTq) else M.2.2 i) = M.2.2 i
  rw [if_neg (fun z => absurd z.1 (Nat.not_lt_zero _))]
theorem wkU_no (c : ¬ P k = true) : wkU M (k + 1) P = wkU M k P := by
  unfold wkU
  refine Prod.ext rfl (Prod.ext rfl (funext fun i => ?_))
  show (if i < k + 1 ∧ P i = true then _ else M.2.2 i) = if i < k ∧ P i = true then _ else M.2.2 i
  by_cases c1 : i < k ∧ P i = true
  · rw [if_pos c1, if_pos ⟨by omega, c1.2⟩]
  · rw [if_neg c1, if_neg (fun z => c1 ⟨?_, z.2⟩)]
    have : ¬ i = k := fun e => c (by rw [← e]; exact z.2)
    omega
theorem wkU_yes (c : P k = true) : wkU M (k + 1) P = upT (wkU M k P) k ((M.2.2 k).1, (M.2.2 k).2.1, (M.2.2 k).2.2.1, 2, (M.2.2 k).2.2.2.2) := by
  unfold wkU upT upf
  refine Prod.ext rfl (Prod.ext rfl (funext fun i => ?_))
  show (if i < k + 1 ∧ P i = true then _ else M.2.2 i) = if i = k then _ else if i < k ∧ P i = true then _ else M.2.2 i
  by_cases c0 : i = k
  · rw [if_pos c0, if_pos ⟨by omega, by rw [c0]; exact c⟩, c0]
  · rw [if_neg c0]
    by_cases c1 : i < k ∧ P i = true
    · rw [if_pos c1, if_pos ⟨by omega, c1.2⟩]
    · rw [if_neg c1, if_neg (fun z => c1 ⟨by omega, z.2⟩)]
theorem wkU_at : (wkU M k P).2.2 k = M.2.2 k := by
  show (if k < k ∧ P k = true then _ else M.2.2 k) = _
  rw [if_neg (fun z => absurd z.1 (Nat.lt_irrefl _))]
theorem kh_wake {S : Nat → Prop} (hS : S 6) (hq : kV q) (ho : kiM q o) (hM : MM x o) (hK : CK x C) (hN : NC C) (g : KMm x o C M) (t l a u : Int32) {L : Nat} (et : t.toInt = T) (hT : T < C.2.1.length) (eL : l.toInt = L) (hl : (L : Int) < (x.1 60 9).toInt) (all : Bool) (ha : a = 0 ↔ all = false) (wk : Option Nat) (hu0 : wk = none → u = -1) (hu1 : ∀ k, wk = some k → u = Int32.ofNat k ∧ k ∈ waM C M L) (hF : ∀ r y, AR S x y o → ((r = 4 ∧ ¬ (M.2.1 L).1 = T + 1 ∧ KMm y o C M) ∨ (r = 0 ∧ (M.2.1 L).1 = T + 1 ∧ KMm y o C (wkU M C.2.1.length (fun o => (M.2.2 o).2.2.2.1 == 1 && (obM C (M.2.2 o).2.2.1 == L && (all || wk == some o)))))) → F r y) : KT G q (d + 2) zk_X5_doWake 0 [(0, vr o), (1, vi t), (2, vi l), (3, vi a), (4, vi u)] [] x (ri F) := by
  have hO := kiM_O ho
  have nT : (x.1 60 10).toInt = C.2.1.length := hK.2.1.1
  have hT6 := MM_6 hM.1 (t := T) (by omega)
  have t6 := hM.1.1.2.2.1
  obtain ⟨b1, b2, b3, b4, -⟩ := MG_b hM.1 hM.2.1
  have tT : t = Int32.ofNat T := i32_of et
  have l6 := (g.1.2 L hl).2.1
  have hh := hol_t (M.2.1 L).1 (by omega) T hT6
  obtain ⟨P, eP⟩ : ∃ P : Nat → Bool, P = fun o => (M.2.2 o).2.2.2.1 == 1 && (obM C (M.2.2 o).2.2.1 == L && (all || wk == some o)) := ⟨_, rfl⟩
  rw [← eP] at hF
  have Pi : ∀ k, P k = true ↔ (M.2.2 k).2.2.2.1 = 1 ∧ obM C (M.2.2 k).2.2.1 = L ∧ (all = true ∨ wk = some k) := fun k => by
    rw [eP]
    show ((M.2.2 k).2.2.2.1 == 1 && (obM C (M.2.2 k).2.2.1 == L && (all || wk == some k))) = true ↔ _
    rw [Bool.and_eq_true, Bool.and_eq_true, Bool.or_eq_true, beq_iff_eq, beq_iff_eq, beq_iff_eq]
  have wi : ∀ k, k ∈ waM C M L ↔ k < C.2.1.length ∧ (M.2.2 k).2.2.2.1 = 1 ∧ obM C (M.2.2 k).2.2.1 = L := fun k => by
    unfold waM
    rw [List.mem_filter, List.mem_range, Bool.and_eq_true, beq_iff_eq, beq_iff_eq]
  have w8 : ∀ s ∈ (waM C M L).reverse, s < 8 := fun s hs => by
    have := ((wi s).mp (List.mem_reverse.mp hs)).1
    omega
  have loop : ∀ (W : Int32), (∀ k, k < C.2.1.length → ((W >>> (Int32.ofNat k &&& 31)) &&& 1 = 1 ↔ P k = true)) → ∀ (n k : Nat) (i : Int32) (y : gd), i.toInt = k → k ≤ C.2.1.length → (x.1 60 10).toInt - k ≤ n → AR S x y o → y.1 (o + 20) 6 = W → KMm y o C (wkU M k P) → (M.2.1 L).1 = T + 1 → KT G q (d + 2) zk_X5_doWake 47 [(0, vr o), (5, vi i)] [] y (ri F) := by
    intro W hW n
    induction n with
    | zero =>
      intro k i y ei hk hn hy y6 gy hT1
      have ek : k = C.2.1.length := by omega
      refine kg_X5_doWake_47 hq ho _ ⟨fun _ => ri_i (hF _ y hy (Or.inr ⟨rfl, hT1, by rw [← ek]; exact gy⟩)), fun c => ?_⟩
      exfalso; rw [(AR_9 hO hy).2.1, t_le] at c; omega
    | succ n ih =>
      intro k i y ei hk hn hy y6 gy hT1
      refine kg_X5_doWake_47 hq ho _ ⟨fun c => ?_, fun c => ?_⟩
      · rw [(AR_9 hO hy).2.1, t_le] at c
        have ek : k = C.2.1.length := by omega
        exact ri_i (hF _ y hy (Or.inr ⟨rfl, hT1, by rw [← ek]; exact gy⟩))
      rw [(AR_9 hO hy).2.1, t_le] at c
      have e1 : (i + 1).toInt = ((k + 1 : Nat) : Int) := by rw [t_add (by show _ ≤ _ + (1 : Int); omega) (by show _ + (1 : Int) ≤ _; omega), ei]; rfl
      have hk' : k < C.2.1.length := by omega
      have ii : i = Int32.ofNat k := i32_of ei
      have bit := hW k hk'
      rw [y6, ii]
      rw [ii] at e1
      refine ⟨fun c1 => ih (k + 1) _ y e1 (by omega) (by push_cast; omega) hy y6 (by rw [wkU_no (fun z => c1 (bit.mpr z))]; exact gy) hT1, fun c1 => ?_⟩
      have hP := bit.mp c1
      obtain ⟨p1, p2, -⟩ := (Pi k).mp hP
      obtain ⟨f6, f9, e13, e9, e8, e7, e10⟩ := sM_e hO hy.2.1
      refine kh_seta (S := S) hq ho hy.1 _ _ _ (by rw [← ii]; exact ei) (show (5 : Int32).toInt = ((5 : Nat) : Int) from rfl) (by omega) (by rw [e8]; omega) (by omega) (fun c => by omega) (fun c => by omega) (fun j hj c => by rw [e9] at c; omega) (fun z hz fz lz gz => ih (k + 1) _ z e1 (by omega) (by push_cast; omega) (AR_tr hy hz) (by rw [fz _ _ (by unfold sSt; omega)]; exact y6) ?_ hT1)
      have hKy := CK_M hO hK hy.2.1
      have hAy := (hy.1.2.2 k (by rw [e10]; omega)).1
      have gk := gy.2 k hk'
      rw [wkU_at] at gk
      obtain ⟨-, -, z13, z9, z8, -, -⟩ := sM_e hO hz.2.1
      rw [wkU_yes hP]
      obtain ⟨w3, w5, w2, w7⟩ := gk.2.2.2.1
      refine KMm_T hO hy.1 hKy hz.2.1 lz (fun t k' ht hk2 => by rw [gz t k' hk2, if_neg (fun z => ht z.1)]) gy (kTq_k hy.1.1 hy.1.2.1 hAy z13 z9 (fun j => if j = 5 then 1 else rg y o k j) (fun j hj => ?_) gk rfl gk.1 gk.2.1 gk.2.2.1 ⟨?_, rfl, by show (2 : Nat) ≤ 2; decide, fun _ => w7 (by omega)⟩ gk.2.2.2.2.1 gk.2.2.2.2.2.1 gk.2.2.2.2.2.2.2.2)
      · rw [gz k j hj]
        by_cases c3 : j = 5
        · rw [if_pos ⟨rfl, c3⟩, if_pos (by omega), if_pos c3]
        · rw [if_neg (fun z => c3 z.2), if_neg c3]; split <;> rfl
      · show rg y o k 3 = (stN C (M.2.2 k).2.2.1).2.2.2.2.1 + 1
        rw [w3, if_neg (by omega)]
  have start : ∀ (W : Int32), (∀ k, k < C.2.1.length → ((W >>> (Int32.ofNat k &&& 31)) &&& 1 = 1 ↔ P k = true)) → (M.2.1 L).1 = T + 1 → ∀ y, y = si x (o + 20) 6 W → KT G q (d + 2) zk_X5_doWake 47 [(0, vr o), (5, vi 0)] [] y (ri F) := fun W hW hT1 y ey => by
    obtain ⟨g1, g2⟩ := AR_deed hO hM hS ey
    refine loop W hW 6 0 _ y rfl (by omega) (by omega) g1 (by rw [ey, si_get, if_pos ⟨rfl, rfl⟩]) ?_ hT1
    rw [wkU_0]
    exact AR_KM hO hM hK g1 (fun j _ => by rw [ey, si_cell (by omega)]) g2 g
  refine kg_X5_doWake_0 hq ho _ _ _ _ (kh_holder hq ho hM g _ eL hl ⟨fun c => ?_, fun c => ri_i (hF _ x (AR_rf hM) (Or.inl ⟨rfl, fun z => c (by rw [tT]; exact hh.mpr z), g⟩))⟩)
  rw [tT] at c
  have hT1 := hh.mp c
  refine ⟨fun a0 => ?_, fun a1 => kh_waiters hq ho hM hK hN g _ eL hl (fun y ey => start _ (fun k hk => ?_) hT1 y ey)⟩
  · have hall := ha.mp a0
    cases hwk : wk with
    | none =>
      have hu := hu0 hwk
      refine ⟨fun c1 => absurd hu c1, fun c1 y ey => start 0 (fun k hk => ?_) hT1 y ey⟩
      rw [Pi, hall, hwk]
      have b := km_bit (sl := []) (fun s hs => by cases hs) k (by omega)
      rw [if_neg (by simp)] at b
      have b : ((0 : Int32) >>> (Int32.ofNat k &&& 31)) &&& 1 = 0 := b
      rw [b]
      exact ⟨fun z => absurd z (by decide), fun z => by rcases z.2.2 with e | e <;> cases e⟩
    | some v =>
      obtain ⟨hu, hv⟩ := hu1 v hwk
      have hv' := (wi v).mp hv
      refine ⟨fun c1 y ey => start _ (fun k hk => ?_) hT1 y ey, fun c1 => ?_⟩
      · rw [Pi, hall, hwk, hu]
        have b := km_bit (sl := [v]) (fun s hs => by rw [List.mem_singleton.mp hs]; omega) k (by omega)
        have e0 : kmN [v] = (1 : Int32) <<< (Int32.ofNat v &&& 31) := by
          show (0 : Int32) ||| _ = _
          rw [Int32.zero_or]
        rw [e0] at b
        rw [b]
        by_cases ck : k = v
        · rw [if_pos (by rw [ck]; exact List.mem_singleton.mpr rfl), ck]
          exact ⟨fun _ => ⟨hv'.2.1, hv'.2.2, Or.inr rfl⟩, fun _ => rfl⟩
        · rw [if_neg (fun z => ck (List.mem_singleton.mp z))]
          refine ⟨fun z => absurd z (by decide), fun z => ?_⟩
          rcases z.2.2 with e | e
          · cases e
          · exact absurd (Option.some.inj e).symm ck
      · have hv8 : v < 8 := by omega
        have hne : ∀ v, v < 8 → ¬ Int32.ofNat v = -1 := by decide +kernel
        rw [hu] at c1
        exact absurd c1 (hne v hv8)
  · have hall : all = true := by
      cases hb : all with
      | true => rfl
      | false => exact absurd (ha.mpr hb) a1
    rw [Pi, hall]
    have b := km_bit w8 k (by omega)
    rw [b]
    by_cases ck : k ∈ (waM C M L).reverse
    · rw [if_pos ck]
      have := (wi k).mp (List.mem_reverse.mp ck)
      exact ⟨fun _ => ⟨this.2.1, this.2.2, Or.inl rfl⟩, fun _ => rfl⟩
    · rw [if_neg ck]
      exact ⟨fun z => absurd z (by decide), fun z => absurd (List.mem_reverse.mpr ((wi k).mpr ⟨hk, z.1, z.2.1⟩)) ck⟩
theorem i32_1 {a : Int32} : a + 1 = 0 ↔ a = -1 := by
  refine ⟨fun e => ?_, fun e => by rw [e]; decide⟩
  have e2 : a + 1 - 1 = 0 - 1 := by rw [e]
  rw [Int32.add_sub_cancel] at e2
  rw [e2]; decide
/-- call and back -/
theorem kh_call {S : Nat → Prop} (hS : S 4) (hq : kV q) (ho : kiM q o) (hM : MM x o) (hK : CK x C) (hN : NC C) (g : KMm x o C M) (t p : Int32) (et : t.toInt = T) (hT : T < C.2.1.length) (h1 : (M.2.2 T).1 = 1) (ob : (stN C (M.2.2 T).2.2.1).1 = 13 ∨ (stN C (M.2.2 T).2.2.1).1 = 14) (hp : p = Int32.ofNat (stN C (M.2.2 T).2.2.1).1) (hF : ∀ r y, AR S x y o → ((evO (M.2.2 T).2.2.2.2.2.2.2 (Int32.ofNat T) (stN C (M.2.2 T).2.2.1).2.2.2.2.2.2.2.2.1 = none ∧ r = 1 ∧ KMm y o C M) ∨ (∃ e, evO (M.2.2 T).2.2.2.2.2.2.2 (Int32.ofNat T) (stN C (M.2.2 T).2.2.1).2.2.2.2.2.2.2.2.1 = some e ∧ ((r = 8 ∧ (((stN C (M.2.2 T).2.2.1).1 = 13 ∧ ¬ (M.2.2 T).2.2.2.2.2.1 = -1) ∨ ((stN C (M.2.2 T).2.2.1).1 = 14 ∧ (M.2.2 T).2.2.2.2.2.1 = -1)) ∧ KMm y o C M) ∨ (r = 0 ∧ ¬ (((stN C (M.2.2 T).2.2.1).1 = 13 ∧ ¬ (M.2.2 T).2.2.2.2.2.1 = -1) ∨ ((stN C (M.2.2 T).2.2.1).1 = 14 ∧ (M.2.2 T).2.2.2.2.2.1 = -1)) ∧ KMm y o C (upT M T ((M.2.2 T).1, (M.2.2 T).2.1, (M.2.2 T).2.2.1, (M.2.2 T).2.2.2.1, (M.2.2 T).2.2.2.2.1, if (stN C (M.2.2 T).2.2.1).1 = 13 then (stN C (M.2.2 T).2.2.1).2.2.2.2.1 else -1, (M.2.2 T).2.2.2.2.2.2)))))) → F r y) : KT G q (d + 2) zk_X5_doCallOrBack 0 [(0, vr o), (1, vi t), (2, vi (rg x o T 2)), (3, vi p)] [] x (ri F) := by
  have hO := kiM_O ho
  have nT : (x.1 60 10).toInt = C.2.1.length := hK.2.1.1
  have hT6 := MM_6 hM.1 (t := T) (by omega)
  have hA := (hM.2.2 T (by omega)).1
  obtain ⟨b1, b2, b3, b4, -⟩ := MG_b hM.1 hM.2.1
  have gT := g.2 T hT
  obtain ⟨st, s1, s2, s3, s4, s5, kn, ns⟩ := kst_at hM hK hN hT gT
  obtain ⟨v, e, -⟩ := MM_st hM.1 hA
  rw [s3] at e
  rw [s2] at ob hp hF
  have hml := gT.2.2.2.2.2.2.2.2 (Or.inl h1)
  rw [s2] at hml
  obtain ⟨Q, hQ⟩ := ns.2.2.2.2.2.1 (by omega)
  obtain ⟨q1, q2⟩ := ns.2.2.2.2.2.2.2.2.1 Q hQ
  have k88 := kn.2.2.2.2.2.2.2.1
  rw [hQ] at k88 hF
  have k85 := kn.2.2.2.2.1 (by omega)
  have p13 : p = 13 ↔ st.1 = 13 := by
    rw [hp]
    rcases ob with e | e <;> rw [e] <;> decide
  refine kg_X5_doCallOrBack_0 hq ho _ _ _ ⟨v, ?_⟩
  rw [e]
  refine kh_ev hq ho hM hK hT gT _ _ et k88 q1 q2 hml (fun r5 y fy hwk => ?_)
  obtain ⟨hy, ry⟩ := AR_wk (S := S) hO hM fy
  obtain ⟨f6, f9, e13, e9, e8, e7, e10⟩ := sM_e hO hy.2.1
  have gy : KMm y o C M := AR_KM hO hM hK hy (fun j _ => fy _ _ (by unfold sWk; omega)) ry g
  have hKy := CK_M hO hK hy.2.1
  have hAy := (hy.1.2.2 T (by rw [e10]; omega)).1
  have gyT := gy.2 T hT
  have bad : ((st.1 = 13 ∧ ¬ (M.2.2 T).2.2.2.2.2.1 = -1) ∨ (st.1 = 14 ∧ (M.2.2 T).2.2.2.2.2.1 = -1)) ↔ ((¬ rg y o T 6 = 0) ↔ p = 13) := by
    rw [gyT.2.2.2.2.2.1, i32_1, p13]
    rcases ob with e | e
    · rw [e]
      exact ⟨fun z => ⟨fun _ => rfl, fun _ => by rcases z with z | z; exact z.2; exact absurd z.1 (by decide)⟩, fun z => Or.inl ⟨rfl, z.mpr rfl⟩⟩
    · rw [e]
      exact ⟨fun z => ⟨fun c => by rcases z with z | z; exact absurd z.1 (by decide); exact absurd z.2 c, fun c => absurd c (by decide)⟩, fun z => Or.inr ⟨rfl, Decidable.byContradiction (fun c => absurd (z.mp c) (by decide))⟩⟩
  have ev1 : ∀ w, wkQ (M.2.2 T).2.2.2.2.2.2.2 (fun _ => 0) (Int32.ofNat T) Q = w → evO (M.2.2 T).2.2.2.2.2.2.2 (Int32.ofNat T) (some Q) = w := fun w z => z
  rcases hwk with ⟨v9, hw, er, y5⟩ | ⟨hw, y5⟩
  · have p101 : ∀ (n : Int32) (kd : Int32), n = kd + 1 → kd = (if st.1 = 13 then st.2.2.2.2.1 else -1) → ¬ ((st.1 = 13 ∧ ¬ (M.2.2 T).2.2.2.2.2.1 = -1) ∨ (st.1 = 14 ∧ (M.2.2 T).2.2.2.2.2.1 = -1)) → KT G q (d + 2) zk_X5_doCallOrBack 101 [(0, vr o), (4, vi r5)] [vi n, vi 6, vi t, vr o] y (ri F) := by
      intro n kd en ek nb
      refine kg_X5_doCallOrBack_101 hq ho _ _ _ _ (kh_seta (S := S) hq ho hy.1 _ _ _ et (show (6 : Int32).toInt = ((6 : Nat) : Int) from rfl) hT6 (by rw [e8]; omega) (by omega) (fun c => by omega) (fun c => by omega) (fun j _ c => by rw [e9] at c; omega) (fun z hz fz lz gz u eu => ?_))
      obtain ⟨hu, ru⟩ := AR_deed hO hz.1 hS eu
      obtain ⟨-, -, z13, z9, z8, -, -⟩ := sM_e hO hz.2.1
      refine ri_i (hF _ u (AR_tr (AR_tr hy hz) hu) (Or.inr ⟨v9, ev1 _ hw, Or.inr ⟨rfl, nb, ?_⟩⟩))
      have gz1 := KMm_T hO hy.1 hKy hz.2.1 lz (fun t k ht hk => by rw [gz t k hk, if_neg (fun z => ht z.1)]) gy (kTq_k (h' := ((M.2.2 T).1, (M.2.2 T).2.1, (M.2.2 T).2.2.1, (M.2.2 T).2.2.2.1, (M.2.2 T).2.2.2.2.1, kd, (M.2.2 T).2.2.2.2.2.2)) hy.1.1 hy.1.2.1 hAy z13 z9 (fun k => if k = 6 then n else rg y o T k) (fun k hk => by
        rw [gz T k hk]
        by_cases c3 : k = 6
        · rw [if_pos ⟨rfl, c3⟩, if_pos (by omega), if_pos c3]
        · rw [if_neg (fun z => c3 z.2), if_neg c3]; split <;> rfl) gyT rfl gyT.1 gyT.2.1 gyT.2.2.1 gyT.2.2.2.1 gyT.2.2.2.2.1 en gyT.2.2.2.2.2.2.2.2)
      rw [ek] at gz1
      exact AR_KM hO hz.1 (CK_M hO hKy hz.2.1) hu (fun j _ => by rw [eu, si_cell (by omega)]) ru gz1
    have p70 : ∀ a b : Int32, (a = if p = 13 then 1 else 0) → (b = if rg y o T 6 = 0 then 0 else 1) → KT G q (d + 2) zk_X5_doCallOrBack 70 [(0, vr o), (1, vi t), (2, vi (rg x o T 2)), (3, vi p), (4, vi r5)] [vi a, vi b] y (ri F) := fun a b ha hb => by
      have ab : b = a ↔ ((¬ rg y o T 6 = 0) ↔ p = 13) := by
        rw [ha, hb]
        by_cases c1 : p = 13
        · by_cases c2 : rg y o T 6 = 0
          · rw [if_pos c1, if_pos c2]; exact ⟨fun z => absurd z (by decide), fun z => absurd c2 (z.mpr c1)⟩
          · rw [if_pos c1, if_neg c2]; exact ⟨fun _ => ⟨fun _ => c1, fun _ => c2⟩, fun _ => rfl⟩
        · by_cases c2 : rg y o T 6 = 0
          · rw [if_neg c1, if_pos c2]; exact ⟨fun _ => ⟨fun z => absurd c2 z, fun z => absurd z c1⟩, fun _ => rfl⟩
          · rw [if_neg c1, if_neg c2]; exact ⟨fun z => absurd z (by decide), fun z => absurd (z.mp c2) c1⟩
      refine kg_X5_doCallOrBack_70 hq ho _ _ _ _ _ _ ⟨fun nab => ?_, fun eab => ri_i (hF _ y hy (Or.inr ⟨v9, ev1 _ hw, Or.inl ⟨rfl, bad.mpr (ab.mp eab), gy⟩⟩))⟩
      have nb := fun z => nab (ab.mpr (bad.mp z))
      refine ⟨fun c13 => p101 0 (-1) (by decide) (by rw [if_neg (fun z => c13 (p13.mpr z))]) nb, fun c13 => ⟨v, ?_⟩⟩
      rw [e, fy 85 _ (by unfold sWk; omega), k85]
      exact p101 _ st.2.2.2.2.1 rfl (by rw [if_pos (p13.mp c13)]) nb
    have p55 : ∀ b : Int32, (b = if rg y o T 6 = 0 then 0 else 1) → KT G q (d + 2) zk_X5_doCallOrBack 55 [(0, vr o), (1, vi t), (2, vi (rg x o T 2)), (3, vi p), (4, vi r5)] [vi b] y (ri F) := fun b hb => kg_X5_doCallOrBack_55 hq ho _ _ _ _ _ ⟨fun c => p70 _ _ (by rw [if_neg c]) hb, fun c => p70 _ _ (by rw [if_pos c]) hb⟩
    exact ⟨fun _ => kp_get hq ho hy.1.1 hy.1.2.1 _ _ et (show (6 : Int32).toInt = ((6 : Nat) : Int) from rfl) hT6 (by omega) ⟨fun c => p55 _ (by rw [if_pos c]), fun c => p55 _ (by rw [if_neg c])⟩, fun c => absurd y5 c⟩
  · refine ⟨fun c => ?_, fun _ => ri_i (hF _ y hy (Or.inl ⟨ev1 _ hw, rfl, gy⟩))⟩
    rw [y5] at c; exact absurd c (by decide)
end KMW
