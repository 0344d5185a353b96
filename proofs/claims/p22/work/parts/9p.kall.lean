section
/-! the class: all that can be done is tried -/
/-- what stands while states are looked at -/
def XI (x : gd) (q : kP) (o : Nat) : Prop := (CO x ∧ MG x 220) ∧ (TZ x o ∧ TO x q o) ∧ (x.1 o 0).toInt ≤ q.kn ∧ (∀ s : Nat, (s : Int) < (x.1 o 0).toInt → KR x s) ∧ ∀ j : Nat, j < 8192 → 0 ≤ (x.1 205 j).toInt ∧ (x.1 205 j).toInt ≤ (x.1 o 0).toInt
def sQu (o c k : Nat) : Prop := c = 225 ∨ (c = 220 ∧ (k = 13 ∨ k = 14)) ∨ (231 ≤ c ∧ c ≤ 233) ∨ c = 209 ∨ c = 210 ∨ c = 240 ∨ (c = 200 ∧ (k = 5 ∨ k = 6)) ∨ (c = o ∧ (k = 1 ∨ k = 2 ∨ k = 4 ∨ k = 5)) ∨ c = o + 8 ∨ c = o + 9 ∨ (c = 60 ∧ k = 5) ∨ c = 65
def sWd (o c k : Nat) : Prop := sQu o c k ∨ c = o + 7 ∨ (c = o ∧ k = 3) ∨ c = o + 14 ∨ 4000 ≤ c
/-- all that a trying changes -/
def sEx (o c k : Nat) : Prop := (200 ≤ c ∧ c ≤ 259) ∨ (o ≤ c ∧ c ≤ o + 14) ∨ 1000 ≤ c ∨ (c = 60 ∧ k = 5) ∨ c = 65
section KAL
variable {G : kG} {q q0 q1 : kP} {d : Nat} {x x0 y z : gd} {o : Nat} {F : Int32 → gd → Prop} {Fv : gd → Prop} {Fm : gd → kP → Prop} {X : String → gd → kP → Prop}
theorem sWd_C (hO : o = 260 ∨ o = 280) (f : fm (sWd o) x y) : agC x y ∧ agM 220 x y := ⟨fun c k hc => f c k (by unfold sWd sQu; omega), fun k h1 h2 => f _ _ (by unfold sWd sQu; omega)⟩
theorem XI_w (hO : o = 260 ∨ o = 280) (f : fm (sWd o) x y) (hz : TZ y o) (ht : TO y q1 o) (hk : q.kn ≤ q1.kn) (h : XI x q o) (h3 : q.kn ≤ 3000) : XI y q1 o := by
  obtain ⟨⟨hC, hG⟩, -, hn, hr, hb⟩ := h
  obtain ⟨hc, hm⟩ := sWd_C hO f
  have e0 : y.1 o 0 = x.1 o 0 := f o 0 (by unfold sWd sQu; omega)
  refine ⟨⟨CO_fm hC hc, MG_ag hc hm hG⟩, ⟨hz, ht⟩, by rw [e0]; omega, fun s hs => ?_, fun j hj => ?_⟩
  · rw [e0] at hs
    exact KR_ag hc hm (fun k hk => f _ _ (by unfold sWd sQu; omega)) (hr s hs)
  · rw [e0, f 205 j (by unfold sWd sQu; omega)]; exact hb j hj
theorem XI_q (hO : o = 260 ∨ o = 280) (f : fm (sQu o) x y) (h : XI x q o) (h3 : q.kn ≤ 3000) : XI y q o :=
  XI_w hO (fm_w f (fun c k q => Or.inl q)) (TZ_fm f (by unfold sQu; omega) (fun c k hc => by unfold sQu; omega) h.2.1.1) (TO_fm f (by unfold sQu; omega) (fun k => by unfold sQu; omega) h.2.1.2) (Nat.le_refl _) h h3
def sKe (o c k : Nat) : Prop := (c = 200 ∧ (k = 5 ∨ k = 6)) ∨ (c = o ∧ (k = 0 ∨ k = 1)) ∨ (o + 10 ≤ c ∧ c ≤ o + 12) ∨ c = 204 ∨ c = 205 ∨ (1000 ≤ c ∧ c < 4000)
theorem sKe_C (hO : o = 260 ∨ o = 280) (f : fm (sKe o) x y) : agC x y ∧ agM 220 x y := ⟨fun c k hc => f c k (by unfold sKe; omega), fun k h1 h2 => f _ _ (by unfold sKe; omega)⟩
end KAL
end
section
/-! the class: a state is looked at; the trying itself -/
def sVi (o c k : Nat) : Prop := (c = o ∧ (k = 2 ∨ k = 3 ∨ k = 5)) ∨ c = o + 7 ∨ c = o + 14 ∨ 4000 ≤ c ∨ (c = 60 ∧ k = 5) ∨ c = 65
section KTY
variable {G : kG} {q q0 q1 : kP} {d : Nat} {x x0 y z : gd} {o : Nat} {F : Int32 → gd → Prop} {Fv : gd → Prop} {Fm : gd → kP → Prop} {X : String → gd → kP → Prop}
/-- what looking at a state keeps: the machine, what was told of the trying -/
def VI (x0 x : gd) (q : kP) (o : Nat) : Prop := fm (sVi o) x0 x ∧ MM x 220 ∧ TZ x o ∧ TO x q o
theorem VI_st (hO : o = 260 ∨ o = 280) (h : VI x0 x q o) (f : fm (fun c k => (c = o ∧ (k = 2 ∨ k = 5)) ∨ (c = 60 ∧ k = 5) ∨ c = 65) x y) : VI x0 y q o :=
  ⟨fm_tr h.1 (fm_w f (fun c k q => by unfold sVi; omega)), MM_ag (fun c k hc => f c k (by omega)) (fun k h1 h2 => f _ _ (by omega)) (fun k hk => f _ _ (by omega)) h.2.1, TZ_fm f (by omega) (fun c k hc => by omega) h.2.2.1, TO_fm f (by omega) (fun k => by omega) h.2.2.2⟩
theorem VI_fi (hO : o = 260 ∨ o = 280) (h : VI x0 x q o) (f : fm (fun c k => c = o + 7) x y) (hz : TZ y o) : VI x0 y q o :=
  ⟨fm_tr h.1 (fm_w f (fun c k q => by unfold sVi; omega)), MM_ag (fun c k hc => f c k (by omega)) (fun k h1 h2 => f _ _ (by omega)) (fun k hk => f _ _ (by omega)) h.2.1, hz, TO_fm f (by omega) (fun k => by omega) h.2.2.2⟩
theorem VI_ou (hO : o = 260 ∨ o = 280) (h : VI x0 x q o) (f : fm (sOu o) x y) (ht : TO y q1 o) : VI x0 y q1 o :=
  ⟨fm_tr h.1 (fm_w f (fun c k q => by unfold sOu at q; unfold sVi; omega)), MM_ag (fun c k hc => f c k (by unfold sOu; omega)) (fun k h1 h2 => f _ _ (by unfold sOu; omega)) (fun k hk => f _ _ (by unfold sOu; omega)) h.2.1, TZ_fm f (by unfold sOu; omega) (fun c k hc => by unfold sOu; omega) h.2.2.1, ht⟩
theorem VI_0 (hO : o = 260 ∨ o = 280) (h : VI x0 x q o) : x.1 o 0 = x0.1 o 0 ∧ (∀ c k, 60 ≤ c → c < 90 → ¬ (c = 60 ∧ k = 5) → c ≠ 65 → x.1 c k = x0.1 c k) := ⟨h.1 o 0 (by unfold sVi; omega), fun c k h1 h2 h3 h4 => h.1 c k (by unfold sVi; omega)⟩
end KTY
end
section
/-! the class: all states, one after another -/
section KXP
variable {G : kG} {q q0 q1 : kP} {d : Nat} {x x0 y z : gd} {o : Nat} {F : Int32 → gd → Prop} {Fv : gd → Prop} {Fm : gd → kP → Prop} {X : String → gd → kP → Prop}
theorem ex_25 {c k : Nat} (h : c = 225) : sEx o c k := by unfold sEx; omega
theorem ex_Li {c k : Nat} (h : sLi 220 c k) : sEx o c k := by unfold sLi at h; unfold sEx; omega
theorem ex_In {c k : Nat} (h : sIn o c k) : sEx o c k := by unfold sIn at h; unfold sEx; omega
theorem ex_Vi {c k : Nat} (h : sVi o c k) : sEx o c k := by unfold sVi at h; unfold sEx; omega
theorem ex_Mk {c k : Nat} (h : sMk 220 c k) : sEx o c k := by unfold sMk at h; unfold sEx; omega
theorem ex_Ke {c k : Nat} (h : sKe o c k) : sEx o c k := by unfold sKe at h; unfold sEx; omega
theorem ex_Tr {c k : Nat} (h : sTr o c k) : sEx o c k := by unfold sTr at h; unfold sEx; omega
theorem ex_Re {c k : Nat} (h : sRe 220 c k) : sEx o c k := by unfold sRe at h; unfold sEx; omega
theorem qu_25 {c k : Nat} (h : c = 225) : sQu o c k := Or.inl h
theorem qu_Li {c k : Nat} (h : sLi 220 c k) : sQu o c k := by unfold sLi at h; unfold sQu; omega
theorem qu_In {c k : Nat} (h : sIn o c k) : sQu o c k := by unfold sIn at h; unfold sQu; omega
theorem qu_Mk {c k : Nat} (h : sMk 220 c k) : sQu o c k := by unfold sMk at h; unfold sQu; omega
theorem wd_Vi {c k : Nat} (h : sVi o c k) : sWd o c k := by
  unfold sVi at h
  unfold sWd
  rcases h with ⟨h1, h2 | h2 | h2⟩ | h | h | h | h | h
  · exact Or.inl (by unfold sQu; omega)
  · exact Or.inr (Or.inr (Or.inl ⟨h1, h2⟩))
  · exact Or.inl (by unfold sQu; omega)
  · exact Or.inr (Or.inl h)
  · exact Or.inr (Or.inr (Or.inr (Or.inl h)))
  · exact Or.inr (Or.inr (Or.inr (Or.inr h)))
  · exact Or.inl (by unfold sQu; omega)
  · exact Or.inl (by unfold sQu; omega)
theorem c13_25 (f : fm (fun c k => c = 225) x y) : y.1 220 13 = x.1 220 13 := f _ _ (by omega)
theorem c13_In (hO : o = 260 ∨ o = 280) (f : fm (sIn o) x y) : y.1 220 13 = x.1 220 13 := f _ _ (by unfold sIn; omega)
theorem c13_Vi (hO : o = 260 ∨ o = 280) (f : fm (sVi o) x y) : y.1 220 13 = x.1 220 13 := f _ _ (by unfold sVi; omega)
theorem c13_Mk (f : fm (sMk 220) x y) : y.1 220 13 = x.1 220 13 := f _ _ (by unfold sMk; omega)
theorem c13_Ke (hO : o = 260 ∨ o = 280) (f : fm (sKe o) x y) : y.1 220 13 = x.1 220 13 := f _ _ (by unfold sKe; omega)
theorem co0_25 (hO : o = 260 ∨ o = 280) (f : fm (fun c k => c = 225) x y) : y.1 o 0 = x.1 o 0 := f _ _ (by omega)
theorem co0_Li (hO : o = 260 ∨ o = 280) (f : fm (sLi 220) x y) : y.1 o 0 = x.1 o 0 := f _ _ (by unfold sLi; omega)
theorem co0_In (hO : o = 260 ∨ o = 280) (f : fm (sIn o) x y) : y.1 o 0 = x.1 o 0 := f _ _ (by unfold sIn; omega)
end KXP
end
section
/-! the class: the house; what stands between calls -/
def RUN (x : gd) : Prop := MM x 120 ∧ LSk x 120 ∧ JN x
def TRI (x : gd) (q : kP) (o : Nat) : Prop := TO x q o ∧ (x.1 o 0 = 0 ∨ (TZ x o ∧ CO x))
def HOI (x : gd) (q : kP) : Prop := kL x ∧ (¬ x.1 0 9 = 0 → CO x) ∧ (¬ x.1 0 10 = 0 → RUN x) ∧ ∀ o, (o = 260 ∨ o = 280) → TRI x q o ∧ (¬ kiT q o → x.1 o 0 = 0)
/-- what a run changes; what a compiling; what is beside -/
def sRn (c k : Nat) : Prop := (120 ≤ c ∧ c < 180) ∨ (c = 0 ∧ k = 10) ∨ (c = 60 ∧ k = 5) ∨ c = 65
def sCm (c k : Nat) : Prop := (20 ≤ c ∧ c < 120) ∨ c = 0 ∨ ((c = 260 ∨ c = 280) ∧ k = 0)
def sNw (c k : Nat) : Prop := (180 ≤ c ∧ c < 260) ∨ 300 ≤ c
def sFo (c k : Nat) : Prop := (c = 0 ∧ (k = 9 ∨ k = 10)) ∨ ((c = 260 ∨ c = 280) ∧ k = 0)
section KHO
variable {G : kG} {q q0 q1 : kP} {d : Nat} {x x0 y z : gd} {o : Nat} {F : Int32 → gd → Prop} {Fv : gd → Prop} {P : Option gv → gd → Prop} {X : String → gd → Prop}
theorem JN_o (f : ∀ c k, 160 ≤ c → c < 180 → y.1 c k = x.1 c k) (h : JN x) : JN y := by
  unfold JN at h ⊢
  rw [f 160 3 (by omega) (by omega), f 160 2 (by omega) (by omega)]
  refine ⟨h.1, fun a ha => JA_eq (fun c k hc => f c k (by omega) (by omega)) (h.2.1 a ha), fun t ht => ?_⟩
  rw [f 174 t (by omega) (by omega)]; exact h.2.2 t ht
theorem RUN_o (hc : agC x y) (f : ∀ c k, 120 ≤ c → c < 180 → y.1 c k = x.1 c k) (h : RUN x) : RUN y := by
  obtain ⟨h1, h2, h3⟩ := h
  exact ⟨MM_ag hc (fun k a b => f _ _ (by omega) (by omega)) (fun k hk => f _ _ (by omega) (by omega)) h1, LSk_ag h1 hc (fun k a b => f _ _ (by omega) (by omega)) (fun k hk => f _ _ (by omega) (by omega)) (f _ _ (by omega) (by omega)) (fun k => f _ _ (by omega) (by omega)) (fun k => f _ _ (by omega) (by omega)) h2, JN_o (fun c k a b => f c k (by omega) (by omega)) h3⟩
theorem RUN_Lk (f : fm (sLk 120) x y) (h : RUN x) : RUN y := by
  obtain ⟨h1, h2, h3⟩ := h
  have hc : agC x y := fun c k hc => f c k (by unfold sLk; omega)
  have hm : agM 120 x y := fun k a b => f _ _ (by unfold sLk; omega)
  have hr : ∀ k : Nat, (k : Int) < (x.1 120 5).toInt → y.1 (120 + 5) k = x.1 (120 + 5) k := fun k hk => f _ _ (by unfold sLk; omega)
  exact ⟨MM_ag hc hm hr h1, LSk_ag h1 hc hm hr (f _ _ (by unfold sLk; omega)) (fun k => f _ _ (by unfold sLk; omega)) (fun k => f _ _ (by unfold sLk; omega)) h2, JN_o (fun c k a b => f c k (by unfold sLk; omega)) h3⟩
theorem TRI_fm {S : Nat → Nat → Prop} (hO : o = 260 ∨ o = 280) (f : fm S x y) (hc : agC x y) (hS : ∀ c k, 260 ≤ c → c < 300 → ¬ S c k) (h : TRI x q o) : TRI y q o := by
  obtain ⟨h1, h2⟩ := h
  refine ⟨TO_fm f (hS _ _ (by omega) (by omega)) (fun k => hS _ _ (by omega) (by omega)) h1, ?_⟩
  rw [f o 0 (hS _ _ (by omega) (by omega))]
  rcases h2 with e | ⟨a, b⟩
  · exact Or.inl e
  · exact Or.inr ⟨TZ_fm f (hS _ _ (by omega) (by omega)) (fun c k hc => hS _ _ (by omega) (by omega)) a, CO_fm b hc⟩
theorem HOI_run (f : fm sRn x y) (hR : RUN y) (h : HOI x q) : HOI y q := by
  obtain ⟨h1, h2, h3, h4⟩ := h
  have hc : agC x y := fun c k hc => f c k (by unfold sRn; omega)
  refine ⟨?_, fun h9 => ?_, fun _ => hR, fun o hO => ⟨TRI_fm hO f hc (fun c k a b => by unfold sRn; omega) (h4 o hO).1, fun hn => ?_⟩⟩
  · unfold kL at h1 ⊢; rw [f 20 1 (by unfold sRn; omega)]; exact h1
  · rw [f 0 9 (by unfold sRn; omega)] at h9; exact CO_fm (h2 h9) hc
  · rw [f o 0 (by unfold sRn; omega)]; exact (h4 o hO).2 hn
theorem HOI_z (f : fm sCm x y) (hL : kL y) (h9 : ¬ y.1 0 9 = 0 → CO y) (h10 : y.1 0 10 = 0) (hz : ∀ o, kiT q o → y.1 o 0 = 0) (h : HOI x q) (hf : ∀ o, (o = 260 ∨ o = 280) → ¬ kiT q o → y.1 o 0 = x.1 o 0) : HOI y q := by
  refine ⟨hL, h9, fun e => absurd h10 e, fun o hO => ?_⟩
  have z0 : y.1 o 0 = 0 := by
    by_cases e : kiT q o
    · exact hz o e
    · rw [hf o hO e]; exact (h.2.2.2 o hO).2 e
  exact ⟨⟨TO_fm f (by unfold sCm; omega) (fun k => by unfold sCm; omega) (h.2.2.2 o hO).1.1, Or.inl z0⟩, fun _ => z0⟩
theorem HOI_th (h : HOI x q) : HOI x (kTh q) := h
theorem HOI_mk (hl : kle q q1) (hu1 : kU q1) (f : fm sNw x y) (h : HOI x q) : HOI y q1 := by
  obtain ⟨h1, h2, h3, h4⟩ := h
  have hc : agC x y := fun c k hc => f c k (by unfold sNw; omega)
  refine ⟨?_, fun h9 => ?_, fun h10 => ?_, fun o hO => ?_⟩
  · unfold kL at h1 ⊢; rw [f 20 1 (by unfold sNw; omega)]; exact h1
  · rw [f 0 9 (by unfold sNw; omega)] at h9; exact CO_fm (h2 h9) hc
  · rw [f 0 10 (by unfold sNw; omega)] at h10
    exact RUN_o hc (fun c k a b => f c k (by unfold sNw; omega)) (h3 h10)
  · have t := TRI_fm hO f hc (fun c k a b => by unfold sNw; omega) (h4 o hO).1
    refine ⟨⟨TO_le hu1 hl t.1, t.2⟩, fun hn => ?_⟩
    rw [f o 0 (by unfold sNw; omega)]
    exact (h4 o hO).2 (fun e => hn (kle_T hl e))
theorem HOI_ex (hl : kle q q1) (hu1 : kU q1) (ho : kiT q o) (f : fm (sEx o) x y) (hz : TZ y o) (ht : TO y q1 o) (hC : CO x) (h : HOI x q) : HOI y q1 := by
  obtain ⟨h1, h2, h3, h4⟩ := h
  have hO := iT_O ho
  have hc : agC x y := fun c k hc => f c k (by unfold sEx; omega)
  refine ⟨?_, fun h9 => CO_fm hC hc, fun h10 => ?_, fun p hp => ?_⟩
  · unfold kL at h1 ⊢; rw [f 20 1 (by unfold sEx; omega)]; exact h1
  · rw [f 0 10 (by unfold sEx; omega)] at h10
    exact RUN_o hc (fun c k a b => f c k (by unfold sEx; omega)) (h3 h10)
  · by_cases e : p = o
    · subst e
      exact ⟨⟨ht, Or.inr ⟨hz, CO_fm hC hc⟩⟩, fun hn => absurd (kle_T hl ho) hn⟩
    · obtain ⟨⟨t1, t2⟩, t3⟩ := h4 p hp
      have g0 : ∀ k, y.1 p k = x.1 p k := fun k => f p k (by unfold sEx; omega)
      have ff : fm (fun c k => ¬ (p ≤ c ∧ c ≤ p + 14)) x y := fun c k hk => f c k (by unfold sEx; omega)
      refine ⟨⟨TO_le hu1 hl (TO_fm ff (by omega) (fun k => by omega) t1), ?_⟩, fun hn => ?_⟩
      · rw [g0]
        rcases t2 with e2 | ⟨a, b⟩
        · exact Or.inl e2
        · exact Or.inr ⟨TZ_fm ff (by omega) (fun c k hc => by omega) a, CO_fm b hc⟩
      · rw [g0]; exact t3 (fun e3 => hn (kle_T hl e3))
theorem k7_T {n : Nat} (h : (kf q).1 7 n = some o) : kiT q o := by
  have h : kR q 7 n = some o := h
  unfold kR at h
  rw [if_neg (by omega), if_neg (by omega), if_pos rfl] at h
  by_cases e0 : n = 0
  · rw [if_pos e0] at h
    by_cases e : q.t0 = true
    · rw [if_pos e] at h; cases h; exact Or.inl ⟨rfl, e⟩
    · rw [if_neg e] at h; cases h
  · rw [if_neg e0] at h
    by_cases e1 : n = 1
    · rw [if_pos e1] at h
      by_cases e : q.t1 = true
      · rw [if_pos e] at h; cases h; exact Or.inr ⟨rfl, e⟩
      · rw [if_neg e] at h; cases h
    · rw [if_neg e1] at h; cases h
theorem k7_0 (h : (kf q).1 7 0 = none) : ¬ kiT q 260 := by
  intro e
  rcases e with ⟨-, e⟩ | ⟨e, -⟩
  · have h : (if q.t0 = true then some 260 else none) = (none : Option Nat) := h
    rw [if_pos e] at h; cases h
  · omega
theorem k7_1 (h : (kf q).1 7 1 = none) : ¬ kiT q 280 := by
  intro e
  rcases e with ⟨e, -⟩ | ⟨-, e⟩
  · omega
  · have h : (if q.t1 = true then some 280 else none) = (none : Option Nat) := h
    rw [if_pos e] at h; cases h
theorem kz_forget (hq : kV q) (h : ∀ y, fm sFo x y → y.1 0 9 = 0 → y.1 0 10 = 0 → (∀ o, kiT q o → y.1 o 0 = 0) → (∀ o, (o = 260 ∨ o = 280) → ¬ kiT q o → y.1 o 0 = x.1 o 0) → Fv y) : KT G q d zk_X11_forgetAll 0 [(0, vr 0)] [] x (rv Fv) := by
  have k2 : (2 : Int32).toInt = 2 := rfl
  have n0 : (0 : Int32).toNatClampNeg = 0 := rfl
  have n1 : (0 + 1 : Int32).toNatClampNeg = 1 := by decide
  have v0 : vp_in (0 : Int32) 2 := vin0 (by omega)
  have v1 : vp_in (0 + 1 : Int32) 2 := by rw [vp_in_iff]; decide
  refine kg_X11_forgetAll_0 hq (fun x1 e1 x2 e2 => ?_)
  have f2 : fm sFo x x2 := by rw [e2, e1]; exact fm_si (fm_si (fm_rf _ _) (by unfold sFo; omega)) (by unfold sFo; omega)
  have a9 : x2.1 0 9 = 0 := by rw [e2, si_get, if_neg (by omega), e1, si_get, if_pos ⟨rfl, rfl⟩]
  have a10 : x2.1 0 10 = 0 := by rw [e2, si_get, if_pos ⟨rfl, rfl⟩]
  have a26 : x2.1 260 0 = x.1 260 0 := by rw [e2, si_get, if_neg (by omega), e1, si_get, if_neg (by omega)]
  have a28 : x2.1 280 0 = x.1 280 0 := by rw [e2, si_get, if_neg (by omega), e1, si_get, if_neg (by omega)]
  have last : ∀ w : gd, fm sFo x w → w.1 0 9 = 0 → w.1 0 10 = 0 → (∀ o, kiT q o → w.1 o 0 = 0) → (∀ o, (o = 260 ∨ o = 280) → ¬ kiT q o → w.1 o 0 = x.1 o 0) → KT G q d zk_X11_forgetAll 12 [(0, vr 0), (1, vi (0 + 1 + 1))] [] w (rv Fv) := fun w a b c e g => kg_X11_forgetAll_12 hq _ ⟨fun _ => rv_i (h w a b c e g), fun c9 => absurd (by decide) c9⟩
  have second : ∀ w : gd, fm sFo x w → w.1 0 9 = 0 → w.1 0 10 = 0 → (kiT q 260 → w.1 260 0 = 0) → (¬ kiT q 260 → w.1 260 0 = x.1 260 0) → w.1 280 0 = x.1 280 0 → KT G q d zk_X11_forgetAll 12 [(0, vr 0), (1, vi (0 + 1))] [] w (rv Fv) := by
    intro w fw w9 w10 wT wF w8
    refine kg_X11_forgetAll_12 hq _ ⟨fun c9 => absurd c9 (by decide), fun _ => ⟨v1, fun u3 e3 => ?_⟩⟩
    rw [n1] at e3
    rw [n1]
    refine ⟨fun hn => last w fw w9 w10 (fun o ho => ?_) (fun o hO hno => ?_), fun c5 h5 => ⟨v1, fun u7 e7 => ⟨c5, by rw [e7, ← e3, h5], k7_T (by rw [← e3, h5]), fun x10 e10 => ?_⟩⟩⟩
    · rw [hn] at e3
      rcases iT_O ho with e | e
      · subst e; exact wT ho
      · subst e; exact absurd ho (k7_1 e3.symm)
    · rcases hO with e | e
      · subst e; exact wF hno
      · subst e; exact w8
    · have hc5 : c5 = 280 := by
        have : (if q.t1 = true then some 280 else none) = some c5 := by rw [← h5, e3]; rfl
        by_cases e : q.t1 = true
        · rw [if_pos e] at this; cases this; rfl
        · rw [if_neg e] at this; cases this
      subst hc5
      have g : ∀ c k, ¬ (c = 280 ∧ k = 0) → x10.1 c k = w.1 c k := fun c k hc => by rw [e10, si_get, if_neg hc]
      refine last x10 (fm_tr fw (by rw [e10]; exact fm_si (fm_rf _ _) (by unfold sFo; omega))) (by rw [g _ _ (by omega)]; exact w9) (by rw [g _ _ (by omega)]; exact w10) (fun o ho => ?_) (fun o hO hno => ?_)
      · rcases iT_O ho with e | e
        · subst e; rw [g _ _ (by omega)]; exact wT ho
        · subst e; rw [e10, si_get, if_pos ⟨rfl, rfl⟩]
      · rcases hO with e | e
        · subst e; rw [g _ _ (by omega)]; exact wF hno
        · subst e; exact absurd (k7_T (by rw [← e3, h5])) hno
  refine kg_X11_forgetAll_12 hq _ ⟨fun c9 => absurd c9 (by decide), fun _ => ⟨v0, fun u3 e3 => ?_⟩⟩
  rw [n0] at e3
  rw [n0]
  refine ⟨fun hn => second x2 f2 a9 a10 (fun ho => ?_) (fun _ => a26) a28, fun c5 h5 => ⟨v0, fun u7 e7 => ⟨c5, by rw [e7, ← e3, h5], k7_T (by rw [← e3, h5]), fun x10 e10 => ?_⟩⟩⟩
  · rw [hn] at e3; exact absurd ho (k7_0 e3.symm)
  · have hc5 : c5 = 260 := by
      have : (if q.t0 = true then some 260 else none) = some c5 := by rw [← h5, e3]; rfl
      by_cases e : q.t0 = true
      · rw [if_pos e] at this; cases this; rfl
      · rw [if_neg e] at this; cases this
    subst hc5
    have g : ∀ c k, ¬ (c = 260 ∧ k = 0) → x10.1 c k = x2.1 c k := fun c k hc => by rw [e10, si_get, if_neg hc]
    exact second x10 (fm_tr f2 (by rw [e10]; exact fm_si (fm_rf _ _) (by unfold sFo; omega))) (by rw [g _ _ (by omega)]; exact a9) (by rw [g _ _ (by omega)]; exact a10) (fun _ => by rw [e10, si_get, if_pos ⟨rfl, rfl⟩]) (fun hno => absurd (k7_T (by rw [← e3, h5])) hno) (by rw [g _ _ (by omega)]; exact a28)
theorem fo_cm {c k : Nat} (h : sFo c k) : sCm c k := by unfold sFo at h; unfold sCm; omega
/-! what is needed first -/
theorem kz_run (hq : kV q) (hH : HOI x q) (hS : X iSE x) (h : RUN x → Fv x) : KE G q (d + 6) zk_X11_needRun 0 [(0, vr 0)] [] x (rv Fv) X :=
  kg_X11_needRun_0 hq ⟨fun c => rv_i (h (hH.2.2.1 c)), fun _ => hS⟩
theorem kz_way (hq : kV q) (l : Int32) (hA : X iAE x) (h : (l = 0 ∨ l = 1) → Fv x) : KE G q (d + 6) zk_X11_needWay 0 [(0, vi l)] [] x (rv Fv) X := by
  refine kg_X11_needWay_0 hq l ⟨fun _ => kg_X11_needWay_9 hq hA, fun c => ⟨fun c2 => rv_i (h ?_), fun _ => kg_X11_needWay_9 hq hA⟩⟩
  have k0 : (0 : Int32).toInt = 0 := rfl
  have k1 : (1 : Int32).toInt = 1 := rfl
  have k2 : (2 : Int32).toInt = 2 := rfl
  rw [t_lt, k0] at c
  rw [t_lt, k2] at c2
  rw [t_eq, t_eq, k0, k1]; omega
theorem kz_ix (hq : kV q) (l n : Int32) (hO : X iOE x) (h : 0 ≤ l.toInt → l.toInt < n.toInt → Fv x) : KE G q (d + 6) zk_X11_needIndex 0 [(0, vi l), (1, vi n)] [] x (rv Fv) X := by
  refine kg_X11_needIndex_0 hq l n ⟨fun _ => kg_X11_needIndex_9 hq hO, fun c => ⟨fun c2 => rv_i (h ?_ ?_), fun _ => kg_X11_needIndex_9 hq hO⟩⟩
  · have k0 : (0 : Int32).toInt = 0 := rfl
    rw [t_lt, k0] at c; omega
  · rw [t_lt] at c2; exact c2
theorem kz_what (hq : kV q) (l n : Int32) (hO : X iOE x) (h : Fv x) : KE G q (d + 6) zk_X11_needWhat 0 [(0, vi l), (1, vi n)] [] x (rv Fv) X :=
  kg_X11_needWhat_0 hq l n ⟨fun _ => kg_X11_needWhat_9 hq hO, fun _ => ⟨fun _ => rv_i h, fun _ => kg_X11_needWhat_9 hq hO⟩⟩
theorem way_in {l : Int32} (hw : l = 0 ∨ l = 1) : vp_in l 2 := by
  rw [vp_in_iff]
  rcases hw with e | e <;> rw [e] <;> decide
theorem kz_was (hq : kV q) (hH : HOI x q) (l : Int32) (hw : l = 0 ∨ l = 1) (h0 : F 0 x) (h1 : ∀ o, (kf q).1 7 l.toNatClampNeg = some o → kiT q o → TZ x o → TO x q o → CO x → 0 < (x.1 o 0).toInt → F 1 x) : KT G q d zk_X11_wasTried 0 [(0, vr 0), (1, vi l)] [] x (ri F) := by
  have k0 : (0 : Int32).toInt = 0 := rfl
  have v := way_in hw
  refine kg_X11_wasTried_0 hq l ⟨v, fun u2 e2 => ⟨fun _ => ri_i h0, fun c4 h4 => ⟨v, fun u6 e6 => ⟨c4, by rw [e6, ← e2, h4], k7_T (by rw [← e2, h4]), fun _ => ri_i h0, fun c => ri_i ?_⟩⟩⟩⟩
  have ho : kiT q c4 := k7_T (by rw [← e2, h4])
  rw [t_le, k0] at c
  obtain ⟨⟨t1, t2⟩, -⟩ := hH.2.2.2 c4 (iT_O ho)
  rcases t2 with e | ⟨a, b⟩
  · rw [e, k0] at c; omega
  · exact h1 c4 (by rw [← e2, h4]) ho a t1 b (by omega)
end KHO
end
section
/-! the class: begin() -/
section KBF
variable {G : kG} {q : kP} {d : Nat} {x y : gd} {F : Int32 → gd → Prop} {Fv : gd → Prop} {X : String → gd → Prop} {C : gCo}
theorem kf_comp (hq : kV q) (hH : HOI x q) (hS : x.1 0 9 = 0 → X iSE x) (h : ¬ x.1 0 9 = 0 → CO x → Fv x) : KE G q (d + 6) zk_X11_needCompiled 0 [(0, vr 0)] [] x (rv Fv) X :=
  kg_X11_needCompiled_0 hq ⟨fun c => rv_i (h c (hH.2.1 c)), fun c => hS c⟩
theorem kf_way (hq : kV q) (l : Int32) (hA : ¬ (l = 0 ∨ l = 1) → X iAE x) (h : (l = 0 ∨ l = 1) → Fv x) : KE G q (d + 6) zk_X11_needWay 0 [(0, vi l)] [] x (rv Fv) X := by
  have k0 : (0 : Int32).toInt = 0 := rfl
  have k1 : (1 : Int32).toInt = 1 := rfl
  have k2 : (2 : Int32).toInt = 2 := rfl
  refine kg_X11_needWay_0 hq l ⟨fun c => kg_X11_needWay_9 hq (hA (fun z => ?_)), fun c => ⟨fun c2 => rv_i (h ?_), fun c2 => kg_X11_needWay_9 hq (hA (fun z => ?_))⟩⟩
  · rw [t_lt, k0] at c
    rcases z with z | z <;> rw [z] at c
    · rw [k0] at c; omega
    · rw [k1] at c; omega
  · rw [t_lt, k0] at c
    rw [t_lt, k2] at c2
    rw [t_eq, t_eq, k0, k1]
    omega
  · rw [t_lt, k2] at c2
    rcases z with z | z <;> rw [z] at c2
    · rw [k0] at c2; omega
    · rw [k1] at c2; omega
end KBF
end
