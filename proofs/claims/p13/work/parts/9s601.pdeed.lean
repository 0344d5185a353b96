section
/-! what an act does, as it is told afterwards -/
/-- what was read, what was written -/
def dRd (M : gMa) (t s : Nat) (L : Nat × Int32 × Int32 × Int32) : Int32 := if ¬ L.1 = 0 then 0 else if s = 0 then seM M t L.2.1.toNatClampNeg else if s = 2 ∨ s = 3 ∨ s = 4 then M.1 L.2.1.toNatClampNeg else 0
def dWr (M : gMa) (s : Nat) (L : Nat × Int32 × Int32 × Int32) : Int32 := if ¬ L.1 = 0 then 0 else if s = 1 ∨ s = 2 ∨ s = 13 ∨ s = 14 then L.2.2.1 else if s = 3 then M.1 L.2.1.toNatClampNeg + L.2.2.1 else if s = 4 then (if M.1 L.2.1.toNatClampNeg = L.2.2.1 then L.2.2.2 else M.1 L.2.1.toNatClampNeg) else 0
/-- whom it wakes -/
def dWk (C : gCo) (M : gMa) (t : Nat) (wk : Option Nat) (o : Nat) : Bool := decide (o < C.2.1.length) && (decide (soM C (M.2.2 t) = 8) && (decide ((M.2.1 (obM C (M.2.2 t).2.2.1)).1 = t + 1) && ((M.2.2 o).2.2.2.1 == 1 && (obM C (M.2.2 o).2.2.1 == obM C (M.2.2 t).2.2.1 && ((stN C (M.2.2 t).2.2.1).2.2.2.2.2.2.1 || wk == some o)))))
/-- an act: thread, sort, object, read, wrote, whether it failed, whom it woke -/
abbrev gDe := Nat × Nat × Int32 × Int32 × Int32 × Bool × (Nat → Bool)
def deA (C : gCo) (w : Nat) (M : gMa) (t : Nat) (wk : Option Nat) : gDe := (t, soM C (M.2.2 t), (lkM C w M t).2.1, dRd M t (soM C (M.2.2 t)) (lkM C w M t), dWr M (soM C (M.2.2 t)) (lkM C w M t), decide (¬ (lkM C w M t).1 = 0), dWk C M t wk)
theorem jo_nil {a : Nat} {e : gDe} (h : ([] : List gDe)[a]? = some e) : False := by
  rw [List.getElem?_nil] at h
  cases h
/-- what a choice adds to the row of acts -/
def deM (C : gCo) (w : Nat) (M : gMa) (c : gCh) : List gDe := match c.2.1 with
  | some _ => []
  | none => [deA C w M c.1 c.2.2]
section PDE
variable {C : gCo} {w : Nat} {M : gMa} {t s : Nat} {L : Nat × Int32 × Int32 × Int32} {wk : Option Nat}
theorem dr_F (h : ¬ L.1 = 0) : dRd M t s L = 0 := if_pos h
theorem dw_F (h : ¬ L.1 = 0) : dWr M s L = 0 := if_pos h
theorem dr_0 (h : L.1 = 0) : dRd M t 0 L = seM M t L.2.1.toNatClampNeg := by
  unfold dRd
  rw [if_neg (fun z => z h), if_pos rfl]
theorem dr_x (h : L.1 = 0) (hs : s = 2 ∨ s = 3 ∨ s = 4) : dRd M t s L = M.1 L.2.1.toNatClampNeg := by
  unfold dRd
  rw [if_neg (fun z => z h), if_neg (by omega), if_pos hs]
theorem dr_n (hs : ¬ (s = 0 ∨ s = 2 ∨ s = 3 ∨ s = 4)) : dRd M t s L = 0 := by
  unfold dRd
  by_cases h : ¬ L.1 = 0
  · rw [if_pos h]
  · rw [if_neg h, if_neg (by omega), if_neg (by omega)]
theorem dw_e (h : L.1 = 0) (hs : s = 1 ∨ s = 2 ∨ s = 13 ∨ s = 14) : dWr M s L = L.2.2.1 := by
  unfold dWr
  rw [if_neg (fun z => z h), if_pos hs]
theorem dw_3 (h : L.1 = 0) : dWr M 3 L = M.1 L.2.1.toNatClampNeg + L.2.2.1 := by
  unfold dWr
  rw [if_neg (fun z => z h), if_neg (by omega), if_pos rfl]
theorem dw_4 (h : L.1 = 0) : dWr M 4 L = if M.1 L.2.1.toNatClampNeg = L.2.2.1 then L.2.2.2 else M.1 L.2.1.toNatClampNeg := by
  unfold dWr
  rw [if_neg (fun z => z h), if_neg (by omega), if_neg (by omega), if_pos rfl]
theorem dw_n (hs : ¬ (s = 1 ∨ s = 2 ∨ s = 3 ∨ s = 4 ∨ s = 13 ∨ s = 14)) : dWr M s L = 0 := by
  unfold dWr
  by_cases h : ¬ L.1 = 0
  · rw [if_pos h]
  · rw [if_neg h, if_neg (by omega), if_neg (by omega), if_neg (by omega)]
theorem dk_i {o : Nat} : dWk C M t wk o = true ↔ o < C.2.1.length ∧ soM C (M.2.2 t) = 8 ∧ (M.2.1 (obM C (M.2.2 t).2.2.1)).1 = t + 1 ∧ (M.2.2 o).2.2.2.1 = 1 ∧ obM C (M.2.2 o).2.2.1 = obM C (M.2.2 t).2.2.1 ∧ ((stN C (M.2.2 t).2.2.1).2.2.2.2.2.2.1 = true ∨ wk = some o) := by
  unfold dWk
  rw [Bool.and_eq_true, Bool.and_eq_true, Bool.and_eq_true, Bool.and_eq_true, Bool.and_eq_true, Bool.or_eq_true, decide_eq_true_iff, decide_eq_true_iff, decide_eq_true_iff, beq_iff_eq, beq_iff_eq, beq_iff_eq]
end PDE
/-- the model's memory tells an act's doing -/
def deQ (C : gCo) (w : Nat) (M : gMa) (t : Nat) (x : gd) : Prop := x.1 0 88 = (lkM C w M t).2.1 ∧ x.1 0 89 = Int32.ofNat (lkM C w M t).1 ∧ x.1 0 92 = dRd M t (soM C (M.2.2 t)) (lkM C w M t) ∧ x.1 0 93 = dWr M (soM C (M.2.2 t)) (lkM C w M t)
theorem deQ_f {C : gCo} {w t : Nat} {M : gMa} {x y : gd} (e1 : y.1 0 88 = x.1 0 88) (e2 : y.1 0 89 = x.1 0 89) (e3 : y.1 0 92 = x.1 0 92) (e4 : y.1 0 93 = x.1 0 93) (h : deQ C w M t x) : deQ C w M t y := ⟨e1.trans h.1, e2.trans h.2.1, e3.trans h.2.2.1, e4.trans h.2.2.2⟩
end
section
/-! the model: what a thread's own steps leave, wholly -/
/-- which locals are known: the bits of a mask -/
theorem or_sr (a b j : Int32) : ((a ||| b) >>> j) &&& 1 = ((a >>> j) &&& 1) ||| ((b >>> j) &&& 1) := by
  apply Int32.toBitVec_inj.1
  simp only [Int32.toBitVec_and, Int32.toBitVec_or, Int32.toBitVec_shiftRight, BitVec.sshiftRight_eq', BitVec.sshiftRight_or_distrib]
  ext i hi
  simp [Bool.and_or_distrib_right]
theorem km_1 : ∀ s, s < 8 → ∀ k, k < 8 → (((1 : Int32) <<< (Int32.ofNat s &&& 31)) >>> (Int32.ofNat k &&& 31)) &&& 1 = if k = s then 1 else 0 := by decide +kernel
theorem km_0 : ∀ k, k < 8 → ((0 : Int32) >>> (Int32.ofNat k &&& 31)) &&& 1 = 0 := by decide +kernel
theorem km_bit : ∀ {sl : List Nat}, (∀ s ∈ sl, s < 8) → ∀ k, k < 8 → (kmN sl >>> (Int32.ofNat k &&& 31)) &&& 1 = if k ∈ sl then 1 else 0 := by
  intro sl
  induction sl with
  | nil => intro _ k hk; rw [if_neg (by simp)]; exact km_0 k hk
  | cons s r ih =>
    intro h k hk
    rw [kmN, or_sr, ih (fun s hs => h s (List.mem_cons_of_mem _ hs)) k hk, km_1 s (h s List.mem_cons_self) k hk]
    by_cases c1 : k = s
    · rw [if_pos c1, if_pos (show k ∈ s :: r by rw [c1]; exact List.mem_cons_self)]
      by_cases c2 : k ∈ r
      · rw [if_pos c2]; decide
      · rw [if_neg c2]; decide
    · rw [if_neg c1]
      by_cases c2 : k ∈ r
      · rw [if_pos c2, if_pos (List.mem_cons_of_mem _ c2)]; decide
      · rw [if_neg c2, if_neg (fun z => (List.mem_cons.mp z).elim c1 c2)]; decide
def th3 (t : Nat) (x x' : gd) : Prop := md hL hA x x' ∧ (∀ c j : Nat, (c = 73 ∨ c = 74 ∨ c = 75 ∨ c = 77 ∨ c = 78) → ¬ j = t → x'.1 c j = x.1 c j) ∧ ∀ j : Nat, ¬ (8 * t ≤ j ∧ j < 8 * t + 8) → x'.1 76 j = x.1 76 j
theorem th3_th {t : Nat} {x x' : gd} (h : th3 t x x') : th t x x' := ⟨h.1, fun c j hc hj => h.2.1 c j (by omega) hj⟩
theorem th3_rf (t : Nat) (x : gd) : th3 t x x := ⟨md_w (md_rf x) (by decide) (by decide), fun _ _ _ _ => rfl, fun _ _ => rfl⟩
theorem th3_tr {t : Nat} {x y z : gd} (a : th3 t x y) (b : th3 t y z) : th3 t x z := ⟨md_tr a.1 b.1 rfl rfl, fun c j h1 h2 => (b.2.1 c j h1 h2).trans (a.2.1 c j h1 h2), fun j h => (b.2.2 j h).trans (a.2.2 j h)⟩
theorem th3_si {t c : Nat} (h : c ∈ [73, 74, 75, 77, 78]) (x : gd) (v : Int32) : th3 t x (si x c t v) := by
  refine ⟨(th_si h x v).1, fun c' j _ hj => si_ne c' j hj, fun j _ => ?_⟩
  rw [si_cell (fun e => by rw [← e] at h; exact absurd h (by decide))]
theorem th3_md {t : Nat} {L A : List Nat} {x x' : gd} (h : md L A x x') (h1 : L.all (hL.elem ·) = true) (h2 : A.all ([84].elem ·) = true) : th3 t x x' := by
  have g : ∀ k ∈ A, k ∈ [84] := fun k hk => List.elem_iff.mp (List.all_eq_true.mp h2 k hk)
  refine ⟨md_w h (fun k hk => List.elem_iff.mp (List.all_eq_true.mp h1 k hk)) (fun k hk => by have := g k hk; simp at this ⊢; omega), fun c j hc _ => ?_, fun j _ => ?_⟩
  · rw [h.2.1 c (by omega) (fun q => by have := g c q; simp at this; omega)]
  · rw [h.2.1 76 (by decide) (fun q => by have := g 76 q; simp at this)]
theorem th3_76 {t i : Nat} (h : 8 * t ≤ i ∧ i < 8 * t + 8) (x : gd) (v : Int32) : th3 t x (si x 76 i v) := by
  refine ⟨md_w (md_a x 76 i v (by decide)) (fun i hi => nomatch hi) (fun i hi => by rw [List.mem_singleton.mp hi]; decide), fun c j hc _ => ?_, fun j hj => ?_⟩
  · rw [si_cell (by omega)]
  · rw [si_get, if_neg (fun z => hj (by rw [z.2]; exact h))]
section DSL
variable {d : Nat} {S : gS} {x : gd} {F : Int32 → gd → gS → Prop} {Fv : gd → gS → Prop} {C : gCo}
theorem ds_fail3 (t n : Int32) (ht : vp_in t 6) (h : ∀ x', th3 t.toNatClampNeg x x' → x'.1 73 t.toNatClampNeg = 3 → x'.1 74 t.toNatClampNeg = x.1 74 t.toNatClampNeg → x'.1 77 t.toNatClampNeg = 0 → x'.1 75 t.toNatClampNeg = n → x'.1 78 t.toNatClampNeg = 0 → x'.1 76 = x.1 76 → Fv x' S) : MD d z_failThread 0 [(0, vr 0), (1, vi t), (2, vi n)] [] S x (Dv Fv) := by
  refine sd_failThread_0 _ _ ⟨ht, fun x2 e2 => ⟨ht, fun x4 e4 => ⟨ht, fun x6 e6 => ⟨ht, fun x8 e8 => Dv_i (h x8 ?_ ?_ ?_ ?_ ?_ ?_ ?_)⟩⟩⟩⟩
  · rw [e8, e6, e4, e2]
    exact th3_tr (th3_tr (th3_tr (th3_si (by decide) _ _) (th3_si (by decide) _ _)) (th3_si (by decide) _ _)) (th3_si (by decide) _ _)
  · rw [e8, si_cell (by decide), e6, si_cell (by decide), e4, si_cell (by decide), e2, si_get, if_pos ⟨rfl, rfl⟩]
  · rw [e8, si_cell (by decide), e6, si_cell (by decide), e4, si_cell (by decide), e2, si_cell (by decide)]
  · rw [e8, si_cell (by decide), e6, si_get, if_pos ⟨rfl, rfl⟩]
  · rw [e8, si_cell (by decide), e6, si_cell (by decide), e4, si_get, if_pos ⟨rfl, rfl⟩]
  · rw [e8, si_get, if_pos ⟨rfl, rfl⟩]
  · rw [e8, si_cell (by decide), e6, si_cell (by decide), e4, si_cell (by decide), e2, si_cell (by decide)]
theorem ds_clean3 (t : Int32) (ht : vp_in t 6) (ha : 0 ≤ (x.1 74 t.toNatClampNeg).toInt ∧ (x.1 74 t.toNatClampNeg).toInt < 1500) {sl : List Nat} (h8 : ∀ s ∈ sl, s < 8) (hm : x.1 73 t.toNatClampNeg = 1 ∨ x.1 73 t.toNatClampNeg = 3 → x.1 62 (x.1 74 t.toNatClampNeg).toNatClampNeg = kmN sl) (h : ∀ x', th3 t.toNatClampNeg x x' → x'.1 73 = x.1 73 → x'.1 75 = x.1 75 → x'.1 77 = x.1 77 → x'.1 78 = x.1 78 → (¬ (x.1 73 t.toNatClampNeg = 0 ∨ x.1 73 t.toNatClampNeg = 2) → x'.1 74 = x.1 74) → (x.1 73 t.toNatClampNeg = 0 ∨ x.1 73 t.toNatClampNeg = 2 → x'.1 74 t.toNatClampNeg = 0) → (∀ s, s < 8 → x'.1 76 (8 * t.toNatClampNeg + s) = if (x.1 73 t.toNatClampNeg = 1 ∨ x.1 73 t.toNatClampNeg = 3) ∧ s ∈ sl then x.1 76 (8 * t.toNatClampNeg + s) else 0) → Fv x' S) : MD d z_clean 0 [(0, vr 0), (1, vi t)] [] S x (Dv Fv) := by
  have k1 : (1 : Int32).toInt = 1 := rfl
  have k8 : (8 : Int32).toInt = 8 := rfl
  have tv := vp_in_iff.mp ht
  obtain ⟨T, eT⟩ : ∃ T, T = t.toNatClampNeg := ⟨_, rfl⟩
  have tT : t.toInt = (T : Nat) := by rw [eT, t_cl]; omega
  rw [← eT] at ha hm h
  have m1 : (8 * t).toInt = 8 * t.toInt := by rw [t_mul (by rw [k8]; omega) (by rw [k8]; omega), k8]
  have loop : ∀ (n : Nat) (y : gd) (m i : Int32), (∀ s, s < 8 → (¬ (m >>> (Int32.ofNat s &&& 31)) &&& 1 = 0 ↔ (x.1 73 T = 1 ∨ x.1 73 T = 3) ∧ s ∈ sl)) → md [] [76] x y → th3 T x y → 0 ≤ i.toInt → 8 - i.toInt ≤ n → (∀ s, s < 8 → y.1 76 (8 * T + s) = if (s : Int) < i.toInt ∧ ¬ ((x.1 73 T = 1 ∨ x.1 73 T = 3) ∧ s ∈ sl) then 0 else x.1 76 (8 * T + s)) → MD d z_clean 38 [(0, vr 0), (1, vi t), (2, vi m), (3, vi i)] [] S y (Dv Fv) := by
    have last : ∀ y : gd, md [] [76] x y → th3 T x y → (∀ s, s < 8 → y.1 76 (8 * T + s) = if (x.1 73 T = 1 ∨ x.1 73 T = 3) ∧ s ∈ sl then x.1 76 (8 * T + s) else 0) → vp_in t 6 ∧ (((y.1 73 t.toNatClampNeg) = (0 : Int32) → vp_in t 6 ∧ (∀ x5 : gd, x5 = si y 74 t.toNatClampNeg 0 → Dv Fv none x5 S)) ∧ (¬ ((y.1 73 t.toNatClampNeg) = (0 : Int32)) → vp_in t 6 ∧ ((¬ ((y.1 73 t.toNatClampNeg) = (2 : Int32)) → Dv Fv none y S) ∧ ((y.1 73 t.toNatClampNeg) = (2 : Int32) → vp_in t 6 ∧ (∀ x9 : gd, x9 = si y 74 t.toNatClampNeg 0 → Dv Fv none x9 S))))) := by
      intro y my ty hl
      have e73 : y.1 73 = x.1 73 := my.2.1 73 (by decide) (by decide)
      have e74 : y.1 74 = x.1 74 := my.2.1 74 (by decide) (by decide)
      have e75 : y.1 75 = x.1 75 := my.2.1 75 (by decide) (by decide)
      have e77 : y.1 77 = x.1 77 := my.2.1 77 (by decide) (by decide)
      have e78 : y.1 78 = x.1 78 := my.2.1 78 (by decide) (by decide)
      have z0 : x.1 73 T = 0 ∨ x.1 73 T = 2 → ∀ x5 : gd, x5 = si y 74 T 0 → Dv Fv none x5 S := by
        intro q x5 e5
        refine Dv_i (h x5 ?_ ?_ ?_ ?_ ?_ (fun c => absurd q c) (fun _ => ?_) (fun s hs => ?_))
        · rw [e5]; exact th3_tr ty (th3_si (by decide) _ _)
        · rw [e5, si_cell (by decide), e73]
        · rw [e5, si_cell (by decide), e75]
        · rw [e5, si_cell (by decide), e77]
        · rw [e5, si_cell (by decide), e78]
        · rw [e5, si_get, if_pos ⟨rfl, rfl⟩]
        · rw [e5, si_cell (by decide)]; exact hl s hs
      rw [e73, ← eT]
      exact ⟨ht, fun c => ⟨ht, z0 (Or.inl c)⟩, fun c0 => ⟨ht, fun c2 => Dv_i (h y ty e73 e75 e77 e78 (fun _ => e74) (fun c => absurd c (fun z => z.elim c0 c2)) hl), fun c => ⟨ht, z0 (Or.inr c)⟩⟩⟩
    have lastI : ∀ (y : gd) (i : Int32), 8 ≤ i.toInt → (∀ s, s < 8 → y.1 76 (8 * T + s) = if (s : Int) < i.toInt ∧ ¬ ((x.1 73 T = 1 ∨ x.1 73 T = 3) ∧ s ∈ sl) then 0 else x.1 76 (8 * T + s)) → ∀ s, s < 8 → y.1 76 (8 * T + s) = if (x.1 73 T = 1 ∨ x.1 73 T = 3) ∧ s ∈ sl then x.1 76 (8 * T + s) else 0 := fun y i hi hl s hs => by
      rw [hl s hs]
      by_cases c : (x.1 73 T = 1 ∨ x.1 73 T = 3) ∧ s ∈ sl
      · rw [if_pos c, if_neg (fun z => z.2 c)]
      · rw [if_neg c, if_pos ⟨by omega, c⟩]
    intro n
    induction n with
    | zero =>
      intro y m i hb my ty i0 hi hl
      exact sd_clean_38 _ _ _ ⟨fun _ => last y my ty (lastI y i (by omega) hl), fun c => absurd (t_le.mpr (by rw [k8]; omega)) c⟩
    | succ n ih =>
      intro y m i hb my ty i0 hi hl
      refine sd_clean_38 _ _ _ ⟨fun c => last y my ty (lastI y i (by rw [t_le, k8] at c; exact c) hl), fun c => ?_⟩
      rw [t_le, k8] at c
      have i1 : (i + 1).toInt = i.toInt + 1 := by rw [t_add (by omega) (by omega), k1]
      have ei : i = Int32.ofNat i.toInt.toNat := i32_of (by omega)
      have hbi := hb i.toInt.toNat (by omega)
      rw [← ei] at hbi
      have es : (8 * t + i).toNatClampNeg = 8 * T + i.toInt.toNat := by rw [t_cl, t_add (by omega) (by omega), m1]; omega
      refine ⟨fun cb => ih y m (i + 1) hb my ty (by omega) (by omega) (fun s hs => ?_), fun cb => ⟨?_, fun y2 e2 => ?_⟩⟩
      · rw [hl s hs]
        have hB := hbi.mp cb
        by_cases e : s = i.toInt.toNat
        · rw [e, if_neg (fun z => z.2 hB), if_neg (fun z => z.2 hB)]
        · by_cases c9 : (s : Int) < i.toInt
          · by_cases c8 : (x.1 73 T = 1 ∨ x.1 73 T = 3) ∧ s ∈ sl
            · rw [if_neg (fun z => z.2 c8), if_neg (fun z => z.2 c8)]
            · rw [if_pos ⟨c9, c8⟩, if_pos ⟨by omega, c8⟩]
          · rw [if_neg (fun z => c9 z.1), if_neg (fun z => by have := z.1; omega)]
      · rw [vp_in_iff, t_add (by omega) (by omega), m1]; omega
      · rw [es] at e2
        have m2 := md_a y 76 (8 * T + i.toInt.toNat) 0 (by decide)
        rw [← e2] at m2
        have hB : ¬ ((x.1 73 T = 1 ∨ x.1 73 T = 3) ∧ i.toInt.toNat ∈ sl) := fun z => hbi.mpr z cb
        refine ih y2 m (i + 1) hb (md_tr my m2 rfl rfl) (th3_tr ty (by rw [e2]; exact th3_76 (by omega) _ _)) (by omega) (by omega) (fun s hs => ?_)
        rw [e2, si_get]
        by_cases e : s = i.toInt.toNat
        · rw [e, if_pos ⟨rfl, rfl⟩, if_pos ⟨by omega, hB⟩]
        · rw [if_neg (fun z => by have := z.2; omega), hl s hs]
          by_cases c8 : (x.1 73 T = 1 ∨ x.1 73 T = 3) ∧ s ∈ sl
          · rw [if_neg (fun z => z.2 c8), if_neg (fun z => z.2 c8)]
          · by_cases c9 : (s : Int) < i.toInt
            · rw [if_pos ⟨c9, c8⟩, if_pos ⟨by omega, c8⟩]
            · rw [if_neg (fun z => c9 z.1), if_neg (fun z => by have := z.1; omega)]
  have go : ∀ m : Int32, (∀ s, s < 8 → (¬ (m >>> (Int32.ofNat s &&& 31)) &&& 1 = 0 ↔ (x.1 73 T = 1 ∨ x.1 73 T = 3) ∧ s ∈ sl)) → MD d z_clean 38 [(0, vr 0), (1, vi t), (2, vi m), (3, vi 0)] [] S x (Dv Fv) := fun m hb => loop 8 x m 0 hb (md_w (md_rf x) (by decide) (by decide)) (th3_rf T x) (by decide) (by decide) (fun s hs => by
    rw [if_neg (fun z => by have := z.1; rw [show (0 : Int32).toInt = 0 from rfl] at this; omega)])
  have g20 : x.1 73 T = 1 ∨ x.1 73 T = 3 → MD d z_clean 20 [(0, vr 0), (1, vi t)] [] S x (Dv Fv) := fun c => sd_clean_20 _ ⟨ht, by rw [← eT, vp_in_iff]; omega, go _ (fun s hs => by
    rw [← eT, hm c, km_bit h8 s hs]
    by_cases e : s ∈ sl
    · rw [if_pos e]; exact ⟨fun _ => ⟨c, e⟩, fun _ => by decide⟩
    · rw [if_neg e]; exact ⟨fun z => absurd rfl z, fun z => absurd z.2 e⟩)⟩
  refine sd_clean_0 _ ⟨ht, fun c => g20 (by rw [← eT] at c; exact Or.inl c), fun c1 => ⟨ht, fun c3 => go _ (fun s hs => ?_), fun c => g20 (by rw [← eT] at c; exact Or.inr c)⟩⟩
  rw [← eT] at c1 c3
  rw [km_0 s hs]
  exact ⟨fun z => absurd rfl z, fun z => absurd z.1 (fun q => q.elim c1 c3)⟩
end DSL
end
section
/-! the model: a thread's own steps, wholly -/
/-- known locals stand in their slots, the others are 0 -/
def mLv (y : gd) (C : gCo) (T u s : Nat) (lv : Nat → Int32) : Prop := ((u = 1 ∨ u = 3) → ∀ p, p < (stN C s).2.1.length → y.1 76 (8 * T + slN (stN C s).2.1 p) = lv p) ∧ ∀ k, k < 8 → ¬ ((u = 1 ∨ u = 3) ∧ k ∈ (stN C s).2.1) → y.1 76 (8 * T + k) = 0
/-- what its own steps left of a thread -/
def owM (y : gd) (C : gCo) (T : Nat) (r : gTr) : Prop := y.1 73 T = Int32.ofNat r.1 ∧ (r.1 = 1 ∨ r.1 = 2 ∨ r.1 = 3) ∧ y.1 75 T = Int32.ofNat r.2.1 ∧ (y.1 74 T).toInt = (r.2.2.1 : Nat) ∧ mLv y C T r.1 r.2.2.1 r.2.2.2 ∧ (¬ r.1 = 2 → ∃ st, C.1[r.2.2.1]? = some st)
def q0 (z : gd) (T : Nat) : Prop := z.1 77 T = 0 ∧ z.1 78 T = 0 ∧ z.1 75 T = 0
theorem q0_si {z : gd} {T c k : Nat} {v : Int32} (h : c ≠ 77 ∧ c ≠ 78 ∧ c ≠ 75) (q : q0 z T) : q0 (si z c k v) T := by
  unfold q0
  rw [si_cell (fun e => h.1 e.symm), si_cell (fun e => h.2.1 e.symm), si_cell (fun e => h.2.2 e.symm)]
  exact q
def finP (C : gCo) (y : gd) (T : Nat) (r : gTr) : Prop := y.1 73 T = Int32.ofNat r.1 ∧ (r.1 = 1 ∨ r.1 = 2 ∨ r.1 = 3) ∧ y.1 75 T = Int32.ofNat r.2.1 ∧ (r.1 = 2 → r.2.2.1 = 0) ∧ (¬ r.1 = 2 → (y.1 74 T).toInt = (r.2.2.1 : Nat) ∧ ∃ st, C.1[r.2.2.1]? = some st ∧ ∀ p, p < st.2.1.length → y.1 76 (8 * T + slN st.2.1 p) = r.2.2.2 p)
theorem stN_is {C : gCo} {s : Nat} {st : gNs} (h : C.1[s]? = some st) : stN C s = st := by
  unfold stN
  rw [h]; rfl
section DOG
variable {d : Nat} {S : gS} {x : gd} {F : Int32 → gd → gS → Prop} {Fv : gd → gS → Prop} {C : gCo}
theorem ds_own3 (t : Int32) (ht : vp_in t 6) (cp : CP x) (ha : 0 ≤ (x.1 74 t.toNatClampNeg).toInt ∧ (x.1 74 t.toNatClampNeg).toInt < 1500) (h1 : x.1 73 t.toNatClampNeg = 1 → (x.1 74 t.toNatClampNeg).toInt < (x.1 0 52).toInt) (hw : q0 x t.toNatClampNeg) (hK : MK x C) (hN : NC C) (hg : x.1 73 t.toNatClampNeg = 1) {st0 : gNs} {lv0 : Nat → Int32} (hst0 : C.1[(x.1 74 t.toNatClampNeg).toNatClampNeg]? = some st0) (hlv0 : ∀ p, p < st0.2.1.length → x.1 76 (8 * t.toNatClampNeg + slN st0.2.1 p) = lv0 p) (h : ∀ x' S', th3 t.toNatClampNeg x x' → ssub S S' → ra x' t.toNatClampNeg → x'.1 77 t.toNatClampNeg = 0 → x'.1 78 t.toNatClampNeg = 0 → owM x' C t.toNatClampNeg (owR C (Int32.ofNat t.toNatClampNeg) (x.1 74 t.toNatClampNeg).toNatClampNeg lv0) → Fv x' S') : MD (d + 3) z_own 0 [(0, vr 0), (1, vi t)] [] S x (Dv Fv) := by
  obtain ⟨T, eT⟩ : ∃ T, T = t.toNatClampNeg := ⟨_, rfl⟩
  rw [← eT] at ha h1 hw h hg hst0 hlv0
  have k1 : (1 : Int32).toInt = 1 := rfl
  have k8 : (8 : Int32).toInt = 8 := rfl
  have k300 : (300 : Int32).toInt = 300 := rfl
  have tv := vp_in_iff.mp ht
  have tT : t = Int32.ofNat T := i32_of (by rw [eT, t_cl]; omega)
  have tTi : t.toInt = (T : Nat) := by rw [eT, t_cl]; omega
  obtain ⟨G0, eG0⟩ : ∃ G0 : gTr → Prop, G0 = fun r => ∃ n, setP C (Int32.ofNat T) n 0 (x.1 74 T).toNatClampNeg lv0 = some r := ⟨_, rfl⟩
  obtain ⟨J, eJ⟩ : ∃ J : Int32 → gd → Prop, J = fun m y => (y.1 73 T = 1 ∧ ∃ st lv, C.1[(y.1 74 T).toNatClampNeg]? = some st ∧ (∀ p, p < st.2.1.length → y.1 76 (8 * T + slN st.2.1 p) = lv p) ∧ ∀ r, (∃ n, setP C (Int32.ofNat T) n m.toInt.toNat (y.1 74 T).toNatClampNeg lv = some r) → G0 r) ∨ (¬ y.1 73 T = 1 ∧ ∃ r, G0 r ∧ finP C y T r) := ⟨_, rfl⟩
  have noJ : ∀ {m : Int32} {y : gd}, ¬ y.1 73 T = 1 → J m y → ∃ r, G0 r ∧ finP C y T r := fun {m y} hn hJ => by
    rw [eJ] at hJ
    rcases hJ with ⟨c, -⟩ | ⟨-, c⟩
    · exact absurd c hn
    · exact c
  obtain ⟨_, ⟨j1, j2, j3, j4, j5, _⟩, _⟩ := id cp
  -- the loop's state
  let I : gd → gS → Prop := fun y S1 => th3 T x y ∧ ssub S S1 ∧ (0 ≤ (y.1 74 T).toInt ∧ (y.1 74 T).toInt < 1500) ∧ (y.1 73 T = 1 → (y.1 74 T).toInt < (x.1 0 52).toInt) ∧ y.1 77 T = 0 ∧ y.1 78 T = 0 ∧ (y.1 73 T = 1 → y.1 75 T = 0)
  have out : ∀ (y : gd) (S1 : gS), I y S1 → (y.1 73 T = 1 → y.1 54 (y.1 74 T).toNatClampNeg = 6) → (∃ r, G0 r ∧ finP C y T r) → MD (d + 3) z_own 264 [(0, vr 0), (1, vi t)] [] S1 y (Dv Fv) := by
    intro y S1 iy q6 hfin
    obtain ⟨i1, i2, i3, i4, i5⟩ := iy
    obtain ⟨r, hr, f1, f3, f5, f2, fn⟩ := hfin
    rw [eG0] at hr
    obtain ⟨n, hn⟩ := hr
    have hr := owR_is hn
    have hsl : ∃ sl : List Nat, (∀ k ∈ sl, k < 8) ∧ (y.1 73 T = 1 ∨ y.1 73 T = 3 → y.1 62 (y.1 74 T).toNatClampNeg = kmN sl) ∧ (¬ r.1 = 2 → sl = (stN C r.2.2.1).2.1) := by
      by_cases c2 : r.1 = 2
      · refine ⟨[], (fun k hk => nomatch hk), fun c => ?_, fun c => absurd c2 c⟩
        rw [f1, c2] at c
        exact absurd c (by decide)
      · obtain ⟨g1, st, g2, g3⟩ := fn c2
        have ns := hN.1 _ st g2
        obtain ⟨-, pm, p8⟩ := ns.2.2.2.2.1
        obtain ⟨-, -, -, -, -, -, -, -, h62⟩ := hK.1.2 _ st g2
        refine ⟨st.2.1, fun k hk => by have := pm k hk; omega, fun _ => ?_, fun _ => by rw [stN_is g2]⟩
        rw [i1.1.2.1 62 (by decide) (by decide), show (y.1 74 T).toNatClampNeg = r.2.2.1 by rw [t_cl, g1]; rfl]
        exact h62
    obtain ⟨sl, sl8, slm, slr⟩ := hsl
    have st3 : ∀ v : Nat, v = 1 ∨ v = 2 ∨ v = 3 → ((Int32.ofNat v = 1 ∨ Int32.ofNat v = 3) ↔ (v = 1 ∨ v = 3)) ∧ ((Int32.ofNat v = 0 ∨ Int32.ofNat v = 2) ↔ v = 2) := by
      intro v hv
      rcases hv with e | e | e <;> rw [e] <;> decide
    obtain ⟨s13, s02⟩ := st3 r.1 f3
    rw [← f1] at s13 s02
    refine sd_own_264 _ (ds_clean3 t ht (by rw [← eT]; exact i3) sl8 (by rw [← eT]; exact slm) (fun z tz e73 e75 e77 e78 e74 e74' e76 => Dv_i (h z S1 ?_ i2 ?_ ?_ ?_ ?_)))
    · rw [← eT] at tz; exact th3_tr i1 tz
    · rw [← eT] at e74 e74' tz
      have f52 : z.1 0 52 = x.1 0 52 := by rw [tz.1.1 52 (by decide), i1.1.1 52 (by decide)]
      have f54 : z.1 54 = y.1 54 := tz.1.2.1 54 (by decide) (by decide)
      by_cases c : y.1 73 T = 0 ∨ y.1 73 T = 2
      · have e := e74' c
        refine ⟨by rw [e]; decide, by rw [e]; decide, fun q => ?_⟩
        rw [e73] at q
        rw [q] at c
        exact absurd c (by decide)
      · have e := e74 c
        refine ⟨by rw [e]; exact i3.1, by rw [e]; exact i3.2, fun q => ?_⟩
        rw [e73] at q
        rw [e, f52, f54]
        exact ⟨i4 q, q6 q⟩
    · rw [e77]; exact i5.1
    · rw [e78]; exact i5.2.1
    · rw [← eT] at e74 e74' e76
      rw [hr]
      refine ⟨by rw [e73]; exact f1, f3, by rw [e75]; exact f5, ?_, ⟨fun c p hp => ?_, fun k hk c => ?_⟩, fun c => ?_⟩
      · by_cases c : r.1 = 2
        · rw [e74' (s02.mpr c), f2 c]; rfl
        · rw [e74 (fun z => c (s02.mp z))]; exact (fn c).1
      · have c2 : ¬ r.1 = 2 := by omega
        obtain ⟨g1, st, g2, g3⟩ := fn c2
        have es := slr c2
        rw [stN_is g2] at es hp ⊢
        have hm := slN_mem hp
        rw [e76 _ (sl8 _ (by rw [es]; exact hm)), if_pos ⟨s13.mpr c, by rw [es]; exact hm⟩]
        exact g3 p hp
      · rw [e76 k hk, if_neg (fun z => c ⟨s13.mp z.1, by rw [← slr (by have := s13.mp z.1; omega)]; exact z.2⟩)]
      · obtain ⟨-, st, g2, -⟩ := fn c
        exact ⟨st, g2⟩
  have loop : ∀ (n : Nat) (y : gd) (S1 : gS) (m : Int32), I y S1 → 0 ≤ m.toInt → m.toInt ≤ 300 → (y.1 73 T = 1 → (300 - m.toInt) * 3001 + gg x (y.1 74 T) + 1 ≤ n) → J m y → MD (d + 3) z_own 2 [(0, vr 0), (1, vi t), (2, vi m)] [] S1 y (Dv Fv) := by
    have gone : ∀ (y : gd) (S1 : gS) (m : Int32), I y S1 → ¬ y.1 73 T = 1 → (∃ r, G0 r ∧ finP C y T r) → MD (d + 3) z_own 2 [(0, vr 0), (1, vi t), (2, vi m)] [] S1 y (Dv Fv) := by
      intro y S1 m iy ne hfin
      refine sd_own_2 _ _ ⟨ht, fun _ => out y S1 iy (fun q => absurd q ne) hfin, fun q => ?_⟩
      rw [← eT] at q
      exact absurd q ne
    intro n
    induction n with
    | zero =>
      intro y S1 m iy m0 m3 hm hJ
      by_cases q : y.1 73 T = 1
      · have := hm q
        have g0 : 0 ≤ gg x (y.1 74 T) := by
          unfold gg
          have := iy.2.2.1
          split <;> omega
        omega
      · exact gone y S1 m iy q (noJ q hJ)
    | succ n ih =>
      intro y S1 m iy m0 m3 hm hJ
      by_cases q : y.1 73 T = 1
      rotate_left
      · exact gone y S1 m iy q (noJ q hJ)
      have hm := hm q
      obtain ⟨i1, i2, i3, i4, i5⟩ := id iy
      have q5 : q0 y T := ⟨i5.1, i5.2.1, i5.2.2 q⟩
      obtain ⟨st, lv, hst, hlv, lift⟩ : ∃ st lv, C.1[(y.1 74 T).toNatClampNeg]? = some st ∧ (∀ p, p < st.2.1.length → y.1 76 (8 * T + slN st.2.1 p) = lv p) ∧ ∀ r, (∃ n, setP C (Int32.ofNat T) n m.toInt.toNat (y.1 74 T).toNatClampNeg lv = some r) → G0 r := by
        rw [eJ] at hJ
        rcases hJ with ⟨-, c⟩ | ⟨c, -⟩
        · exact c
        · exact absurd q c
      clear hJ
      obtain ⟨k, ek⟩ : ∃ k, k = y.1 74 T := ⟨_, rfl⟩
      rw [← ek] at hm i3 i4 hst lift
      have kv : vp_in k 1500 := by rw [vp_in_iff]; omega
      have kl := i4 q
      have ck := cl_i i3.1
      have f : ∀ c : Nat, c ≠ 0 → c ∉ hA → y.1 c = x.1 c := fun c c0 hc => i1.1.2.1 c c0 hc
      have f54 := f 54 (by decide) (by decide)
      have f59 := f 59 (by decide) (by decide)
      have f61 := f 61 (by decide) (by decide)
      obtain ⟨so, sc2, sc3⟩ := j5 k.toNatClampNeg (by omega)
      obtain ⟨wa, we, wf, sv, go⟩ := so
      have cpy : CP y := CP_th (th3_th i1) cp
      have ns := hN.1 _ st hst
      have n22 := ns.1.1
      obtain ⟨h54, -, -, -, -, h59, -, h61, -⟩ := hK.1.2 _ st hst
      obtain ⟨w6, w3, w5, w0, w2, w1⟩ := mWh_i st.1 n22
      rw [← h54] at w6 w3 w5 w0 w2 w1
      have l52 : (x.1 0 52).toInt = C.1.length := hK.1.1
      have len : ∀ {j : Nat} {s9 : gNs}, C.1[j]? = some s9 → (Int32.ofNat j).toInt = (j : Nat) ∧ (Int32.ofNat j).toNatClampNeg = j := fun {j s9} hj => by
        have := gt_lt hj
        have e9 : (Int32.ofNat j).toInt = (j : Nat) := Int32.toInt_ofNat_of_lt (by omega)
        exact ⟨e9, by rw [t_cl, e9]; rfl⟩
      -- it goes on at a step
      have onJ : ∀ (m' a : Int32) (n2 : Nat) (z2 : gd) (st' : gNs) (lv2 : Nat → Int32) (l9 : List Nat), z2.1 73 T = 1 → z2.1 74 T = a → a.toNatClampNeg = n2 → C.1[n2]? = some st' → st'.2.1 <:+ l9 → (∀ p, p < l9.length → z2.1 76 (8 * T + slN l9 p) = lv2 p) → (∀ r, (∃ n, setP C (Int32.ofNat T) n m'.toInt.toNat n2 lv2 = some r) → G0 r) → J m' z2 := fun m' a n2 z2 st' lv2 l9 z3 z4 ea hs' hsf hl9 hlift => by
        rw [eJ]
        refine Or.inl ⟨z3, st', lv2, by rw [z4, ea]; exact hs', fun p hp => ?_, fun r hr => hlift r (by rw [z4, ea] at hr; exact hr)⟩
        rw [slN_suf hsf hp]
        exact hl9 p (by have := hsf.length_le; omega)
      -- at goes to a step
      have to : ∀ (z : gd) (S2 : gS) (m' a : Int32) (z2 : gd), th3 T x z → ssub S S2 → q0 z T → z2 = si z 74 T a → 0 ≤ a.toInt → a.toInt < (x.1 0 52).toInt → 0 ≤ m'.toInt → m'.toInt ≤ 300 → (300 - m'.toInt) * 3001 + gg x a + 1 ≤ n → J m' z2 → MD (d + 3) z_own 2 [(0, vr 0), (1, vi t), (2, vi m')] [] S2 z2 (Dv Fv) := by
        intro z S2 m' a z2 tz s2 w0 e2 a0 a1 m1 m2 hg hJ2
        have ea : z2.1 74 T = a := by rw [e2, si_get, if_pos ⟨rfl, rfl⟩]
        have tz2 : th3 T x z2 := by rw [e2]; exact th3_tr tz (th3_si (by decide) _ _)
        refine ih z2 S2 m' ⟨tz2, s2, by rw [ea]; exact ⟨a0, by omega⟩, fun _ => by rw [ea]; exact a1, by rw [e2, si_cell (by decide)]; exact w0.1, by rw [e2, si_cell (by decide)]; exact w0.2.1, fun _ => by rw [e2, si_cell (by decide)]; exact w0.2.2⟩ m1 m2 (fun _ => by rw [ea]; exact hg) hJ2
      -- the thread ends
      have fin : ∀ (z : gd) (S2 : gS) (m' : Int32) (z2 : gd), th3 T x z → ssub S S2 → q0 z T → z.1 74 T = k → z2 = si z 73 T 2 → G0 (2, 0, 0, lv) → MD (d + 3) z_own 2 [(0, vr 0), (1, vi t), (2, vi m')] [] S2 z2 (Dv Fv) := by
        intro z S2 m' z2 tz s2 w0 e74 e2 hG
        have tz2 : th3 T x z2 := by rw [e2]; exact th3_tr tz (th3_si (by decide) _ _)
        have e73 : z2.1 73 T = 2 := by rw [e2, si_get, if_pos ⟨rfl, rfl⟩]
        refine gone z2 S2 m' ⟨tz2, s2, by rw [e2, si_cell (by decide), e74]; exact i3, fun q => by rw [e73] at q; exact absurd q (by decide), by rw [e2, si_cell (by decide)]; exact w0.1, by rw [e2, si_cell (by decide)]; exact w0.2.1, fun q => by rw [e73] at q; exact absurd q (by decide)⟩ (by rw [e73]; decide) ⟨_, hG, e73, Or.inr (Or.inl rfl), by rw [e2, si_cell (by decide)]; exact w0.2.2, fun _ => rfl, fun c => absurd rfl c⟩
      have fail : ∀ (z : gd) (S2 : gS) (m' n' : Int32), th3 T x z → ssub S S2 → z.1 74 T = k → z.1 76 = y.1 76 → (∃ j, n' = Int32.ofNat j ∧ G0 (3, j, k.toNatClampNeg, lv)) → MD (d + 2) z_failThread 0 [(0, vr 0), (1, vi t), (2, vi n')] [] S2 z (Dv (fun z2 S3 => MD (d + 3) z_own 2 [(0, vr 0), (1, vi t), (2, vi m')] [] S3 z2 (Dv Fv))) := by
        intro z S2 m' n' tz s2 e74 z76 hG
        refine ds_fail3 t n' ht (fun z2 t2 e3 e4 e7 e5 e8 e6 => ?_)
        rw [← eT] at t2 e3 e4 e7 e5 e8
        exact gone z2 S2 m' ⟨th3_tr tz t2, s2, by rw [e4, e74]; exact i3, fun q => by rw [e3] at q; exact absurd q (by decide), e7, e8, fun q => by rw [e3] at q; exact absurd q (by decide)⟩ (by rw [e3]; decide) (by
          obtain ⟨j, ej, hG⟩ := hG
          exact ⟨_, hG, e3, Or.inr (Or.inr rfl), e5.trans ej, fun c => absurd c (by show ¬ 3 = 2; decide), fun _ => ⟨by rw [e4, e74]; exact ck.symm, st, hst, fun p hp => by rw [e6, z76]; exact hlv p hp⟩⟩)
      have g0 : ∀ a : Int32, 0 ≤ a.toInt → a.toInt < 1500 → 0 ≤ gg x a ∧ gg x a ≤ 1501 := fun a a0 a1 => by
        unfold gg
        split <;> omega
      have nx : ¬ x.1 54 k.toNatClampNeg = 5 → (k + 1).toInt = k.toInt + 1 ∧ k.toInt + 1 < (x.1 0 52).toInt := fun ne => by
        have := sc3.resolve_left ne
        exact ⟨by rw [t_add (by omega) (by omega), k1], by omega⟩
      have p153 : ¬ x.1 54 k.toNatClampNeg = 3 → ¬ x.1 54 k.toNatClampNeg = 5 → ¬ x.1 54 k.toNatClampNeg = 6 → ∀ (z : gd) (S2 : gS) (m' v : Int32), th3 T x z → ssub S S2 → q0 z T → z.1 74 T = k → 0 ≤ m'.toInt → m'.toInt ≤ 300 → m'.toInt = m.toInt + 1 → z.1 73 T = 1 → z.1 76 = y.1 76 → (st.1 = 19 ∨ ∃ Q, st.2.2.2.2.2.2.2.2.1 = some Q ∧ wkQ lv (fun _ => 0) (Int32.ofNat T) Q = some v) → MD (d + 3) z_own 153 [(0, vr 0), (1, vi t), (2, vi m'), (3, vi k), (4, vi (x.1 54 k.toNatClampNeg)), (5, vi v)] [] S2 z (Dv Fv) := by
        intro n3 n5 n6 z S2 m' v tz s2 z77 e74 m1 m2 em z73 z76 hv
        obtain ⟨nx1, nx2⟩ := nx n5
        have o16 : ¬ st.1 < 16 := fun z => n6 (w6.mpr z)
        have o20 : ¬ st.1 = 20 := fun z => n3 (w3.mpr z)
        have o21 : ¬ st.1 = 21 := fun z => n5 (w5.mpr z)
        have c2 : ¬ (st.1 < 20 ∧ 300 ≤ m.toInt.toNat) := by omega
        have eown : (if st.1 < 20 then m.toInt.toNat + 1 else m.toInt.toNat) = m'.toInt.toNat := by rw [if_pos (by omega)]; omega
        have ow : ¬ st.1 = 19 → ow1 (Int32.ofNat T) k.toNatClampNeg st lv = (if st.1 = 18 ∧ v = 0 then .inl (3, 5, k.toNatClampNeg, lv) else .inr (if st.1 = 17 ∧ v = 0 then st.2.2.2.1.getD 0 else k.toNatClampNeg + 1, if st.1 = 16 then fup lv (st.2.2.2.1.getD 0) v else lv)) := fun n19 => by
          rcases hv with hv | ⟨Q, hQ, hv⟩
          · exact absurd hv n19
          · unfold ow1
            rw [if_neg (by omega), if_neg o20, hQ]
            show (match wkQ lv (fun _ => 0) (Int32.ofNat T) Q with | none => _ | some v => _) = _
            rw [hv]
        have goR : ∀ {s2 : Nat} {lv2 : Nat → Int32}, ow1 (Int32.ofNat T) k.toNatClampNeg st lv = .inr (s2, lv2) → ∀ r, (∃ n, setP C (Int32.ofNat T) n m'.toInt.toNat s2 lv2 = some r) → G0 r := fun {s2 lv2} how r hr => by
          obtain ⟨n9, hn9⟩ := hr
          refine lift r ⟨n9 + 1, ?_⟩
          rw [set_r hst o16 c2 how, eown]
          exact hn9
        have nxt : ∃ st', C.1[k.toNatClampNeg + 1]? = some st' ∧ st'.2.1 <:+ aftN st := ns.2.1 (by omega)
        have ek1 : (k + 1).toNatClampNeg = k.toNatClampNeg + 1 := by rw [t_cl]; omega
        have lz : ∀ p, p < st.2.1.length → z.1 76 (8 * T + slN st.2.1 p) = lv p := fun p hp => by rw [z76]; exact hlv p hp
        have ean : ¬ st.1 = 16 → aftN st = st.2.1 := fun n16 => if_neg (fun z => by omega)
        have fz61 : z.1 61 = x.1 61 := tz.1.2.1 61 (by decide) (by decide)
        have gk : gg x k = 0 := by unfold gg; rw [if_neg n3]
        have me : ∀ a : Int32, 0 ≤ a.toInt → a.toInt < 1500 → (300 - m'.toInt) * 3001 + gg x a + 1 ≤ n := fun a a0 a1 => by
          have := (g0 a a0 a1).2
          rw [gk] at hm
          omega
        refine sd_own_153 _ _ _ _ _ ⟨fun ne0 => ⟨fun ne2 => ⟨fun ne1 => ⟨ht, fun z2 e2 => ?_⟩, fun e1 => ⟨fun nv => ⟨ht, ht, fun z2 e2 => ?_⟩, fun v0 => fail z S2 m' _ tz s2 e74 z76 ⟨5, rfl, lift _ ⟨1, set_l hst o16 c2 ?_⟩⟩⟩⟩, fun e2 => ⟨fun v0 => ⟨kv, ht, fun z2 e3 => ?_⟩, fun nv => ⟨ht, fun z2 e3 => ?_⟩⟩⟩, fun e0 => ⟨kv, ?_, fun z2 e2 => ⟨ht, ht, fun z3 e3 => ?_⟩⟩⟩
        · rw [← eT] at e2
          have s19 : st.1 = 19 := by
            have a1 : ¬ st.1 = 16 := fun z => ne0 (w0.mpr z)
            have a2 : ¬ st.1 = 17 := fun z => ne2 (w2.mpr z)
            have a3 : ¬ st.1 = 18 := fun z => ne1 (w1.mpr z)
            omega
          refine fin z S2 m' z2 tz s2 z77 e74 e2 (lift _ ⟨1, set_l hst o16 c2 ?_⟩)
          unfold ow1
          rw [if_pos (Or.inl s19)]
        · rw [← eT, e74] at e2
          have s18 : st.1 = 18 := w1.mp e1
          have how : ow1 (Int32.ofNat T) k.toNatClampNeg st lv = .inr (k.toNatClampNeg + 1, lv) := by rw [ow (by omega), if_neg (fun z => nv z.2), if_neg (by omega), if_neg (by omega)]
          obtain ⟨st', hs', hsf⟩ := nxt
          rw [ean (by omega)] at hsf
          refine to z S2 m' (k + 1) z2 tz s2 z77 e2 (by omega) (by omega) m1 m2 (me _ (by omega) (by omega)) (onJ m' (k + 1) _ z2 st' lv st.2.1 (by rw [e2, si_cell (by decide)]; exact z73) (by rw [e2, si_get, if_pos ⟨rfl, rfl⟩]) ek1 hs' hsf (fun p hp => by rw [e2, si_cell (by decide)]; exact lz p hp) (goR how))
        · have s18 : st.1 = 18 := w1.mp e1
          rw [ow (by omega), if_pos ⟨s18, v0⟩]
        · have tw := sc2 (Or.inl e2)
          have s17 : st.1 = 17 := w2.mp e2
          obtain ⟨n2, st', hto, hs', hsf⟩ := ns.2.2.1 (Or.inl s17)
          have h61' : x.1 61 k.toNatClampNeg = Int32.ofNat n2 := by
            rw [h61]
            unfold mNt
            rw [hto]
            show (if st.1 = 17 ∨ st.1 = 20 then Int32.ofNat n2 else _) = _
            rw [if_pos (Or.inl s17)]
          obtain ⟨l1, l2⟩ := len hs'
          have t0 : 0 ≤ (x.1 61 k.toNatClampNeg).toInt := by rw [h61', l1]; omega
          rw [← eT, fz61] at e3
          have how : ow1 (Int32.ofNat T) k.toNatClampNeg st lv = .inr (n2, lv) := by rw [ow (by omega), if_neg (fun z => by omega), if_pos ⟨s17, v0⟩, if_neg (by omega), hto]; rfl
          refine to z S2 m' _ z2 tz s2 z77 e3 t0 tw m1 m2 (me _ t0 (by omega)) (onJ m' _ n2 z2 st' lv st.2.1 (by rw [e3, si_cell (by decide)]; exact z73) (by rw [e3, si_get, if_pos ⟨rfl, rfl⟩]) (by rw [h61']; exact l2) hs' hsf (fun p hp => by rw [e3, si_cell (by decide)]; exact lz p hp) (goR how))
        · rw [← eT] at e3
          have s17 : st.1 = 17 := w2.mp e2
          have how : ow1 (Int32.ofNat T) k.toNatClampNeg st lv = .inr (k.toNatClampNeg + 1, lv) := by rw [ow (by omega), if_neg (fun z => by omega), if_neg (fun z => nv z.2), if_neg (by omega)]
          obtain ⟨st', hs', hsf⟩ := nxt
          rw [ean (by omega)] at hsf
          refine to z S2 m' (k + 1) z2 tz s2 z77 e3 (by omega) (by omega) m1 m2 (me _ (by omega) (by omega)) (onJ m' (k + 1) _ z2 st' lv st.2.1 (by rw [e3, si_cell (by decide)]; exact z73) (by rw [e3, si_get, if_pos ⟨rfl, rfl⟩]) ek1 hs' hsf (fun p hp => by rw [e3, si_cell (by decide)]; exact lz p hp) (goR how))
        · rw [fz61]
          have s8 : 0 ≤ (x.1 61 k.toNatClampNeg).toInt ∧ (x.1 61 k.toNatClampNeg).toInt < 8 := by
            rcases sv with ⟨_, s⟩ | s | ⟨s, _⟩ | s | s | ⟨s, _⟩
            · exact s
            · rw [s] at e0; exact absurd e0 (by decide)
            · rw [e0] at s; exact absurd s (by decide)
            · rw [s] at e0; exact absurd e0 (by decide)
            · rw [s] at e0; exact absurd e0 (by decide)
            · rw [s] at e0; exact absurd e0 (by decide)
          have m9 : (8 * t).toInt = 8 * t.toInt := by rw [t_mul (by rw [k8]; omega) (by rw [k8]; omega), k8]
          rw [vp_in_iff, t_add (by omega) (by omega), m9]; omega
        · have m9 := md_a z 76 (8 * t + z.1 61 k.toNatClampNeg).toNatClampNeg v (by decide)
          rw [← e2] at m9
          rw [← eT, show z2.1 74 T = k by rw [m9.2.1 74 (by decide) (by decide)]; exact e74] at e3
          have s16 : st.1 = 16 := w0.mp e0
          obtain ⟨p, hto, hp⟩ := ns.2.2.2.1 (Or.inr (Or.inr s16))
          obtain ⟨pw, pm, p8⟩ := ns.2.2.2.2.1
          have how : ow1 (Int32.ofNat T) k.toNatClampNeg st lv = .inr (k.toNatClampNeg + 1, fup lv p v) := by rw [ow (by omega), if_neg (fun z => by omega), if_neg (fun z => by omega), if_pos s16, hto]; rfl
          obtain ⟨st', hs', hsf⟩ := nxt
          -- the slot that is set
          have ap : (aftN st).Pairwise (fun a b => b < a) ∧ (∀ s ∈ aftN st, s < 8) ∧ p < (aftN st).length ∧ x.1 61 k.toNatClampNeg = Int32.ofNat (slN (aftN st) p) ∧ ∀ j, j < (aftN st).length → ¬ j = p → j < st.2.1.length ∧ slN (aftN st) j = slN st.2.1 j := by
            have h61' : x.1 61 k.toNatClampNeg = Int32.ofNat (if p = st.2.1.length then st.2.2.1 else slN st.2.1 p) := by
              rw [h61]
              unfold mNt
              rw [hto]
              show (if st.1 = 17 ∨ st.1 = 20 then _ else Int32.ofNat (if p = st.2.1.length then st.2.2.1 else slN st.2.1 p)) = _
              rw [if_neg (by omega)]
            rcases hp with hp | ⟨hp, hp8⟩
            · have ea : aftN st = st.2.1 := if_neg (fun z => by rw [hto] at z; have := Option.some.inj z.2; omega)
              rw [ea]
              refine ⟨pw, fun s hs => by have := pm s hs; omega, hp, by rw [h61', if_neg (by omega)], fun j hj _ => ⟨hj, rfl⟩⟩
            · have ea : aftN st = st.2.2.1 :: st.2.1 := if_pos ⟨Or.inr (Or.inr s16), by rw [hto, hp]⟩
              rw [ea]
              refine ⟨List.Pairwise.cons pm pw, fun s hs => ?_, by rw [hp]; exact Nat.lt_succ_self _, ?_, fun j hj hne => ?_⟩
              · rcases List.mem_cons.mp hs with e | hs
                · rw [e]; exact hp8
                · have := pm s hs; omega
              · rw [h61', if_pos hp]
                show _ = Int32.ofNat (if p = st.2.1.length then st.2.2.1 else slN st.2.1 p)
                rw [if_pos hp]
              · have hj : j < st.2.1.length + 1 := hj
                refine ⟨by omega, ?_⟩
                show (if j = st.2.1.length then st.2.2.1 else slN st.2.1 j) = _
                rw [if_neg (by omega)]
          obtain ⟨apw, ap8, app, ap61, apj⟩ := ap
          have sl8 := ap8 _ (slN_mem app)
          have ei : (8 * t + z.1 61 k.toNatClampNeg).toNatClampNeg = 8 * T + slN (aftN st) p := by
            have m8 : (8 * t).toInt = 8 * t.toInt := by rw [t_mul (by rw [k8]; omega) (by rw [k8]; omega), k8]
            have eo : (Int32.ofNat (slN (aftN st) p)).toInt = (slN (aftN st) p : Nat) := Int32.toInt_ofNat_of_lt (by omega)
            rw [fz61, ap61, t_cl, t_add (by omega) (by omega), m8, eo, tTi]
            omega
          rw [ei] at e2
          have t2 : th3 T x z2 := th3_tr tz (by rw [e2]; exact th3_76 (by omega) _ _)
          refine to z2 S2 m' (k + 1) z3 t2 s2 (by rw [e2]; exact q0_si (by decide) z77) e3 (by omega) (by omega) m1 m2 (me _ (by omega) (by omega)) (onJ m' (k + 1) _ z3 st' (fup lv p v) (aftN st) (by rw [e3, si_cell (by decide), m9.2.1 73 (by decide) (by decide)]; exact z73) (by rw [e3, si_get, if_pos ⟨rfl, rfl⟩]) ek1 hs' hsf (fun j hj => ?_) (goR how))
          rw [e3, si_cell (by decide), e2, si_get]
          unfold fup
          by_cases c : j = p
          · rw [c, if_pos ⟨rfl, rfl⟩, if_pos rfl]
          · obtain ⟨j1', j2'⟩ := apj j hj c
            rw [if_neg (fun z => c (slN_inj apw hj app (by have := z.2; omega))), if_neg c, j2']
            exact lz j j1'
      have ne19 : st.1 = 19 → ¬ ¬ x.1 59 k.toNatClampNeg = -1 := fun c19 nn => by
        have e1 := ns.2.2.2.2.2.2.2.2.2.2 (by omega)
        rw [e1] at h59
        exact nn h59
      have p125 : ¬ x.1 54 k.toNatClampNeg = 3 → ¬ x.1 54 k.toNatClampNeg = 5 → ¬ x.1 54 k.toNatClampNeg = 6 → ∀ (z : gd) (S2 : gS) (m' v : Int32), th3 T x z → ssub S S2 → q0 z T → z.1 74 T = k → 0 ≤ m'.toInt → m'.toInt ≤ 300 → m'.toInt = m.toInt + 1 → z.1 73 T = 1 → z.1 76 = y.1 76 → (x.1 59 k.toNatClampNeg = -1 → st.1 = 19) → (¬ x.1 59 k.toNatClampNeg = -1 → S2 0 82 ∧ ∃ Q, st.2.2.2.2.2.2.2.2.1 = some Q ∧ wkM z (wkQ lv (fun _ => 0) (Int32.ofNat T) Q) v) → MD (d + 3) z_own 125 [(0, vr 0), (1, vi t), (2, vi m'), (3, vi k), (4, vi (x.1 54 k.toNatClampNeg))] [vi v] S2 z (Dv Fv) := by
        intro n3 n5 n6 z S2 m' v tz s2 z77 e74 m1 m2 em z73 z76 hno hyes
        have o16 : ¬ st.1 < 16 := fun z => n6 (w6.mpr z)
        have o20 : ¬ st.1 = 20 := fun z => n3 (w3.mpr z)
        have o21 : ¬ st.1 = 21 := fun z => n5 (w5.mpr z)
        have fz59 : z.1 59 = x.1 59 := tz.1.2.1 59 (by decide) (by decide)
        refine sd_own_125 _ _ _ _ _ ⟨kv, ?_⟩
        rw [fz59]
        refine ⟨fun e => p153 n3 n5 n6 z S2 m' v tz s2 z77 e74 m1 m2 em z73 z76 (Or.inl (hno e)), fun ne => ⟨(hyes ne).1, fun c => ?_, fun c => ?_⟩⟩
        · obtain ⟨-, Q, hQ, hw⟩ := hyes ne
          rcases hw with ⟨v9, hw, er, -⟩ | ⟨-, e82⟩
          · exact p153 n3 n5 n6 z S2 m' v tz s2 z77 e74 m1 m2 em z73 z76 (Or.inr ⟨Q, hQ, by rw [er]; exact hw⟩)
          · rw [e82] at c; exact absurd c (by decide)
        · obtain ⟨-, Q, hQ, hw⟩ := hyes ne
          rcases hw with ⟨v9, hw, er, e82⟩ | ⟨hw, -⟩
          · rw [e82] at c; exact absurd (by decide) c
          · refine fail z S2 m' _ tz s2 e74 z76 ⟨1, rfl, lift _ ⟨1, set_l hst o16 (by omega) ?_⟩⟩
            by_cases c19 : st.1 = 19
            · exfalso
              exact ne19 c19 ne
            unfold ow1
            rw [if_neg (by omega), if_neg o20, hQ]
            show (match wkQ lv (fun _ => 0) (Int32.ofNat T) Q with | none => _ | some v => _) = _
            rw [hw]
      refine sd_own_2 _ _ ⟨ht, fun c => ?_, fun _ => ⟨ht, ?_⟩⟩
      · rw [← eT] at c; exact absurd q c
      rw [← eT, ← ek]
      refine ⟨kv, fun c6 => out y S1 iy (fun _ => by rw [← ek]; exact c6) ⟨(1, 0, k.toNatClampNeg, lv), lift _ ⟨1, set_act hst (w6.mp (by rw [← f54]; exact c6))⟩, q, Or.inl rfl, q5.2.2, fun c => absurd c (by show ¬ 1 = 2; decide), fun _ => ⟨by rw [← ek]; exact ck.symm, st, hst, hlv⟩⟩, fun c6 => ⟨ht, kv, ?_⟩⟩
      rw [f54] at c6
      rw [f54]
      refine ⟨fun n3 => ⟨fun n5 => ?_, fun e5 => ⟨ht, fun z2 e2 => fin y S1 m z2 i1 i2 q5 ek.symm e2 (lift _ ⟨1, set_l hst (fun z => c6 (w6.mpr z)) (fun z => by have := w5.mp e5; omega) (by unfold ow1; rw [if_pos (Or.inr (w5.mp e5))])⟩)⟩⟩, fun e3 => ⟨kv, ht, fun z2 e2 => ?_⟩⟩
      · have mi : (m + 1).toInt = m.toInt + 1 := by rw [t_add (by omega) (by omega), k1]
        refine ⟨fun c3 => ⟨kv, ?_⟩, fun c3 => fail y S1 (m + 1) _ i1 i2 ek.symm rfl ⟨6, rfl, lift _ ⟨1, set_6 hst (fun z => c6 (w6.mpr z)) ⟨?_, ?_⟩⟩⟩⟩
        rotate_left
        · have a1 : ¬ st.1 = 20 := fun z => n3 (w3.mpr z)
          have a2 : ¬ st.1 = 21 := fun z => n5 (w5.mpr z)
          omega
        · rw [t_le, k300] at c3
          omega
        rw [t_le, k300] at c3
        have a0 : ¬ st.1 < 16 := fun z => c6 (w6.mpr z)
        have a1 : ¬ st.1 = 20 := fun z => n3 (w3.mpr z)
        have a2 : ¬ st.1 = 21 := fun z => n5 (w5.mpr z)
        rw [f59]
        refine ⟨fun ne => ⟨kv, ?_⟩, fun e59 => p125 n3 n5 c6 y S1 (m + 1) 0 i1 i2 q5 ek.symm (by omega) (by omega) mi q rfl (fun _ => ?_) (fun z => absurd e59 z)⟩
        · have n19 : ¬ st.1 = 19 := fun c => ne19 c ne
          obtain ⟨Q, hQ⟩ := ns.2.2.2.2.2.1 (by omega)
          obtain ⟨q1, q2⟩ := ns.2.2.2.2.2.2.2.2.1 Q hQ
          obtain ⟨pw, pm, p8⟩ := ns.2.2.2.2.1
          rw [hQ] at h59
          have h59 : SUm x (x.1 59 k.toNatClampNeg) (Q.map (mQp st.2.1)) := h59
          have f49 : y.1 0 49 = x.1 0 49 := i1.1.1 49 (by decide)
          refine ds_workedf (lv := lv) (cv := fun _ => 0) (SUm_f h59 f49 (f 51 (by decide) (by decide)) (f 52 (by decide) (by decide))) (by rw [f49]; omega) q1 (fun p hp => ?_) (fun r z S2 mz s2 s82 hwk => ?_)
          · obtain ⟨b1, b2, b3⟩ := q2 p hp
            refine ⟨b1, fun c => ?_, fun c => absurd c b3⟩
            have pl := b2 c
            have sm := pm _ (slN_mem pl)
            have m8 : (8 * t).toInt = 8 * t.toInt := by rw [t_mul (by rw [k8]; omega) (by rw [k8]; omega), k8]
            have eo : (Int32.ofNat (slN st.2.1 p.2.1)).toInt = (slN st.2.1 p.2.1 : Nat) := Int32.toInt_ofNat_of_lt (by omega)
            have es : (8 * t + Int32.ofNat (slN st.2.1 p.2.1)).toInt = 8 * t.toInt + (slN st.2.1 p.2.1 : Nat) := by rw [t_add (by omega) (by omega), m8, eo]
            refine ⟨by rw [vp_in_iff, es]; omega, ?_⟩
            have ei : (8 * t + Int32.ofNat (slN st.2.1 p.2.1)).toNatClampNeg = 8 * T + slN st.2.1 p.2.1 := by rw [t_cl, es, tTi]; omega
            rw [ei]
            exact hlv _ pl
          · rw [tT] at hwk
            exact p125 n3 n5 c6 z S2 (m + 1) r (th3_tr i1 (th3_md mz rfl rfl)) (ssub_tr i2 s2) (by unfold q0; rw [mz.2.1 77 (by decide) (by decide), mz.2.1 78 (by decide) (by decide), mz.2.1 75 (by decide) (by decide)]; exact q5) (by rw [mz.2.1 74 (by decide) (by decide)]; exact ek.symm) (by omega) (by omega) mi (by rw [mz.2.1 73 (by decide) (by decide)]; exact q) (mz.2.1 76 (by decide) (by decide)) (fun z => absurd z ne) (fun _ => ⟨s82, Q, hQ, hwk⟩)
        · by_cases n19 : st.1 = 19
          · exact n19
          · exfalso
            obtain ⟨Q, hQ⟩ := ns.2.2.2.2.2.1 (by omega)
            rw [hQ] at h59
            have h59 : SUm x (x.1 59 k.toNatClampNeg) (Q.map (mQp st.2.1)) := h59
            have := h59.1
            rw [e59] at this
            exact absurd this (by decide)
      · rw [f61] at e2
        have gk : gg x k = 1501 - k.toInt := by unfold gg; rw [if_pos e3]
        have tw := sc2 (Or.inr e3)
        have s20 : st.1 = 20 := w3.mp e3
        obtain ⟨n2, st', hto, hs', hsf⟩ := ns.2.2.1 (Or.inr s20)
        have h61' : x.1 61 k.toNatClampNeg = Int32.ofNat n2 := by
          rw [h61]
          unfold mNt
          rw [hto]
          show (if st.1 = 17 ∨ st.1 = 20 then Int32.ofNat n2 else _) = _
          rw [if_pos (Or.inr s20)]
        obtain ⟨l1, l2⟩ := len hs'
        have t0 : 0 ≤ (x.1 61 k.toNatClampNeg).toInt := by rw [h61', l1]; omega
        have how : ow1 (Int32.ofNat T) k.toNatClampNeg st lv = .inr (n2, lv) := by
          unfold ow1
          rw [if_neg (by omega), if_pos s20, hto]
          rfl
        refine to y S1 m _ z2 i1 i2 q5 e2 t0 tw m0 m3 ?_ (onJ m _ n2 z2 st' lv st.2.1 (by rw [e2, si_cell (by decide)]; exact q) (by rw [e2, si_get, if_pos ⟨rfl, rfl⟩]) (by rw [h61']; exact l2) hs' hsf (fun p hp => by rw [e2, si_cell (by decide)]; exact hlv p hp) (fun r hr => ?_))
        rotate_left
        · obtain ⟨n9, hn9⟩ := hr
          refine lift r ⟨n9 + 1, ?_⟩
          rw [set_r hst (by omega) (by omega) how, if_neg (by omega)]
          exact hn9
        rcases go e3 with g | ⟨_, _, g⟩
        · have : gg x (x.1 61 k.toNatClampNeg) ≤ 1501 - (x.1 61 k.toNatClampNeg).toInt := by
            unfold gg
            split <;> omega
          omega
        · have : gg x (x.1 61 k.toNatClampNeg) = 0 := by
            unfold gg
            rw [if_neg (by rw [g]; decide)]
          omega
  refine sd_own_0 _ (loop ((300 - 0) * 3001 + gg x (x.1 74 T) + 1).toNat x S 0 ⟨th3_rf T x, ssub_rf S, ha, h1, hw.1, hw.2.1, fun _ => hw.2.2⟩ (by decide) (by decide) (fun _ => Int.self_le_toNat _) ?_)
  rw [eJ]
  refine Or.inl ⟨hg, st0, lv0, hst0, hlv0, fun r hr => ?_⟩
  rw [eG0]
  exact hr
end DOG
end
section
/-! the model's memory against the machine; an act looked at -/
def mLt (y : gd) (t : Nat) (l : List (Nat × Int32)) : Prop := (y.1 80 t).toInt = (l.length : Nat) ∧ ∀ j q, l[j]? = some q → y.1 81 (10 * t + j) = Int32.ofNat q.1 ∧ y.1 82 (10 * t + j) = q.2 ∧ q.1 < 24
def mTq (y : gd) (C : gCo) (t : Nat) (h : gTq) : Prop := y.1 73 t = Int32.ofNat h.1 ∧ h.1 ≤ 3 ∧ y.1 75 t = Int32.ofNat h.2.1 ∧ (y.1 74 t).toInt = (h.2.2.1 : Nat) ∧ y.1 77 t = Int32.ofNat h.2.2.2.1 ∧ h.2.2.2.1 ≤ 2 ∧ y.1 78 t = h.2.2.2.2.1 ∧ y.1 79 t = h.2.2.2.2.2.1 ∧ mLt y t h.2.2.2.2.2.2.1 ∧ mLv y C t h.1 h.2.2.1 h.2.2.2.2.2.2.2
def MM1 (y : gd) (C : gCo) (M : gMa) : Prop := (∀ c, c < 24 → y.1 70 c = M.1 c) ∧ (∀ l, l < 6 → y.1 71 l = Int32.ofNat (M.2.1 l).1 - 1 ∧ (M.2.1 l).1 ≤ 6 ∧ y.1 72 l = (M.2.1 l).2) ∧ ∀ t, t < 6 → mTq y C t (M.2.2 t)
theorem hol_t : ∀ h, h < 7 → ∀ t, t < 6 → (Int32.ofNat h - 1 = Int32.ofNat t ↔ h = t + 1) := by decide +kernel
theorem sta_0 : ∀ h, h < 4 → (Int32.ofNat h = 0 ↔ h = 0) := by decide +kernel
theorem wai_2 : ∀ h, h < 3 → (Int32.ofNat h = 2 ↔ h = 2) ∧ (Int32.ofNat h = 1 ↔ h = 1) ∧ (Int32.ofNat h = 0 ↔ h = 0) := by decide +kernel
theorem op_16 : ∀ h, h < 16 → (Int32.ofNat h).toInt = (h : Nat) := by decide +kernel
def lkQ (y : gd) (L : Nat × Int32 × Int32 × Int32) : Prop := y.1 0 89 = Int32.ofNat L.1 ∧ y.1 0 88 = L.2.1 ∧ (L.1 = 0 → y.1 0 90 = L.2.2.1 ∧ y.1 0 91 = L.2.2.2)
section DLK
variable {d : Nat} {S : gS} {x : gd} {F : Int32 → gd → gS → Prop} {Fv : gd → gS → Prop} {C : gCo} {M : gMa} {w : Nat}
theorem ds_look3 (t : Int32) (ht : vp_in t 6) (ri : RI x S) (h1 : x.1 73 t.toNatClampNeg = 1) (hw1 : ¬ x.1 77 t.toNatClampNeg = 1) (hK : MK x C) (hN : NC C) (hX : NXc C) (hM : MM1 x C M) (wy : x.1 0 68 = Int32.ofNat w) (w01 : w = 0 ∨ w = 1) (h : ∀ x' S', md [82, 88, 89, 90, 91] [84] x x' → ssub S S' → lkS S' → lkP x x' t.toNatClampNeg → lkQ x' (lkM C w M t.toNatClampNeg) → Fv x' S') : MD (d + 3) z_lookAt 0 [(0, vr 0), (1, vi t)] [] S x (Dv Fv) := by
  have k0 : (0 : Int32).toInt = 0 := rfl
  obtain ⟨kv, _, so, av⟩ := RI_step ri (vt ht) h1
  obtain ⟨s1, s2, s3⟩ := srt_of ri (vt ht) h1
  have w6 : (x.1 0 49).toInt ≤ 6000 := by have := ri.1.2.1.2.2.2.1; omega
  unfold lkP at h
  have tv := vp_in_iff.mp ht
  have k8 : (8 : Int32).toInt = 8 := rfl
  obtain ⟨T, eT⟩ : ∃ T, T = t.toNatClampNeg := ⟨_, rfl⟩
  have hT : T < 6 := by rw [eT]; exact vt ht
  have tT : t = Int32.ofNat T := i32_of (by rw [eT, t_cl]; omega)
  have tTi : t.toInt = (T : Nat) := by rw [eT, t_cl]; omega
  rw [← eT] at h h1 hw1 s1 s2 s3 kv so av
  obtain ⟨m73, l73, m75, m74, m77, l77, m78, m79, mlt, mlv⟩ := hM.2.2 T hT
  obtain ⟨k, ek⟩ : ∃ k, k = x.1 74 T := ⟨_, rfl⟩
  rw [← ek] at kv av s1 s2 s3 so h m74
  obtain ⟨s, es⟩ : ∃ s, s = srt x T := ⟨_, rfl⟩
  rw [← es] at s1 s2 s3 h
  -- the step of the code
  have l52 : (x.1 0 52).toInt = C.1.length := hK.1.1
  have kst : k.toNatClampNeg = (M.2.2 T).2.2.1 := by rw [t_cl, m74]; rfl
  have kl : (M.2.2 T).2.2.1 < C.1.length := by
    have := (RI_step ri hT h1).2.1
    rw [← ek, m74] at this
    omega
  obtain ⟨st, hst⟩ : ∃ st, C.1[(M.2.2 T).2.2.1]? = some st := ⟨_, List.getElem?_eq_getElem kl⟩
  have esN := stN_is hst
  obtain ⟨g54, g55, g56, g57, g58, g59, g60, -, -⟩ := hK.1.2 _ st hst
  have ns := hN.1 _ st hst
  obtain ⟨nx1, nx2, nx3, nx4, -, nx5⟩ := hX _ st hst
  rw [← kst] at g54 g55 g56 g57 g58 g59 g60
  have o16 : st.1 < 16 := by
    have a := ((ri.2 T hT).1.2.2 h1).2
    rw [← ek, g54] at a
    exact (mWh_i st.1 ns.1.1).1.mp a
  have g55 := g55 o16
  have sta1 : (M.2.2 T).1 = 1 := by
    have : Int32.ofNat (M.2.2 T).1 = 1 := by rw [← m73]; exact h1
    have a := (M.2.2 T).1
    rcases (show (M.2.2 T).1 = 0 ∨ (M.2.2 T).1 = 1 ∨ (M.2.2 T).1 = 2 ∨ (M.2.2 T).1 = 3 by omega) with e | e | e | e <;> rw [e] at this ⊢ <;> first | rfl | exact absurd this (by decide)
  have lv : ∀ p, p < st.2.1.length → x.1 76 (8 * T + slN st.2.1 p) = (M.2.2 T).2.2.2.2.2.2.2 p := by
    have a := mlv.1 (Or.inl sta1)
    rw [esN] at a
    exact a
  have w2 : ¬ s = 15 → (M.2.2 T).2.2.2.1 = 0 ∧ s = Int32.ofNat st.1 := fun n15 => by
    obtain ⟨b2, b1, b0⟩ := wai_2 _ (show (M.2.2 T).2.2.2.1 < 3 by omega)
    rw [← m77] at b2 b1 b0
    have c2 : ¬ x.1 77 T = 2 := fun z => n15 (by rw [es]; unfold srt; rw [if_pos z])
    refine ⟨?_, by rw [es]; unfold srt; rw [if_neg c2, ← ek]; exact g55⟩
    have a1 : ¬ (M.2.2 T).2.2.2.1 = 2 := fun z => c2 (b2.mpr z)
    have a2 : ¬ (M.2.2 T).2.2.2.1 = 1 := fun z => hw1 (b1.mpr z)
    omega
  have w15 : s = 15 → ¬ (M.2.2 T).2.2.2.1 = 0 := fun e15 z => by
    have : s = Int32.ofNat st.1 := by
      rw [es]; unfold srt
      rw [if_neg (by rw [m77, z]; decide), ← ek]; exact g55
    have c := op_16 st.1 o16
    rw [← this, e15] at c
    have : st.1 = 15 := by
      have e : (15 : Int32).toInt = 15 := rfl
      omega
    exact ns.1.2 this
  -- what stands while it looks
  let Z : gd → gS → Prop := fun z S2 => md [82, 88, 89, 90, 91] [84] x z ∧ ssub S S2 ∧ lkS S2 ∧ ((0 ≤ s.toInt ∧ s.toInt ≤ 4) → 0 ≤ (z.1 0 88).toInt ∧ (z.1 0 88).toInt < 24) ∧ ((5 ≤ s.toInt ∧ s.toInt ≤ 10) ∨ s = 15 → z.1 0 88 = x.1 56 k.toNatClampNeg)
  have fail : ∀ (z : gd) (S2 : gS) (n : Int32) (z2 : gd), Z z S2 → 0 < n.toInt → z2 = si z 0 89 n → Int32.ofNat (lkM C w M T).1 = n → z.1 0 88 = (lkM C w M T).2.1 → ¬ (lkM C w M T).1 = 0 → Dv Fv none z2 (sadd S2 0 89) := by
    intro z S2 n z2 hz hn e2 L1 L2 L0
    obtain ⟨z1, z2', z3, z4, z5⟩ := hz
    have m := md_f z 89 n
    rw [← e2] at m
    have e88 : z2.1 0 88 = z.1 0 88 := m.1 88 (by decide)
    have e89 : z2.1 0 89 = n := by rw [e2, si_get, if_pos ⟨rfl, rfl⟩]
    refine Dv_i (h z2 _ (md_tr z1 m rfl rfl) (ssub_tr z2' (ssub_ad _ _ _)) (lkS_up (ssub_ad _ _ _) z3) ⟨fun q => Or.inr (by rw [e88]; exact z4 q), fun q => by rw [e88]; exact z5 q, fun q => ?_⟩ ⟨by rw [e89]; exact L1.symm, by rw [e88]; exact L2, fun z => absurd z L0⟩)
    rw [e89] at q; omega
  have good : ∀ (z : gd) (S2 : gS), Z z S2 → (s = 9 → x.1 73 (x.1 56 k.toNatClampNeg).toNatClampNeg = 0) → (s = 1 → x.1 0 68 = 1 → x.1 37 (z.1 0 88).toNatClampNeg = 0 → ¬ x.1 80 T = 8) → lkQ z (lkM C w M T) → Dv Fv none z S2 := by
    intro z S2 hz q9 q1 L
    obtain ⟨z1, z2', z3, z4, z5⟩ := hz
    exact Dv_i (h z S2 z1 z2' z3 ⟨fun q => Or.inr (z4 q), z5, fun _ => ⟨z4, q9, q1⟩⟩ L)
  have bad : ∀ (z : gd) (S2 : gS), Z z S2 → ¬ (z.1 0 89).toInt ≤ 0 → lkQ z (lkM C w M T) → Dv Fv none z S2 := by
    intro z S2 hz q L
    obtain ⟨z1, z2', z3, z4, z5⟩ := hz
    exact Dv_i (h z S2 z1 z2' z3 ⟨fun q => Or.inr (z4 q), z5, fun q2 => absurd q2 q⟩ L)
  have ev : ∀ (o : Option (List gQ)) (v : Int32), mNs x st.2.1 v o → (v = -1 ∧ o = none) ∨ (¬ v = -1 ∧ ∃ Q, o = some Q ∧ SUm x v (Q.map (mQp st.2.1))) := fun o v ho => by
    cases o with
    | none => exact Or.inl ⟨ho, rfl⟩
    | some Q =>
      have ho : SUm x v (Q.map (mQp st.2.1)) := ho
      refine Or.inr ⟨fun z => ?_, Q, rfl, ho⟩
      have := ho.1
      rw [z] at this
      exact absurd this (by decide)
  -- good so far: its place, its values
  let R : gd → Int32 → Int32 → Prop := fun z e f => ¬ s = 15 ∧ z.1 0 88 = (lkI C M T).2 ∧ z.1 0 89 = 0 ∧ z.1 0 90 = e ∧ z.1 0 91 = f ∧ lkM C w M T = (rsF C w M T st.1 (lkI C M T).2.toNatClampNeg, (lkI C M T).2, e, f)
  have sI : ¬ s = 15 → s.toInt = (st.1 : Nat) := fun n => by rw [(w2 n).2]; exact op_16 _ o16
  have sE : ¬ s = 15 → ∀ n : Nat, n < 16 → (s = Int32.ofNat n ↔ st.1 = n) := fun n15 n hn => by
    rw [t_eq, sI n15, op_16 n hn]; omega
  have obj : ¬ s = 15 → (5 ≤ st.1 ∧ st.1 ≤ 10) → (lkI C M T).2 = x.1 56 k.toNatClampNeg ∧ (x.1 56 k.toNatClampNeg).toNatClampNeg < 6 := fun n15 hs => by
    have a := sI n15
    have o := s2 (Or.inl (by omega))
    have ni : st.2.2.2.2.2.2.2.1 = none := by
      cases e : st.2.2.2.2.2.2.2.1 with
      | none => rfl
      | some Q => have := nx1 (by rw [e]; exact fun z => nomatch z); omega
    refine ⟨?_, by rw [t_cl]; omega⟩
    rw [lkI_n (by rw [esN]; exact ni), esN]
    exact g56.symm
  have hcl : ¬ s = 15 → s = 1 → ∀ (z : gd) (S2 : gS), Z z S2 → z.1 0 88 = (lkI C M T).2 → (z.1 0 88).toNatClampNeg < C.2.2.1.length := by
    intro n15 c z S2 hz e
    have o1 : st.1 = 1 := (sE n15 1 (by omega)).mp c
    obtain ⟨b1, b2, b3⟩ := nx5 (by omega)
    have r := hz.2.2.2.1 (by rw [c]; decide)
    rw [e] at r ⊢
    cases ei : st.2.2.2.2.2.2.2.1 with
    | none =>
      rw [lkI_n (by rw [esN]; exact ei), esN, t_cl]
      show st.2.2.2.2.1.toInt.toNat < _
      omega
    | some Q =>
      have b4 := b3 (by rw [ei]; exact fun z => nomatch z)
      have ei' : (stN C (M.2.2 T).2.2.1).2.2.2.2.2.2.2.1 = some Q := by rw [esN]; exact ei
      obtain ⟨av1, av2, av3, av4⟩ := aV_acc av (by rw [g55, op_16 _ o16]; omega) (by rw [g55, op_16 _ o16]; omega)
      have n58 : ¬ x.1 58 k.toNatClampNeg = -1 := by
        rcases ev _ _ g58 with ⟨-, a⟩ | ⟨a, -⟩
        · rw [ei] at a; exact nomatch a
        · exact a
      have av5 := av4.resolve_left n58
      rw [g56, g57] at av5
      rw [g56] at av1
      cases ew : wkQ (M.2.2 T).2.2.2.2.2.2.2 (fun _ => 0) (Int32.ofNat T) Q with
      | none => rw [lkI_1 ei' ew] at r; exact absurd r.1 (by decide)
      | some v =>
        by_cases cv : v < 0 ∨ (stN C (M.2.2 T).2.2.1).2.2.2.2.2.1 ≤ v
        · rw [lkI_2 ei' ew cv] at r; exact absurd r.1 (by decide)
        · rw [lkI_0 ei' ew cv, t_cl]
          rw [esN, t_lt, t_le, k0] at cv
          rw [esN]
          show (st.2.2.2.2.1 + v).toInt.toNat < _
          rw [t_add (by omega) (by omega)]
          omega
  have p362 : ∀ (z : gd) (S2 : gS) (e f : Int32), Z z S2 → R z e f → (s = 9 → x.1 73 (x.1 56 k.toNatClampNeg).toNatClampNeg = 0) → ¬ (st.1 = 6 ∧ ¬ (M.2.1 (lkI C M T).2.toNatClampNeg).1 = T + 1) → ¬ ((st.1 = 7 ∨ st.1 = 8) ∧ ¬ (M.2.1 (lkI C M T).2.toNatClampNeg).1 = T + 1) → ¬ (st.1 = 9 ∧ ¬ (M.2.2 (lkI C M T).2.toNatClampNeg).1 = 0) → ¬ ((st.1 = 13 ∧ ¬ (M.2.2 T).2.2.2.2.2.1 = -1) ∨ (st.1 = 14 ∧ (M.2.2 T).2.2.2.2.2.1 = -1)) → MD (d + 3) z_lookAt 362 [(0, vr 0), (1, vi t), (3, vi s)] [] S2 z (Dv Fv) := by
    intro z S2 e f hz hR q9 r3 r4 r7 r8
    obtain ⟨n15, R88, R89, R90, R91, RL⟩ := hR
    have rs : rsF C w M T st.1 (lkI C M T).2.toNatClampNeg = if st.1 = 1 ∧ w = 1 ∧ suM C (lkI C M T).2.toNatClampNeg = false ∧ 8 ≤ (M.2.2 T).2.2.2.2.2.2.1.length then 9 else 0 := by
      unfold rsF
      rw [if_neg r3, if_neg r4, if_neg r7, if_neg r8]
    have gd0 : ¬ (st.1 = 1 ∧ w = 1 ∧ suM C (lkI C M T).2.toNatClampNeg = false ∧ 8 ≤ (M.2.2 T).2.2.2.2.2.2.1.length) → lkQ z (lkM C w M T) := fun c => by
      rw [if_neg c] at rs
      rw [RL, rs]
      exact ⟨R89, R88, fun _ => ⟨R90, R91⟩⟩
    have f68 : z.1 0 68 = x.1 0 68 := hz.1.1 68 (by decide)
    have f37 : z.1 37 = x.1 37 := hz.1.2.1 37 (by decide) (by decide)
    have f80 : z.1 80 = x.1 80 := hz.1.2.1 80 (by decide) (by decide)
    have s1' := sE n15 1 (by omega)
    have l8 : (x.1 80 T).toInt = ((M.2.2 T).2.2.2.2.2.2.1.length : Nat) := mlt.1
    have ll8 := (ri.2 T hT).2.2.2.1
    refine sd_lookAt_362 _ _ ⟨fun c => good z S2 hz q9 (fun q => absurd q c) (gd0 (fun z => c (s1'.mpr z.1))), fun c => ?_⟩
    rw [f68, f37, f80]
    have r := hz.2.2.2.1 (by rw [c]; decide)
    have su : x.1 37 (z.1 0 88).toNatClampNeg = if suM C (lkI C M T).2.toNatClampNeg = true then 1 else 0 := by
      rw [← R88]
      by_cases cl : (z.1 0 88).toNatClampNeg < C.2.2.1.length
      · obtain ⟨q, hq⟩ : ∃ q, C.2.2.1[(z.1 0 88).toNatClampNeg]? = some q := ⟨_, List.getElem?_eq_getElem cl⟩
        rw [(hK.2.2.1.2 _ q hq).2]
        unfold suM
        rw [hq]
      · exact absurd (hcl n15 c z S2 hz R88) cl
    refine ⟨fun c2 => good z S2 hz q9 (fun _ q => absurd q c2) (gd0 (fun z => c2 (by rw [wy, z.2.1]; rfl))), fun c68 => ⟨hz.2.2.1.1, by rw [vp_in_iff]; exact r, fun c3 => good z S2 hz q9 (fun _ _ q => absurd q c3) (gd0 (fun z9 => c3 (by rw [su, z9.2.2.1]; rfl))), fun c3 => ⟨ht, ?_⟩⟩⟩
    rw [← eT]
    have w1 : w = 1 := w01.resolve_left (fun z => by rw [z] at wy; rw [wy] at c68; exact absurd c68 (by decide))
    have su0 : suM C (lkI C M T).2.toNatClampNeg = false := by
      cases e9 : suM C (lkI C M T).2.toNatClampNeg with
      | false => rfl
      | true => rw [su, e9] at c3; exact absurd c3 (by decide)
    refine ⟨fun c4 => good z S2 hz q9 (fun _ _ _ => c4) (gd0 (fun z9 => c4 ?_)), fun c4 z2 e2 => ?_⟩
    · rw [t_eq, l8, k8]
      have := z9.2.2.2
      omega
    · rw [if_pos ⟨s1'.mp c, w1, su0, by rw [t_eq, l8, k8] at c4; omega⟩] at rs
      exact fail z S2 9 z2 hz (by decide) e2 (by rw [RL, rs]; rfl) (by rw [RL]; exact R88) (by rw [RL, rs]; exact fun z => nomatch z)
  have p321 : ∀ (z : gd) (S2 : gS) (e f : Int32), Z z S2 → R z e f → (s = 9 → x.1 73 (x.1 56 k.toNatClampNeg).toNatClampNeg = 0) → ¬ (st.1 = 6 ∧ ¬ (M.2.1 (lkI C M T).2.toNatClampNeg).1 = T + 1) → ¬ ((st.1 = 7 ∨ st.1 = 8) ∧ ¬ (M.2.1 (lkI C M T).2.toNatClampNeg).1 = T + 1) → ¬ (st.1 = 9 ∧ ¬ (M.2.2 (lkI C M T).2.toNatClampNeg).1 = 0) → MD (d + 3) z_lookAt 321 [(0, vr 0), (1, vi t), (3, vi s)] [] S2 z (Dv Fv) := by
    intro z S2 e f hz hR q9 r3 r4 r7
    obtain ⟨n15, R88, R89, R90, R91, RL⟩ := id hR
    have f79 : z.1 79 = x.1 79 := hz.1.2.1 79 (by decide) (by decide)
    have s13 := sE n15 13 (by omega)
    have s14 := sE n15 14 (by omega)
    have bad8 : ((st.1 = 13 ∧ ¬ (M.2.2 T).2.2.2.2.2.1 = -1) ∨ (st.1 = 14 ∧ (M.2.2 T).2.2.2.2.2.1 = -1)) → ∀ z2, z2 = si z 0 89 8 → Dv Fv none z2 (sadd S2 0 89) := fun c z2 e2 => by
      have rs : rsF C w M T st.1 (lkI C M T).2.toNatClampNeg = 8 := by
        unfold rsF
        rw [if_neg r3, if_neg r4, if_neg r7, if_pos c]
      exact fail z S2 8 z2 hz (by decide) e2 (by rw [RL, rs]; rfl) (by rw [RL]; exact R88) (by rw [RL, rs]; exact fun z => nomatch z)
    have p337 : ¬ (st.1 = 13 ∧ ¬ (M.2.2 T).2.2.2.2.2.1 = -1) → MD (d + 3) z_lookAt 337 [(0, vr 0), (1, vi t), (3, vi s)] [] S2 z (Dv Fv) := fun n13 => sd_lookAt_337 _ _ ⟨fun c => p362 z S2 e f hz hR q9 r3 r4 r7 (fun q => q.elim n13 (fun q => c (s14.mpr q.1))), fun c => ⟨ht, by
      rw [f79, ← eT, m79]
      exact ⟨fun c2 => p362 z S2 e f hz hR q9 r3 r4 r7 (fun q => q.elim n13 (fun q => c2 q.2)), fun c2 z2 e2 => bad8 (Or.inr ⟨s14.mp c, c2⟩) z2 e2⟩⟩⟩
    refine sd_lookAt_321 _ _ ⟨fun c => p337 (fun q => c (s13.mpr q.1)), fun c => ⟨ht, ?_⟩⟩
    rw [f79, ← eT, m79]
    exact ⟨fun c2 z2 e2 => bad8 (Or.inl ⟨s13.mp c, c2⟩) z2 e2, fun c2 => p337 (fun q => q.2 c2)⟩
  have p292 : ∀ (z : gd) (S2 : gS) (e f : Int32), Z z S2 → R z e f → ¬ (st.1 = 6 ∧ ¬ (M.2.1 (lkI C M T).2.toNatClampNeg).1 = T + 1) → ¬ ((st.1 = 7 ∨ st.1 = 8) ∧ ¬ (M.2.1 (lkI C M T).2.toNatClampNeg).1 = T + 1) → MD (d + 3) z_lookAt 292 [(0, vr 0), (1, vi t), (2, vi k), (3, vi s)] [] S2 z (Dv Fv) := by
    intro z S2 e f hz hR r3 r4
    obtain ⟨n15, R88, R89, R90, R91, RL⟩ := id hR
    have f56 : z.1 56 = x.1 56 := hz.1.2.1 56 (by decide) (by decide)
    have f73 : z.1 73 = x.1 73 := hz.1.2.1 73 (by decide) (by decide)
    have s9 := sE n15 9 (by omega)
    refine sd_lookAt_292 _ _ _ ⟨fun c => p321 z S2 e f hz hR (fun q => absurd q c) r3 r4 (fun q => c (s9.mpr q.1)), fun c => ⟨kv, ?_⟩⟩
    have o := s2 (Or.inl (by rw [c]; decide))
    obtain ⟨ob1, ob2⟩ := obj n15 (by have := s9.mp c; omega)
    have l9 := (hM.2.2 _ ob2).2.1
    have e9 := (hM.2.2 _ ob2).1
    have z9 := sta_0 _ (show (M.2.2 (x.1 56 k.toNatClampNeg).toNatClampNeg).1 < 4 by omega)
    rw [← e9] at z9
    rw [f56, f73]
    refine ⟨by rw [vp_in_iff]; omega, fun c2 => p321 z S2 e f hz hR (fun _ => c2) r3 r4 (fun q => q.2 (by rw [ob1]; exact z9.mp c2)), fun c2 z2 e2 => ?_⟩
    have rs : rsF C w M T st.1 (lkI C M T).2.toNatClampNeg = 7 := by
      unfold rsF
      rw [if_neg r3, if_neg r4, if_pos ⟨s9.mp c, fun q => c2 (z9.mpr (by rw [ob1] at q; exact q))⟩]
    exact fail z S2 7 z2 hz (by decide) e2 (by rw [RL, rs]; rfl) (by rw [RL]; exact R88) (by rw [RL, rs]; exact fun z => nomatch z)
  have p267 : ∀ (z : gd) (S2 : gS) (b e f : Int32), Z z S2 → R z e f → ¬ (st.1 = 6 ∧ ¬ (M.2.1 (lkI C M T).2.toNatClampNeg).1 = T + 1) → ((st.1 = 7 ∨ st.1 = 8) → (b = 0 ↔ ¬ (M.2.1 (lkI C M T).2.toNatClampNeg).1 = T + 1)) → MD (d + 3) z_lookAt 267 [(0, vr 0), (1, vi t), (2, vi k), (3, vi s), (4, vi b)] [] S2 z (Dv Fv) := by
    intro z S2 b e f hz hR r3 hb
    obtain ⟨n15, R88, R89, R90, R91, RL⟩ := id hR
    have s7 := sE n15 7 (by omega)
    have s8 := sE n15 8 (by omega)
    have p279 : (st.1 = 7 ∨ st.1 = 8) → MD (d + 3) z_lookAt 279 [(0, vr 0), (1, vi t), (2, vi k), (3, vi s), (4, vi b)] [] S2 z (Dv Fv) := fun c78 => sd_lookAt_279 _ _ _ _ ⟨fun c => p292 z S2 e f hz hR r3 (fun q => c ((hb c78).mpr q.2)), fun c z2 e2 => by
      have rs : rsF C w M T st.1 (lkI C M T).2.toNatClampNeg = 4 := by
        unfold rsF
        rw [if_neg r3, if_pos ⟨c78, (hb c78).mp c⟩]
      exact fail z S2 4 z2 hz (by decide) e2 (by rw [RL, rs]; rfl) (by rw [RL]; exact R88) (by rw [RL, rs]; exact fun z => nomatch z)⟩
    exact sd_lookAt_267 _ _ _ _ ⟨fun c => p279 (Or.inl (s7.mp c)), fun c => ⟨fun c8 => p292 z S2 e f hz hR r3 (fun q => q.1.elim (fun q => c (s7.mpr q)) (fun q => c8 (s8.mpr q))), fun c8 => p279 (Or.inr (s8.mp c8))⟩⟩
  have p246 : ∀ (z : gd) (S2 : gS) (b e f : Int32), Z z S2 → R z e f → ((st.1 = 6 ∨ st.1 = 7 ∨ st.1 = 8) → (b = 0 ↔ ¬ (M.2.1 (lkI C M T).2.toNatClampNeg).1 = T + 1)) → MD (d + 3) z_lookAt 246 [(0, vr 0), (1, vi t), (2, vi k), (3, vi s)] [vi b] S2 z (Dv Fv) := by
    intro z S2 b e f hz hR hb
    obtain ⟨n15, R88, R89, R90, R91, RL⟩ := id hR
    have s6 := sE n15 6 (by omega)
    refine sd_lookAt_246 _ _ _ _ ⟨fun c => p267 z S2 b e f hz hR (fun q => c (s6.mpr q.1)) (fun q => hb (Or.inr q)), fun c => ⟨fun c0 => p267 z S2 b e f hz hR (fun q => c0 ((hb (Or.inl q.1)).mpr q.2)) (fun q => hb (Or.inr q)), fun c0 z2 e2 => ?_⟩⟩
    have rs : rsF C w M T st.1 (lkI C M T).2.toNatClampNeg = 3 := by
      unfold rsF
      rw [if_pos ⟨s6.mp c, (hb (Or.inl (s6.mp c))).mp c0⟩]
    exact fail z S2 3 z2 hz (by decide) e2 (by rw [RL, rs]; rfl) (by rw [RL]; exact R88) (by rw [RL, rs]; exact fun z => nomatch z)
  have p226 : ∀ (z : gd) (S2 : gS) (e f : Int32), Z z S2 → R z e f → (6 ≤ st.1 ∧ st.1 ≤ 8) → MD (d + 3) z_lookAt 226 [(0, vr 0), (1, vi t), (2, vi k), (3, vi s)] [] S2 z (Dv Fv) := by
    intro z S2 e f hz hR q
    have n15 := hR.1
    have sI' := sI n15
    have o := s2 (Or.inl (by omega))
    obtain ⟨ob1, ob2⟩ := obj n15 (by omega)
    obtain ⟨e71, l71, -⟩ := hM.2.1 _ ob2
    have ht1 := hol_t _ (show (M.2.1 (x.1 56 k.toNatClampNeg).toNatClampNeg).1 < 7 by omega) T hT
    rw [← e71, ← tT] at ht1
    have f56 : z.1 56 = x.1 56 := hz.1.2.1 56 (by decide) (by decide)
    have f71 : z.1 71 = x.1 71 := hz.1.2.1 71 (by decide) (by decide)
    refine sd_lookAt_226 _ _ _ ⟨kv, ?_⟩
    rw [f56, f71]
    exact ⟨by rw [vp_in_iff]; omega, fun c => p246 z S2 0 e f hz hR (fun _ => ⟨fun _ q => c (ht1.mpr (by rw [ob1] at q; exact q)), fun _ => rfl⟩), fun c => p246 z S2 1 e f hz hR (fun _ => ⟨fun q => absurd q (by decide), fun q => absurd (by rw [ob1]; exact ht1.mp c) q⟩)⟩
  have p200 : ∀ (z : gd) (S2 : gS), Z z S2 → ((∃ e f, R z e f) ∨ (¬ (z.1 0 89).toInt ≤ 0 ∧ lkQ z (lkM C w M T))) → MD (d + 3) z_lookAt 200 [(0, vr 0), (1, vi t), (2, vi k), (3, vi s)] [] S2 z (Dv Fv) := by
    intro z S2 hz hR
    refine sd_lookAt_200 _ _ _ ⟨hz.2.2.1.2.1, fun c => ?_, fun c => ?_⟩
    · rcases hR with ⟨e, f, hR⟩ | ⟨hR, -⟩
      · have n15 := hR.1
        have s6 := sE n15 6 (by omega)
        have s7 := sE n15 7 (by omega)
        have s8 := sE n15 8 (by omega)
        exact ⟨fun c => p226 z S2 e f hz hR (by have := s6.mp c; omega), fun n6 => ⟨fun c => p226 z S2 e f hz hR (by have := s7.mp c; omega), fun n7 => ⟨fun n8 => p246 z S2 0 e f hz hR (fun q => absurd q (fun q => q.elim (fun q => n6 (s6.mpr q)) (fun q => q.elim (fun q => n7 (s7.mpr q)) (fun q => n8 (s8.mpr q))))), fun c => p226 z S2 e f hz hR (by have := s8.mp c; omega)⟩⟩⟩
      · rw [t_le, k0] at c; exact absurd c hR
    · rcases hR with ⟨e, f, hR⟩ | ⟨hR, L⟩
      · rw [hR.2.2.1] at c; exact absurd (by decide) c
      · exact bad z S2 hz hR L
  have wk : ∀ (z : gd) (S2 : gS) (r : Int32) (Q : List gQ) (F9 : Int32 → gd → gS → Prop), Z z S2 → sQo st.2.1 (some Q) → SUm x r (Q.map (mQp st.2.1)) → (∀ v z2 S3, Z z2 S3 → S3 0 82 → md [82] [84] z z2 → wkM z2 (wkQ (M.2.2 T).2.2.2.2.2.2.2 (fun _ => 0) (Int32.ofNat T) Q) v → F9 v z2 S3) → MD (d + 2) z_worked 0 [(0, vr 0), (1, vi r), (2, vi t)] [] S2 z (Di F9) := by
    intro z S2 r Q F9 hz hq hs hF
    obtain ⟨q1, q2⟩ := hq Q rfl
    obtain ⟨pw, pm, p8⟩ := ns.2.2.2.2.1
    have f49 : z.1 0 49 = x.1 0 49 := hz.1.1 49 (by decide)
    refine ds_workedf (lv := (M.2.2 T).2.2.2.2.2.2.2) (cv := fun _ => 0) (SUm_f hs f49 (hz.1.2.1 51 (by decide) (by decide)) (hz.1.2.1 52 (by decide) (by decide))) (by rw [f49]; exact w6) q1 (fun p hp => ?_) (fun v z2 S3 m9 ss s82 hwk => hF v z2 S3 ?_ s82 m9 (by rw [tT] at hwk; exact hwk))
    · obtain ⟨b1, b2, b3⟩ := q2 p hp
      refine ⟨b1, fun c => ?_, fun c => absurd c b3⟩
      have pl := b2 c
      have sm := pm _ (slN_mem pl)
      have m8 : (8 * t).toInt = 8 * t.toInt := by rw [t_mul (by rw [k8]; omega) (by rw [k8]; omega), k8]
      have eo : (Int32.ofNat (slN st.2.1 p.2.1)).toInt = (slN st.2.1 p.2.1 : Nat) := Int32.toInt_ofNat_of_lt (by omega)
      have es : (8 * t + Int32.ofNat (slN st.2.1 p.2.1)).toInt = 8 * t.toInt + (slN st.2.1 p.2.1 : Nat) := by rw [t_add (by omega) (by omega), m8, eo]
      refine ⟨by rw [vp_in_iff, es]; omega, ?_⟩
      have ei : (8 * t + Int32.ofNat (slN st.2.1 p.2.1)).toNatClampNeg = 8 * T + slN st.2.1 p.2.1 := by rw [t_cl, es, tTi]; omega
      rw [ei, hz.1.2.1 76 (by decide) (by decide)]
      exact lv _ pl
    · have e88 : z2.1 0 88 = z.1 0 88 := m9.1 88 (by decide)
      exact ⟨md_tr hz.1 m9 rfl rfl, ssub_tr hz.2.1 ss, lkS_up ss hz.2.2.1, by rw [e88]; exact hz.2.2.2.1, by rw [e88]; exact hz.2.2.2.2⟩
  have Zf : ∀ (z : gd) (S2 : gS) (f : Nat) (v : Int32) (z2 : gd), (f = 89 ∨ f = 90 ∨ f = 91) → Z z S2 → z2 = si z 0 f v → Z z2 (sadd S2 0 f) := by
    intro z S2 f v z2 hf hz e2
    have m := md_f z f v
    rw [← e2] at m
    have e88 : z2.1 0 88 = z.1 0 88 := m.1 88 (by simp; omega)
    have m2 : md [89, 90, 91] [] z z2 := md_w m (fun i hi => by rw [List.mem_singleton.mp hi]; simp; omega) (fun i hi => nomatch hi)
    exact ⟨md_tr hz.1 m2 rfl rfl, ssub_tr hz.2.1 (ssub_ad _ _ _), lkS_up (ssub_ad _ _ _) hz.2.2.1, by rw [e88]; exact hz.2.2.2.1, by rw [e88]; exact hz.2.2.2.2⟩
  obtain ⟨eE, eeE⟩ : ∃ eE, eE = evO (M.2.2 T).2.2.2.2.2.2.2 (Int32.ofNat T) st.2.2.2.2.2.2.2.2.1 := ⟨_, rfl⟩
  obtain ⟨eF, eeF⟩ : ∃ eF, eF = evO (M.2.2 T).2.2.2.2.2.2.2 (Int32.ofNat T) st.2.2.2.2.2.2.2.2.2 := ⟨_, rfl⟩
  have p160 : ∀ (z : gd) (S2 : gS), Z z S2 → ¬ s = 15 → (lkI C M T).1 = 0 → z.1 0 88 = (lkI C M T).2 → z.1 0 91 = 0 → ((∃ e, eE = some e ∧ z.1 0 89 = 0 ∧ z.1 0 90 = e) ∨ (eE = none ∧ z.1 0 89 = 1)) → MD (d + 3) z_lookAt 160 [(0, vr 0), (1, vi t), (2, vi k), (3, vi s)] [] S2 z (Dv Fv) := by
    intro z S2 hz n15 i0 z88 z91 hE
    have f60 : z.1 60 = x.1 60 := hz.1.2.1 60 (by decide) (by decide)
    refine sd_lookAt_160 _ _ _ ⟨hz.2.2.1.2.1, fun c => ?_, fun c => ⟨kv, ?_⟩⟩
    · rcases hE with ⟨e, -, z89, -⟩ | ⟨e1, z89⟩
      · exact absurd z89 c
      · refine p200 z S2 hz (Or.inr ⟨by rw [z89]; decide, ?_⟩)
        rw [lkM_1 (w2 n15).1 i0 (by rw [esN, ← eeE]; exact e1)]
        exact ⟨z89, z88, fun z => nomatch z⟩
    · obtain ⟨e, e1, z89, z90⟩ : ∃ e, eE = some e ∧ z.1 0 89 = 0 ∧ z.1 0 90 = e := by
        rcases hE with h | ⟨-, h⟩
        · exact h
        · rw [h] at c; exact absurd c (by decide)
      have L3 : ∀ f, eF = some f → lkM C w M T = (rsF C w M T st.1 (lkI C M T).2.toNatClampNeg, (lkI C M T).2, e, f) := fun f hf => by
        rw [lkM_3 (w2 n15).1 i0 (by rw [esN, ← eeE]; exact e1) (by rw [esN, ← eeF]; exact hf), esN]
      rw [f60]
      rcases ev _ _ g60 with ⟨a1, a2⟩ | ⟨a1, Q, a2, a3⟩
      · refine ⟨fun _ => p200 z S2 hz (Or.inl ⟨e, 0, n15, z88, z89, z90, z91, L3 0 (by rw [eeF, a2]; rfl)⟩), fun ne => absurd a1 ne⟩
      · refine ⟨fun c => absurd c a1, fun _ => ⟨kv, wk z S2 _ Q _ hz (by rw [← a2]; exact ns.2.2.2.2.2.2.2.2.2.1) a3 (fun v z2 S3 hz2 s82 m9 hwk z4 e4 => ⟨Or.inr s82, fun z6 e6 => ?_⟩)⟩⟩
        have hz4 := Zf z2 _ 91 _ z4 (Or.inr (Or.inr rfl)) hz2 e4
        have hz6 := Zf z4 _ 89 _ z6 (Or.inl rfl) hz4 e6
        have m4 := md_f z2 91 v
        rw [← e4] at m4
        have m6 := md_f z4 89 (z4.1 0 82)
        rw [← e6] at m6
        have y88 : z6.1 0 88 = (lkI C M T).2 := by rw [m6.1 88 (by decide), m4.1 88 (by decide), m9.1 88 (by decide)]; exact z88
        have y90 : z6.1 0 90 = e := by rw [m6.1 90 (by decide), m4.1 90 (by decide), m9.1 90 (by decide)]; exact z90
        have y91 : z6.1 0 91 = v := by rw [m6.1 91 (by decide), e4, si_get, if_pos ⟨rfl, rfl⟩]
        have y89 : z6.1 0 89 = z2.1 0 82 := by rw [e6, si_get, if_pos ⟨rfl, rfl⟩, m4.1 82 (by decide)]
        rcases hwk with ⟨v9, b1, b2, b3⟩ | ⟨b1, b2⟩
        · exact p200 z6 _ hz6 (Or.inl ⟨e, v, n15, y88, by rw [y89]; exact b3, y90, y91, L3 v (by rw [eeF, a2, b2]; exact b1)⟩)
        · refine p200 z6 _ hz6 (Or.inr ⟨by rw [y89, b2]; decide, ?_⟩)
          rw [lkM_2 (w2 n15).1 i0 (by rw [esN, ← eeE]; exact e1) (by rw [esN, a2]; exact b1)]
          exact ⟨by rw [y89]; exact b2, y88, fun z => nomatch z⟩
  have p127 : ∀ (z : gd) (S2 : gS), Z z S2 → ¬ s = 15 → (lkI C M T).1 = 0 → z.1 0 88 = (lkI C M T).2 → z.1 0 89 = 0 → z.1 0 90 = 0 → z.1 0 91 = 0 → MD (d + 3) z_lookAt 127 [(0, vr 0), (1, vi t), (2, vi k), (3, vi s)] [] S2 z (Dv Fv) := by
    intro z S2 hz n15 i0 z88 z89 z90 z91
    have f59 : z.1 59 = x.1 59 := hz.1.2.1 59 (by decide) (by decide)
    refine sd_lookAt_127 _ _ _ ⟨kv, ?_⟩
    rw [f59]
    rcases ev _ _ g59 with ⟨a1, a2⟩ | ⟨a1, Q, a2, a3⟩
    · exact ⟨fun _ => p160 z S2 hz n15 i0 z88 z91 (Or.inl ⟨0, by rw [eeE, a2]; rfl, z89, z90⟩), fun ne => absurd a1 ne⟩
    · refine ⟨fun c => absurd c a1, fun _ => ⟨kv, wk z S2 _ Q _ hz (by rw [← a2]; exact ns.2.2.2.2.2.2.2.2.1) a3 (fun v z2 S3 hz2 s82 m9 hwk z4 e4 => ⟨Or.inr s82, fun z6 e6 => ?_⟩)⟩⟩
      have hz4 := Zf z2 _ 90 _ z4 (Or.inr (Or.inl rfl)) hz2 e4
      have hz6 := Zf z4 _ 89 _ z6 (Or.inl rfl) hz4 e6
      have m4 := md_f z2 90 v
      rw [← e4] at m4
      have m6 := md_f z4 89 (z4.1 0 82)
      rw [← e6] at m6
      have y88 : z6.1 0 88 = (lkI C M T).2 := by rw [m6.1 88 (by decide), m4.1 88 (by decide), m9.1 88 (by decide)]; exact z88
      have y91 : z6.1 0 91 = 0 := by rw [m6.1 91 (by decide), m4.1 91 (by decide), m9.1 91 (by decide)]; exact z91
      have y90 : z6.1 0 90 = v := by rw [m6.1 90 (by decide), e4, si_get, if_pos ⟨rfl, rfl⟩]
      have y89 : z6.1 0 89 = z2.1 0 82 := by rw [e6, si_get, if_pos ⟨rfl, rfl⟩, m4.1 82 (by decide)]
      refine p160 z6 _ hz6 n15 i0 y88 y91 ?_
      rcases hwk with ⟨v9, b1, b2, b3⟩ | ⟨b1, b2⟩
      · exact Or.inl ⟨v, by rw [eeE, a2, b2]; exact b1, by rw [y89]; exact b3, y90⟩
      · exact Or.inr ⟨by rw [eeE, a2]; exact b1, by rw [y89]; exact b2⟩
  refine sd_lookAt_0 _ ⟨ht, ds_sortOf t ht (by rw [← eT, ← ek]; exact kv) ?_⟩
  rw [← eT, ← es, ← ek]
  intro z4 e4
  refine ⟨kv, fun z6 e6 z7 e7 z8 e8 => ?_⟩
  have m4 := md_f x 89 0
  rw [← e4] at m4
  have f56 : z4.1 56 = x.1 56 := m4.2.1 56 (by decide) (by decide)
  rw [f56] at e6
  have m6 := md_f z4 88 (x.1 56 k.toNatClampNeg)
  rw [← e6] at m6
  have m7 := md_f z6 90 0
  rw [← e7] at m7
  have m8 := md_f z7 91 0
  rw [← e8] at m8
  have m : md [89, 88, 90, 91] [] x z8 := md_tr (md_tr (L3 := [89, 88, 90]) (A3 := []) (md_tr (L3 := [89, 88]) (A3 := []) m4 m6 rfl rfl) m7 rfl rfl) m8 rfl rfl
  have e88 : z8.1 0 88 = x.1 56 k.toNatClampNeg := by rw [m8.1 88 (by decide), m7.1 88 (by decide), e6, si_get, if_pos ⟨rfl, rfl⟩]
  have hz : Z z8 (sadd (sadd (sadd (sadd S 0 89) 0 88) 0 90) 0 91) := ⟨md_w m (by decide) (by decide), fun c j q => Or.inr (Or.inr (Or.inr (Or.inr q))), ⟨Or.inr (Or.inr (Or.inl ⟨rfl, rfl⟩)), Or.inr (Or.inr (Or.inr (Or.inl ⟨rfl, rfl⟩))), Or.inr (Or.inl ⟨rfl, rfl⟩), Or.inl ⟨rfl, rfl⟩⟩, fun q => by rw [e88]; exact ⟨(s1 q).2.1, (s1 q).2.2⟩, fun _ => e88⟩
  have f58 : z8.1 58 = x.1 58 := m.2.1 58 (by decide) (by decide)
  rw [f58]
  have e89 : z8.1 0 89 = 0 := by rw [m8.1 89 (by decide), m7.1 89 (by decide), m6.1 89 (by decide), e4, si_get, if_pos ⟨rfl, rfl⟩]
  have e90 : z8.1 0 90 = 0 := by rw [m8.1 90 (by decide), e7, si_get, if_pos ⟨rfl, rfl⟩]
  have e91 : z8.1 0 91 = 0 := by rw [e8, si_get, if_pos ⟨rfl, rfl⟩]
  refine ⟨fun n15 => ⟨kv, ?_⟩, fun e15 => ?_⟩
  rotate_left
  · refine good z8 _ hz (fun q => by rw [e15] at q; exact absurd q (by decide)) (fun q => by rw [e15] at q; exact absurd q (by decide)) ?_
    rw [lkM_15 (w15 e15), esN]
    exact ⟨e89, by rw [e88]; exact g56, fun _ => ⟨e90, e91⟩⟩
  rcases ev _ _ g58 with ⟨a1, a2⟩ | ⟨a1, Q, a2, a3⟩
  · have hI := lkI_n (C := C) (M := M) (t := T) (by rw [esN]; exact a2)
    rw [esN] at hI
    exact ⟨fun _ => p127 z8 _ hz n15 (by rw [hI]) (by rw [hI, e88]; exact g56) e89 e90 e91, fun ne => absurd a1 ne⟩
  have o4 := nx1 (by rw [a2]; exact fun z => nomatch z)
  have ss := sI n15
  have s04 : 0 ≤ s.toInt ∧ s.toInt ≤ 4 := by omega
  have a2' : (stN C (M.2.2 T).2.2.1).2.2.2.2.2.2.2.1 = some Q := by rw [esN]; exact a2
  obtain ⟨av1, av2, av3, av4⟩ := aV_acc av (by rw [g55, op_16 _ o16]; omega) (by rw [g55, op_16 _ o16]; omega)
  have av5 := av4.resolve_left a1
  have k1 : (1 : Int32).toInt = 1 := rfl
  have bnd : ∀ v : Int32, (0 ≤ v ∧ v ≤ x.1 57 k.toNatClampNeg - 1) ↔ ¬ (v < 0 ∨ st.2.2.2.2.2.1 ≤ v) := fun v => by
    rw [← g57, t_le, t_le, t_lt, t_le, k0, t_sub (by omega) (by omega), k1]
    omega
  refine ⟨fun c => absurd c a1, fun _ => ⟨kv, wk z8 _ _ Q _ hz (by rw [← a2]; exact ns.2.2.2.2.2.2.2.1) a3 (fun v z2 S3 hz2 s82 m9 hwk => ⟨s82, fun c82 => ⟨kv, ds_in _ _ _ ⟨fun c => ⟨kv, fun z3 e3 => ?_⟩, fun c z3 e3 z5 e5 => ?_⟩⟩, fun c82 z3 e3 z5 e5 => ?_⟩)⟩⟩
  · -- a place in a row
    have f56b : z2.1 56 = x.1 56 := hz2.1.2.1 56 (by decide) (by decide)
    have f57b : z2.1 57 = x.1 57 := hz2.1.2.1 57 (by decide) (by decide)
    have c9 := bi_ne.mp c
    rw [f57b] at c9
    have wv : wkQ (M.2.2 T).2.2.2.2.2.2.2 (fun _ => 0) (Int32.ofNat T) Q = some v := by
      rcases hwk with ⟨v9, b1, b2, b3⟩ | ⟨b1, b2⟩
      · rw [b2]; exact b1
      · rw [b2] at c82; exact absurd c82 (by decide)
    have hI := lkI_0 a2' wv (by rw [esN]; exact (bnd v).mp c9)
    rw [esN] at hI
    obtain ⟨c1, c2⟩ := c9
    rw [t_le] at c2
    rw [t_le, k0] at c1
    rw [f56b] at e3
    have m3 := md_f z2 88 (x.1 56 k.toNatClampNeg + v)
    rw [← e3] at m3
    have y88 : z3.1 0 88 = x.1 56 k.toNatClampNeg + v := by rw [e3, si_get, if_pos ⟨rfl, rfl⟩]
    refine p127 z3 _ ⟨md_tr hz2.1 m3 rfl rfl, ssub_tr hz2.2.1 (ssub_ad _ _ _), lkS_up (ssub_ad _ _ _) hz2.2.2.1, fun q => ?_, fun q => absurd (s2 q).2.2 a1⟩ n15 (by rw [hI]) (by rw [hI, y88, g56]) (by rw [m3.1 89 (by decide), m9.1 89 (by decide)]; exact e89) (by rw [m3.1 90 (by decide), m9.1 90 (by decide)]; exact e90) (by rw [m3.1 91 (by decide), m9.1 91 (by decide)]; exact e91)
    rw [t_sub (by omega) (by omega), k1] at c2
    rw [y88, t_add (by omega) (by omega)]
    omega
  · -- outside
    have f57b : z2.1 57 = x.1 57 := hz2.1.2.1 57 (by decide) (by decide)
    have wv : wkQ (M.2.2 T).2.2.2.2.2.2.2 (fun _ => 0) (Int32.ofNat T) Q = some v := by
      rcases hwk with ⟨v9, b1, b2, b3⟩ | ⟨b1, b2⟩
      · rw [b2]; exact b1
      · rw [b2] at c82; exact absurd c82 (by decide)
    have c9 : v < 0 ∨ st.2.2.2.2.2.1 ≤ v := Classical.byContradiction (fun n9 => by
      have := (bnd v).mpr n9
      rw [← f57b] at this
      exact bi_ne.mpr this c)
    have hI := lkI_2 a2' wv (by rw [esN]; exact c9)
    have m3 := md_f z2 89 2
    rw [← e3] at m3
    have m5 := md_f z3 88 (-1)
    rw [← e5] at m5
    have g88 : z5.1 0 88 = -1 := by rw [e5, si_get, if_pos ⟨rfl, rfl⟩]
    have g89 : z5.1 0 89 = 2 := by rw [m5.1 89 (by decide), e3, si_get, if_pos ⟨rfl, rfl⟩]
    refine Dv_i (h z5 _ (md_tr (md_tr (L3 := [82, 88, 89, 90, 91]) (A3 := [84]) hz2.1 m3 rfl rfl) m5 rfl rfl) (ssub_tr hz2.2.1 (ssub_tr (ssub_ad _ _ _) (ssub_ad _ _ _))) (lkS_up (ssub_tr (ssub_ad _ _ _) (ssub_ad _ _ _)) hz2.2.2.1) ⟨fun _ => Or.inl g88, fun q => absurd (s2 q).2.2 a1, fun q => ?_⟩ ?_)
    · rw [g89] at q
      exact absurd q (by decide)
    · rw [lkM_i (w2 n15).1 (by rw [hI]; exact fun z => nomatch z), hI]
      exact ⟨g89, g88, fun z => nomatch z⟩
  · have wv : wkQ (M.2.2 T).2.2.2.2.2.2.2 (fun _ => 0) (Int32.ofNat T) Q = none := by
      rcases hwk with ⟨v9, b1, b2, b3⟩ | ⟨b1, b2⟩
      · rw [b3] at c82; exact absurd (by decide) c82
      · exact b1
    have hI := lkI_1 a2' wv
    have m3 := md_f z2 89 1
    rw [← e3] at m3
    have m5 := md_f z3 88 (-1)
    rw [← e5] at m5
    have g88 : z5.1 0 88 = -1 := by rw [e5, si_get, if_pos ⟨rfl, rfl⟩]
    have g89 : z5.1 0 89 = 1 := by rw [m5.1 89 (by decide), e3, si_get, if_pos ⟨rfl, rfl⟩]
    refine Dv_i (h z5 _ (md_tr (md_tr (L3 := [82, 88, 89, 90, 91]) (A3 := [84]) hz2.1 m3 rfl rfl) m5 rfl rfl) (ssub_tr hz2.2.1 (ssub_tr (ssub_ad _ _ _) (ssub_ad _ _ _))) (lkS_up (ssub_tr (ssub_ad _ _ _) (ssub_ad _ _ _)) hz2.2.2.1) ⟨fun _ => Or.inl g88, fun q => absurd (s2 q).2.2 a1, fun q => ?_⟩ ?_)
    · rw [g89] at q
      exact absurd q (by decide)
    · rw [lkM_i (w2 n15).1 (by rw [hI]; exact fun z => nomatch z), hI]
      exact ⟨g89, g88, fun z => nomatch z⟩
end DLK
end
section
/-! the model: what stays of the machine while one thread goes on -/
section MTL
variable {C : gCo} {M E : gMa} {x y z : gd} {T t s : Nat} {h : gTq} {lv : Nat → Int32}
theorem kn_8 (hN : NC C) (s : Nat) : ∀ k ∈ (stN C s).2.1, k < 8 := fun k hk => by
  unfold stN at hk
  cases e : C.1[s]? with
  | none => rw [e] at hk; exact nomatch hk
  | some st =>
    rw [e] at hk
    obtain ⟨-, pm, p8⟩ := (hN.1 _ st e).2.2.2.2.1
    have hk : k ∈ st.2.1 := hk
    have := pm k hk
    omega
theorem mLt_eq {l : List (Nat × Int32)} (h : mLt x t l) (e80 : y.1 80 = x.1 80) (e81 : y.1 81 = x.1 81) (e82 : y.1 82 = x.1 82) : mLt y t l := by
  unfold mLt
  rw [e80, e81, e82]; exact h
/-- another thread's memory stays -/
theorem mTq_th (hN : NC C) (hz : th3 T x z) (ne : ¬ t = T) (q : mTq x C t h) : mTq z C t h := by
  obtain ⟨a1, a2, a3, a4, a5, a6, a7, a8, a9, b1, b2⟩ := q
  have f := fun c hc => hz.2.1 c t hc ne
  have g : ∀ n, n < 8 → z.1 76 (8 * t + n) = x.1 76 (8 * t + n) := fun n hn => hz.2.2 _ (by omega)
  refine ⟨by rw [f 73 (by omega)]; exact a1, a2, by rw [f 75 (by omega)]; exact a3, by rw [f 74 (by omega)]; exact a4, by rw [f 77 (by omega)]; exact a5, a6, by rw [f 78 (by omega)]; exact a7, by rw [hz.1.2.1 79 (by decide) (by decide)]; exact a8, mLt_eq a9 (hz.1.2.1 80 (by decide) (by decide)) (hz.1.2.1 81 (by decide) (by decide)) (hz.1.2.1 82 (by decide) (by decide)), fun c p hp => ?_, fun k hk c => ?_⟩
  · rw [g _ (kn_8 hN _ _ (slN_mem hp))]; exact b1 c p hp
  · rw [g k hk]; exact b2 k hk c
/-- a thread's memory behind its own steps -/
theorem mTq_own (o : owM z C T (owR C (Int32.ofNat T) s lv)) (z77 : z.1 77 T = 0) (z78 : z.1 78 T = 0) (h3 : h.2.2.2.1 = 0) (h4 : h.2.2.2.2.1 = 0) (h5 : z.1 79 T = h.2.2.2.2.2.1) (h6 : mLt z T h.2.2.2.2.2.2.1) : mTq z C T (thN C T h s lv) := by
  obtain ⟨o1, o2, o3, o4, ⟨o5, o6⟩, -⟩ := o
  refine ⟨o1, ?_, o3, o4, ?_, ?_, ?_, h5, h6, fun c p hp => ?_, o6⟩
  · show (owR C (Int32.ofNat T) s lv).1 ≤ 3
    omega
  · show z.1 77 T = Int32.ofNat h.2.2.2.1
    rw [h3, z77]; rfl
  · show h.2.2.2.1 ≤ 2
    omega
  · show z.1 78 T = h.2.2.2.2.1
    rw [h4, z78]
  · show z.1 76 _ = kvL C _ _ _ p
    unfold kvL
    rw [if_pos ⟨c, hp⟩]
    exact o5 c p hp
/-- cells and locks stay -/
def MMc (y : gd) (M : gMa) : Prop := (∀ c, c < 24 → y.1 70 c = M.1 c) ∧ ∀ l, l < 6 → y.1 71 l = Int32.ofNat (M.2.1 l).1 - 1 ∧ (M.2.1 l).1 ≤ 6 ∧ y.1 72 l = (M.2.1 l).2
theorem MMc_eq (h : MMc x M) (e0 : y.1 70 = x.1 70) (e1 : y.1 71 = x.1 71) (e2 : y.1 72 = x.1 72) : MMc y M := by
  unfold MMc
  rw [e0, e1, e2]; exact h
theorem MMc_th (h : MMc x M) (hz : th3 T x z) : MMc z M := MMc_eq h (hz.1.2.1 70 (by decide) (by decide)) (hz.1.2.1 71 (by decide) (by decide)) (hz.1.2.1 72 (by decide) (by decide))
theorem upf_eq {α : Type} {f : Nat → α} {j : Nat} {v : α} : upf f j v j = v := if_pos rfl
theorem upf_ne {α : Type} {f : Nat → α} {i j : Nat} {v : α} (h : ¬ i = j) : upf f j v i = f i := if_neg h
theorem MK_th3 (h : MK x C) (hz : th3 T x z) : MK z C := MK_md hz.1 rfl rfl h
end MTL
section DTL
variable {d : Nat} {S : gS} {x y : gd} {F : Int32 → gd → gS → Prop} {Fv : gd → gS → Prop} {C : gCo} {E : gMa}
/-- the end of an act: the thread goes on; then one that was started -/
theorem ds_act695 (t c s : Int32) (ht : vp_in t 6) {T K : Nat} (eT : T = t.toNatClampNeg) (cp : CP y) (hK : MK y C) (hN : NC C) (y73 : y.1 73 T = 1) (y74 : (y.1 74 T).toInt = (K : Nat)) (K2 : (K : Int) + 1 < (y.1 0 52).toInt ∧ (y.1 0 52).toInt ≤ 1500) (yq : q0 y T) {lv : Nat → Int32} (hlv : ∀ p, p < (stN C (K + 1)).2.1.length → y.1 76 (8 * T + slN (stN C (K + 1)).2.1 p) = lv p) (mc : MMc y E) (mT : ∀ t' : Nat, t' < 6 → ¬ t' = T → (s = 9 → ¬ t' = c.toNatClampNeg) → mTq y C t' (E.2.2 t')) (e3 : (E.2.2 T).2.2.2.1 = 0) (e4 : (E.2.2 T).2.2.2.2.1 = 0) (e5 : y.1 79 T = (E.2.2 T).2.2.2.2.2.1) (e6 : mLt y T (E.2.2 T).2.2.2.2.2.2.1)
    (hc : s = 9 → vp_in c 6 ∧ ¬ c.toNatClampNeg = T ∧ y.1 73 c.toNatClampNeg = 1 ∧ q0 y c.toNatClampNeg ∧ ∃ (h : gTq) (b : Nat) (lc : Nat → Int32), E.2.2 c.toNatClampNeg = thN C c.toNatClampNeg h b lc ∧ (y.1 74 c.toNatClampNeg).toInt = (b : Nat) ∧ b < C.1.length ∧ (∀ p, p < (stN C b).2.1.length → y.1 76 (8 * c.toNatClampNeg + slN (stN C b).2.1 p) = lc p) ∧ h.2.2.2.1 = 0 ∧ h.2.2.2.2.1 = 0 ∧ y.1 79 c.toNatClampNeg = h.2.2.2.2.2.1 ∧ mLt y c.toNatClampNeg h.2.2.2.2.2.2.1)
    (rt : ∀ t' : Nat, t' < 6 → ¬ t' = T → (s = 9 → ¬ t' = c.toNatClampNeg) → rT y S t') (rlT : rl y S T) (rlc : s = 9 → rl y S c.toNatClampNeg)
    (h : ∀ x' S', RI x' S' → ssub S S' → md hL hA y x' → MM1 x' C (upT E T (thN C T (E.2.2 T) (K + 1) lv)) → Fv x' S') : MD (d + 4) z_doAct 695 [(0, vr 0), (1, vi t), (4, vi s), (5, vi c)] [] S y (Dv Fv) := by
  have k1 : (1 : Int32).toInt = 1 := rfl
  have T6 : T < 6 := by rw [eT]; exact vt ht
  have l52 : (y.1 0 52).toInt = C.1.length := hK.1.1
  refine sd_doAct_695 _ _ _ ⟨ht, ht, fun y3' e3' => ?_⟩
  rw [← eT] at e3'
  have ki : (y.1 74 T + 1).toInt = (K + 1 : Nat) := by
    rw [t_add (by omega) (by omega), k1, y74]; omega
  have kc : (y.1 74 T + 1).toNatClampNeg = K + 1 := by rw [t_cl, ki]; rfl
  have t3 : th3 T y y3' := by rw [e3']; exact th3_si (by decide) _ _
  have a3 : y3'.1 74 T = y.1 74 T + 1 := by rw [e3', si_get, if_pos ⟨rfl, rfl⟩]
  have b73 : y3'.1 73 = y.1 73 := by rw [e3', si_cell (by decide)]
  have b76 : y3'.1 76 = y.1 76 := by rw [e3', si_cell (by decide)]
  have b52 : y3'.1 0 52 = y.1 0 52 := by rw [e3', si_cell (by decide)]
  have bq : q0 y3' T := by rw [e3']; exact q0_si (by decide) yq
  obtain ⟨st1, hst1⟩ : ∃ st1, C.1[K + 1]? = some st1 := ⟨_, List.getElem?_eq_getElem (by omega)⟩
  rw [stN_is hst1] at hlv
  refine ds_own3 t ht (CP_th (th3_th t3) cp) (by rw [← eT, a3, ki]; omega) (fun _ => by rw [← eT, a3, b52, ki]; omega) (by rw [← eT]; exact bq) (MK_th3 hK t3) hN (by rw [← eT, b73]; exact y73) (st0 := st1) (lv0 := lv) (by rw [← eT, a3, kc]; exact hst1) (fun p hp => by rw [← eT, b76]; exact hlv p hp) (fun z S2 tz sz raz w9 z78 ow => ?_)
  rw [← eT] at tz raz w9 z78 ow
  rw [a3, kc] at ow
  have ty : th3 T y z := th3_tr t3 tz
  have rtz : ∀ t' : Nat, t' < 6 → (s = 9 → ¬ t' = c.toNatClampNeg) → rT z S2 t' := by
    intro t' ht' hc'
    by_cases q : t' = T
    · rw [q]; exact ⟨raz, Or.inl w9, rl_th (th3_th ty) sz rlT⟩
    · exact rT_th (th3_th ty) sz q (rt t' ht' q hc')
  have mz : mTq z C T (thN C T (E.2.2 T) (K + 1) lv) := mTq_own ow w9 z78 e3 e4 (by rw [ty.1.2.1 79 (by decide) (by decide)]; exact e5) (mLt_eq e6 (ty.1.2.1 80 (by decide) (by decide)) (ty.1.2.1 81 (by decide) (by decide)) (ty.1.2.1 82 (by decide) (by decide)))
  have mo : ∀ t' : Nat, t' < 6 → ¬ t' = T → (s = 9 → ¬ t' = c.toNatClampNeg) → mTq z C t' (E.2.2 t') := fun t' ht' ne hc' => mTq_th hN ty ne (mT t' ht' ne hc')
  refine ⟨fun n9 => Dv_i (h z S2 ⟨CP_th (th3_th ty) cp, fun t' ht' => rtz t' ht' (fun q => absurd q n9)⟩ sz ty.1 ⟨(MMc_th mc ty).1, (MMc_th mc ty).2, fun t' ht' => ?_⟩), fun e9 => ?_⟩
  · show mTq z C t' (upf E.2.2 T _ t')
    by_cases q : t' = T
    · rw [q, upf_eq]; exact mz
    · rw [upf_ne q]; exact mo t' ht' q (fun z => absurd z n9)
  obtain ⟨c1, c2, c3, c4, hh, b, lc, g1, g2, g3, g4, g5, g6, g7, g8⟩ := hc e9
  obtain ⟨N, eN⟩ : ∃ N, N = c.toNatClampNeg := ⟨_, rfl⟩
  rw [← eN] at c2 c3 c4 g1 g2 g4 g7 g8
  have N6 : N < 6 := by rw [eN]; exact vt c1
  have f := fun q hq => ty.2.1 q N hq c2
  obtain ⟨stb, hstb⟩ : ∃ stb, C.1[b]? = some stb := ⟨_, List.getElem?_eq_getElem g3⟩
  have es := stN_is hstb
  have z74 : z.1 74 N = y.1 74 N := f 74 (by omega)
  have bc : (z.1 74 N).toNatClampNeg = b := by rw [z74, t_cl, g2]; rfl
  refine ds_own3 c c1 (CP_th (th3_th ty) cp) (by rw [← eN, z74, g2]; omega) (fun _ => by rw [← eN, z74, g2, ty.1.1 52 (by decide)]; omega) (by rw [← eN]; unfold q0; rw [f 77 (by omega), f 78 (by omega), f 75 (by omega)]; exact c4) (MK_th3 hK ty) hN (by rw [← eN, f 73 (by omega)]; exact c3) (st0 := stb) (lv0 := lc) (by rw [← eN, bc]; exact hstb) (fun p hp => ?_) (fun u S3 tu su rau wu u78 ou => ?_)
  · have hp' : p < (stN C b).2.1.length := by rw [es]; exact hp
    have k8 := kn_8 hN b _ (slN_mem hp')
    have g4' := g4 p hp'
    rw [es] at k8 g4'
    rw [← eN, ty.2.2 _ (by omega)]
    exact g4'
  rw [← eN] at tu rau wu u78 ou
  rw [bc] at ou
  refine Dv_i (h u S3 ⟨CP_th (th3_th tu) (CP_th (th3_th ty) cp), fun t' ht' => ?_⟩ (ssub_tr sz su) (md_tr ty.1 tu.1 rfl rfl) ⟨(MMc_th (MMc_th mc ty) tu).1, (MMc_th (MMc_th mc ty) tu).2, fun t' ht' => ?_⟩)
  · by_cases q : t' = N
    · rw [q]; exact ⟨rau, Or.inl wu, rl_th (th3_th tu) su (rl_th (th3_th ty) sz (by rw [eN]; exact rlc e9))⟩
    · exact rT_th (th3_th tu) su q (rtz t' ht' (fun _ => by rw [← eN]; exact q))
  · show mTq u C t' (upf E.2.2 T _ t')
    by_cases q : t' = T
    · rw [q, upf_eq]
      exact mTq_th hN tu (fun z => c2 z.symm) mz
    · rw [upf_ne q]
      by_cases q2 : t' = N
      · rw [q2, g1]
        exact mTq_own ou wu u78 g5 g6 (by rw [tu.1.2.1 79 (by decide) (by decide), ty.1.2.1 79 (by decide) (by decide)]; exact g7) (mLt_eq g8 (by rw [tu.1.2.1 80 (by decide) (by decide), ty.1.2.1 80 (by decide) (by decide)]) (by rw [tu.1.2.1 81 (by decide) (by decide), ty.1.2.1 81 (by decide) (by decide)]) (by rw [tu.1.2.1 82 (by decide) (by decide), ty.1.2.1 82 (by decide) (by decide)]))
      · exact mTq_th hN tu q2 (mo t' ht' q (fun _ => by rw [← eN]; exact q2))
end DTL
end
section
/-! the model: what an act answers is kept; the thread goes on -/
section DAC
variable {d : Nat} {S : gS} {x y : gd} {F : Int32 → gd → gS → Prop} {Fv : gd → gS → Prop} {C : gCo} {E : gMa}
/-- the slot that an act sets, and the others -/
theorem aft_slot (hN : NC C) {K p : Nat} {st : gNs} (hst : C.1[K]? = some st) (o4 : st.1 = 0 ∨ (2 ≤ st.1 ∧ st.1 ≤ 4)) (hto : st.2.2.2.1 = some p) : (aftN st).Pairwise (fun a b => b < a) ∧ (∀ s ∈ aftN st, s < 8) ∧ p < (aftN st).length ∧ mNt st = Int32.ofNat (slN (aftN st) p) ∧ ∀ j, j < (aftN st).length → ¬ j = p → j < st.2.1.length ∧ slN (aftN st) j = slN st.2.1 j := by
  have ns := hN.1 _ st hst
  obtain ⟨p', hto', hp⟩ := ns.2.2.2.1 (by omega)
  rw [hto] at hto'
  have ep := Option.some.inj hto'
  rw [← ep] at hp
  obtain ⟨pw, pm, p8⟩ := ns.2.2.2.2.1
  have h61' : mNt st = Int32.ofNat (if p = st.2.1.length then st.2.2.1 else slN st.2.1 p) := by
    unfold mNt
    rw [hto]
    show (if st.1 = 17 ∨ st.1 = 20 then _ else Int32.ofNat (if p = st.2.1.length then st.2.2.1 else slN st.2.1 p)) = _
    rw [if_neg (by omega)]
  rcases hp with hp | ⟨hp, hp8⟩
  · have ea : aftN st = st.2.1 := if_neg (fun z => by rw [hto] at z; have := Option.some.inj z.2; omega)
    rw [ea]
    exact ⟨pw, fun s hs => by have := pm s hs; omega, hp, by rw [h61', if_neg (by omega)], fun j hj _ => ⟨hj, rfl⟩⟩
  · have ea : aftN st = st.2.2.1 :: st.2.1 := if_pos ⟨by omega, by rw [hto, hp]⟩
    rw [ea]
    refine ⟨List.Pairwise.cons pm pw, fun s hs => ?_, by rw [hp]; exact Nat.lt_succ_self _, ?_, fun j hj hne => ?_⟩
    · rcases List.mem_cons.mp hs with e | hs
      · rw [e]; exact hp8
      · have := pm s hs; omega
    · rw [h61', if_pos hp]
      show _ = Int32.ofNat (if p = st.2.1.length then st.2.2.1 else slN st.2.1 p)
      rw [if_pos hp]
    · have hj : j < st.2.1.length + 1 := hj
      refine ⟨by omega, ?_⟩
      show (if j = st.2.1.length then st.2.2.1 else slN st.2.1 j) = _
      rw [if_neg (by omega)]
theorem ds_act667 (t k c s v : Int32) (ht : vp_in t 6) {T K : Nat} (eT : T = t.toNatClampNeg) (eK : k.toInt = (K : Nat)) (cp : CP y) (hK : MK y C) (hN : NC C) (hX : NXc C) {st : gNs} (hst : C.1[K]? = some st) (o16 : st.1 < 16) (K2 : (K : Int) + 1 < (y.1 0 52).toInt ∧ (y.1 0 52).toInt ≤ 1500) (mc : MMc y E) (mT : ∀ t' : Nat, t' < 6 → (s = 9 → ¬ t' = c.toNatClampNeg) → mTq y C t' (E.2.2 t')) (cT : s = 9 → ¬ c.toNatClampNeg = T) (e0 : (E.2.2 T).1 = 1) (e1 : (E.2.2 T).2.1 = 0) (e2 : (E.2.2 T).2.2.1 = K) (e3 : (E.2.2 T).2.2.2.1 = 0) (e4 : (E.2.2 T).2.2.2.2.1 = 0)
    (hc : s = 9 → vp_in c 6 ∧ y.1 73 c.toNatClampNeg = 1 ∧ q0 y c.toNatClampNeg ∧ ∃ (h : gTq) (b : Nat) (lc : Nat → Int32), E.2.2 c.toNatClampNeg = thN C c.toNatClampNeg h b lc ∧ (y.1 74 c.toNatClampNeg).toInt = (b : Nat) ∧ b < C.1.length ∧ (∀ p, p < (stN C b).2.1.length → y.1 76 (8 * c.toNatClampNeg + slN (stN C b).2.1 p) = lc p) ∧ h.2.2.2.1 = 0 ∧ h.2.2.2.2.1 = 0 ∧ y.1 79 c.toNatClampNeg = h.2.2.2.2.2.1 ∧ mLt y c.toNatClampNeg h.2.2.2.2.2.2.1)
    (rt : ∀ t' : Nat, t' < 6 → (s = 9 → ¬ t' = c.toNatClampNeg) → rT y S t') (rlc : s = 9 → rl y S c.toNatClampNeg)
    (h : ∀ x' S', RI x' S' → ssub S S' → md hL hA y x' → MM1 x' C (upT E T (thN C T (E.2.2 T) (K + 1) (toV st (E.2.2 T).2.2.2.2.2.2.2 v))) → Fv x' S') : MD (d + 4) z_doAct 667 [(0, vr 0), (1, vi t), (3, vi k), (4, vi s), (5, vi c), (6, vi v)] [] S y (Dv Fv) := by
  have k8 : (8 : Int32).toInt = 8 := rfl
  have tv := vp_in_iff.mp ht
  have T6 : T < 6 := by rw [eT]; exact vt ht
  have tTi : t.toInt = (T : Nat) := by rw [eT, t_cl]; omega
  have kK : k.toNatClampNeg = K := by rw [t_cl, eK]; rfl
  have kv : vp_in k 1500 := by rw [vp_in_iff]; omega
  have cT' : s = 9 → ¬ T = c.toNatClampNeg := fun z q => cT z q.symm
  obtain ⟨a1, a2, a3, a4, a5, a6, a7, a8, a9, b1, b2⟩ := mT T T6 cT'
  rw [e0] at a1
  rw [e1] at a3
  rw [e2] at a4
  rw [e3] at a5
  rw [e4] at a7
  rw [e0, e2] at b1
  have b1 := b1 (Or.inl rfl)
  rw [stN_is hst] at b1
  have ns := hN.1 _ st hst
  obtain ⟨-, -, -, -, -, -, -, g61, -⟩ := hK.1.2 _ st hst
  obtain ⟨-, -, -, -, nx6, -⟩ := hX _ st hst
  obtain ⟨st1, hst1, hsf⟩ := ns.2.1 (by omega)
  have es1 := stN_is hst1
  have fin : ∀ z : gd, th3 T y z → z.1 73 = y.1 73 → z.1 74 = y.1 74 → z.1 75 = y.1 75 → z.1 77 = y.1 77 → z.1 78 = y.1 78 → (∀ p, p < (aftN st).length → z.1 76 (8 * T + slN (aftN st) p) = toV st (E.2.2 T).2.2.2.2.2.2.2 v p) → MD (d + 4) z_doAct 695 [(0, vr 0), (1, vi t), (4, vi s), (5, vi c)] [] S z (Dv Fv) := by
    intro z tz f73 f74 f75 f77 f78 hl
    have f := fun q (h0 : q ≠ 0) hq => tz.1.2.1 q h0 hq
    have f52 : z.1 0 52 = y.1 0 52 := tz.1.1 52 (by decide)
    have lt : ∀ {n : Nat} {l : List (Nat × Int32)}, mLt y n l → mLt z n l := fun q => mLt_eq q (f 80 (by decide) (by decide)) (f 81 (by decide) (by decide)) (f 82 (by decide) (by decide))
    refine ds_act695 t c s ht eT (CP_th (th3_th tz) cp) (MK_th3 hK tz) hN (by rw [f73]; exact a1) (by rw [f74]; exact a4) (by rw [f52]; exact K2) (by unfold q0; rw [f77, f78, f75]; exact ⟨a5, a7, a3⟩) (fun p hp => ?_) (MMc_th mc tz) (fun t' ht' ne hc' => mTq_th hN tz ne (mT t' ht' hc')) e3 e4 (by rw [f 79 (by decide) (by decide)]; exact a8) (lt a9) (fun e9 => ?_) (fun t' ht' ne hc' => rT_th (th3_th tz) (ssub_rf _) ne (rt t' ht' hc')) (rl_th (th3_th tz) (ssub_rf _) (rt T T6 cT').2.2) (fun e9 => rl_th (th3_th tz) (ssub_rf _) (rlc e9)) (fun x' S' r ss m mm => h x' S' r ss (md_tr tz.1 m rfl rfl) mm)
    · rw [es1] at hp ⊢
      rw [slN_suf hsf hp]
      exact hl p (by have := hsf.length_le; omega)
    · obtain ⟨c1, c3, c4, hh, b, lc, g1, g2, g3, g4, g5, g6, g7, g8⟩ := hc e9
      refine ⟨c1, cT e9, by rw [f73]; exact c3, by unfold q0; rw [f77, f78, f75]; exact c4, hh, b, lc, g1, by rw [f74]; exact g2, g3, fun p hp => ?_, g5, g6, by rw [f 79 (by decide) (by decide)]; exact g7, lt g8⟩
      have q8 := kn_8 hN b _ (slN_mem hp)
      have cne := cT e9
      rw [tz.2.2 _ (by omega)]
      exact g4 p hp
  rw [← kK] at g61
  refine sd_doAct_667 _ _ _ _ _ ⟨kv, ?_⟩
  rw [g61]
  cases hto : st.2.2.2.1 with
  | none =>
    have em : mNt st = -1 := by unfold mNt; rw [hto]
    have ea : aftN st = st.2.1 := if_neg (fun z => by rw [hto] at z; exact nomatch z.2)
    rw [em]
    refine ⟨fun _ => fin y (th3_rf T y) rfl rfl rfl rfl rfl (fun p hp => ?_), fun ne => absurd rfl ne⟩
    rw [ea] at hp ⊢
    unfold toV
    rw [hto]
    exact b1 p hp
  | some p =>
    have o4 : st.1 = 0 ∨ (2 ≤ st.1 ∧ st.1 ≤ 4) := Classical.byContradiction (fun n4 => by
      rw [nx6 (by omega)] at hto
      exact nomatch hto)
    obtain ⟨apw, ap8, app, ap61, apj⟩ := aft_slot hN hst o4 hto
    have sl8 := ap8 _ (slN_mem app)
    have eo : (Int32.ofNat (slN (aftN st) p)).toInt = (slN (aftN st) p : Nat) := Int32.toInt_ofNat_of_lt (by omega)
    have m8 : (8 * t).toInt = 8 * t.toInt := by rw [t_mul (by rw [k8]; omega) (by rw [k8]; omega), k8]
    have ei : (8 * t + Int32.ofNat (slN (aftN st) p)).toInt = 8 * t.toInt + (slN (aftN st) p : Nat) := by rw [t_add (by omega) (by omega), m8, eo]
    have ei' : (8 * t + Int32.ofNat (slN (aftN st) p)).toNatClampNeg = 8 * T + slN (aftN st) p := by rw [t_cl, ei, tTi]; omega
    rw [ap61]
    refine ⟨fun q => ?_, fun ne => ⟨kv, by rw [vp_in_iff, ei]; omega, fun z ez => ?_⟩⟩
    · rw [t_eq, eo, show (-1 : Int32).toInt = -1 from rfl] at q
      omega
    · rw [ei'] at ez
      have tz : th3 T y z := by rw [ez]; exact th3_76 (by omega) _ _
      refine fin z tz (by rw [ez, si_cell (by decide)]) (by rw [ez, si_cell (by decide)]) (by rw [ez, si_cell (by decide)]) (by rw [ez, si_cell (by decide)]) (by rw [ez, si_cell (by decide)]) (fun j hj => ?_)
      unfold toV
      rw [hto, ez, si_get]
      show _ = fup _ p v j
      unfold fup
      by_cases c9 : j = p
      · rw [c9, if_pos ⟨rfl, rfl⟩, if_pos rfl]
      · obtain ⟨j1', j2'⟩ := apj j hj c9
        rw [if_neg (fun z => c9 (slN_inj apw hj app (by have := z.2; omega))), if_neg c9, j2']
        exact b1 j j1'
end DAC
end
section
/-! the machine: small rows; the model's see -/
section PAC
variable {C : gCo} {M : gMa} {w t s c : Nat} {e f : Int32} {wk : Option Nat}
theorem lkI_le : (lkI C M t).1 ≤ 2 := by
  unfold lkI
  split
  · exact Nat.zero_le _
  · split
    · show 1 ≤ 2
      omega
    · split
      · show 2 ≤ 2
        omega
      · exact Nat.zero_le _
theorem rsF_le : rsF C w M t s c ≤ 9 := by
  unfold rsF
  (repeat' split) <;> omega
theorem lkM_le : (lkM C w M t).1 ≤ 9 := by
  unfold lkM
  split
  · exact Nat.zero_le _
  · split
    · show (lkI C M t).1 ≤ 9
      have := lkI_le (C := C) (M := M) (t := t)
      omega
    · split
      · show 1 ≤ 9
        omega
      · split
        · show 1 ≤ 9
          omega
        · exact rsF_le
theorem ef_0 : efM C w M t 0 c e f wk = (M, seM M t c) := by unfold efM; rfl
theorem ef_1 : efM C w M t 1 c e f wk = if w = 0 ∨ suM C c = true then (upC M c e, 0) else (upT M t ((M.2.2 t).1, (M.2.2 t).2.1, (M.2.2 t).2.2.1, (M.2.2 t).2.2.2.1, (M.2.2 t).2.2.2.2.1, (M.2.2 t).2.2.2.2.2.1, (M.2.2 t).2.2.2.2.2.2.1 ++ [(c, e)], (M.2.2 t).2.2.2.2.2.2.2), 0) := by unfold efM; rfl
theorem ef_2 : efM C w M t 2 c e f wk = (upC M c e, M.1 c) := by unfold efM; rfl
theorem ef_3 : efM C w M t 3 c e f wk = (upC M c (M.1 c + e), M.1 c) := by unfold efM; rfl
theorem ef_4 : efM C w M t 4 c e f wk = (upC M c (if M.1 c = e then f else M.1 c), if M.1 c = e then 1 else 0) := by unfold efM; rfl
theorem ef_5 : efM C w M t 5 c e f wk = (upL M c (t + 1, (M.2.1 c).2 + 1), 0) := by unfold efM; rfl
theorem ef_6 : efM C w M t 6 c e f wk = (upL M c (if (M.2.1 c).2 - 1 = 0 then 0 else t + 1, (M.2.1 c).2 - 1), 0) := by unfold efM; rfl
theorem ef_7 : efM C w M t 7 c e f wk = (upT (upL M c (0, 0)) t ((M.2.2 t).1, (M.2.2 t).2.1, (M.2.2 t).2.2.1, 1, (M.2.1 c).2, (M.2.2 t).2.2.2.2.2), 0) := by unfold efM; rfl
theorem ef_13 : efM C w M t 13 c e f wk = (upT M t ((M.2.2 t).1, (M.2.2 t).2.1, (M.2.2 t).2.2.1, (M.2.2 t).2.2.2.1, (M.2.2 t).2.2.2.2.1, (stN C (M.2.2 t).2.2.1).2.2.2.2.1, (M.2.2 t).2.2.2.2.2.2), 0) := by unfold efM; rfl
theorem ef_14 : efM C w M t 14 c e f wk = (upT M t ((M.2.2 t).1, (M.2.2 t).2.1, (M.2.2 t).2.2.1, (M.2.2 t).2.2.2.1, (M.2.2 t).2.2.2.2.1, -1, (M.2.2 t).2.2.2.2.2.2), 0) := by unfold efM; rfl
theorem ef_15 : efM C w M t 15 c e f wk = (upT (upL M c (t + 1, (M.2.2 t).2.2.2.2.1)) t ((M.2.2 t).1, (M.2.2 t).2.1, (M.2.2 t).2.2.1, 0, 0, (M.2.2 t).2.2.2.2.2), 0) := by unfold efM; rfl
theorem ef_o (h : s = 10 ∨ s = 11 ∨ s = 12) : efM C w M t s c e f wk = (M, 0) := by
  rcases h with h | h | h <;> rw [h] <;> unfold efM <;> rfl
theorem acM_F (h : ¬ (lkM C w M t).1 = 0) : acM C w M t wk = upT M t (thF (M.2.2 t) (lkM C w M t).1) := by
  unfold acM
  rw [if_pos h]
theorem acM_7 (h : (lkM C w M t).1 = 0) (h7 : soM C (M.2.2 t) = 7) : acM C w M t wk = (efM C w M t 7 (lkM C w M t).2.1.toNatClampNeg 0 0 wk).1 := by
  unfold acM
  rw [if_neg (fun z => z h), if_pos h7]
theorem acM_is {E : gMa} {v : Int32} (h : (lkM C w M t).1 = 0) (h7 : ¬ soM C (M.2.2 t) = 7) (e9 : efM C w M t (soM C (M.2.2 t)) (lkM C w M t).2.1.toNatClampNeg (lkM C w M t).2.2.1 (lkM C w M t).2.2.2 wk = (E, v)) : acM C w M t wk = upT E t (thN C t (E.2.2 t) ((M.2.2 t).2.2.1 + 1) (toV (stN C (M.2.2 t).2.2.1) (M.2.2 t).2.2.2.2.2.2.2 v)) := by
  unfold acM
  rw [if_neg (fun z => z h), if_neg h7, e9]
end PAC
section DSE
variable {d : Nat} {S : gS} {x y : gd} {F : Int32 → gd → gS → Prop} {Fv : gd → gS → Prop} {C : gCo} {M : gMa}
theorem ds_see3 (t c : Int32) (ht : vp_in t 6) (hc : vp_in c 24) (q : rl x S t.toNatClampNeg) {l : List (Nat × Int32)} (hl : mLt x t.toNatClampNeg l) (h : F (seL l c.toNatClampNeg (x.1 70 c.toNatClampNeg)) x S) : MD d z_see 0 [(0, vr 0), (1, vi t), (2, vi c)] [] S x (Di F) := by
  have k1 : (1 : Int32).toInt = 1 := rfl
  obtain ⟨l1, l2⟩ := hl
  have q8 := q.2.1
  have cb := vp_in_iff.mp hc
  have cc := cl_i cb.1
  obtain ⟨R, eR⟩ : ∃ R, R = seL l c.toNatClampNeg (x.1 70 c.toNatClampNeg) := ⟨_, rfl⟩
  rw [← eR] at h
  have loop : ∀ (n : Nat) (v i : Int32), 0 ≤ i.toInt → (x.1 80 t.toNatClampNeg).toInt - i.toInt ≤ n → seL (l.drop i.toInt.toNat) c.toNatClampNeg v = R → MD d z_see 10 [(0, vr 0), (1, vi t), (2, vi c), (3, vi v), (4, vi i)] [] S x (Di F) := by
    have fin : ∀ (v i : Int32), (x.1 80 t.toNatClampNeg).toInt ≤ i.toInt → seL (l.drop i.toInt.toNat) c.toNatClampNeg v = R → Di F (some (vi v)) x S := fun v i hi hs => by
      rw [List.drop_eq_nil_of_le (by omega)] at hs
      have hs : v = R := hs
      rw [hs]
      exact Di_i h
    intro n
    induction n with
    | zero =>
      intro v i i0 hi hs
      exact sd_see_10 _ _ _ _ ⟨ht, fun _ => fin v i (by omega) hs, fun c => absurd (t_le.mpr (by omega)) c⟩
    | succ n ih =>
      intro v i i0 hi hs
      refine sd_see_10 _ _ _ _ ⟨ht, fun c9 => fin v i (by rw [t_le] at c9; exact c9) hs, fun c9 => ?_⟩
      rw [t_le] at c9
      obtain ⟨a1, a2, a3, a4⟩ := rl_at ht q (i := i) i0 (by omega)
      have i1 : (i + 1).toInt = i.toInt + 1 := by rw [t_add (by omega) (by omega), k1]
      have hi' : i.toInt.toNat < l.length := by omega
      obtain ⟨b1, b2, b3⟩ := l2 i.toInt.toNat _ (List.getElem?_eq_getElem hi')
      rw [List.drop_eq_getElem_cons hi', seL] at hs
      have ea : (10 * t + i).toNatClampNeg = 10 * t.toNatClampNeg + i.toInt.toNat := by rw [(t10 ht i0 (by omega)).2, t_cl i]
      have en : (i + 1).toInt.toNat = i.toInt.toNat + 1 := by omega
      have ec : Int32.ofNat l[i.toInt.toNat].1 = c ↔ l[i.toInt.toNat].1 = c.toNatClampNeg := by
        have e9 : (Int32.ofNat l[i.toInt.toNat].1).toInt = (l[i.toInt.toNat].1 : Nat) := Int32.toInt_ofNat_of_lt (by omega)
        rw [t_eq, e9]
        omega
      refine ⟨a1, a2, fun c9 => ih _ _ (by omega) (by omega) ?_, fun c9 => ⟨a1, a3, ih _ _ (by omega) (by omega) ?_⟩⟩
      · rw [ea, b1] at c9
        rw [if_neg (fun z => c9 (ec.mpr z))] at hs
        rw [en]; exact hs
      · rw [ea, b1] at c9
        rw [if_pos (ec.mp c9)] at hs
        rw [en, ea, b2]; exact hs
  exact sd_see_0 _ _ ⟨hc, loop _ _ 0 (by decide) (Int.self_le_toNat _) eR.symm⟩
theorem MM1_md {L A : List Nat} (m : md L A x y) (hA : [70, 71, 72, 73, 74, 75, 76, 77, 78, 79, 80, 81, 82].all (fun k => !A.elem k) = true) (h : MM1 x C M) : MM1 y C M := by
  have f : ∀ k ∈ [70, 71, 72, 73, 74, 75, 76, 77, 78, 79, 80, 81, 82], y.1 k = x.1 k := fun k hk => m.2.1 k (fun e => by rw [e] at hk; exact absurd hk (by decide)) (all_no hA k hk)
  unfold MM1 mTq mLt mLv at h ⊢
  rw [f 70 (by decide), f 71 (by decide), f 72 (by decide), f 73 (by decide), f 74 (by decide), f 75 (by decide), f 76 (by decide), f 77 (by decide), f 78 (by decide), f 79 (by decide), f 80 (by decide), f 81 (by decide), f 82 (by decide)]
  exact h
end DSE
end
section
/-! the model: an act done is what the machine does -/
/-- what holds of every state of the machine -/
def WM (M : gMa) : Prop := ∀ t, t < 6 → (¬ (M.2.2 t).1 = 3 → (M.2.2 t).2.1 = 0) ∧ ((M.2.2 t).2.2.2.1 = 0 → (M.2.2 t).2.2.2.2.1 = 0) ∧ (¬ (M.2.2 t).1 = 1 → (M.2.2 t).2.2.2.1 = 0)
section DAD
variable {d : Nat} {S : gS} {x y z : gd} {F : Int32 → gd → gS → Prop} {Fv : gd → gS → Prop} {C : gCo} {M : gMa}
theorem mTq_md {L A : List Nat} {t : Nat} {h : gTq} (m : md L A x y) (hA : [73, 74, 75, 76, 77, 78, 79, 80, 81, 82].all (fun k => !A.elem k) = true) (q : mTq x C t h) : mTq y C t h := by
  have f : ∀ k ∈ [73, 74, 75, 76, 77, 78, 79, 80, 81, 82], y.1 k = x.1 k := fun k hk => m.2.1 k (fun e => by rw [e] at hk; exact absurd hk (by decide)) (all_no hA k hk)
  unfold mTq mLt mLv at q ⊢
  rw [f 73 (by decide), f 74 (by decide), f 75 (by decide), f 76 (by decide), f 77 (by decide), f 78 (by decide), f 79 (by decide), f 80 (by decide), f 81 (by decide), f 82 (by decide)]
  exact q
theorem MMc_C {c : Nat} {v : Int32} (h : MMc x M) (e0 : ∀ j, z.1 70 j = if j = c then v else x.1 70 j) (e1 : z.1 71 = x.1 71) (e2 : z.1 72 = x.1 72) : MMc z (upC M c v) := by
  refine ⟨fun j hj => ?_, fun l hl => ?_⟩
  · rw [e0 j]
    show _ = upf M.1 c v j
    unfold upf
    by_cases q : j = c
    · rw [if_pos q, if_pos q]
    · rw [if_neg q, if_neg q]; exact h.1 j hj
  · rw [e1, e2]; exact h.2 l hl
theorem MMc_L {c n : Nat} {a b : Int32} (h : MMc x M) (e0 : z.1 70 = x.1 70) (e1 : ∀ j, z.1 71 j = if j = c then a else x.1 71 j) (e2 : ∀ j, z.1 72 j = if j = c then b else x.1 72 j) (ha : a = Int32.ofNat n - 1) (hn : n ≤ 6) : MMc z (upL M c (n, b)) := by
  refine ⟨fun j hj => by rw [e0]; exact h.1 j hj, fun l hl => ?_⟩
  rw [e1 l, e2 l]
  show _ = Int32.ofNat (upf M.2.1 c (n, b) l).1 - 1 ∧ (upf M.2.1 c (n, b) l).1 ≤ 6 ∧ _ = (upf M.2.1 c (n, b) l).2
  unfold upf
  by_cases q : l = c
  · rw [if_pos q, if_pos q, if_pos q]; exact ⟨ha, hn, rfl⟩
  · rw [if_neg q, if_neg q, if_neg q]; exact h.2 l hl
theorem si_at {c n c' : Nat} {v : Int32} (h : c' = c) (j : Nat) : (si x c n v).1 c' j = if j = n then v else x.1 c' j := by
  rw [si_get]
  by_cases q : j = n
  · rw [if_pos ⟨h, q⟩, if_pos q]
  · rw [if_neg (fun z => q z.2), if_neg q]
/-- an act that fails -/
theorem ds_actF (t n : Int32) (ht : vp_in t 6) {T k : Nat} (eT : T = t.toNatClampNeg) (ri : RI y S) (hK : MK y C) (hN : NC C) (hM : MM1 y C M) (hW : WM M) (h1 : y.1 73 T = 1) (w0 : (M.2.2 T).2.2.2.1 = 0) (en : n = Int32.ofNat k) (h : ∀ x' S', RI x' S' → ssub S S' → md hL hA y x' → MM1 x' C (upT M T (thF (M.2.2 T) k)) → Fv x' S') : MD (d + 1) z_failThread 0 [(0, vr 0), (1, vi t), (2, vi n)] [] S y (Dv (fun z S1 => MD (d + 1) z_clean 0 [(0, vr 0), (1, vi t)] [] S1 z (Dv Fv))) := by
  have T6 : T < 6 := by rw [eT]; exact vt ht
  obtain ⟨a1, a2, a3, a4, a5, a6, a7, a8, a9, b1, b2⟩ := hM.2.2 T T6
  have kk := (ri.2 T T6).1
  have l52 : (y.1 0 52).toInt = C.1.length := hK.1.1
  have sta1 : (M.2.2 T).1 = 1 := by
    have : Int32.ofNat (M.2.2 T).1 = 1 := by rw [← a1]; exact h1
    rcases (show (M.2.2 T).1 = 0 ∨ (M.2.2 T).1 = 1 ∨ (M.2.2 T).1 = 2 ∨ (M.2.2 T).1 = 3 by omega) with e | e | e | e <;> rw [e] at this ⊢ <;> first | rfl | exact absurd this (by decide)
  obtain ⟨st, hst⟩ : ∃ st, C.1[(M.2.2 T).2.2.1]? = some st := ⟨_, List.getElem?_eq_getElem (by have := (kk.2.2 h1).1; omega)⟩
  have es := stN_is hst
  obtain ⟨-, -, -, -, -, -, -, -, g62⟩ := hK.1.2 _ st hst
  have cK : (y.1 74 T).toNatClampNeg = (M.2.2 T).2.2.1 := by rw [t_cl, a4]; rfl
  refine ds_fail3 t n ht (fun z tz e3 e4 e7 e5 e8 e6 => ?_)
  rw [← eT] at tz e3 e4 e7 e5 e8
  have z62 : z.1 62 = y.1 62 := tz.1.2.1 62 (by decide) (by decide)
  refine ds_clean3 t ht (by rw [← eT, e4]; exact ⟨kk.1, kk.2.1⟩) (sl := st.2.1) (fun k hk => kn_8 hN (M.2.2 T).2.2.1 k (by rw [es]; exact hk)) (fun _ => by rw [← eT, e4, cK, z62]; exact g62) (fun u tu f73 f75 f77 f78 f74 _ f76 => h u S ⟨CP_th (th3_th tu) (CP_th (th3_th tz) ri.1), fun t' ht' => ?_⟩ (ssub_rf _) (md_tr tz.1 tu.1 rfl rfl) ⟨(MMc_th (MMc_th (M := M) ⟨hM.1, hM.2.1⟩ tz) tu).1, (MMc_th (MMc_th (M := M) ⟨hM.1, hM.2.1⟩ tz) tu).2, fun t' ht' => ?_⟩)
  · rw [← eT] at tu f74
    have g74 := f74 (by rw [e3]; decide)
    by_cases q : t' = T
    · rw [q]
      refine ⟨⟨by rw [g74, e4]; exact kk.1, by rw [g74, e4]; exact kk.2.1, fun z9 => by rw [f73, e3] at z9; exact absurd z9 (by decide)⟩, Or.inl (by rw [f77]; exact e7), rl_th (th3_th tu) (ssub_rf _) (rl_th (th3_th tz) (ssub_rf _) (ri.2 T T6).2.2)⟩
    · exact rT_th (th3_th tu) (ssub_rf _) q (rT_th (th3_th tz) (ssub_rf _) q (ri.2 t' ht'))
  · rw [← eT] at tu f74 f76
    have g74 := f74 (by rw [e3]; decide)
    show mTq u C t' (upf M.2.2 T _ t')
    by_cases q : t' = T
    · rw [q, upf_eq]
      have f := fun q (h0 : q ≠ 0) hq => (tu.1.2.1 q h0 hq).trans (tz.1.2.1 q h0 hq)
      refine ⟨by rw [f73, e3]; rfl, Nat.le_refl _, by rw [f75, e5, en]; rfl, by rw [g74, e4]; exact a4, ?_, a6, ?_, by rw [f 79 (by decide) (by decide)]; exact a8, mLt_eq a9 (f 80 (by decide) (by decide)) (f 81 (by decide) (by decide)) (f 82 (by decide) (by decide)), fun _ p hp => ?_, fun k' hk' c9 => ?_⟩
      · show u.1 77 T = Int32.ofNat (M.2.2 T).2.2.2.1
        rw [f77, e7, w0]; rfl
      · show u.1 78 T = (M.2.2 T).2.2.2.2.1
        rw [f78, e8, (hW T T6).2.1 w0]
      · have hp : p < (stN C (M.2.2 T).2.2.1).2.1.length := hp
        show u.1 76 (8 * T + slN (stN C (M.2.2 T).2.2.1).2.1 p) = (M.2.2 T).2.2.2.2.2.2.2 p
        have hm := slN_mem hp
        rw [f76 _ (kn_8 hN _ _ hm), if_pos ⟨Or.inr e3, by rw [← es]; exact hm⟩, e6]
        exact b1 (Or.inl sta1) p hp
      · have c9 : ¬ ((3 = 1 ∨ 3 = 3) ∧ k' ∈ (stN C (M.2.2 T).2.2.1).2.1) := c9
        rw [f76 k' hk', if_neg (fun z9 => c9 ⟨Or.inr rfl, by rw [es]; exact z9.2⟩)]
    · rw [upf_ne q]
      exact mTq_th hN tu q (mTq_th hN tz q (hM.2.2 t' ht'))
end DAD
end
section
/-! the model: a late write comes -/
section DLT
variable {d : Nat} {S : gS} {x : gd} {F : Int32 → gd → gS → Prop} {Fv : gd → gS → Prop} {C : gCo} {M : gMa}
theorem ds_doLate3 (t i : Int32) (ht : vp_in t 6) (ri : RI x S) (h0 : 0 ≤ i.toInt) (h1 : i.toInt < (x.1 80 t.toNatClampNeg).toInt) (hM : MM1 x C M) (h : ∀ x' S', RI x' S' → ssub S S' → md [] [70, 80, 81, 82] x x' → MM1 x' C (laM M t.toNatClampNeg i.toInt.toNat) → Fv x' S') : MD d z_doLate 0 [(0, vr 0), (1, vi t), (2, vi i)] [] S x (Dv Fv) := by
  have k1 : (1 : Int32).toInt = 1 := rfl
  obtain ⟨T, eT⟩ : ∃ T, T = t.toNatClampNeg := ⟨_, rfl⟩
  have T6 : T < 6 := by rw [eT]; exact vt ht
  have mT := hM.2.2 T T6
  obtain ⟨lL, lA⟩ := mT.2.2.2.2.2.2.2.2.1
  obtain ⟨l, el⟩ : ∃ l, l = (M.2.2 T).2.2.2.2.2.2.1 := ⟨_, rfl⟩
  rw [← el] at lL lA
  obtain ⟨I, eI⟩ : ∃ I, I = i.toInt.toNat := ⟨_, rfl⟩
  obtain ⟨L, eL⟩ : ∃ L, L = x.1 80 t.toNatClampNeg := ⟨_, rfl⟩
  have rx := (ri.2 _ (vt ht)).2.2
  have L8 := rx.2.1
  rw [← eL] at h1 L8
  have l1 : (L - 1).toInt = L.toInt - 1 := by rw [t_sub (by omega) (by omega), k1]
  -- every place of the thread below L is in order
  let Z : gd → gS → Prop := fun z S2 => md [] [70, 80, 81, 82] x z ∧ ssub S S2 ∧ z.1 80 t.toNatClampNeg = L - 1 ∧ (∀ t' : Nat, ¬ t' = t.toNatClampNeg → z.1 80 t' = x.1 80 t') ∧ ∀ t' : Nat, t' < 6 → ∀ k : Nat, (k : Int) < (x.1 80 t').toInt → S2 81 (10 * t' + k) ∧ S2 82 (10 * t' + k) ∧ 0 ≤ (z.1 81 (10 * t' + k)).toInt ∧ (z.1 81 (10 * t' + k)).toInt < 24
  have lL' : L.toInt = (l.length : Nat) := by rw [eL, ← eT]; exact lL
  have hIl : I < l.length := by omega
  have hq : l[I]? = some l[I] := List.getElem?_eq_getElem hIl
  have hla : laM M T I = upT (upC M l[I].1 l[I].2) T ((M.2.2 T).1, (M.2.2 T).2.1, (M.2.2 T).2.2.1, (M.2.2 T).2.2.2.1, (M.2.2 T).2.2.2.2.1, (M.2.2 T).2.2.2.2.2.1, l.eraseIdx I, (M.2.2 T).2.2.2.2.2.2.2) := by
    unfold laM
    rw [← el, hq]
  -- the thread's row, moved up to j; the others' as they were; the cell
  let G : gd → Int32 → Prop := fun z j => (∀ p : Nat, p < 10 → z.1 81 (10 * T + p) = (if I ≤ p ∧ (p : Int) < j.toInt then x.1 81 (10 * T + (p + 1)) else x.1 81 (10 * T + p)) ∧ z.1 82 (10 * T + p) = (if I ≤ p ∧ (p : Int) < j.toInt then x.1 82 (10 * T + (p + 1)) else x.1 82 (10 * T + p))) ∧ (∀ n : Nat, ¬ (10 * T ≤ n ∧ n < 10 * T + 10) → z.1 81 n = x.1 81 n ∧ z.1 82 n = x.1 82 n) ∧ ∀ n : Nat, z.1 70 n = if n = l[I].1 then l[I].2 else x.1 70 n
  have fin : ∀ (z : gd) (S2 : gS) (j : Int32), Z z S2 → G z j → L.toInt - 1 ≤ j.toInt → Dv Fv none z S2 := by
    intro z S2 j hz hg hj
    obtain ⟨z1, z2, z3, z4, z5⟩ := hz
    refine Dv_i (h z S2 ⟨CP_md z1 rfl rfl ri.1, fun t' ht' => ?_⟩ z2 z1 ?_)
    rotate_left
    · rw [← eT, ← eI, hla]
      obtain ⟨g1, g2, g3⟩ := hg
      have f := fun q (h0 : q ≠ 0) hq => z1.2.1 q h0 hq
      have same : ∀ (t' : Nat) (hh : gTq), mLt z t' hh.2.2.2.2.2.2.1 → mTq x C t' (hh.1, hh.2.1, hh.2.2.1, hh.2.2.2.1, hh.2.2.2.2.1, hh.2.2.2.2.2.1, (M.2.2 t').2.2.2.2.2.2.1, hh.2.2.2.2.2.2.2) → mTq z C t' hh := fun t' hh hm q => by
        obtain ⟨a1, a2, a3, a4, a5, a6, a7, a8, -, b1⟩ := q
        refine ⟨by rw [f 73 (by decide) (by decide)]; exact a1, a2, by rw [f 75 (by decide) (by decide)]; exact a3, by rw [f 74 (by decide) (by decide)]; exact a4, by rw [f 77 (by decide) (by decide)]; exact a5, a6, by rw [f 78 (by decide) (by decide)]; exact a7, by rw [f 79 (by decide) (by decide)]; exact a8, hm, ?_⟩
        unfold mLv at b1 ⊢
        rw [f 76 (by decide) (by decide)]; exact b1
      refine ⟨(MMc_C (M := M) (z := z) ⟨hM.1, hM.2.1⟩ g3 (f 71 (by decide) (by decide)) (f 72 (by decide) (by decide))).1, (MMc_C (M := M) (z := z) ⟨hM.1, hM.2.1⟩ g3 (f 71 (by decide) (by decide)) (f 72 (by decide) (by decide))).2, fun t' ht' => ?_⟩
      show mTq z C t' (upf M.2.2 T _ t')
      by_cases c : t' = T
      · rw [c, upf_eq]
        refine same T _ ⟨?_, fun p q hpq => ?_⟩ (hM.2.2 T T6)
        · rw [← eT] at z3
          show (z.1 80 T).toInt = ((l.eraseIdx I).length : Nat)
          rw [z3, l1, List.length_eraseIdx_of_lt hIl]
          omega
        · have hpq : (l.eraseIdx I)[p]? = some q := hpq
          rw [List.getElem?_eraseIdx] at hpq
          by_cases c9 : p < I
          · rw [if_pos c9] at hpq
            have := gt_lt hpq
            obtain ⟨b1, b2⟩ := g1 p (by omega)
            rw [if_neg (fun z => by omega)] at b1 b2
            rw [b1, b2]
            exact lA p q hpq
          · rw [if_neg c9] at hpq
            have := gt_lt hpq
            obtain ⟨b1, b2⟩ := g1 p (by omega)
            rw [if_pos ⟨by omega, by omega⟩] at b1 b2
            rw [b1, b2]
            exact lA (p + 1) q hpq
      · rw [upf_ne c]
        refine same t' _ ⟨?_, fun p q hpq => ?_⟩ (hM.2.2 t' ht')
        · rw [z4 t' (by rw [← eT]; exact c)]
          exact (hM.2.2 t' ht').2.2.2.2.2.2.2.2.1.1
        · have b := (hM.2.2 t' ht').2.2.2.2.2.2.2.2.1
          have := gt_lt hpq
          have r8 := (ri.2 t' ht').2.2.2.1
          have b1 := b.1
          obtain ⟨c1, c2⟩ := g2 (10 * t' + p) (by omega)
          rw [c1, c2]
          exact b.2 p q hpq
    obtain ⟨q1, q2, q3⟩ := ri.2 t' ht'
    have g := fun k (h0 : k ≠ 0) hk => z1.2.1 k h0 hk
    refine ⟨?_, ?_, ?_⟩
    · unfold ra
      rw [g 73 (by decide) (by decide), g 74 (by decide) (by decide), g 54 (by decide) (by decide), z1.1 52 (by decide)]
      exact q1
    · unfold rw'
      rw [g 73 (by decide) (by decide), g 74 (by decide) (by decide), g 55 (by decide) (by decide), g 77 (by decide) (by decide)]
      exact q2
    · by_cases c : t' = t.toNatClampNeg
      · rw [c]
        refine ⟨by rw [z3]; omega, by rw [z3]; omega, fun k hk => z5 _ (vt ht) k ?_⟩
        rw [z3] at hk
        rw [← eL]; omega
      · unfold rl
        rw [z4 t' c]
        exact ⟨q3.1, q3.2.1, fun k hk => z5 t' ht' k hk⟩
  have loop : ∀ (n : Nat) (z : gd) (S2 : gS) (j : Int32), Z z S2 → G z j → I ≤ j.toInt.toNat → 0 ≤ j.toInt → L.toInt - 1 - j.toInt ≤ n → MD d z_doLate 39 [(0, vr 0), (1, vi t), (3, vi j)] [] S2 z (Dv Fv) := by
    intro n
    induction n with
    | zero =>
      intro z S2 j hz hg hIj j0 hj
      refine sd_doLate_39 _ _ ⟨ht, ?_⟩
      rw [hz.2.2.1]
      exact ⟨fun _ => fin z S2 j hz hg (by omega), fun c => absurd (t_le.mpr (by omega)) c⟩
    | succ n ih =>
      intro z S2 j hz hg hIj j0 hj
      refine sd_doLate_39 _ _ ⟨ht, ?_⟩
      rw [hz.2.2.1]
      refine ⟨fun c => fin z S2 j hz hg (by rw [t_le] at c; omega), fun c => ?_⟩
      rw [t_le] at c
      have j1 : (j + 1).toInt = j.toInt + 1 := by rw [t_add (by omega) (by omega), k1]
      have cj := cl_i j0
      have cj1 := cl_i (a := j + 1) (by omega)
      obtain ⟨v, e⟩ := t10 ht (i := j) j0 (by omega)
      obtain ⟨v', e'⟩ := t10 ht (i := j + 1) (by omega) (by omega)
      have ea : 10 * t + j + 1 = 10 * t + (j + 1) := by
        have a1 := vp_in_iff.mp v
        have a2 := vp_in_iff.mp v'
        have b1 := cl_i (a := 10 * t + j) (by omega)
        have b2 := cl_i (a := 10 * t + (j + 1)) (by omega)
        have b3 : (10 * t + j + 1).toInt = (10 * t + j).toInt + 1 := by rw [t_add (by omega) (by omega), k1]
        exact t_eq.mpr (by omega)
      obtain ⟨z1, z2, z3, z4, z5⟩ := id hz
      obtain ⟨s1, s2, s3⟩ := z5 _ (vt ht) (j + 1).toNatClampNeg (by rw [← eL]; omega)
      rw [ea, e', e]
      refine ⟨v', s1, v, fun z6 e6 => ⟨v', Or.inr s2, v, fun z8 e8 => ?_⟩⟩
      have m6 := md_a z 81 (10 * t.toNatClampNeg + j.toNatClampNeg) (z.1 81 (10 * t.toNatClampNeg + (j + 1).toNatClampNeg)) (by decide)
      rw [← e6] at m6
      have m8 := md_a z6 82 (10 * t.toNatClampNeg + j.toNatClampNeg) (z6.1 82 (10 * t.toNatClampNeg + (j + 1).toNatClampNeg)) (by decide)
      rw [← e8] at m8
      have mm : md [] [81, 82] z z8 := md_tr m6 m8 rfl rfl
      have e80 : z8.1 80 = z.1 80 := mm.2.1 80 (by decide) (by decide)
      refine ih z8 _ (j + 1) ⟨md_tr z1 mm rfl rfl, ssub_tr z2 (ssub_tr (ssub_ad _ _ _) (ssub_ad _ _ _)), by rw [e80]; exact z3, fun t' h' => by rw [e80]; exact z4 t' h', fun t' ht' k hk => ?_⟩ ?_ (by omega) (by omega) (by omega)
      rotate_left
      · obtain ⟨g1, g2, g3⟩ := hg
        have ej : j.toNatClampNeg = j.toInt.toNat := t_cl j
        have ej1 : (j + 1).toNatClampNeg = j.toInt.toNat + 1 := by rw [t_cl (j + 1)]; omega
        rw [← eT, ej, ej1] at e6 e8
        refine ⟨fun p hp => ?_, fun n hn => ?_, fun n => ?_⟩
        · obtain ⟨b1, b2⟩ := g1 p hp
          obtain ⟨d1, d2⟩ := g1 (j.toInt.toNat + 1) (by omega)
          rw [if_neg (fun z => by omega)] at d1 d2
          have w81 : z8.1 81 (10 * T + p) = if p = j.toInt.toNat then z.1 81 (10 * T + (j.toInt.toNat + 1)) else z.1 81 (10 * T + p) := by
            rw [e8, si_cell (by decide), e6, si_get]
            by_cases c9 : p = j.toInt.toNat
            · rw [if_pos ⟨rfl, by omega⟩, if_pos c9]
            · rw [if_neg (fun z => c9 (by have := z.2; omega)), if_neg c9]
          have w82 : z8.1 82 (10 * T + p) = if p = j.toInt.toNat then z.1 82 (10 * T + (j.toInt.toNat + 1)) else z.1 82 (10 * T + p) := by
            rw [e8, si_get]
            by_cases c9 : p = j.toInt.toNat
            · rw [if_pos ⟨rfl, by omega⟩, if_pos c9, e6, si_cell (by decide)]
            · rw [if_neg (fun z => c9 (by have := z.2; omega)), if_neg c9, e6, si_cell (by decide)]
          rw [w81, w82]
          by_cases c9 : p = j.toInt.toNat
          · rw [if_pos c9, if_pos c9, if_pos ⟨by omega, by omega⟩, if_pos ⟨by omega, by omega⟩, d1, d2, c9]
            exact ⟨rfl, rfl⟩
          · rw [if_neg c9, if_neg c9, b1, b2]
            by_cases c8 : I ≤ p ∧ (p : Int) < j.toInt
            · rw [if_pos c8, if_pos c8, if_pos ⟨c8.1, by omega⟩, if_pos ⟨c8.1, by omega⟩]
              exact ⟨rfl, rfl⟩
            · rw [if_neg c8, if_neg c8, if_neg (fun z => c8 ⟨z.1, by have := z.2; omega⟩), if_neg (fun z => c8 ⟨z.1, by have := z.2; omega⟩)]
              exact ⟨rfl, rfl⟩
        · obtain ⟨b1, b2⟩ := g2 n hn
          rw [e8, si_cell (by decide), si_get, if_neg (fun z => hn (by have := z.2; omega)), e6, si_get, if_neg (fun z => hn (by have := z.2; omega)), si_cell (by decide)]
          exact ⟨b1, b2⟩
        · rw [mm.2.1 70 (by decide) (by decide)]; exact g3 n
      obtain ⟨a, b, c9⟩ := z5 t' ht' k hk
      refine ⟨Or.inr (Or.inr a), Or.inr (Or.inr b), ?_⟩
      rw [e8, si_cell (by decide), e6, si_get]
      by_cases w : (81 : Nat) = 81 ∧ 10 * t' + k = 10 * t.toNatClampNeg + j.toNatClampNeg
      · rw [if_pos w]; exact s3
      · rw [if_neg w]; exact c9
  obtain ⟨a1, a2, a3, a4⟩ := rl_at ht rx (i := i) h0 (by rw [← eL]; exact h1)
  refine sd_doLate_0 _ _ ⟨a1, a2, a1, a3, a4, fun z6 e6 => ⟨ht, ht, fun z9 e9 => ?_⟩⟩
  have m6 := md_a x 70 (x.1 81 (10 * t + i).toNatClampNeg).toNatClampNeg (x.1 82 (10 * t + i).toNatClampNeg) (by decide)
  rw [← e6] at m6
  have f80 : z6.1 80 = x.1 80 := m6.2.1 80 (by decide) (by decide)
  rw [f80, ← eL] at e9
  have m9 := md_a z6 80 t.toNatClampNeg (L - 1) (by decide)
  rw [← e9] at m9
  have mm : md [] [70, 80] x z9 := md_tr m6 m9 rfl rfl
  refine loop (L.toInt - 1 - i.toInt).toNat z9 S i ⟨md_w mm (by decide) (by decide), ssub_rf S, by rw [e9, si_get, if_pos ⟨rfl, rfl⟩], fun t' h' => by rw [e9, si_ne 80 t' h', f80], fun t' ht' k hk => ?_⟩ ?_ (by omega) h0 (Int.self_le_toNat _)
  rotate_left
  · have e81 : z9.1 81 = x.1 81 := mm.2.1 81 (by decide) (by decide)
    have e82 : z9.1 82 = x.1 82 := mm.2.1 82 (by decide) (by decide)
    refine ⟨fun p hp => ?_, fun n hn => by rw [e81, e82]; exact ⟨rfl, rfl⟩, fun n => ?_⟩
    · rw [e81, e82, if_neg (fun z => by omega), if_neg (fun z => by omega)]
      exact ⟨rfl, rfl⟩
    · obtain ⟨b1, b2, b3⟩ := lA I _ hq
      have ea : (10 * t + i).toNatClampNeg = 10 * T + I := by rw [(t10 ht h0 (by omega)).2, t_cl i, ← eT, ← eI]
      have en : (Int32.ofNat l[I].1).toNatClampNeg = l[I].1 := by
        have e9 : (Int32.ofNat l[I].1).toInt = (l[I].1 : Nat) := Int32.toInt_ofNat_of_lt (by omega)
        rw [t_cl, e9]; rfl
      rw [ea, b1, b2, en] at e6
      rw [e9, si_cell (by decide), e6, si_at rfl]
  rw [mm.2.1 81 (by decide) (by decide)]
  exact (ri.2 t' ht').2.2.2.2 k hk
end DLT
end
section
/-! the model: threads are woken -/
def wkT (C : gCo) (M : gMa) (t c : Nat) (wk : Option Nat) : Nat → gTq := fun o => if o < C.2.1.length ∧ (M.2.2 o).2.2.2.1 = 1 ∧ obM C (M.2.2 o).2.2.1 = c ∧ ((stN C (M.2.2 t).2.2.1).2.2.2.2.2.2.1 = true ∨ wk = some o) then ((M.2.2 o).1, (M.2.2 o).2.1, (M.2.2 o).2.2.1, 2, (M.2.2 o).2.2.2.2) else M.2.2 o
theorem ef_8 {C : gCo} {M : gMa} {w t c : Nat} {e f : Int32} {wk : Option Nat} : efM C w M t 8 c e f wk = ((M.1, M.2.1, wkT C M t c wk), 0) := by unfold efM; rfl
theorem mTq_77 {C : gCo} {y z : gd} {o v : Nat} {h : gTq} (q : mTq y C o h) (e : z = si y 77 o (Int32.ofNat v)) (hv : v ≤ 2) : mTq z C o (h.1, h.2.1, h.2.2.1, v, h.2.2.2.2) := by
  obtain ⟨a1, a2, a3, a4, a5, a6, a7, a8, a9, b1⟩ := q
  have f : ∀ c, c ≠ 77 → z.1 c = y.1 c := fun c hc => by rw [e, si_cell hc]
  refine ⟨by rw [f 73 (by decide)]; exact a1, a2, by rw [f 75 (by decide)]; exact a3, by rw [f 74 (by decide)]; exact a4, by rw [e, si_get, if_pos ⟨rfl, rfl⟩], hv, by rw [f 78 (by decide)]; exact a7, by rw [f 79 (by decide)]; exact a8, mLt_eq a9 (f 80 (by decide)) (f 81 (by decide)) (f 82 (by decide)), ?_⟩
  unfold mLv at b1 ⊢
  rw [f 76 (by decide)]; exact b1
section DWK
variable {d : Nat} {S : gS} {x : gd} {F : Int32 → gd → gS → Prop} {Fv : gd → gS → Prop} {C : gCo} {M : gMa}
theorem ds_one3 (v : Int32) (h : F (if v = 0 then 0 else 1) x S) : MD d z_one 0 [(0, vi v)] [] S x (Di F) := sd_one_0 _ ⟨fun c => Di_i (by first | (rw [if_pos c] at h; exact h) | (rw [if_neg c] at h; exact h)), fun c => Di_i (by first | (rw [if_pos c] at h; exact h) | (rw [if_neg c] at h; exact h))⟩
theorem ds_wake3 (t w k c s : Int32) {T K : Nat} (ri : RI x S) (hK : MK x C) (hN : NC C) (hX : NXc C) (hM : MM1 x C M) (eK : k.toInt = (K : Nat)) (K15 : K < 1500) (hKT : (M.2.2 T).2.2.1 = K) {st : gNs} (hst : C.1[K]? = some st) (o8 : st.1 = 8) (hc : 0 ≤ c.toInt ∧ c.toInt < 6) (w9 : x.1 77 T = 0) {wk : Option Nat} (hwk : (wk = none ∧ w = -1) ∨ ∃ o : Nat, wk = some o ∧ o < 6 ∧ w = Int32.ofNat o)
    (kk : ∀ z, RI z S → md [] [77] x z → z.1 77 T = 0 → (∀ t' : Nat, t' < 6 → mTq z C t' (wkT C M T c.toNatClampNeg wk t')) → MD (d + 4) z_doAct 667 [(0, vr 0), (1, vi t), (3, vi k), (4, vi s), (5, vi c), (6, vi 0)] [] S z (Dv Fv)) : MD (d + 4) z_doAct 513 [(0, vr 0), (1, vi t), (2, vi w), (3, vi k), (4, vi s), (5, vi c), (6, vi 0), (8, vi 0)] [] S x (Dv Fv) := by
  have k0 : (0 : Int32).toInt = 0 := rfl
  have k1 : (1 : Int32).toInt = 1 := rfl
  have h25 := ri.1.1.2.2.2.2.2.1
  have l25 : (x.1 0 25).toInt = C.2.1.length := hK.2.1.1
  have kv : vp_in k 1500 := by rw [vp_in_iff]; omega
  have kK : k.toNatClampNeg = K := by rw [t_cl, eK]; rfl
  have esT : stN C (M.2.2 T).2.2.1 = st := by rw [hKT]; exact stN_is hst
  obtain ⟨-, -, -, g57, -⟩ := hK.1.2 _ st hst
  obtain ⟨-, -, -, nx4, -⟩ := hX _ st hst
  have nx4 := nx4 o8
  rw [← g57, ← kK] at nx4
  have loop : ∀ (n : Nat) (y : gd) (o : Int32), RI y S → md [] [77] x y → y.1 77 T = 0 → 0 ≤ o.toInt → (x.1 0 25).toInt - o.toInt ≤ n → (∀ t' : Nat, t' < 6 → mTq y C t' (if (t' : Int) < o.toInt then wkT C M T c.toNatClampNeg wk t' else M.2.2 t')) → MD (d + 4) z_doAct 513 [(0, vr 0), (1, vi t), (2, vi w), (3, vi k), (4, vi s), (5, vi c), (6, vi 0), (8, vi o)] [] S y (Dv Fv) := by
    have fin : ∀ (y : gd) (o : Int32), RI y S → md [] [77] x y → y.1 77 T = 0 → (x.1 0 25).toInt ≤ o.toInt → (∀ t' : Nat, t' < 6 → mTq y C t' (if (t' : Int) < o.toInt then wkT C M T c.toNatClampNeg wk t' else M.2.2 t')) → MD (d + 4) z_doAct 667 [(0, vr 0), (1, vi t), (3, vi k), (4, vi s), (5, vi c), (6, vi 0)] [] S y (Dv Fv) := fun y o ry my yT ho mt => kk y ry my yT (fun t' ht' => by
      have q := mt t' ht'
      by_cases c9 : (t' : Int) < o.toInt
      · rw [if_pos c9] at q; exact q
      · rw [if_neg c9] at q
        have : wkT C M T c.toNatClampNeg wk t' = M.2.2 t' := if_neg (fun z => by have := z.1; omega)
        rw [this]; exact q)
    intro n
    induction n with
    | zero =>
      intro y o ry my yT o0 hn mt
      have e25 : y.1 0 25 = x.1 0 25 := my.1 25 (by decide)
      exact sd_doAct_513 _ _ _ _ _ _ _ ⟨fun _ => fin y o ry my yT (by omega) mt, fun cc => absurd (t_le.mpr (by rw [e25]; omega)) cc⟩
    | succ n ih =>
      intro y o ry my yT o0 hn mt
      have e25 : y.1 0 25 = x.1 0 25 := my.1 25 (by decide)
      refine sd_doAct_513 _ _ _ _ _ _ _ ⟨fun cc => fin y o ry my yT (by rw [t_le, e25] at cc; exact cc) mt, fun cc => ?_⟩
      rw [t_le, e25] at cc
      have ov : vp_in o 6 := by rw [vp_in_iff]; omega
      have oi : (o + 1).toInt = o.toInt + 1 := by rw [t_add (by omega) (by omega), k1]
      obtain ⟨O, eO⟩ : ∃ O, O = o.toNatClampNeg := ⟨_, rfl⟩
      have oO : (O : Int) = o.toInt := by rw [eO]; exact cl_i o0
      have O6 : O < 6 := by omega
      have oI : o = Int32.ofNat O := i32_of (by omega)
      have ra' := (ry.2 O O6).1
      have q := mt O O6
      rw [if_neg (by omega)] at q
      have m77 := q.2.2.2.2.1
      have l77 := q.2.2.2.2.2.1
      have m74 := q.2.2.2.1
      obtain ⟨-, b1, -⟩ := wai_2 _ (show (M.2.2 O).2.2.2.1 < 3 by omega)
      rw [← m77] at b1
      have f56 : y.1 56 = x.1 56 := my.2.1 56 (by decide) (by decide)
      have f57 : y.1 57 = x.1 57 := my.2.1 57 (by decide) (by decide)
      -- set, and go on
      have set : ∀ (v : Nat) (z : gd), z = si y 77 O (Int32.ofNat v) → v ≤ 2 → wkT C M T c.toNatClampNeg wk O = ((M.2.2 O).1, (M.2.2 O).2.1, (M.2.2 O).2.2.1, v, (M.2.2 O).2.2.2.2) → (v = (M.2.2 O).2.2.2.1 ∨ (v = 2 ∧ y.1 77 O = 1)) → MD (d + 4) z_doAct 513 [(0, vr 0), (1, vi t), (2, vi w), (3, vi k), (4, vi s), (5, vi c), (6, vi 0), (8, vi (o + 1))] [] S z (Dv Fv) := by
        intro v z ez v2 hwv hv
        have tz : th3 O y z := by rw [ez]; exact th3_si (by decide) _ _
        have mz := md_a y 77 O (Int32.ofNat v) (by decide)
        rw [← ez] at mz
        have c73 : z.1 73 = y.1 73 := by rw [ez, si_cell (by decide)]
        have c74 : z.1 74 = y.1 74 := by rw [ez, si_cell (by decide)]
        have wo' : z.1 77 O = Int32.ofNat v := by rw [ez, si_get, if_pos ⟨rfl, rfl⟩]
        have wT' : z.1 77 T = 0 := by
          by_cases q9 : T = O
          · rw [q9] at yT ⊢
            rw [wo']
            rcases hv with hv | ⟨_, hv⟩
            · rw [hv, ← m77]; exact yT
            · rw [yT] at hv; exact absurd hv (by decide)
          · rw [tz.2.1 77 T (by omega) q9]; exact yT
        refine ih z (o + 1) ⟨CP_th (th3_th tz) ry.1, fun t' ht' => ?_⟩ (md_tr my mz rfl rfl) wT' (by omega) (by omega) (fun t' ht' => ?_)
        · by_cases q9 : t' = O
          · obtain ⟨q1, q2, q3⟩ := ry.2 t' ht'
            rw [q9] at q1 q2 q3 ⊢
            refine ⟨?_, ?_, rl_th (th3_th tz) (ssub_rf _) q3⟩
            · unfold ra
              rw [c73, c74, tz.1.1 52 (by decide), tz.1.2.1 54 (by decide) (by decide)]
              exact q1
            · unfold rw'
              rw [c73, c74, wo', tz.1.2.1 55 (by decide) (by decide)]
              rcases hv with hv | ⟨hv, hv1⟩
              · rw [hv, ← m77]; exact q2
              · rcases q2 with q2 | ⟨_, q2⟩
                · rw [hv1] at q2; exact absurd q2 (by decide)
                · exact Or.inr ⟨Or.inr (by rw [hv]; rfl), q2⟩
          · exact rT_th (th3_th tz) (ssub_rf _) q9 (ry.2 t' ht')
        · by_cases q9 : t' = O
          · rw [q9, if_pos (by omega), hwv]
            exact mTq_77 q ez v2
          · have q8 := mTq_th hN tz q9 (mt t' ht')
            by_cases c9 : (t' : Int) < o.toInt
            · rw [if_pos c9] at q8
              rw [if_pos (by omega)]; exact q8
            · rw [if_neg c9] at q8
              rw [if_neg (by omega)]; exact q8
      have p571 : ∀ b : Int32, (¬ b = 0 → y.1 77 O = 1 ∧ wkT C M T c.toNatClampNeg wk O = ((M.2.2 O).1, (M.2.2 O).2.1, (M.2.2 O).2.2.1, 2, (M.2.2 O).2.2.2.2)) → (b = 0 → wkT C M T c.toNatClampNeg wk O = M.2.2 O) → MD (d + 4) z_doAct 571 [(0, vr 0), (1, vi t), (2, vi w), (3, vi k), (4, vi s), (5, vi c), (6, vi 0), (8, vi o)] [vi b] S y (Dv Fv) := by
        intro b hb hb0
        refine sd_doAct_571 _ _ _ _ _ _ _ _ ⟨fun c0 => ⟨ov, ov, fun z ez => ?_⟩, fun nb => ⟨ov, fun z ez => ?_⟩⟩
        · rw [← eO] at ez
          exact set (M.2.2 O).2.2.2.1 z (by rw [ez, m77]) l77 (by rw [hb0 c0]) (Or.inl rfl)
        · rw [← eO] at ez
          exact set 2 z ez (Nat.le_refl _) (hb nb).2 (Or.inr ⟨rfl, (hb nb).1⟩)
      have no : ¬ ((M.2.2 O).2.2.2.1 = 1 ∧ obM C (M.2.2 O).2.2.1 = c.toNatClampNeg ∧ (st.2.2.2.2.2.2.1 = true ∨ wk = some O)) → wkT C M T c.toNatClampNeg wk O = M.2.2 O := fun n9 => if_neg (fun z => n9 ⟨z.2.1, z.2.2.1, by have := z.2.2.2; rw [esT] at this; exact this⟩)
      have yes : (M.2.2 O).2.2.2.1 = 1 → obM C (M.2.2 O).2.2.1 = c.toNatClampNeg → (st.2.2.2.2.2.2.1 = true ∨ wk = some O) → wkT C M T c.toNatClampNeg wk O = ((M.2.2 O).1, (M.2.2 O).2.1, (M.2.2 O).2.2.1, 2, (M.2.2 O).2.2.2.2) := fun y1 y2 y3 => if_pos ⟨by omega, y1, y2, by rw [esT]; exact y3⟩
      have fl : x.1 57 k.toNatClampNeg = 1 ↔ st.2.2.2.2.2.2.1 = true := by
        rw [nx4]
        by_cases c9 : st.2.2.2.2.2.2.1 = true
        · rw [if_pos c9]; exact ⟨fun _ => c9, fun _ => rfl⟩
        · rw [if_neg c9]; exact ⟨fun z => absurd z (by decide), fun z => absurd z c9⟩
      have wo : w = o ↔ wk = some O := by
        rcases hwk with ⟨h1, h2⟩ | ⟨o9, h1, h2, h3⟩
        · rw [h1, h2]
          refine ⟨fun z => ?_, fun z => nomatch z⟩
          rw [← z] at o0
          exact absurd o0 (by decide)
        · have e9 : (Int32.ofNat o9).toInt = (o9 : Nat) := op_16 o9 (by omega)
          rw [h1, h3, t_eq, e9]
          refine ⟨fun z => by congr 1; omega, fun z => ?_⟩
          have := Option.some.inj z
          omega
      rw [← eO]
      refine ⟨ov, fun n1 => p571 0 (fun q => absurd rfl q) (fun _ => no (fun z => n1 (b1.mpr z.1))), fun w1 => ⟨ov, by rw [vp_in_iff]; exact ⟨ra'.1, ra'.2.1⟩, ?_⟩⟩
      have g1 : y.1 73 O = 1 := by
        rcases (ry.2 O O6).2.1 with z | ⟨-, z, -⟩
        · rw [w1] at z; exact absurd z (by decide)
        · exact z
      have g5 : y.1 55 (y.1 74 O).toNatClampNeg = 7 := by
        rcases (ry.2 O O6).2.1 with z | ⟨-, -, z⟩
        · rw [w1] at z; exact absurd z (by decide)
        · exact z
      have av := (RI_step ry O6 g1).2.2.2
      rw [g5] at av
      have ob : y.1 56 (y.1 74 O).toNatClampNeg = c ↔ obM C (M.2.2 O).2.2.1 = c.toNatClampNeg := by
        have lo : 0 ≤ (y.1 56 (y.1 74 O).toNatClampNeg).toInt := by
          rcases av.2 with z | z | z
          · exact z.2.2.1
          · exact z.2.2.1
          · exact absurd z.1 (by decide)
        have l52 : (x.1 0 52).toInt = C.1.length := hK.1.1
        have kl : (M.2.2 O).2.2.1 < C.1.length := by
          have := (RI_step ry O6 g1).2.1
          rw [m74, my.1 52 (by decide)] at this
          omega
        obtain ⟨so, hso⟩ : ∃ so, C.1[(M.2.2 O).2.2.1]? = some so := ⟨_, List.getElem?_eq_getElem kl⟩
        obtain ⟨-, -, g56, -⟩ := hK.1.2 _ so hso
        have ec : (y.1 74 O).toNatClampNeg = (M.2.2 O).2.2.1 := by rw [t_cl, m74]; rfl
        rw [ec, f56, g56] at lo ⊢
        unfold obM
        rw [stN_is hso, t_cl, t_cl, t_eq]
        omega
      refine ⟨fun n5 => p571 0 (fun q => absurd rfl q) (fun _ => no (fun z => n5 (ob.mpr z.2.1))), fun e5 => ⟨kv, ?_⟩⟩
      rw [f57]
      refine ⟨fun e1 => p571 1 (fun _ => ⟨w1, yes (b1.mp w1) (ob.mp e5) (Or.inl (fl.mp e1))⟩) (fun z => absurd z (by decide)), fun n1 => ⟨fun nw => p571 0 (fun q => absurd rfl q) (fun _ => no (fun z => z.2.2.elim (fun z => n1 (fl.mpr z)) (fun z => nw (wo.mpr z)))), fun ew => p571 1 (fun _ => ⟨w1, yes (b1.mp w1) (ob.mp e5) (Or.inr (wo.mp ew))⟩) (fun z => absurd z (by decide))⟩⟩
  refine loop (x.1 0 25).toInt.toNat x 0 ri (md_w (md_rf x) (by decide) (by decide)) w9 (by decide) (by rw [k0]; omega) (fun t' ht' => ?_)
  rw [if_neg (by rw [k0]; omega)]
  exact hM.2.2 t' ht'
end DWK
end
section
/-! the model: every act done is what the machine does -/
theorem mTq_eq {C : gCo} {y z : gd} {t : Nat} {h : gTq} (q : mTq y C t h) (f : ∀ c, c = 73 ∨ c = 74 ∨ c = 75 ∨ c = 77 ∨ c = 78 ∨ c = 79 ∨ c = 80 → z.1 c t = y.1 c t) (e76 : z.1 76 = y.1 76) (e81 : z.1 81 = y.1 81) (e82 : z.1 82 = y.1 82) : mTq z C t h := by
  unfold mTq mLt mLv at q ⊢
  rw [f 73 (by omega), f 74 (by omega), f 75 (by omega), f 77 (by omega), f 78 (by omega), f 79 (by omega), f 80 (by omega), e76, e81, e82]
  exact q
/-- a thread's waiting and its call set anew -/
theorem mTq_w {C : gCo} {y z : gd} {t v : Nat} {a b : Int32} {h : gTq} (q : mTq y C t h) (f : ∀ c, c = 73 ∨ c = 74 ∨ c = 75 ∨ c = 80 → z.1 c t = y.1 c t) (e76 : z.1 76 = y.1 76) (e81 : z.1 81 = y.1 81) (e82 : z.1 82 = y.1 82) (e77 : z.1 77 t = Int32.ofNat v) (hv : v ≤ 2) (e78 : z.1 78 t = a) (e79 : z.1 79 t = b) : mTq z C t (h.1, h.2.1, h.2.2.1, v, a, b, h.2.2.2.2.2.2) := by
  obtain ⟨a1, a2, a3, a4, a5, a6, a7, a8, ⟨a9, a10⟩, b1⟩ := q
  refine ⟨by rw [f 73 (by omega)]; exact a1, a2, by rw [f 75 (by omega)]; exact a3, by rw [f 74 (by omega)]; exact a4, e77, hv, e78, e79, ⟨by rw [f 80 (by omega)]; exact a9, by rw [e81, e82]; exact a10⟩, ?_⟩
  unfold mLv at b1 ⊢
  rw [e76]; exact b1
theorem lkM_pl {C : gCo} {M : gMa} {w t : Nat} (w0 : (M.2.2 t).2.2.2.1 = 0) (h : (lkM C w M t).1 = 0) : (lkI C M t).1 = 0 ∧ (lkM C w M t).2.1 = (lkI C M t).2 := by
  by_cases c : (lkI C M t).1 = 0
  · refine ⟨c, ?_⟩
    cases e1 : evO (M.2.2 t).2.2.2.2.2.2.2 (Int32.ofNat t) (stN C (M.2.2 t).2.2.1).2.2.2.2.2.2.2.2.1 with
    | none => rw [lkM_1 w0 c e1]
    | some e =>
      cases e2 : evO (M.2.2 t).2.2.2.2.2.2.2 (Int32.ofNat t) (stN C (M.2.2 t).2.2.1).2.2.2.2.2.2.2.2.2 with
      | none => rw [lkM_2 w0 c e1 e2]
      | some f => rw [lkM_3 w0 c e1 e2]
  · rw [lkM_i w0 c] at h
    exact absurd h c
theorem lkI_in {C : gCo} {M : gMa} {t : Nat} {st : gNs} (hX : NXc C) (hst : C.1[(M.2.2 t).2.2.1]? = some st) (o4 : st.1 ≤ 4) (lb : (C.2.2.1.length : Int) < 2147483648) (h : (lkI C M t).1 = 0) : (lkI C M t).2.toNatClampNeg < C.2.2.1.length := by
  have es := stN_is hst
  obtain ⟨b1, b2, b3⟩ := (hX _ st hst).2.2.2.2.2 o4
  cases ei : st.2.2.2.2.2.2.2.1 with
  | none =>
    rw [lkI_n (by rw [es]; exact ei), es, t_cl]
    show st.2.2.2.2.1.toInt.toNat < _
    omega
  | some Q =>
    have b4 := b3 (by rw [ei]; exact fun z => nomatch z)
    have ei' : (stN C (M.2.2 t).2.2.1).2.2.2.2.2.2.2.1 = some Q := by rw [es]; exact ei
    cases ew : wkQ (M.2.2 t).2.2.2.2.2.2.2 (fun _ => 0) (Int32.ofNat t) Q with
    | none => rw [lkI_1 ei' ew] at h; exact absurd h (by decide)
    | some v =>
      by_cases cv : v < 0 ∨ (stN C (M.2.2 t).2.2.1).2.2.2.2.2.1 ≤ v
      · rw [lkI_2 ei' ew cv] at h; exact absurd h (by decide)
      · rw [lkI_0 ei' ew cv, t_cl]
        rw [es, t_lt, t_le, show (0 : Int32).toInt = 0 from rfl] at cv
        rw [es]
        show (st.2.2.2.2.1 + v).toInt.toNat < _
        rw [t_add (by omega) (by omega)]
        omega
theorem ef_9 {C : gCo} {M : gMa} {w t c : Nat} {e f : Int32} {wk : Option Nat} {q : Nat × Nat} (h : C.2.1[c]? = some q) : efM C w M t 9 c e f wk = (upT M c (thN C c (M.2.2 c) q.1 (M.2.2 c).2.2.2.2.2.2.2), 0) := by
  have a : efM C w M t 9 c e f wk = (match C.2.1[c]? with | some q => upT M c (thN C c (M.2.2 c) q.1 (M.2.2 c).2.2.2.2.2.2.2) | none => M, 0) := by unfold efM; rfl
  rw [a, h]
section DDA
variable {d : Nat} {S : gS} {x : gd} {F : Int32 → gd → gS → Prop} {Fv : gd → gS → Prop} {C : gCo} {M : gMa}
set_option maxHeartbeats 1000000 in
theorem ds_doAct3 (t w : Int32) (ht : vp_in t 6) (ri : RI x S) (h1 : x.1 73 t.toNatClampNeg = 1) (hw : ¬ x.1 77 t.toNatClampNeg = 1) (hK : MK x C) (hN : NC C) (hX : NXc C) (hM : MM1 x C M) (hW : WM M) {wa : Nat} (wy : x.1 0 68 = Int32.ofNat wa) (w01 : wa = 0 ∨ wa = 1) {wk : Option Nat} (hwk : (wk = none ∧ w = -1) ∨ ∃ o : Nat, wk = some o ∧ o < 6 ∧ w = Int32.ofNat o) (h : ∀ x' S', RI x' S' → ssub S S' → acS S' → acP (srt x t.toNatClampNeg) x' → deQ C wa M t.toNatClampNeg x' → MM1 x' C (acM C wa M t.toNatClampNeg wk) → Fv x' S') : MD (d + 4) z_doAct 0 [(0, vr 0), (1, vi t), (2, vi w)] [] S x (Dv Fv) := by
  have k0 : (0 : Int32).toInt = 0 := rfl
  have k1 : (1 : Int32).toInt = 1 := rfl
  have k8 : (8 : Int32).toInt = 8 := rfl
  have tv := vp_in_iff.mp ht
  obtain ⟨kv, kn, so', av⟩ := RI_step ri (vt ht) h1
  obtain ⟨s1, s2, s3⟩ := srt_of ri (vt ht) h1
  obtain ⟨T, eT⟩ : ∃ T, T = t.toNatClampNeg := ⟨_, rfl⟩
  have T6 : T < 6 := by rw [eT]; exact vt ht
  have tT : t = Int32.ofNat T := i32_of (by rw [eT, t_cl]; omega)
  have lk0 := fun (d' : Nat) (Fv' : gd → gS → Prop) => ds_look3 (d := d') (Fv := Fv') (M := M) (w := wa) t ht ri h1 hw hK hN hX hM wy w01
  rw [← eT] at kv kn av s1 s2 s3 h1 hw h lk0
  obtain ⟨k, ek⟩ : ∃ k, k = x.1 74 T := ⟨_, rfl⟩
  rw [← ek] at kv kn av s1 s2 s3
  obtain ⟨s, es⟩ : ∃ s, s = srt x T := ⟨_, rfl⟩
  rw [← es] at s1 s2 s3 h
  have kb := vp_in_iff.mp kv
  have j2' := ri.1.2.1.2.1
  obtain ⟨m73, l73, m75, m74, m77, l77, m78, m79, mlt, mlv⟩ := hM.2.2 T T6
  rw [← ek] at m74
  -- the step
  have l52 : (x.1 0 52).toInt = C.1.length := hK.1.1
  obtain ⟨K, eKd⟩ : ∃ K, K = (M.2.2 T).2.2.1 := ⟨_, rfl⟩
  rw [← eKd] at m74
  have kst : k.toNatClampNeg = K := by rw [t_cl, m74]; rfl
  obtain ⟨st, hst⟩ : ∃ st, C.1[K]? = some st := ⟨_, List.getElem?_eq_getElem (by omega)⟩
  have esN := stN_is hst
  obtain ⟨g54, g55, g56, g57, g58, g59, g60, -, -⟩ := hK.1.2 _ st hst
  have ns := hN.1 _ st hst
  rw [← kst] at g54 g55 g56
  have o16 : st.1 < 16 := by
    have a := ((ri.2 T T6).1.2.2 h1).2
    rw [← ek, g54] at a
    exact (mWh_i st.1 ns.1.1).1.mp a
  have g55 := g55 o16
  have sta1 : (M.2.2 T).1 = 1 := by
    have : Int32.ofNat (M.2.2 T).1 = 1 := by rw [← m73]; exact h1
    rcases (show (M.2.2 T).1 = 0 ∨ (M.2.2 T).1 = 1 ∨ (M.2.2 T).1 = 2 ∨ (M.2.2 T).1 = 3 by omega) with e | e | e | e <;> rw [e] at this ⊢ <;> first | rfl | exact absurd this (by decide)
  obtain ⟨b2, b1, b0⟩ := wai_2 _ (show (M.2.2 T).2.2.2.1 < 3 by omega)
  rw [← m77] at b2 b1 b0
  obtain ⟨o, eo⟩ : ∃ o, o = soM C (M.2.2 T) := ⟨_, rfl⟩
  have sO : s = Int32.ofNat o ∧ o < 16 ∧ (o = 15 → ¬ (M.2.2 T).2.2.2.1 = 0) ∧ (¬ o = 15 → (M.2.2 T).2.2.2.1 = 0 ∧ o = st.1) := by
    rw [eo, es]
    unfold soM srt
    rw [← eKd, esN]
    by_cases c2 : x.1 77 T = 2
    · rw [if_pos c2, if_neg (by have := b2.mp c2; omega)]
      exact ⟨rfl, by omega, fun _ => by have := b2.mp c2; omega, fun z => absurd rfl z⟩
    · have w0 : (M.2.2 T).2.2.2.1 = 0 := by
        have a1 : ¬ (M.2.2 T).2.2.2.1 = 2 := fun z => c2 (b2.mpr z)
        have a2 : ¬ (M.2.2 T).2.2.2.1 = 1 := fun z => hw (b1.mpr z)
        omega
      rw [if_neg c2, if_pos w0, ← ek]
      exact ⟨g55, o16, fun z => absurd z ns.1.2, fun _ => ⟨w0, rfl⟩⟩
  obtain ⟨sI, o15, oR, oN⟩ := sO
  have sE : ∀ n : Nat, n < 16 → (s = Int32.ofNat n ↔ o = n) := fun n hn => by
    rw [t_eq, sI, op_16 o o15, op_16 n hn]; omega
  have num0 : (M.2.2 T).2.1 = 0 := (hW T T6).1 (by rw [sta1]; decide)
  obtain ⟨L, eL⟩ : ∃ L, L = lkM C wa M T := ⟨_, rfl⟩
  have L9 : L.1 ≤ 9 := by rw [eL]; exact lkM_le
  let Y : gd → gS → Prop := fun y S1 => ssub S S1 ∧ acS S1 ∧ acP s y ∧ y.1 0 52 = x.1 0 52
  have go3 : ∀ (z : gd) (S2 : gS) (c v : Int32) (E : gMa), ¬ s = 9 → Y z S2 → deQ C wa M T z → RI z S2 → MK z C → MMc z E → (∀ t' : Nat, t' < 6 → mTq z C t' (E.2.2 t')) → (E.2.2 T).1 = 1 → (E.2.2 T).2.1 = 0 → (E.2.2 T).2.2.1 = K → (E.2.2 T).2.2.2.1 = 0 → (E.2.2 T).2.2.2.2.1 = 0 → (E.2.2 T).2.2.2.2.2.2.2 = (M.2.2 T).2.2.2.2.2.2.2 → L.1 = 0 → ¬ o = 7 → efM C wa M T o L.2.1.toNatClampNeg L.2.2.1 L.2.2.2 wk = (E, v) → MD (d + 4) z_doAct 667 [(0, vr 0), (1, vi t), (3, vi k), (4, vi s), (5, vi c), (6, vi v)] [] S2 z (Dv Fv) := by
    intro z S2 c v E n9 hy hdq rz kz mc mT e0 e1 e2 e3 e4 e7 L0 n7 he
    obtain ⟨y1, y2, y3, y4⟩ := hy
    have ha := acM_is (wk := wk) (E := E) (v := v) (by rw [← eL]; exact L0) (by rw [← eo]; exact n7) (by rw [← eo, ← eL]; exact he)
    rw [← eKd, esN, ← e7] at ha
    refine ds_act667 t k c s v ht eT m74 rz.1 kz hN hX hst o16 (by rw [y4]; omega) mc (fun t' ht' _ => mT t' ht') (fun q => absurd q n9) e0 e1 e2 e3 e4 (fun q => absurd q n9) (fun t' ht' _ => rz.2 t' ht') (fun q => absurd q n9) (fun x' S' r ss m mm => h x' S' r (ssub_tr y1 ss) (acS_up ss y2) ?_ (deQ_f (m.1 88 (by decide)) (m.1 89 (by decide)) (m.1 92 (by decide)) (m.1 93 (by decide)) hdq) (by rw [ha]; exact mm))
    unfold acP
    rw [m.1 88 (by decide), m.1 89 (by decide)]
    exact y3
  refine sd_doAct_0 _ _ ⟨ht, ds_sortOf t ht (by rw [← eT, ← ek]; exact kv) ?_⟩
  rw [← eT, ← es, ← ek]
  refine lk0 d _ (fun x4 S4 m4 ss4 lk4 lp lq y5 e5 y6 e6 => ?_)
  unfold lkP at lp
  rw [← es, ← ek] at lp
  rw [← eL] at lq
  obtain ⟨lp1, lp2, lp3⟩ := lp
  have m5 := md_f x4 92 0
  rw [← e5] at m5
  have m6 := md_f y5 93 0
  rw [← e6] at m6
  have m46 : md [92, 93] [] x4 y6 := md_tr m5 m6 rfl rfl
  have m06 : md [82, 88, 89, 90, 91, 92, 93] [84] x y6 := md_tr m4 m46 rfl rfl
  have f88 : y6.1 0 88 = x4.1 0 88 := m46.1 88 (by decide)
  have f89 : y6.1 0 89 = x4.1 0 89 := m46.1 89 (by decide)
  obtain ⟨q89, q88, q9⟩ := lq
  rw [← f88] at lp1 lp2 lp3 q88
  rw [← f89] at lp3 q89
  rw [← m46.1 90 (by decide), ← m46.1 91 (by decide)] at q9
  have ss6 : ssub S4 (sadd (sadd S4 0 92) 0 93) := ssub_tr (ssub_ad _ _ _) (ssub_ad _ _ _)
  obtain ⟨S6, eS6⟩ : ∃ S6, S6 = sadd (sadd S4 0 92) 0 93 := ⟨_, rfl⟩
  have n92 : S6 0 92 := by rw [eS6]; exact Or.inr (Or.inl ⟨rfl, rfl⟩)
  have n93 : S6 0 93 := by rw [eS6]; exact Or.inl ⟨rfl, rfl⟩
  rw [← eS6] at ss6 ⊢
  have lk6 := lkS_up ss6 lk4
  have r6 : RI y6 S6 := RI_md m06 rfl rfl (ssub_tr ss4 ss6) ri
  have M6 : MM1 y6 C M := MM1_md m06 rfl hM
  have K6 : MK y6 C := MK_md m06 rfl rfl hK
  have mc6 : MMc y6 M := ⟨M6.1, M6.2.1⟩
  have ac6 : acP s y6 := fun q => ⟨(lp3 q).1, fun e9 => by
    have o := s2 (Or.inl (by rw [e9]; decide))
    rw [lp2 (Or.inl (by rw [e9]; decide))]
    exact ⟨o.1, o.2.1⟩⟩
  have g6 := fun q (h0 : q ≠ 0) hq => m06.2.1 q h0 hq
  have q92 : y6.1 0 92 = 0 := by rw [m6.1 92 (by decide), e5, si_get, if_pos ⟨rfl, rfl⟩]
  have q93 : y6.1 0 93 = 0 := by rw [e6, si_get, if_pos ⟨rfl, rfl⟩]
  have dq : ∀ z : gd, z.1 0 88 = y6.1 0 88 → z.1 0 89 = y6.1 0 89 → z.1 0 92 = dRd M T o L → z.1 0 93 = dWr M o L → deQ C wa M T z := fun z a b c e => by
    unfold deQ
    rw [← eL, ← eo]
    exact ⟨a.trans q88, b.trans q89, c, e⟩
  have dq0 : ∀ z : gd, ¬ (o = 0 ∨ o = 1 ∨ o = 2 ∨ o = 3 ∨ o = 4 ∨ o = 13 ∨ o = 14) → z.1 0 88 = y6.1 0 88 → z.1 0 89 = y6.1 0 89 → z.1 0 92 = y6.1 0 92 → z.1 0 93 = y6.1 0 93 → deQ C wa M T z := fun z n a b c e => dq z a b (by rw [c, q92, dr_n (by omega)]) (by rw [e, q93, dw_n (by omega)])
  have hy6 : Y y6 S6 := ⟨ssub_tr ss4 ss6, ⟨lk6.1, lk6.2.1, n92, n93⟩, ac6, m06.1 52 (by decide)⟩
  refine ⟨lk6.2.1, fun cf => ⟨lk6.1, ?_⟩, fun cf => ⟨lk6.2.1, ?_⟩⟩
  rotate_left
  · -- it fails
    have L0 : ¬ L.1 = 0 := fun z => cf (by rw [q89, z]; decide)
    have w0 : (M.2.2 T).2.2.2.1 = 0 := Classical.byContradiction (fun n0 => L0 (by rw [eL, lkM_15 n0]))
    have ha := acM_F (wk := wk) (by rw [← eL]; exact L0)
    rw [← eL] at ha
    refine ds_actF (d := d + 2) t _ ht eT r6 K6 hN M6 hW (by rw [g6 73 (by decide) (by decide)]; exact h1) w0 q89 (fun u S1 ru su mu mm => Dv_i (h u S1 ru (ssub_tr hy6.1 su) (acS_up su hy6.2.1) ?_ (dq u (mu.1 88 (by decide)) (mu.1 89 (by decide)) (by rw [mu.1 92 (by decide), q92, dr_F L0]) (by rw [mu.1 93 (by decide), q93, dw_F L0])) (by rw [ha]; exact mm)))
    unfold acP
    rw [mu.1 88 (by decide), mu.1 89 (by decide)]
    exact ac6
  -- it does not fail
  rw [t_le, k0] at cf
  have L0 : L.1 = 0 := by
    rw [q89, op_16 _ (by omega)] at cf
    omega
  obtain ⟨q90, q91⟩ := q9 L0
  obtain ⟨c, ec⟩ : ∃ c, c = y6.1 0 88 := ⟨_, rfl⟩
  rw [← ec] at lp2 lp3 q88 ⊢
  obtain ⟨lpa, lp9, lpw⟩ := lp3 cf
  have c24 : 0 ≤ s.toInt ∧ s.toInt ≤ 4 → vp_in c 24 := fun q => by rw [vp_in_iff]; exact lpa q
  have c6 : (5 ≤ s.toInt ∧ s.toInt ≤ 10) ∨ s = 15 → vp_in c 6 := fun q => by
    have o := s2 q
    rw [lp2 q, vp_in_iff]; omega
  -- what leaves the threads alone
  have easy : ∀ (n : Nat), o = n → ¬ n = 9 → ¬ n = 15 → ¬ n = 7 → ∀ (z : gd) (S2 : gS) (v : Int32) (E : gMa), md [82, 90, 91, 92, 93] [70, 71, 72, 84] y6 z → ssub S6 S2 → MMc z E → E.2.2 = M.2.2 → efM C wa M T n L.2.1.toNatClampNeg L.2.2.1 L.2.2.2 wk = (E, v) → deQ C wa M T z → MD (d + 4) z_doAct 667 [(0, vr 0), (1, vi t), (3, vi k), (4, vi s), (5, vi c), (6, vi v)] [] S2 z (Dv Fv) := by
    intro n en n9 n15 n7 z S2 v E m ss mc hE he hdq
    have w0 := (oN (by omega)).1
    refine go3 z S2 c v E (fun q => n9 (by have := (sE 9 (by omega)).mp q; omega)) ⟨ssub_tr hy6.1 ss, acS_up ss hy6.2.1, by unfold acP; rw [m.1 88 (by decide), m.1 89 (by decide)]; exact ac6, by rw [m.1 52 (by decide)]; exact hy6.2.2.2⟩ hdq (RI_md m rfl rfl ss r6) (MK_md m rfl rfl K6) mc (fun t' ht' => by rw [hE]; exact mTq_md m rfl (M6.2.2 t' ht')) (by rw [hE]; exact sta1) (by rw [hE]; exact num0) (by rw [hE]; exact eKd.symm) (by rw [hE]; exact w0) (by rw [hE]; exact (hW T T6).2.1 w0) (by rw [hE]) L0 (by omega) (by rw [en]; exact he)
  refine ⟨fun e => ?_, fun e => ⟨lk6.2.2.1, fun z16 e16 => ?_⟩, fun e => ?_, fun e => ?_, fun e => ?_, fun e => ?_, fun e => ?_, fun e => ?_, fun e => ?_, fun e => ?_, fun e => ?_, fun no => ?_⟩
  · -- read
    have cv := c24 (by rw [e]; decide)
    refine ds_see3 t c ht cv (by rw [← eT]; exact (r6.2 T T6).2.2) (l := (M.2.2 T).2.2.2.2.2.2.1) (by rw [← eT]; exact (M6.2.2 T T6).2.2.2.2.2.2.2.2.1) (fun z ez => ?_)
    have ev : seL (M.2.2 T).2.2.2.2.2.2.1 c.toNatClampNeg (y6.1 70 c.toNatClampNeg) = seM M T L.2.1.toNatClampNeg := by
      rw [mc6.1 _ (vp_lt cv), q88]; rfl
    rw [ev] at ez ⊢
    have mz := md_f y6 92 (seM M T L.2.1.toNatClampNeg)
    rw [← ez] at mz
    exact easy 0 ((sE 0 (by omega)).mp e) (by decide) (by decide) (by decide) z _ _ M (md_w mz (by decide) (by decide)) (ssub_ad _ _ _) (MMc_eq mc6 (mz.2.1 70 (by decide) (by decide)) (mz.2.1 71 (by decide) (by decide)) (mz.2.1 72 (by decide) (by decide))) rfl ef_0 (dq z (mz.1 88 (by decide)) (mz.1 89 (by decide)) (by rw [ez, si_get, if_pos ⟨rfl, rfl⟩, (sE 0 (by omega)).mp e, dr_0 L0]) (by rw [mz.1 93 (by decide), q93, (sE 0 (by omega)).mp e, dw_n (by omega)]))
  · -- write
    have cv := c24 (by rw [e]; decide)
    have cr' := lpa (by rw [e]; decide)
    have o1 := (sE 1 (by omega)).mp e
    obtain ⟨w0, os⟩ := oN (by omega)
    have hq6 := M6.2.2 T T6
    have m16 := md_f y6 93 (y6.1 0 90)
    rw [← e16] at m16
    have h68 : z16.1 0 68 = Int32.ofNat wa := by rw [m16.1 68 (by decide), m06.1 68 (by decide)]; exact wy
    have h37 : z16.1 37 = x.1 37 := by rw [m16.2.1 37 (by decide) (by decide), g6 37 (by decide) (by decide)]
    have h80 : z16.1 80 = x.1 80 := by rw [m16.2.1 80 (by decide) (by decide), g6 80 (by decide) (by decide)]
    have e90 : z16.1 0 90 = L.2.2.1 := by rw [m16.1 90 (by decide)]; exact q90
    have cl : c.toNatClampNeg < C.2.2.1.length := by
      obtain ⟨p1, p2⟩ := lkM_pl (C := C) (w := wa) w0 (by rw [← eL]; exact L0)
      rw [← eL] at p2
      rw [q88, p2]
      refine lkI_in hX (st := st) (by rw [← eKd]; exact hst) (by omega) ?_ p1
      have l23 : (x.1 0 23).toInt = C.2.2.1.length := hK.2.2.1.1
      have := Int32.toInt_lt (x.1 0 23)
      omega
    have su : x.1 37 c.toNatClampNeg = if suM C c.toNatClampNeg = true then 1 else 0 := by
      obtain ⟨q, hq⟩ : ∃ q, C.2.2.1[c.toNatClampNeg]? = some q := ⟨_, List.getElem?_eq_getElem cl⟩
      rw [(hK.2.2.1.2 _ q hq).2]
      unfold suM
      rw [hq]
    have put : (wa = 0 ∨ suM C c.toNatClampNeg = true) → ∀ z : gd, z = si z16 70 c.toNatClampNeg (z16.1 0 90) → MD (d + 4) z_doAct 667 [(0, vr 0), (1, vi t), (3, vi k), (4, vi s), (5, vi c), (6, vi 0)] [] (sadd S6 0 93) z (Dv Fv) := fun hs z ez => by
      rw [e90] at ez
      have mz := md_a z16 70 c.toNatClampNeg L.2.2.1 (by decide)
      rw [← ez] at mz
      have mm : md [82, 90, 91, 92, 93] [70, 71, 72, 84] y6 z := md_w (md_tr (L3 := [93]) (A3 := [70]) m16 mz rfl rfl) (by decide) (by decide)
      exact easy 1 o1 (by decide) (by decide) (by decide) z _ 0 (upC M c.toNatClampNeg L.2.2.1) mm (ssub_ad _ _ _) (MMc_C mc6 (fun j => by rw [ez, si_at rfl, m16.2.1 70 (by decide) (by decide)]) (by rw [mz.2.1 71 (by decide) (by decide), m16.2.1 71 (by decide) (by decide)]) (by rw [mz.2.1 72 (by decide) (by decide), m16.2.1 72 (by decide) (by decide)])) rfl (by rw [← q88, ef_1, if_pos hs]) (dq z (mm.1 88 (by decide)) (mm.1 89 (by decide)) (by rw [mz.1 92 (by decide), m16.1 92 (by decide), q92, o1, dr_n (by omega)]) (by rw [mz.1 93 (by decide), e16, si_get, if_pos ⟨rfl, rfl⟩, q90, o1, dw_e L0 (by omega)]))
    rw [h68, h37, h80]
    refine ⟨fun c0 => ⟨Or.inr lk6.2.2.1, cv, put (Or.inl (w01.resolve_right (fun z => by rw [z] at c0; exact absurd c0 (by decide))))⟩, fun nw => ⟨cv, fun ns9 => ⟨ht, ?_⟩, fun n0 => ⟨Or.inr lk6.2.2.1, cv, put (Or.inr (Classical.byContradiction (fun z => n0 (by rw [su, if_neg z]))))⟩⟩⟩
    have w1 : wa = 1 := w01.resolve_left (fun z => nw (by rw [z]; rfl))
    have su0 : ¬ (wa = 0 ∨ suM C c.toNatClampNeg = true) := fun z => z.elim (fun z => by omega) (fun z => by rw [su, if_pos z] at ns9; exact absurd ns9 (by decide))
    have n8 := lpw e (by rw [wy, w1]; rfl) ns9
    obtain ⟨N, eN⟩ : ∃ N, N = x.1 80 T := ⟨_, rfl⟩
    have rlx := (ri.2 T T6).2.2
    have N0 := rlx.1
    have N8 := rlx.2.1
    obtain ⟨ll1, ll2⟩ := hq6.2.2.2.2.2.2.2.2.1
    rw [g6 80 (by decide) (by decide), ← eN] at ll1
    rw [← eN] at N0 N8 n8 ⊢
    have Nl : N.toInt < 8 := by
      rw [t_eq, k8] at n8
      omega
    obtain ⟨iv, ie⟩ := t10 ht (i := N) N0 (by omega)
    rw [← eT, show N.toNatClampNeg = (M.2.2 T).2.2.2.2.2.2.1.length by rw [t_cl, ll1]; rfl] at ie
    refine ⟨iv, fun z25 e25 => ⟨ht, ?_⟩⟩
    have i80 : z25.1 80 T = N := by rw [e25, si_cell (by decide), h80, eN]
    rw [i80]
    refine ⟨Or.inr (Or.inr lk6.2.2.1), iv, fun z29 e29 => ⟨ht, ht, fun z32 e32 => ?_⟩⟩
    have j80 : z29.1 80 T = N := by rw [e29, si_cell (by decide), i80]
    rw [j80] at e32
    have z25e : z25.1 0 90 = L.2.2.1 := by rw [e25, si_cell (by decide)]; exact e90
    rw [z25e] at e29
    have a2 : RI z16 (sadd S6 0 93) := RI_md (md_w m16 (L2 := [82, 90, 91, 92, 93]) (A2 := [70, 71, 72, 75, 76, 78, 79, 84]) (by decide) (by decide)) rfl rfl (ssub_ad _ _ _) r6
    have m25 := md_a z16 81 (10 * t + N).toNatClampNeg c (by decide)
    rw [← e25] at m25
    have m29 := md_a z25 82 (10 * t + N).toNatClampNeg L.2.2.1 (by decide)
    rw [← e29] at m29
    have m32 := md_a z29 80 T (N + 1) (by decide)
    rw [← e32] at m32
    have mm : md [] [80, 81, 82] z16 z32 := md_tr (md_tr (L3 := []) (A3 := [81, 82]) m25 m29 rfl rfl) m32 rfl rfl
    have my : md [93] [80, 81, 82] y6 z32 := md_tr m16 mm rfl rfl
    have f := fun q (h0 : q ≠ 0) hq => my.2.1 q h0 hq
    obtain ⟨S9, eS9⟩ : ∃ S9, S9 = sadd (sadd (sadd S6 0 93) 81 (10 * t + N).toNatClampNeg) 82 (10 * t + N).toNatClampNeg := ⟨_, rfl⟩
    rw [← eS9]
    have ss9 : ssub (sadd S6 0 93) S9 := by rw [eS9]; exact ssub_tr (ssub_ad _ _ _) (ssub_ad _ _ _)
    have gm := fun q (h0 : q ≠ 0) hq => mm.2.1 q h0 hq
    have Ni : (N + 1).toInt = N.toInt + 1 := by rw [t_add (by omega) (by omega), k1]
    have r32 : RI z32 S9 := by
      refine ⟨CP_md mm rfl rfl a2.1, fun t' ht' => ?_⟩
      obtain ⟨q1, q2, q3⟩ := a2.2 t' ht'
      refine ⟨?_, ?_, ?_⟩
      · unfold ra
        rw [gm 73 (by decide) (by decide), gm 74 (by decide) (by decide), gm 54 (by decide) (by decide), mm.1 52 (by decide)]
        exact q1
      · unfold rw'
        rw [gm 73 (by decide) (by decide), gm 74 (by decide) (by decide), gm 55 (by decide) (by decide), gm 77 (by decide) (by decide)]
        exact q2
      · have q4 := rl_81 q3 e25 cr'.1 cr'.2
        have ent : ∀ kk : Nat, (kk : Int) < (z16.1 80 t').toInt → S9 81 (10 * t' + kk) ∧ S9 82 (10 * t' + kk) ∧ 0 ≤ (z32.1 81 (10 * t' + kk)).toInt ∧ (z32.1 81 (10 * t' + kk)).toInt < 24 := by
          intro kk hk
          have z80 : z25.1 80 t' = z16.1 80 t' := by rw [e25, si_cell (by decide)]
          obtain ⟨b1, b2, b3⟩ := q4.2.2 kk (by rw [z80]; exact hk)
          have z81 : z32.1 81 = z25.1 81 := by rw [e32, si_cell (by decide), e29, si_cell (by decide)]
          rw [z81, eS9]
          exact ⟨Or.inr b1, Or.inr b2, b3⟩
        by_cases q : t' = T
        · have z80 : z32.1 80 t' = N + 1 := by rw [q, e32, si_get, if_pos ⟨rfl, rfl⟩]
          refine ⟨by rw [z80]; omega, by rw [z80]; omega, fun kk hk => ?_⟩
          rw [z80, Ni] at hk
          have b80 : z16.1 80 t' = N := by rw [h80, q, eN]
          by_cases q9 : (kk : Int) < N.toInt
          · exact ent kk (by rw [b80]; exact q9)
          · have ek9 : 10 * t' + kk = (10 * t + N).toNatClampNeg := by
              rw [ie, q]; omega
            have z81 : z32.1 81 (10 * t' + kk) = c := by rw [e32, si_cell (by decide), e29, si_cell (by decide), e25, si_get, if_pos ⟨rfl, ek9⟩]
            rw [z81, eS9]
            exact ⟨Or.inr (Or.inl ⟨rfl, ek9⟩), Or.inl ⟨rfl, ek9⟩, cr'⟩
        · have z80 : z32.1 80 t' = z16.1 80 t' := by rw [e32, si_ne 80 t' q, e29, si_cell (by decide), e25, si_cell (by decide)]
          unfold rl
          rw [z80]
          exact ⟨q3.1, q3.2.1, ent⟩
    have mlx : ∀ t' : Nat, t' < 6 → ¬ t' = T → ∀ j q, (M.2.2 t').2.2.2.2.2.2.1[j]? = some q → z32.1 81 (10 * t' + j) = y6.1 81 (10 * t' + j) ∧ z32.1 82 (10 * t' + j) = y6.1 82 (10 * t' + j) := fun t' ht' ne j q hj => by
      have b := (M6.2.2 t' ht').2.2.2.2.2.2.2.2.1.1
      have b8 := (r6.2 t' ht').2.2.2.1
      have := gt_lt hj
      have b9 : 10 * t' + j ≠ (10 * t + N).toNatClampNeg := by rw [ie]; omega
      rw [e32, si_cell (by decide), si_cell (by decide), e29, si_cell (by decide), si_ne 82 _ b9, e25, si_ne 81 _ b9, si_cell (by decide), m16.2.1 81 (by decide) (by decide), m16.2.1 82 (by decide) (by decide)]
      exact ⟨rfl, rfl⟩
    refine go3 z32 S9 c 0 (upT M T ((M.2.2 T).1, (M.2.2 T).2.1, (M.2.2 T).2.2.1, (M.2.2 T).2.2.2.1, (M.2.2 T).2.2.2.2.1, (M.2.2 T).2.2.2.2.2.1, (M.2.2 T).2.2.2.2.2.2.1 ++ [(c.toNatClampNeg, L.2.2.1)], (M.2.2 T).2.2.2.2.2.2.2)) (fun q => by have := (sE 9 (by omega)).mp q; omega) ⟨ssub_tr hy6.1 (ssub_tr (ssub_ad _ _ _) ss9), acS_up ss9 (acS_up (ssub_ad _ _ _) hy6.2.1), by unfold acP; rw [my.1 88 (by decide), my.1 89 (by decide)]; exact ac6, by rw [my.1 52 (by decide)]; exact hy6.2.2.2⟩ (dq z32 (my.1 88 (by decide)) (my.1 89 (by decide)) (by rw [my.1 92 (by decide), q92, o1, dr_n (by omega)]) (by rw [mm.1 93 (by decide), e16, si_get, if_pos ⟨rfl, rfl⟩, q90, o1, dw_e L0 (by omega)])) r32 (MK_md my rfl rfl K6) (MMc_eq mc6 (f 70 (by decide) (by decide)) (f 71 (by decide) (by decide)) (f 72 (by decide) (by decide))) (fun t' ht' => ?_) (by show (upf M.2.2 T _ T).1 = 1; rw [upf_eq]; exact sta1) (by show (upf M.2.2 T _ T).2.1 = 0; rw [upf_eq]; exact num0) (by show (upf M.2.2 T _ T).2.2.1 = K; rw [upf_eq]; exact eKd.symm) (by show (upf M.2.2 T _ T).2.2.2.1 = 0; rw [upf_eq]; exact w0) (by show (upf M.2.2 T _ T).2.2.2.2.1 = 0; rw [upf_eq]; exact (hW T T6).2.1 w0) (by show (upf M.2.2 T _ T).2.2.2.2.2.2.2 = _; rw [upf_eq]) L0 (by omega) (by rw [o1, ← q88, ef_1, if_neg su0])
    show mTq z32 C t' (upf M.2.2 T _ t')
    have pre : ∀ hh : gTq, mTq y6 C t' (M.2.2 t') → mLt z32 t' hh.2.2.2.2.2.2.1 → (hh.1, hh.2.1, hh.2.2.1, hh.2.2.2.1, hh.2.2.2.2.1, hh.2.2.2.2.2.1, (M.2.2 t').2.2.2.2.2.2.1, hh.2.2.2.2.2.2.2) = M.2.2 t' → mTq z32 C t' hh := fun hh q ql eh => by
      rw [← eh] at q
      obtain ⟨a1, a2, a3, a4, a5, a6, a7, a8, -, b1⟩ := q
      refine ⟨by rw [f 73 (by decide) (by decide)]; exact a1, a2, by rw [f 75 (by decide) (by decide)]; exact a3, by rw [f 74 (by decide) (by decide)]; exact a4, by rw [f 77 (by decide) (by decide)]; exact a5, a6, by rw [f 78 (by decide) (by decide)]; exact a7, by rw [f 79 (by decide) (by decide)]; exact a8, ql, ?_⟩
      unfold mLv at b1 ⊢
      rw [f 76 (by decide) (by decide)]; exact b1
    by_cases q : t' = T
    · rw [q, upf_eq]
      rw [q] at pre
      refine pre _ hq6 ⟨?_, fun j qq hj => ?_⟩ rfl
      · show (z32.1 80 T).toInt = (((M.2.2 T).2.2.2.2.2.2.1 ++ [(c.toNatClampNeg, L.2.2.1)]).length : Nat)
        rw [e32, si_get, if_pos ⟨rfl, rfl⟩, Ni, ll1, List.length_append]
        rfl
      · have hj : ((M.2.2 T).2.2.2.2.2.2.1 ++ [(c.toNatClampNeg, L.2.2.1)])[j]? = some qq := hj
        have e81 : z32.1 81 (10 * T + j) = if 10 * T + j = (10 * t + N).toNatClampNeg then c else y6.1 81 (10 * T + j) := by rw [e32, si_cell (by decide), e29, si_cell (by decide), e25, si_at rfl, m16.2.1 81 (by decide) (by decide)]
        have e82 : z32.1 82 (10 * T + j) = if 10 * T + j = (10 * t + N).toNatClampNeg then L.2.2.1 else y6.1 82 (10 * T + j) := by rw [e32, si_cell (by decide), e29, si_at rfl, e25, si_cell (by decide), m16.2.1 82 (by decide) (by decide)]
        rw [e81, e82, ie]
        by_cases cj : j < (M.2.2 T).2.2.2.2.2.2.1.length
        · rw [List.getElem?_append_left cj] at hj
          rw [if_neg (by omega), if_neg (by omega)]
          exact ll2 j qq hj
        · rw [List.getElem?_append_right (by omega)] at hj
          have jl := gt_lt hj
          have jl : j - (M.2.2 T).2.2.2.2.2.2.1.length < 1 := jl
          have j0 : j - (M.2.2 T).2.2.2.2.2.2.1.length = 0 := by omega
          rw [j0] at hj
          have hj := Option.some.inj hj
          rw [if_pos (by omega), if_pos (by omega), ← hj]
          exact ⟨i32_of (by show c.toInt = (c.toNatClampNeg : Nat); rw [t_cl]; omega), rfl, by show c.toNatClampNeg < 24; rw [t_cl]; omega⟩
    · rw [upf_ne q]
      refine pre _ (M6.2.2 t' ht') ⟨?_, fun j qq hj => ?_⟩ rfl
      · rw [e32, si_ne 80 t' q, e29, si_cell (by decide), e25, si_cell (by decide), m16.2.1 80 (by decide) (by decide)]
        exact (M6.2.2 t' ht').2.2.2.2.2.2.2.2.1.1
      · obtain ⟨c1, c2⟩ := mlx t' ht' q j qq hj
        rw [c1, c2]
        exact (M6.2.2 t' ht').2.2.2.2.2.2.2.2.1.2 j qq hj
  · -- swap, add, cas
    have s24 : 0 ≤ s.toInt ∧ s.toInt ≤ 4 := by rcases e with e | e | e <;> (rw [e]; decide)
    have oo : o = 2 ∨ o = 3 ∨ o = 4 := e.imp (sE 2 (by omega)).mp (Or.imp (sE 3 (by omega)).mp (sE 4 (by omega)).mp)
    have cv := c24 s24
    refine ⟨cv, fun z38 e38 => ⟨cv, Or.inr lk6.2.2.1, ?_⟩⟩
    have m38 := md_f y6 92 (y6.1 70 c.toNatClampNeg)
    rw [← e38] at m38
    have c70 : z38.1 70 c.toNatClampNeg = M.1 c.toNatClampNeg := by rw [m38.2.1 70 (by decide) (by decide)]; exact mc6.1 _ (vp_lt cv)
    have e90 : z38.1 0 90 = L.2.2.1 := by rw [m38.1 90 (by decide)]; exact q90
    have e91 : z38.1 0 91 = L.2.2.2 := by rw [m38.1 91 (by decide)]; exact q91
    have fin : ∀ (u v : Int32) (z z2 : gd), z = si z38 70 c.toNatClampNeg u → z2 = si z 0 93 (z.1 70 c.toNatClampNeg) → efM C wa M T o c.toNatClampNeg L.2.2.1 L.2.2.2 wk = (upC M c.toNatClampNeg u, v) → dWr M o L = u → MD (d + 4) z_doAct 667 [(0, vr 0), (1, vi t), (3, vi k), (4, vi s), (5, vi c), (6, vi v)] [] (sadd (sadd S6 0 92) 0 93) z2 (Dv Fv) := by
      intro u v z z2 ez ez2 he hdw
      have mz := md_a z38 70 c.toNatClampNeg u (by decide)
      rw [← ez] at mz
      have mz2 := md_f z 93 (z.1 70 c.toNatClampNeg)
      rw [← ez2] at mz2
      have mm : md [82, 90, 91, 92, 93] [70, 71, 72, 84] y6 z2 := md_w (md_tr (L3 := [92, 93]) (A3 := [70]) m38 (md_tr (L3 := [93]) (A3 := [70]) mz mz2 rfl rfl) rfl rfl) (by decide) (by decide)
      exact easy o rfl (by omega) (by omega) (by omega) z2 _ v (upC M c.toNatClampNeg u) mm (ssub_tr (ssub_ad _ _ _) (ssub_ad _ _ _)) (MMc_C mc6 (fun j => by rw [mz2.2.1 70 (by decide) (by decide), ez, si_at rfl, m38.2.1 70 (by decide) (by decide)]) (by rw [mz2.2.1 71 (by decide) (by decide), mz.2.1 71 (by decide) (by decide), m38.2.1 71 (by decide) (by decide)]) (by rw [mz2.2.1 72 (by decide) (by decide), mz.2.1 72 (by decide) (by decide), m38.2.1 72 (by decide) (by decide)])) rfl (by rw [← q88]; exact he) (dq z2 (mm.1 88 (by decide)) (mm.1 89 (by decide)) (by rw [mz2.1 92 (by decide), mz.1 92 (by decide), e38, si_get, if_pos ⟨rfl, rfl⟩, mc6.1 _ (vp_lt cv), dr_x L0 oo, ← q88]) (by rw [ez2, si_get, if_pos ⟨rfl, rfl⟩, ez, si_get, if_pos ⟨rfl, rfl⟩, hdw]))
    have p301 : ∀ (b v : Int32), ((b = 0 ∧ ¬ M.1 c.toNatClampNeg = L.2.2.1) ∨ (b = 1 ∧ M.1 c.toNatClampNeg = L.2.2.1)) → (¬ o = 4 → v = M.1 c.toNatClampNeg) → (o = 4 → v = if M.1 c.toNatClampNeg = L.2.2.1 then 1 else 0) → MD (d + 4) z_doAct 301 [(0, vr 0), (1, vi t), (3, vi k), (4, vi s), (5, vi c), (7, vi b)] [vi v] (sadd S6 0 92) z38 (Dv Fv) := by
      intro b v hb v1 v4
      refine sd_doAct_301 _ _ _ _ _ _ ⟨fun n2 => ⟨fun n3 => ⟨fun b0 => ⟨cv, cv, fun z ez => ⟨cv, fun z2 ez2 => fin (M.1 c.toNatClampNeg) v z z2 (by rw [ez, c70]) ez2 ?_ ?_⟩⟩, fun nb => ⟨Or.inr lk6.2.2.2, cv, fun z ez => ⟨cv, fun z2 ez2 => fin L.2.2.2 v z z2 (by rw [ez, e91]) ez2 ?_ ?_⟩⟩⟩, fun e3 => ⟨cv, Or.inr lk6.2.2.1, cv, fun z ez => ⟨cv, fun z2 ez2 => fin (M.1 c.toNatClampNeg + L.2.2.1) v z z2 (by rw [ez, c70, e90]) ez2 ?_ ?_⟩⟩⟩, fun e2 => ⟨Or.inr lk6.2.2.1, cv, fun z ez => ⟨cv, fun z2 ez2 => fin L.2.2.1 v z z2 (by rw [ez, e90]) ez2 ?_ ?_⟩⟩⟩
      · have o4 : o = 4 := (oo.resolve_left (fun q => n2 ((sE 2 (by omega)).mpr q))).resolve_left (fun q => n3 ((sE 3 (by omega)).mpr q))
        have ne : ¬ M.1 c.toNatClampNeg = L.2.2.1 := hb.elim (fun q => q.2) (fun q => absurd (q.1.symm.trans b0) (by decide))
        have v4 := v4 o4
        rw [if_neg ne] at v4
        rw [o4, ef_4, if_neg ne, if_neg ne, v4]
      · have o4 : o = 4 := (oo.resolve_left (fun q => n2 ((sE 2 (by omega)).mpr q))).resolve_left (fun q => n3 ((sE 3 (by omega)).mpr q))
        have ne : ¬ M.1 c.toNatClampNeg = L.2.2.1 := hb.elim (fun q => q.2) (fun q => absurd (q.1.symm.trans b0) (by decide))
        rw [o4, dw_4 L0, ← q88, if_neg ne]
      · have o4 : o = 4 := (oo.resolve_left (fun q => n2 ((sE 2 (by omega)).mpr q))).resolve_left (fun q => n3 ((sE 3 (by omega)).mpr q))
        have ye : M.1 c.toNatClampNeg = L.2.2.1 := hb.elim (fun q => absurd q.1 nb) (fun q => q.2)
        have v4 := v4 o4
        rw [if_pos ye] at v4
        rw [o4, ef_4, if_pos ye, if_pos ye, v4]
      · have o4 : o = 4 := (oo.resolve_left (fun q => n2 ((sE 2 (by omega)).mpr q))).resolve_left (fun q => n3 ((sE 3 (by omega)).mpr q))
        have ye : M.1 c.toNatClampNeg = L.2.2.1 := hb.elim (fun q => absurd q.1 nb) (fun q => q.2)
        rw [o4, dw_4 L0, ← q88, if_pos ye]
      · have o3 := (sE 3 (by omega)).mp e3
        rw [v1 (by omega), o3, ef_3]
      · rw [(sE 3 (by omega)).mp e3, dw_3 L0, ← q88]
      · have o2 := (sE 2 (by omega)).mp e2
        rw [v1 (by omega), o2, ef_2]
      · rw [(sE 2 (by omega)).mp e2, dw_e L0 (by omega)]
    have p278 : ∀ b : Int32, ((b = 0 ∧ ¬ M.1 c.toNatClampNeg = L.2.2.1) ∨ (b = 1 ∧ M.1 c.toNatClampNeg = L.2.2.1)) → MD (d + 4) z_doAct 278 [(0, vr 0), (1, vi t), (3, vi k), (4, vi s), (5, vi c)] [vi b] (sadd S6 0 92) z38 (Dv Fv) := fun b hb => sd_doAct_278 _ _ _ _ _ ⟨fun n4 => ⟨cv, p301 b _ hb (fun _ => c70) (fun q => absurd ((sE 4 (by omega)).mpr q) n4)⟩, fun e4 => ds_one3 _ (p301 b _ hb (fun q => absurd ((sE 4 (by omega)).mp e4) q) (fun _ => by
      rcases hb with ⟨h1, h2⟩ | ⟨h1, h2⟩
      · rw [if_pos h1, if_neg h2]
      · rw [if_neg (by rw [h1]; decide), if_pos h2]))⟩
    rw [c70, e90]
    exact ⟨fun ne => p278 0 (Or.inl ⟨rfl, ne⟩), fun ye => p278 1 (Or.inr ⟨rfl, ye⟩)⟩
  · -- take
    have cv := c6 (Or.inl (by rw [e]; decide))
    refine ⟨cv, fun z ez => ⟨cv, cv, fun z2 ez2 => ?_⟩⟩
    have mz := md_a y6 71 c.toNatClampNeg t (by decide)
    rw [← ez] at mz
    have mz2 := md_a z 72 c.toNatClampNeg (z.1 72 c.toNatClampNeg + 1) (by decide)
    rw [← ez2] at mz2
    have z72 : z.1 72 = y6.1 72 := mz.2.1 72 (by decide) (by decide)
    have h72 := (mc6.2 _ (vp_lt cv)).2.2
    refine easy 5 ((sE 5 (by omega)).mp e) (by decide) (by decide) (by decide) z2 _ 0 (upL M c.toNatClampNeg (T + 1, (M.2.1 c.toNatClampNeg).2 + 1)) (md_tr mz mz2 rfl rfl) (ssub_rf _) (MMc_L mc6 (by rw [mz2.2.1 70 (by decide) (by decide), mz.2.1 70 (by decide) (by decide)]) (a := t) (fun j => by rw [mz2.2.1 71 (by decide) (by decide), ez, si_at rfl]) (fun j => by rw [ez2, si_at rfl, z72, h72]) ?_ (by omega)) rfl (by rw [← q88]; exact ef_5) (dq0 z2 (by have := (sE 5 (by omega)).mp e; omega) (by rw [mz2.1 88 (by decide), mz.1 88 (by decide)]) (by rw [mz2.1 89 (by decide), mz.1 89 (by decide)]) (by rw [mz2.1 92 (by decide), mz.1 92 (by decide)]) (by rw [mz2.1 93 (by decide), mz.1 93 (by decide)]))
    rw [tT]
    exact ((hol_t (T + 1) (by omega) T T6).mpr rfl).symm
  · -- taken again
    have cv := c6 (Or.inr e)
    have oo := (sE 15 (by omega)).mp e
    have hq6 := M6.2.2 T T6
    refine ⟨cv, fun z ez => ⟨ht, cv, fun z2 ez2 => ⟨ht, fun z3 ez3 => ⟨ht, fun z4 ez4 => ?_⟩⟩⟩⟩
    skip
    have mz := md_a y6 71 c.toNatClampNeg t (by decide)
    rw [← ez] at mz
    have mz2 := md_a z 72 c.toNatClampNeg (z.1 78 T) (by decide)
    rw [← ez2] at mz2
    have ma : md [] [71, 72] y6 z2 := md_tr mz mz2 rfl rfl
    have a2 : RI z2 S6 := RI_md (md_w ma (L2 := [82, 90, 91, 92, 93]) (A2 := [70, 71, 72, 75, 76, 78, 79, 84]) (by decide) (by decide)) rfl rfl (ssub_rf _) r6
    have t24 : th3 T z2 z4 := th3_tr (y := z3) (by rw [ez3]; exact th3_si (by decide) _ _) (by rw [ez4]; exact th3_si (by decide) _ _)
    have mb : md [] [77, 78] z2 z4 := by
      have b3 := md_a z2 77 T 0 (by decide)
      rw [← ez3] at b3
      have b4 := md_a z3 78 T 0 (by decide)
      rw [← ez4] at b4
      exact md_tr b3 b4 rfl rfl
    have mm : md [] [71, 72, 77, 78] y6 z4 := md_tr ma mb rfl rfl
    have f := fun q (h0 : q ≠ 0) hq => mm.2.1 q h0 hq
    have w4 : z4.1 77 T = 0 := by rw [ez4, si_cell (by decide), ez3, si_get, if_pos ⟨rfl, rfl⟩]
    have w8 : z4.1 78 T = 0 := by rw [ez4, si_get, if_pos ⟨rfl, rfl⟩]
    have h78 : z.1 78 T = (M.2.2 T).2.2.2.2.1 := by rw [mz.2.1 78 (by decide) (by decide)]; exact hq6.2.2.2.2.2.2.1
    have c73 : z4.1 73 = z2.1 73 := mb.2.1 73 (by decide) (by decide)
    have c74 : z4.1 74 = z2.1 74 := mb.2.1 74 (by decide) (by decide)
    refine go3 z4 S6 c 0 (upT (upL M c.toNatClampNeg (T + 1, (M.2.2 T).2.2.2.2.1)) T ((M.2.2 T).1, (M.2.2 T).2.1, (M.2.2 T).2.2.1, 0, 0, (M.2.2 T).2.2.2.2.2)) (fun q => by have := (sE 9 (by omega)).mp q; omega) ⟨hy6.1, hy6.2.1, by unfold acP; rw [mm.1 88 (by decide), mm.1 89 (by decide)]; exact ac6, by rw [mm.1 52 (by decide)]; exact hy6.2.2.2⟩ (dq0 z4 (by omega) (by rw [mm.1 88 (by decide)]) (by rw [mm.1 89 (by decide)]) (by rw [mm.1 92 (by decide)]) (by rw [mm.1 93 (by decide)])) ⟨CP_th (th3_th t24) a2.1, fun t' ht' => ?_⟩ (MK_md mm rfl rfl K6) ?_ (fun t' ht' => ?_) (by show (upf M.2.2 T _ T).1 = 1; rw [upf_eq]; exact sta1) (by show (upf M.2.2 T _ T).2.1 = 0; rw [upf_eq]; exact num0) (by show (upf M.2.2 T _ T).2.2.1 = K; rw [upf_eq]; exact eKd.symm) (by show (upf M.2.2 T _ T).2.2.2.1 = 0; rw [upf_eq]) (by show (upf M.2.2 T _ T).2.2.2.2.1 = 0; rw [upf_eq]) (by show (upf M.2.2 T _ T).2.2.2.2.2.2.2 = _; rw [upf_eq]) L0 (by omega) (by rw [oo, ← q88]; exact ef_15)
    · by_cases q : t' = T
      · rw [q]
        obtain ⟨q1, q2, q3⟩ := a2.2 T T6
        refine ⟨?_, Or.inl w4, rl_th (th3_th t24) (ssub_rf _) q3⟩
        unfold ra
        rw [c73, c74, t24.1.1 52 (by decide), t24.1.2.1 54 (by decide) (by decide)]
        exact q1
      · exact rT_th (th3_th t24) (ssub_rf _) q (a2.2 t' ht')
    · have q := MMc_L (M := M) (z := z4) (c := c.toNatClampNeg) (n := T + 1) (a := t) (b := (M.2.2 T).2.2.2.2.1) mc6 (f 70 (by decide) (by decide)) (fun j => by rw [mb.2.1 71 (by decide) (by decide), mz2.2.1 71 (by decide) (by decide), ez, si_at rfl]) (fun j => by rw [mb.2.1 72 (by decide) (by decide), ez2, si_at rfl, h78, mz.2.1 72 (by decide) (by decide)]) (by rw [tT]; exact ((hol_t (T + 1) (by omega) T T6).mpr rfl).symm) (by omega)
      exact q
    · show mTq z4 C t' (upf M.2.2 T _ t')
      by_cases q : t' = T
      · rw [q, upf_eq]
        exact mTq_w hq6 (fun c9 h9 => by rw [f c9 (by omega) (by simp; omega)]) (f 76 (by decide) (by decide)) (f 81 (by decide) (by decide)) (f 82 (by decide) (by decide)) w4 (by omega) w8 (by rw [f 79 (by decide) (by decide)]; exact hq6.2.2.2.2.2.2.2.1)
      · rw [upf_ne q]
        exact mTq_th hN t24 q (mTq_md ma rfl (M6.2.2 t' ht'))
  · -- give
    have cv := c6 (Or.inl (by rw [e]; decide))
    have h72 := (mc6.2 _ (vp_lt cv)).2.2
    refine ⟨cv, cv, fun z ez => ⟨cv, fun n0 => ⟨cv, fun z2 ez2 => ?_⟩, fun e0 => ⟨cv, fun z2 ez2 => ?_⟩⟩⟩
    · have mz := md_a y6 72 c.toNatClampNeg (y6.1 72 c.toNatClampNeg - 1) (by decide)
      rw [← ez] at mz
      have mz2 := md_a z 71 c.toNatClampNeg t (by decide)
      rw [← ez2] at mz2
      have z71 : z.1 71 = y6.1 71 := mz.2.1 71 (by decide) (by decide)
      rw [ez, si_get, if_pos ⟨rfl, rfl⟩, h72] at n0
      have he := ef_6 (C := C) (M := M) (w := wa) (t := T) (c := c.toNatClampNeg) (e := L.2.2.1) (f := L.2.2.2) (wk := wk)
      rw [if_neg n0] at he
      refine easy 6 ((sE 6 (by omega)).mp e) (by decide) (by decide) (by decide) z2 _ 0 (upL M c.toNatClampNeg (T + 1, (M.2.1 c.toNatClampNeg).2 - 1)) (md_tr mz mz2 rfl rfl) (ssub_rf _) (MMc_L mc6 (by rw [mz2.2.1 70 (by decide) (by decide), mz.2.1 70 (by decide) (by decide)]) (a := t) (fun j => by rw [ez2, si_at rfl, z71]) (fun j => by rw [mz2.2.1 72 (by decide) (by decide), ez, si_at rfl, h72]) ?_ (by omega)) rfl (by rw [← q88]; exact he) (dq0 z2 (by have := (sE 6 (by omega)).mp e; omega) (by rw [mz2.1 88 (by decide), mz.1 88 (by decide)]) (by rw [mz2.1 89 (by decide), mz.1 89 (by decide)]) (by rw [mz2.1 92 (by decide), mz.1 92 (by decide)]) (by rw [mz2.1 93 (by decide), mz.1 93 (by decide)]))
      rw [tT]
      exact ((hol_t (T + 1) (by omega) T T6).mpr rfl).symm
    · have mz := md_a y6 72 c.toNatClampNeg (y6.1 72 c.toNatClampNeg - 1) (by decide)
      rw [← ez] at mz
      have mz2 := md_a z 71 c.toNatClampNeg (-1) (by decide)
      rw [← ez2] at mz2
      have z71 : z.1 71 = y6.1 71 := mz.2.1 71 (by decide) (by decide)
      rw [ez, si_get, if_pos ⟨rfl, rfl⟩, h72] at e0
      have he := ef_6 (C := C) (M := M) (w := wa) (t := T) (c := c.toNatClampNeg) (e := L.2.2.1) (f := L.2.2.2) (wk := wk)
      rw [if_pos e0] at he
      exact easy 6 ((sE 6 (by omega)).mp e) (by decide) (by decide) (by decide) z2 _ 0 (upL M c.toNatClampNeg (0, (M.2.1 c.toNatClampNeg).2 - 1)) (md_tr mz mz2 rfl rfl) (ssub_rf _) (MMc_L mc6 (by rw [mz2.2.1 70 (by decide) (by decide), mz.2.1 70 (by decide) (by decide)]) (a := -1) (fun j => by rw [ez2, si_at rfl, z71]) (fun j => by rw [mz2.2.1 72 (by decide) (by decide), ez, si_at rfl, h72]) rfl (by omega)) rfl (by rw [← q88]; exact he) (dq0 z2 (by have := (sE 6 (by omega)).mp e; omega) (by rw [mz2.1 88 (by decide), mz.1 88 (by decide)]) (by rw [mz2.1 89 (by decide), mz.1 89 (by decide)]) (by rw [mz2.1 92 (by decide), mz.1 92 (by decide)]) (by rw [mz2.1 93 (by decide), mz.1 93 (by decide)]))
  · -- wait
    have cv := c6 (Or.inl (by rw [e]; decide))
    have oo := (sE 7 (by omega)).mp e
    obtain ⟨w0, os⟩ := oN (by omega)
    have hq6 := M6.2.2 T T6
    refine ⟨cv, ht, fun z ez => ⟨cv, fun z2 ez2 => ⟨cv, fun z3 ez3 => ⟨ht, fun z4 ez4 => ?_⟩⟩⟩⟩
    have mz := md_a y6 78 T (y6.1 72 c.toNatClampNeg) (by decide)
    rw [← ez] at mz
    have mz2 := md_a z 72 c.toNatClampNeg 0 (by decide)
    rw [← ez2] at mz2
    have mz3 := md_a z2 71 c.toNatClampNeg (-1) (by decide)
    rw [← ez3] at mz3
    have mz4 := md_a z3 77 T 1 (by decide)
    rw [← ez4] at mz4
    have ma : md [] [71, 72, 78] y6 z3 := md_tr (md_tr (L3 := []) (A3 := [72, 78]) mz mz2 rfl rfl) mz3 rfl rfl
    have mm : md [] [71, 72, 77, 78] y6 z4 := md_tr ma mz4 rfl rfl
    have mx : md [82, 88, 89, 90, 91, 92, 93] [71, 72, 77, 78, 84] x z4 := md_tr m06 mm rfl rfl
    have f := fun q (h0 : q ≠ 0) hq => mm.2.1 q h0 hq
    have a2 : RI z3 S6 := RI_md (md_w ma (L2 := [82, 90, 91, 92, 93]) (A2 := [70, 71, 72, 75, 76, 78, 79, 84]) (by decide) (by decide)) rfl rfl (ssub_rf _) r6
    have t4 : th3 T z3 z4 := by rw [ez4]; exact th3_si (by decide) _ _
    have w4 : z4.1 77 T = 1 := by rw [ez4, si_get, if_pos ⟨rfl, rfl⟩]
    have w8 : z4.1 78 T = (M.2.1 c.toNatClampNeg).2 := by rw [ez4, si_cell (by decide), ez3, si_cell (by decide), ez2, si_cell (by decide), ez, si_get, if_pos ⟨rfl, rfl⟩]; exact (mc6.2 _ (vp_lt cv)).2.2
    have c73 : z4.1 73 = z3.1 73 := mz4.2.1 73 (by decide) (by decide)
    have c74 : z4.1 74 = z3.1 74 := mz4.2.1 74 (by decide) (by decide)
    have ha := acM_7 (wk := wk) (by rw [← eL]; exact L0) (by rw [← eo]; exact oo)
    rw [← eL, ← q88, ef_7] at ha
    have mL := MMc_L (M := M) (z := z4) (c := c.toNatClampNeg) (n := 0) (a := -1) (b := 0) mc6 (f 70 (by decide) (by decide)) (fun j => by rw [mz4.2.1 71 (by decide) (by decide), ez3, si_at rfl, mz2.2.1 71 (by decide) (by decide), mz.2.1 71 (by decide) (by decide)]) (fun j => by rw [mz4.2.1 72 (by decide) (by decide), mz3.2.1 72 (by decide) (by decide), ez2, si_at rfl, mz.2.1 72 (by decide) (by decide)]) rfl (by omega)
    refine Dv_i (h z4 S6 ⟨CP_th (th3_th t4) a2.1, fun t' ht' => ?_⟩ hy6.1 hy6.2.1 (by unfold acP; rw [mm.1 88 (by decide), mm.1 89 (by decide)]; exact ac6) (dq0 z4 (by omega) (by rw [mm.1 88 (by decide)]) (by rw [mm.1 89 (by decide)]) (by rw [mm.1 92 (by decide)]) (by rw [mm.1 93 (by decide)])) ?_)
    rotate_left
    · rw [ha]
      refine ⟨mL.1, mL.2, fun t' ht' => ?_⟩
      show mTq z4 C t' (upf M.2.2 T _ t')
      by_cases q : t' = T
      · rw [q, upf_eq]
        exact mTq_w hq6 (fun c9 h9 => by rw [f c9 (by omega) (by simp; omega)]) (f 76 (by decide) (by decide)) (f 81 (by decide) (by decide)) (f 82 (by decide) (by decide)) w4 (by omega) w8 (by rw [f 79 (by decide) (by decide)]; exact hq6.2.2.2.2.2.2.2.1)
      · rw [upf_ne q]
        refine mTq_eq (M6.2.2 t' ht') (fun c9 h9 => ?_) (f 76 (by decide) (by decide)) (f 81 (by decide) (by decide)) (f 82 (by decide) (by decide))
        rw [ez4, si_ne c9 t' q, ez3, si_cell (by omega), ez2, si_cell (by omega), ez, si_ne c9 t' q]
    · by_cases q : t' = T
      · rw [q]
        obtain ⟨q1, q2, q3⟩ := a2.2 T T6
        refine ⟨?_, Or.inr ⟨Or.inl w4, by rw [f 73 (by decide) (by decide), g6 73 (by decide) (by decide)]; exact h1, ?_⟩, rl_th (th3_th t4) (ssub_rf _) q3⟩
        · unfold ra
          rw [c73, c74, t4.1.1 52 (by decide), t4.1.2.1 54 (by decide) (by decide)]
          exact q1
        · rw [mx.2.1 55 (by decide) (by decide), mx.2.1 74 (by decide) (by decide), ← ek, g55, ← os, oo]; rfl
      · exact rT_th (th3_th t4) (ssub_rf _) q (a2.2 t' ht')
  · -- wake
    have cv := c6 (Or.inl (by rw [e]; decide))
    have o8 := (sE 8 (by omega)).mp e
    obtain ⟨w0, os⟩ := oN (by omega)
    have cb := vp_in_iff.mp cv
    refine ds_wake3 t w k c s r6 K6 hN hX M6 m74 (by omega) eKd.symm hst (by omega) ⟨cb.1, cb.2⟩ (by rw [g6 77 (by decide) (by decide), m77, w0]; rfl) hwk (fun z rz mz z77 mt => ?_)
    have wT : wkT C M T c.toNatClampNeg wk T = M.2.2 T := if_neg (fun z9 => by rw [w0] at z9; exact absurd z9.2.1 (by decide))
    exact go3 z S6 c 0 (M.1, M.2.1, wkT C M T c.toNatClampNeg wk) (fun q => by have := (sE 9 (by omega)).mp q; omega) ⟨hy6.1, hy6.2.1, by unfold acP; rw [mz.1 88 (by decide), mz.1 89 (by decide)]; exact ac6, by rw [mz.1 52 (by decide)]; exact hy6.2.2.2⟩ (dq0 z (by omega) (by rw [mz.1 88 (by decide)]) (by rw [mz.1 89 (by decide)]) (by rw [mz.1 92 (by decide)]) (by rw [mz.1 93 (by decide)])) rz (MK_md mz rfl rfl K6) (MMc_eq mc6 (mz.2.1 70 (by decide) (by decide)) (mz.2.1 71 (by decide) (by decide)) (mz.2.1 72 (by decide) (by decide))) mt (by show (wkT C M T c.toNatClampNeg wk T).1 = 1; rw [wT]; exact sta1) (by show (wkT C M T c.toNatClampNeg wk T).2.1 = 0; rw [wT]; exact num0) (by show (wkT C M T c.toNatClampNeg wk T).2.2.1 = K; rw [wT]; exact eKd.symm) (by show (wkT C M T c.toNatClampNeg wk T).2.2.2.1 = 0; rw [wT]; exact w0) (by show (wkT C M T c.toNatClampNeg wk T).2.2.2.2.1 = 0; rw [wT]; exact (hW T T6).2.1 w0) (by show (wkT C M T c.toNatClampNeg wk T).2.2.2.2.2.2.2 = _; rw [wT]) L0 (by omega) (by rw [o8, ← q88]; exact ef_8)
  · -- start
    have cv := c6 (Or.inl (by rw [e]; decide))
    have o9 := (sE 9 (by omega)).mp e
    obtain ⟨w0, os⟩ := oN (by omega)
    refine ⟨cv, fun z ez => ⟨cv, cv, fun z2 ez2 => ?_⟩⟩
    have st0 := lp9 e
    have ct := s3 e
    rw [← lp2 (Or.inl (by rw [e]; decide))] at st0 ct
    obtain ⟨N, eN⟩ : ∃ N, N = c.toNatClampNeg := ⟨_, rfl⟩
    rw [← eN] at st0 ez ez2
    have N6 : N < 6 := by rw [eN]; exact vt cv
    have cT : ¬ N = T := fun q => by rw [q, h1] at st0; exact absurd st0 (by decide)
    have cb := vp_in_iff.mp cv
    have cc := cl_i cb.1
    rw [← eN] at cc
    have tz : th3 N y6 z := by rw [ez]; exact th3_si (by decide) _ _
    have tz2 : th3 N z z2 := by rw [ez2]; exact th3_si (by decide) _ _
    have t2 := th3_tr tz tz2
    have f := fun q (h0 : q ≠ 0) hq => t2.1.2.1 q h0 hq
    have l25 : (x.1 0 25).toInt = C.2.1.length := hK.2.1.1
    obtain ⟨qq, hqq⟩ : ∃ qq, C.2.1[N]? = some qq := ⟨_, List.getElem?_eq_getElem (by omega)⟩
    obtain ⟨hb1, -⟩ := hK.2.1.2 _ qq hqq
    obtain ⟨⟨stb, hstb, kn0⟩, -⟩ := hN.2.1 qq (List.mem_of_getElem? hqq)
    have e64 : z.1 64 = x.1 64 := by rw [ez, si_cell (by decide), g6 64 (by decide) (by decide)]
    have ea : z2.1 74 N = x.1 64 N := by rw [ez2, si_get, if_pos ⟨rfl, rfl⟩, e64]
    have z73 : z2.1 73 N = 1 := by rw [ez2, si_cell (by decide), ez, si_get, if_pos ⟨rfl, rfl⟩]
    have oth : ∀ c9, ¬ c9 = 73 → ¬ c9 = 74 → z2.1 c9 = y6.1 c9 := fun c9 n1 n2 => by rw [ez2, si_cell n2, ez, si_cell n1]
    have hqN := M6.2.2 N N6
    have s0N : (M.2.2 N).1 = 0 := by
      have a := hqN.1
      rw [g6 73 (by decide) (by decide), st0] at a
      exact (sta_0 _ (by have := hqN.2.1; omega)).mp a.symm
    obtain ⟨wn1, wn2, wn3⟩ := hW N N6
    have nm := wn1 (by rw [s0N]; decide)
    have wt := wn3 (by rw [s0N]; decide)
    have of := wn2 wt
    obtain ⟨E, eE⟩ : ∃ E, E = upT M N (thN C N (M.2.2 N) qq.1 (M.2.2 N).2.2.2.2.2.2.2) := ⟨_, rfl⟩
    have ha := acM_is (E := E) (v := 0) (wk := wk) (by rw [← eL]; exact L0) (by rw [← eo]; omega) (by rw [← eo, ← eL, o9, ← q88, ← eN, eE]; exact ef_9 hqq)
    have ET : E.2.2 T = M.2.2 T := by rw [eE]; exact upf_ne (fun q => cT q.symm)
    have EN : E.2.2 N = thN C N (M.2.2 N) qq.1 (M.2.2 N).2.2.2.2.2.2.2 := by rw [eE]; exact upf_eq
    have Eo : ∀ t', ¬ t' = N → E.2.2 t' = M.2.2 t' := fun t' q => by rw [eE]; exact upf_ne q
    have mc2 : MMc z2 E := by rw [eE]; exact MMc_th mc6 t2
    have e7 : (E.2.2 T).2.2.2.2.2.2.2 = (M.2.2 T).2.2.2.2.2.2.2 := by rw [ET]
    rw [← eKd, esN, ← e7] at ha
    refine ds_act667 t k c s 0 ht eT m74 (E := E) (CP_th (th3_th t2) r6.1) (MK_th3 K6 t2) hN hX hst o16 (by rw [t2.1.1 52 (by decide), hy6.2.2.2]; omega) mc2 (fun t' ht' hc' => ?_) (fun _ => by rw [← eN]; exact cT) (by rw [ET]; exact sta1) (by rw [ET]; exact num0) (by rw [ET]; exact eKd.symm) (by rw [ET]; exact w0) (by rw [ET]; exact (hW T T6).2.1 w0) (fun _ => ?_) (fun t' ht' hc' => rT_th (th3_th t2) (ssub_rf _) (by rw [eN]; exact hc' e) (r6.2 t' ht')) (fun _ => by rw [← eN]; exact rl_th (th3_th t2) (ssub_rf _) (r6.2 N N6).2.2) (fun x' S' r ss m mm => h x' S' r (ssub_tr hy6.1 ss) (acS_up ss hy6.2.1) ?_ (dq0 x' (by omega) (by rw [m.1 88 (by decide), t2.1.1 88 (by decide)]) (by rw [m.1 89 (by decide), t2.1.1 89 (by decide)]) (by rw [m.1 92 (by decide), t2.1.1 92 (by decide)]) (by rw [m.1 93 (by decide), t2.1.1 93 (by decide)])) (by rw [ha]; exact mm))
    · have q : ¬ t' = N := by rw [eN]; exact hc' e
      rw [Eo t' q]
      exact mTq_th hN t2 q (M6.2.2 t' ht')
    · rw [← eN]
      refine ⟨cv, z73, ?_, M.2.2 N, qq.1, (M.2.2 N).2.2.2.2.2.2.2, EN, by rw [ea]; exact hb1, gt_lt hstb, fun p hp => ?_, wt, of, by rw [oth 79 (by decide) (by decide)]; exact hqN.2.2.2.2.2.2.2.1, mLt_eq hqN.2.2.2.2.2.2.2.2.1 (oth 80 (by decide) (by decide)) (oth 81 (by decide) (by decide)) (oth 82 (by decide) (by decide))⟩
      · unfold q0
        rw [oth 77 (by decide) (by decide), oth 78 (by decide) (by decide), oth 75 (by decide) (by decide), hqN.2.2.2.2.1, hqN.2.2.2.2.2.2.1, hqN.2.2.1, wt, of, nm]
        exact ⟨rfl, rfl, rfl⟩
      · rw [stN_is hstb, kn0] at hp
        exact absurd hp (Nat.not_lt_zero _)
    · unfold acP
      rw [m.1 88 (by decide), m.1 89 (by decide), t2.1.1 88 (by decide), t2.1.1 89 (by decide)]
      exact ac6
  · -- call
    have o13 := (sE 13 (by omega)).mp e
    obtain ⟨w0, os⟩ := oN (by omega)
    have hq6 := M6.2.2 T T6
    refine ⟨ht, fun z ez => ⟨lk6.2.2.1, fun z2 ez2 => ?_⟩⟩
    skip
    have mz := md_a y6 79 T c (by decide)
    rw [← ez] at mz
    have mz2 := md_f z 93 (z.1 0 90)
    rw [← ez2] at mz2
    have mm : md [93] [79] y6 z2 := md_tr mz mz2 rfl rfl
    have f := fun q (h0 : q ≠ 0) hq => mm.2.1 q h0 hq
    have e79 : z2.1 79 T = c := by rw [mz2.2.1 79 (by decide) (by decide), ez, si_get, if_pos ⟨rfl, rfl⟩]
    have cob : c = (stN C (M.2.2 T).2.2.1).2.2.2.2.1 := by
      obtain ⟨p1, p2⟩ := lkM_pl (C := C) (w := wa) w0 (by rw [← eL]; exact L0)
      rw [← eL] at p2
      rw [q88, p2, lkI_n]
      rw [← eKd, esN]
      cases ei : st.2.2.2.2.2.2.2.1 with
      | none => rfl
      | some Q => have := (hX _ st hst).1 (by rw [ei]; exact fun z => nomatch z); omega
    refine go3 z2 _ c 0 (upT M T ((M.2.2 T).1, (M.2.2 T).2.1, (M.2.2 T).2.2.1, (M.2.2 T).2.2.2.1, (M.2.2 T).2.2.2.2.1, (stN C (M.2.2 T).2.2.1).2.2.2.2.1, (M.2.2 T).2.2.2.2.2.2)) (fun q => by have := (sE 9 (by omega)).mp q; omega) ⟨ssub_tr hy6.1 (ssub_ad _ _ _), acS_up (ssub_ad _ _ _) hy6.2.1, by unfold acP; rw [mm.1 88 (by decide), mm.1 89 (by decide)]; exact ac6, by rw [mm.1 52 (by decide)]; exact hy6.2.2.2⟩ (dq z2 (mm.1 88 (by decide)) (mm.1 89 (by decide)) (by rw [mm.1 92 (by decide), q92, o13, dr_n (by omega)]) (by rw [ez2, si_get, if_pos ⟨rfl, rfl⟩, mz.1 90 (by decide), q90, o13, dw_e L0 (by omega)])) (RI_md mm rfl rfl (ssub_ad _ _ _) r6) (MK_md mm rfl rfl K6) (MMc_eq mc6 (f 70 (by decide) (by decide)) (f 71 (by decide) (by decide)) (f 72 (by decide) (by decide))) (fun t' ht' => ?_) (by show (upf M.2.2 T _ T).1 = 1; rw [upf_eq]; exact sta1) (by show (upf M.2.2 T _ T).2.1 = 0; rw [upf_eq]; exact num0) (by show (upf M.2.2 T _ T).2.2.1 = K; rw [upf_eq]; exact eKd.symm) (by show (upf M.2.2 T _ T).2.2.2.1 = 0; rw [upf_eq]; exact w0) (by show (upf M.2.2 T _ T).2.2.2.2.1 = 0; rw [upf_eq]; exact (hW T T6).2.1 w0) (by show (upf M.2.2 T _ T).2.2.2.2.2.2.2 = _; rw [upf_eq]) L0 (by omega) (by rw [o13]; exact ef_13)
    show mTq z2 C t' (upf M.2.2 T _ t')
    by_cases q : t' = T
    · rw [q, upf_eq]
      exact mTq_w hq6 (fun c9 h9 => by rw [f c9 (by omega) (by simp; omega)]) (f 76 (by decide) (by decide)) (f 81 (by decide) (by decide)) (f 82 (by decide) (by decide)) (by rw [f 77 (by decide) (by decide)]; exact hq6.2.2.2.2.1) hq6.2.2.2.2.2.1 (by rw [f 78 (by decide) (by decide)]; exact hq6.2.2.2.2.2.2.1) (by rw [e79]; exact cob)
    · rw [upf_ne q]
      refine mTq_eq (M6.2.2 t' ht') (fun c9 h9 => ?_) (f 76 (by decide) (by decide)) (f 81 (by decide) (by decide)) (f 82 (by decide) (by decide))
      rcases h9 with h9 | h9 | h9 | h9 | h9 | h9 | h9
      all_goals first | (rw [h9, mz2.2.1 79 (by decide) (by decide), ez, si_ne 79 t' q]) | (rw [f c9 (by omega) (by simp; omega)])
  · -- back
    have o13 := (sE 14 (by omega)).mp e
    obtain ⟨w0, os⟩ := oN (by omega)
    have hq6 := M6.2.2 T T6
    refine ⟨ht, fun z ez => ⟨lk6.2.2.1, fun z2 ez2 => ?_⟩⟩
    skip
    have mz := md_a y6 79 T (-1) (by decide)
    rw [← ez] at mz
    have mz2 := md_f z 93 (z.1 0 90)
    rw [← ez2] at mz2
    have mm : md [93] [79] y6 z2 := md_tr mz mz2 rfl rfl
    have f := fun q (h0 : q ≠ 0) hq => mm.2.1 q h0 hq
    have e79 : z2.1 79 T = (-1) := by rw [mz2.2.1 79 (by decide) (by decide), ez, si_get, if_pos ⟨rfl, rfl⟩]
    refine go3 z2 _ c 0 (upT M T ((M.2.2 T).1, (M.2.2 T).2.1, (M.2.2 T).2.2.1, (M.2.2 T).2.2.2.1, (M.2.2 T).2.2.2.2.1, -1, (M.2.2 T).2.2.2.2.2.2)) (fun q => by have := (sE 9 (by omega)).mp q; omega) ⟨ssub_tr hy6.1 (ssub_ad _ _ _), acS_up (ssub_ad _ _ _) hy6.2.1, by unfold acP; rw [mm.1 88 (by decide), mm.1 89 (by decide)]; exact ac6, by rw [mm.1 52 (by decide)]; exact hy6.2.2.2⟩ (dq z2 (mm.1 88 (by decide)) (mm.1 89 (by decide)) (by rw [mm.1 92 (by decide), q92, o13, dr_n (by omega)]) (by rw [ez2, si_get, if_pos ⟨rfl, rfl⟩, mz.1 90 (by decide), q90, o13, dw_e L0 (by omega)])) (RI_md mm rfl rfl (ssub_ad _ _ _) r6) (MK_md mm rfl rfl K6) (MMc_eq mc6 (f 70 (by decide) (by decide)) (f 71 (by decide) (by decide)) (f 72 (by decide) (by decide))) (fun t' ht' => ?_) (by show (upf M.2.2 T _ T).1 = 1; rw [upf_eq]; exact sta1) (by show (upf M.2.2 T _ T).2.1 = 0; rw [upf_eq]; exact num0) (by show (upf M.2.2 T _ T).2.2.1 = K; rw [upf_eq]; exact eKd.symm) (by show (upf M.2.2 T _ T).2.2.2.1 = 0; rw [upf_eq]; exact w0) (by show (upf M.2.2 T _ T).2.2.2.2.1 = 0; rw [upf_eq]; exact (hW T T6).2.1 w0) (by show (upf M.2.2 T _ T).2.2.2.2.2.2.2 = _; rw [upf_eq]) L0 (by omega) (by rw [o13]; exact ef_14)
    show mTq z2 C t' (upf M.2.2 T _ t')
    by_cases q : t' = T
    · rw [q, upf_eq]
      exact mTq_w hq6 (fun c9 h9 => by rw [f c9 (by omega) (by simp; omega)]) (f 76 (by decide) (by decide)) (f 81 (by decide) (by decide)) (f 82 (by decide) (by decide)) (by rw [f 77 (by decide) (by decide)]; exact hq6.2.2.2.2.1) hq6.2.2.2.2.2.1 (by rw [f 78 (by decide) (by decide)]; exact hq6.2.2.2.2.2.2.1) e79
    · rw [upf_ne q]
      refine mTq_eq (M6.2.2 t' ht') (fun c9 h9 => ?_) (f 76 (by decide) (by decide)) (f 81 (by decide) (by decide)) (f 82 (by decide) (by decide))
      rcases h9 with h9 | h9 | h9 | h9 | h9 | h9 | h9
      all_goals first | (rw [h9, mz2.2.1 79 (by decide) (by decide), ez, si_ne 79 t' q]) | (rw [f c9 (by omega) (by simp; omega)])
  · -- join, fence, pause
    have n := fun (j : Nat) (hj : j < 16) (hm : Int32.ofNat j ∈ [(0 : Int32), (1 : Int32), (2 : Int32), (3 : Int32), (4 : Int32), (5 : Int32), (15 : Int32), (6 : Int32), (7 : Int32), (8 : Int32), (9 : Int32), (13 : Int32), (14 : Int32)]) => fun z : o = j => no _ hm ((sE j hj).mpr z)
    have n0 : ¬ o = 0 := n 0 (by omega) (by decide)
    have n1 : ¬ o = 1 := n 1 (by omega) (by decide)
    have n2 : ¬ o = 2 := n 2 (by omega) (by decide)
    have n3 : ¬ o = 3 := n 3 (by omega) (by decide)
    have n4 : ¬ o = 4 := n 4 (by omega) (by decide)
    have n5 : ¬ o = 5 := n 5 (by omega) (by decide)
    have n6 : ¬ o = 6 := n 6 (by omega) (by decide)
    have n7 : ¬ o = 7 := n 7 (by omega) (by decide)
    have n8 : ¬ o = 8 := n 8 (by omega) (by decide)
    have n9 : ¬ o = 9 := n 9 (by omega) (by decide)
    have n13 : ¬ o = 13 := n 13 (by omega) (by decide)
    have n14 : ¬ o = 14 := n 14 (by omega) (by decide)
    have n15 : ¬ o = 15 := n 15 (by omega) (by decide)
    exact easy o rfl n9 n15 n7 y6 S6 0 M (md_w (md_rf y6) (by decide) (by decide)) (ssub_rf _) mc6 rfl (ef_o (by omega)) (dq0 y6 (by omega) rfl rfl rfl rfl)
end DDA
end
section
/-! the model: a run's beginning is the machine's -/
section DS3
variable {d : Nat} {S : gS} {x : gd} {F : Int32 → gd → gS → Prop} {Fv : gd → gS → Prop} {C : gCo}
theorem fs_idle {T : Nat} {q : Nat × Nat} (h : C.2.1[T]? = some q) (c : q.2 = 1) : (fsM C).2.2 T = th0 := by
  show (match C.2.1[T]? with | some q => if q.2 = 1 then th0 else thN C T th0 q.1 (fun _ => 0) | none => th0) = th0
  rw [h]
  exact if_pos c
theorem fs_go {T : Nat} {q : Nat × Nat} (h : C.2.1[T]? = some q) (c : ¬ q.2 = 1) : (fsM C).2.2 T = thN C T th0 q.1 (fun _ => 0) := by
  show (match C.2.1[T]? with | some q => if q.2 = 1 then th0 else thN C T th0 q.1 (fun _ => 0) | none => th0) = _
  rw [h]
  exact if_neg c
theorem fs_out {T : Nat} (h : C.2.1.length ≤ T) : (fsM C).2.2 T = th0 := by
  show (match C.2.1[T]? with | some q => if q.2 = 1 then th0 else thN C T th0 q.1 (fun _ => 0) | none => th0) = th0
  rw [List.getElem?_eq_none h]
theorem ds_setTail3 (cp : CP x) (i4 : ∀ j : Nat, j < 6 → iniT x j) (i3 : ∀ j : Nat, j < 6 → iniL x j) (i2 : ∀ j : Nat, j < 24 → x.1 70 j = (fsM C).1 j) (i5 : ∀ j : Nat, j < 48 → x.1 76 j = 0) (hK : MK x C) (hN : NC C) (h : ∀ y S1, RI y S1 → MM1 y C (fsM C) → Fv y S1) : MD 4 z_setFirst 157 [(0, vr 0), (1, vi 0)] [] S x (Dv Fv) := by
  have k0 : (0 : Int32).toInt = 0 := rfl
  have k1 : (1 : Int32).toInt = 1 := rfl
  have b25 := cp.1.2.2.2.2.2.1
  have nT : (x.1 0 25).toInt = C.2.1.length := hK.2.1.1
  have fin : ∀ (y : gd) (S1 : gS) (t : Int32), 0 ≤ t.toInt → RI y S1 → md hL hA x y → (∀ t' : Nat, t' < 6 → mTq y C t' (if (t' : Int) < t.toInt then (fsM C).2.2 t' else th0)) → (x.1 0 25).toInt ≤ t.toInt → Fv y S1 := by
    intro y S1 t t0 ry my hf hle
    refine h y S1 ry ⟨fun c hc => by rw [my.2.1 70 (by decide) (by decide)]; exact i2 c hc, fun l hl => ?_, fun t' ht' => ?_⟩
    · rw [my.2.1 71 (by decide) (by decide), my.2.1 72 (by decide) (by decide), (i3 l hl).1, (i3 l hl).2]
      exact ⟨rfl, Nat.zero_le _, rfl⟩
    · have q := hf t' ht'
      by_cases c : (t' : Int) < t.toInt
      · rw [if_pos c] at q; exact q
      · rw [if_neg c] at q
        rw [fs_out (by omega)]; exact q
  have ri0 : RI x S := by
    refine ⟨cp, fun t ht => ?_⟩
    obtain ⟨a1, a2, a3, a4, a5, a6, a7⟩ := i4 t ht
    refine ⟨⟨by rw [a2]; decide, by rw [a2]; decide, fun q => by rw [a1] at q; exact absurd q (by decide)⟩, Or.inl a4, by rw [a7]; decide, by rw [a7]; decide, fun k hk => ?_⟩
    rw [a7, k0] at hk; omega
  have loop : ∀ (n : Nat) (y : gd) (S1 : gS) (t : Int32), 0 ≤ t.toInt → (x.1 0 25).toInt - t.toInt ≤ n → y.1 0 25 = x.1 0 25 → RI y S1 → md hL hA x y → (∀ t' : Nat, t' < 6 → mTq y C t' (if (t' : Int) < t.toInt then (fsM C).2.2 t' else th0)) → MD 4 z_setFirst 157 [(0, vr 0), (1, vi t)] [] S1 y (Dv Fv) := by
    intro n
    induction n with
    | zero =>
      intro y S1 t t0 hn e25 ry my hf
      exact sd_setFirst_157 _ ⟨fun _ => Dv_i (fin y S1 t t0 ry my hf (by omega)), fun c => absurd (t_le.mpr (by rw [e25]; omega)) c⟩
    | succ n ih =>
      intro y S1 t t0 hn e25 ry my hf
      refine sd_setFirst_157 _ ⟨fun c => Dv_i (fin y S1 t t0 ry my hf (by rw [t_le, e25] at c; exact c)), fun c => ?_⟩
      rw [t_le, e25] at c
      have tv : vp_in t 6 := by rw [vp_in_iff]; omega
      have ct := cl_i t0
      have ti : (t + 1).toInt = t.toInt + 1 := by rw [t_add (by omega) (by omega), k1]
      obtain ⟨T, eT⟩ : ∃ T, T = t.toNatClampNeg := ⟨_, rfl⟩
      rw [← eT] at ct
      have T6 : T < 6 := by omega
      have tl : T < C.2.1.length := by omega
      obtain ⟨q9, hq9⟩ : ∃ q9, C.2.1[T]? = some q9 := ⟨_, List.getElem?_eq_getElem tl⟩
      have hKy : MK y C := MK_md my rfl rfl hK
      obtain ⟨k64, k38⟩ := hKy.2.1.2 T q9 hq9
      obtain ⟨⟨st, s1, s2⟩, q1⟩ := hN.2.1 q9 (List.mem_of_getElem? hq9)
      have mT := hf T T6
      rw [if_neg (by omega)] at mT
      have ext : ∀ (u : gd), mTq u C T ((fsM C).2.2 T) → (∀ t' : Nat, t' < 6 → ¬ t' = T → ∀ hh, mTq y C t' hh → mTq u C t' hh) → ∀ t' : Nat, t' < 6 → mTq u C t' (if (t' : Int) < (t + 1).toInt then (fsM C).2.2 t' else th0) := fun u hu ho t' ht' => by
        by_cases c9 : t' = T
        · rw [c9, if_pos (by omega)]; exact hu
        · have q := ho t' ht' c9 _ (hf t' ht')
          by_cases c8 : (t' : Int) < t.toInt
          · rw [if_pos c8] at q
            rw [if_pos (by omega)]; exact q
          · rw [if_neg c8] at q
            rw [if_neg (by omega)]; exact q
      refine ⟨tv, fun n0 => ih y S1 (t + 1) (by omega) (by omega) e25 ry my (ext y ?_ (fun _ _ _ _ q => q)), fun c0 => ⟨tv, fun y5 e5 => ⟨tv, tv, fun y8 e8 => ?_⟩⟩⟩
      · rw [← eT, k38] at n0
        have : ¬ q9.2 = 0 := fun z => n0 (by rw [z]; rfl)
        rw [fs_idle hq9 (by omega)]; exact mT
      rw [← eT] at c0 e5 e8
      have ni : ¬ q9.2 = 1 := fun z => by
        rw [k38, z] at c0
        exact absurd c0 (by decide)
      have t5 : th3 T y y5 := by rw [e5]; exact th3_si (by decide) _ _
      have t8 : th3 T y5 y8 := by rw [e8]; exact th3_si (by decide) _ _
      have t58 := th3_tr t5 t8
      have bg := ry.1.2.1.2.2.2.2.2 T (by have := t_cl (y.1 0 25); rw [e25] at this; rw [e25]; omega)
      have j2 := ry.1.2.1.2.1
      have a74 : y8.1 74 T = y.1 64 T := by rw [e8, si_get, if_pos ⟨rfl, rfl⟩, e5, si_cell (by decide)]
      have oth : ∀ c9, ¬ c9 = 73 → ¬ c9 = 74 → y8.1 c9 = y.1 c9 := fun c9 n1 n2 => by rw [e8, si_cell n2, e5, si_cell n1]
      have a52 : y8.1 0 52 = y.1 0 52 := t58.1.1 52 (by decide)
      have g73 : y8.1 73 T = 1 := by rw [e8, si_cell (by decide), e5, si_get, if_pos ⟨rfl, rfl⟩]
      have n64 : (y.1 64 T).toNatClampNeg = q9.1 := by rw [t_cl, k64]; rfl
      have hq : q0 y8 T := by
        unfold q0
        rw [oth 77 (by decide) (by decide), oth 78 (by decide) (by decide), oth 75 (by decide) (by decide)]
        exact ⟨mT.2.2.2.2.1, mT.2.2.2.2.2.2.1, mT.2.2.1⟩
      refine ds_own3 (d := 0) (lv0 := fun _ => 0) t tv (CP_th (th3_th t58) ry.1) (by rw [← eT, a74]; exact ⟨bg.1, by omega⟩) (fun _ => by rw [← eT, a74, a52]; exact bg.2) (by rw [← eT]; exact hq) (MK_th3 hKy t58) hN (by rw [← eT]; exact g73) (by rw [← eT, a74, n64]; exact s1) (fun p hp => by rw [s2] at hp; exact absurd hp (Nat.not_lt_zero _)) (fun u S2 tu su ra' w' u78 ow => ?_)
      rw [← eT] at tu ra' w' u78 ow
      rw [a74, n64] at ow
      have tt := th3_tr t58 tu
      have f := fun q (h0 : q ≠ 0) hq => tt.1.2.1 q h0 hq
      refine ih u S2 (t + 1) (by omega) (by omega) (by rw [tt.1.1 25 (by decide)]; exact e25) ⟨CP_th (th3_th tt) ry.1, fun t' ht' => ?_⟩ (md_tr my tt.1 rfl rfl) (ext u ?_ (fun t' ht' ne hh q => mTq_th hN tt ne q))
      · by_cases q : t' = T
        · rw [q]; exact ⟨ra', Or.inl w', rl_th (th3_th tt) su (ry.2 T T6).2.2⟩
        · exact rT_th (th3_th tt) su q (ry.2 t' ht')
      · rw [fs_go hq9 ni]
        exact mTq_own ow w' u78 rfl rfl (by rw [f 79 (by decide) (by decide)]; exact mT.2.2.2.2.2.2.2.1) (mLt_eq mT.2.2.2.2.2.2.2.2.1 (f 80 (by decide) (by decide)) (f 81 (by decide) (by decide)) (f 82 (by decide) (by decide)))
  refine loop 6 x S 0 (by decide) (by rw [k0]; omega) rfl ri0 (md_w (md_rf x) (by decide) (by decide)) (fun t' ht' => ?_)
  rw [if_neg (by rw [k0]; omega)]
  obtain ⟨a1, a2, a3, a4, a5, a6, a7⟩ := i4 t' ht'
  refine ⟨a1, Nat.zero_le _, a3, by rw [a2]; rfl, a4, Nat.zero_le _, a5, a6, ⟨by rw [a7]; rfl, fun j q hj => nomatch hj⟩, fun c => ?_, fun k hk _ => i5 _ (by omega)⟩
  have c : 0 = 1 ∨ 0 = 3 := c
  omega
end DS3
end
section
/-! the model: whether a thread's act can be done -/
section DH3
variable {d : Nat} {S : gS} {x : gd} {F : Int32 → gd → gS → Prop} {Fv : gd → gS → Prop} {C : gCo} {M : gMa}
theorem hol_0 : ∀ h, h < 7 → (Int32.ofNat h - 1 = -1 ↔ h = 0) := by decide +kernel
theorem sta_2 : ∀ h, h < 4 → (Int32.ofNat h ≤ 1 ↔ h ≤ 1) := by decide +kernel
set_option maxHeartbeats 1000000 in
theorem ds_hasAct3 (t : Int32) (ht : vp_in t 6) (ri : RI x S) (hK : MK x C) (hN : NC C) (hX : NXc C) (hM : MM1 x C M) {wa : Nat} (wy : x.1 0 68 = Int32.ofNat wa) (w01 : wa = 0 ∨ wa = 1) (hlt : wa = 0 → ∀ t', t' < 6 → (M.2.2 t').2.2.2.2.2.2.1 = []) (h0 : ¬ canM C wa M t.toNatClampNeg → F 0 x S) (h1 : x.1 73 t.toNatClampNeg = 1 → ¬ x.1 77 t.toNatClampNeg = 1 → canM C wa M t.toNatClampNeg → F 1 x S) : MD (d + 1) z_hasAct 0 [(0, vr 0), (1, vi t)] [] S x (Di F) := by
  have tv := vp_in_iff.mp ht
  obtain ⟨T, eT⟩ : ∃ T, T = t.toNatClampNeg := ⟨_, rfl⟩
  have T6 : T < 6 := by rw [eT]; exact vt ht
  have tT : t = Int32.ofNat T := i32_of (by rw [eT, t_cl]; omega)
  obtain ⟨m73, l73, m75, m74, m77, l77, m78, m79, mlt, mlv⟩ := hM.2.2 T T6
  obtain ⟨b2, b1, b0⟩ := wai_2 _ (show (M.2.2 T).2.2.2.1 < 3 by omega)
  rw [← m77] at b2 b1 b0
  have sta : x.1 73 T = 1 ↔ (M.2.2 T).1 = 1 := by
    rw [m73]
    rcases (show (M.2.2 T).1 = 0 ∨ (M.2.2 T).1 = 1 ∨ (M.2.2 T).1 = 2 ∨ (M.2.2 T).1 = 3 by omega) with e | e | e | e <;> rw [e] <;> decide
  rw [← eT] at h0 h1
  refine sd_hasAct_0 _ ⟨ht, fun c => Di_i (h0 (fun z => c (by rw [← eT]; exact sta.mpr z.1))), fun c1 => ⟨ht, fun c2 => ⟨ht, ?_⟩, fun c => Di_i (h0 (fun z => z.2.1 (b1.mp (by rw [eT]; exact c))))⟩⟩
  rw [← eT] at c1 c2
  have h1 := h1 c1 c2
  obtain ⟨kv, kn, _, av⟩ := RI_step ri T6 c1
  obtain ⟨s1, s2, s3⟩ := srt_of ri T6 c1
  obtain ⟨k, ek⟩ : ∃ k, k = x.1 74 T := ⟨_, rfl⟩
  rw [← ek] at kv kn av s1 s2 s3 m74
  obtain ⟨s, es⟩ : ∃ s, s = srt x T := ⟨_, rfl⟩
  rw [← es] at s1 s2 s3
  have l52 : (x.1 0 52).toInt = C.1.length := hK.1.1
  obtain ⟨K, eKd⟩ : ∃ K, K = (M.2.2 T).2.2.1 := ⟨_, rfl⟩
  rw [← eKd] at m74
  have kst : k.toNatClampNeg = K := by rw [t_cl, m74]; rfl
  obtain ⟨st, hst⟩ : ∃ st, C.1[K]? = some st := ⟨_, List.getElem?_eq_getElem (by omega)⟩
  have esN := stN_is hst
  obtain ⟨g54, g55, g56, -⟩ := hK.1.2 _ st hst
  have ns := hN.1 _ st hst
  obtain ⟨-, -, -, -, -, nx5⟩ := hX _ st hst
  rw [← kst] at g54 g55 g56
  have o16 : st.1 < 16 := by
    have a := ((ri.2 T T6).1.2.2 c1).2
    rw [← ek, g54] at a
    exact (mWh_i st.1 ns.1.1).1.mp a
  have g55 := g55 o16
  obtain ⟨o, eo⟩ : ∃ o, o = soM C (M.2.2 T) := ⟨_, rfl⟩
  have sO : s = Int32.ofNat o ∧ o < 16 ∧ (¬ o = 15 → o = st.1) := by
    rw [eo, es]
    unfold soM srt
    rw [← eKd, esN]
    by_cases c9 : x.1 77 T = 2
    · rw [if_pos c9, if_neg (by have := b2.mp c9; omega)]
      exact ⟨rfl, by omega, fun z => absurd rfl z⟩
    · have w0 : (M.2.2 T).2.2.2.1 = 0 := by
        have a1 : ¬ (M.2.2 T).2.2.2.1 = 2 := fun z => c9 (b2.mpr z)
        have a2 : ¬ (M.2.2 T).2.2.2.1 = 1 := fun z => c2 (b1.mpr z)
        omega
      rw [if_neg c9, if_pos w0, ← ek]
      exact ⟨g55, o16, fun _ => rfl⟩
  obtain ⟨sI, o15, oN⟩ := sO
  have sE : ∀ n : Nat, n < 16 → (s = Int32.ofNat n ↔ o = n) := fun n hn => by
    rw [t_eq, sI, op_16 o o15, op_16 n hn]; omega
  have sT : s.toInt = (o : Nat) := by rw [sI]; exact op_16 o o15
  obtain ⟨B, eB⟩ : ∃ B, B = obM C K := ⟨_, rfl⟩
  have hB : (x.1 56 k.toNatClampNeg).toNatClampNeg = B := by rw [eB, g56]; unfold obM; rw [esN]
  have l80 : x.1 80 T = 0 ↔ (M.2.2 T).2.2.2.2.2.2.1 = [] := by
    rw [t_eq, mlt.1, show (0 : Int32).toInt = 0 from rfl]
    exact ⟨fun z => List.eq_nil_of_length_eq_zero (by omega), fun z => by rw [z]; rfl⟩
  unfold canM at h0 h1
  rw [← eo, ← eKd, ← eB] at h0 h1
  have can1 := sta.mp c1
  have can2 : ¬ (M.2.2 T).2.2.2.1 = 1 := fun z => c2 (b1.mpr z)
  let W : Prop := ¬ (o = 0 ∨ o = 12 ∨ o = 13 ∨ o = 14 ∨ (wa = 1 ∧ o = 1 ∧ suM C B = false)) → (M.2.2 T).2.2.2.2.2.2.1 = []
  have p149 : W → (o = 5 ∨ o = 15) → MD (d + 1) z_hasAct 149 [(0, vr 0), (1, vi t), (2, vi k)] [] S x (Di F) := by
    intro hw q
    have ob := s2 (q.imp (fun q => by omega) (fun q => (sE 15 (by omega)).mpr q))
    have ov : vp_in (x.1 56 k.toNatClampNeg) 6 := by rw [vp_in_iff]; omega
    have B6 : B < 6 := by rw [← hB]; exact vp_lt ov
    obtain ⟨e71, l71, -⟩ := hM.2.1 B B6
    have a1 := hol_0 _ (show (M.2.1 B).1 < 7 by omega)
    have a2 := hol_t _ (show (M.2.1 B).1 < 7 by omega) T T6
    rw [← e71] at a1 a2
    rw [← tT] at a2
    refine sd_hasAct_149 _ _ ⟨kv, ov, ?_⟩
    rw [hB]
    exact ⟨fun c => Di_i (h1 ⟨can1, can2, hw, fun _ => Or.inl (a1.mp c), fun z => by omega⟩), fun c => ⟨kv, ov, fun c9 => Di_i (h0 (fun z => (z.2.2.2.1 q).elim (fun z => c (a1.mpr z)) (fun z => c9 (a2.mpr z)))), fun c9 => Di_i (h1 ⟨can1, can2, hw, fun _ => Or.inr (a2.mp c9), fun z => by omega⟩)⟩⟩
  have p138 : W → MD (d + 1) z_hasAct 138 [(0, vr 0), (1, vi t), (2, vi k), (3, vi s)] [] S x (Di F) := by
    intro hw
    have e5 := sE 5 (by omega)
    have e15 := sE 15 (by omega)
    have e10 := sE 10 (by omega)
    refine sd_hasAct_138 _ _ _ ⟨fun e => p149 hw (Or.inl (e5.mp e)), fun n5 => ⟨fun n15 => ⟨fun n10 => Di_i (h1 ⟨can1, can2, hw, fun z => absurd z (fun z => z.elim (fun z => n5 (e5.mpr z)) (fun z => n15 (e15.mpr z))), fun z => absurd (e10.mpr z) n10⟩), fun e => ⟨kv, ?_⟩⟩, fun e => p149 hw (Or.inr (e15.mp e))⟩⟩
    have o10 := e10.mp e
    have ob := s2 (Or.inl (by omega))
    have ov : vp_in (x.1 56 k.toNatClampNeg) 6 := by rw [vp_in_iff]; omega
    have B6 : B < 6 := by rw [← hB]; exact vp_lt ov
    obtain ⟨n73, nl73, -, -, -, -, -, -, nlt, -⟩ := hM.2.2 B B6
    have a2 := sta_2 _ (show (M.2.2 B).1 < 4 by omega)
    rw [← n73] at a2
    have nl : x.1 80 B = 0 ↔ (M.2.2 B).2.2.2.2.2.2.1 = [] := by
      rw [t_eq, nlt.1, show (0 : Int32).toInt = 0 from rfl]
      exact ⟨fun z => List.eq_nil_of_length_eq_zero (by omega), fun z => by rw [z]; rfl⟩
    refine ⟨fun c => Di_i (h0 (fun z => ?_)), fun _ => ⟨ov, ?_⟩⟩
    · have := (z.2.2.2.2 o10).1
      have bT : B = T := by rw [← hB, c, ← eT]
      rw [bT] at this
      omega
    · rw [hB]
      exact ⟨fun c => Di_i (h0 (fun z => by have := (z.2.2.2.2 o10).1; have := a2.mp c; omega)), fun c => ⟨ov, fun c9 => Di_i (h0 (fun z => c9 (nl.mpr (z.2.2.2.2 o10).2))), fun c9 => Di_i (h1 ⟨can1, can2, hw, fun z => by omega, fun _ => ⟨Classical.byContradiction (fun z => c (a2.mpr (by omega))), nl.mp c9⟩⟩)⟩⟩
  have p124 : ∀ b q : Int32, ((¬ b = 0 ∧ (wa = 0 ∨ (M.2.2 T).2.2.2.2.2.2.1 = [])) ∨ (b = 0 ∧ ¬ (M.2.2 T).2.2.2.2.2.2.1 = [])) → ((q = 0 ∧ (o = 0 ∨ o = 12 ∨ o = 13 ∨ o = 14 ∨ (o = 1 ∧ suM C B = false))) ∨ (¬ q = 0 ∧ ¬ (o = 0 ∨ o = 12 ∨ o = 13 ∨ o = 14 ∨ (o = 1 ∧ suM C B = false)))) → MD (d + 1) z_hasAct 124 [(0, vr 0), (1, vi t), (2, vi k), (3, vi s), (5, vi b)] [vi q] S x (Di F) := by
    intro b q hb hq
    have wl : wa = 0 → W := fun z _ => hlt z T T6
    refine sd_hasAct_124 _ _ _ _ _ ⟨fun c => p138 ?_, fun c => ⟨fun c9 => p138 ?_, fun c9 => Di_i (h0 (fun z => ?_))⟩⟩
    · rcases w01 with z | z
      · exact wl z
      · rcases hq with ⟨-, hq⟩ | ⟨hq, -⟩
        · intro n
          exact absurd (by rcases hq with e | e | e | e | ⟨e, e'⟩; exact Or.inl e; exact Or.inr (Or.inl e); exact Or.inr (Or.inr (Or.inl e)); exact Or.inr (Or.inr (Or.inr (Or.inl e))); exact Or.inr (Or.inr (Or.inr (Or.inr ⟨z, e, e'⟩)))) n
        · exact absurd c hq
    · rcases hb with ⟨-, hb | hb⟩ | ⟨hb, -⟩
      · exact wl hb
      · exact fun _ => hb
      · exact absurd hb c9
    · rcases hb with ⟨hb, -⟩ | ⟨-, hb⟩
      · exact hb c9
      · rcases hq with ⟨hq, -⟩ | ⟨-, hq⟩
        · exact c hq
        · exact hb (z.2.2.1 (fun n => hq (by rcases n with e | e | e | e | ⟨-, e, e'⟩; exact Or.inl e; exact Or.inr (Or.inl e); exact Or.inr (Or.inr (Or.inl e)); exact Or.inr (Or.inr (Or.inr (Or.inl e))); exact Or.inr (Or.inr (Or.inr (Or.inr ⟨e, e'⟩))))))
  have p85 : ∀ a b : Int32, (o = 1 → (a = 0 ↔ suM C B = false)) → ((¬ b = 0 ∧ (wa = 0 ∨ (M.2.2 T).2.2.2.2.2.2.1 = [])) ∨ (b = 0 ∧ ¬ (M.2.2 T).2.2.2.2.2.2.1 = [])) → MD (d + 1) z_hasAct 85 [(0, vr 0), (1, vi t), (2, vi k), (3, vi s), (4, vi a)] [vi b] S x (Di F) := by
    intro a b ha hb
    have e0 := sE 0 (by omega)
    have e12 := sE 12 (by omega)
    have e13 := sE 13 (by omega)
    have e14 := sE 14 (by omega)
    have e1 := sE 1 (by omega)
    refine sd_hasAct_85 _ _ _ _ _ ⟨fun e => p124 _ _ hb (Or.inl ⟨rfl, Or.inl (e0.mp e)⟩), fun n0 => ⟨fun e => p124 _ _ hb (Or.inl ⟨rfl, Or.inr (Or.inl (e12.mp e))⟩), fun n12 => ⟨fun e => p124 _ _ hb (Or.inl ⟨rfl, Or.inr (Or.inr (Or.inl (e13.mp e)))⟩), fun n13 => ⟨fun e => p124 _ _ hb (Or.inl ⟨rfl, Or.inr (Or.inr (Or.inr (Or.inl (e14.mp e))))⟩), fun n14 => ⟨fun n1 => p124 _ _ hb (Or.inr ⟨by decide, fun z => ?_⟩), fun e => ⟨fun c => p124 _ _ hb (Or.inl ⟨rfl, Or.inr (Or.inr (Or.inr (Or.inr ⟨e1.mp e, (ha (e1.mp e)).mp c⟩)))⟩), fun c => p124 _ _ hb (Or.inr ⟨by decide, fun z => ?_⟩)⟩⟩⟩⟩⟩⟩
    · rcases z with z | z | z | z | ⟨z, -⟩
      · exact n0 (e0.mpr z)
      · exact n12 (e12.mpr z)
      · exact n13 (e13.mpr z)
      · exact n14 (e14.mpr z)
      · exact n1 (e1.mpr z)
    · rcases z with z | z | z | z | ⟨z, z'⟩
      · exact n0 (e0.mpr z)
      · exact n12 (e12.mpr z)
      · exact n13 (e13.mpr z)
      · exact n14 (e14.mpr z)
      · exact c ((ha z).mpr z')
  have p62 : ∀ a : Int32, (o = 1 → (a = 0 ↔ suM C B = false)) → MD (d + 1) z_hasAct 62 [(0, vr 0), (1, vi t), (2, vi k), (3, vi s)] [vi a] S x (Di F) := by
    intro a ha
    refine sd_hasAct_62 _ _ _ _ ⟨fun c => p85 _ _ ha (Or.inl ⟨by decide, Or.inl (w01.resolve_right (fun z => by rw [wy, z] at c; exact absurd c (by decide)))⟩), fun c => ⟨ht, ?_⟩⟩
    rw [← eT]
    exact ⟨fun c9 => p85 _ _ ha (Or.inr ⟨rfl, fun z => c9 (l80.mpr z)⟩), fun c9 => p85 _ _ ha (Or.inl ⟨by decide, Or.inr (l80.mp c9)⟩)⟩
  rw [← eT, ← ek]
  refine ds_sortOf t ht (by rw [← eT, ← ek]; exact kv) ?_
  rw [← eT, ← es]
  refine ds_isAccess s (fun n => ⟨fun _ => p62 0 (fun z => absurd (by omega) n), fun q => absurd rfl q⟩) (fun q => ⟨fun q => absurd q (by decide), fun _ => ⟨kv, ?_, ?_⟩⟩)
  · have o := s1 q
    rw [vp_in_iff]; omega
  · have su : o = 1 → x.1 37 B = if suM C B = true then 1 else 0 := fun e1 => by
      have o1 := oN (by omega)
      obtain ⟨b1, b2, -⟩ := nx5 (by omega)
      have cl : B < C.2.2.1.length := by
        rw [eB]; unfold obM; rw [esN, t_cl]; omega
      obtain ⟨q, hq⟩ : ∃ q, C.2.2.1[B]? = some q := ⟨_, List.getElem?_eq_getElem cl⟩
      rw [(hK.2.2.1.2 _ q hq).2]
      unfold suM
      rw [hq]
    rw [hB]
    refine ⟨fun c => p62 0 (fun z => ⟨fun _ => ?_, fun _ => rfl⟩), fun c => p62 1 (fun z => ⟨fun y => absurd y (by decide), fun y => ?_⟩)⟩
    · rw [su z] at c
      cases e9 : suM C B with
      | false => rfl
      | true => rw [e9] at c; exact absurd c (by decide)
    · rw [su z, y] at c
      exact absurd rfl c
end DH3
end
section
/-! the model: choices are noted -/
def opI : Option Nat → Int32
  | none => -1
  | some n => Int32.ofNat n
/-- the choices that stand in the memory -/
def chE (y : gd) (l : List gCh) : Prop := (y.1 0 84).toInt = (l.length : Nat) ∧ ∀ i q, l[i]? = some q → y.1 86 i = Int32.ofNat q.1 ∧ y.1 87 i = opI q.2.1 ∧ y.1 88 i = opI q.2.2
section DC3
variable {d : Nat} {S : gS} {x : gd} {F : Int32 → gd → gS → Prop} {Fv : gd → gS → Prop}
theorem ds_choose3 {cl : List gCh} {q0' : gCh} {y : gd} {S1 : gS} {b : Int} (t l w : Int32) (hb : b ≤ 198) (q : fC x S b y S1) (ho : chO x t l) (hl : chE y cl) (hq : t = Int32.ofNat q0'.1 ∧ l = opI q0'.2.1 ∧ w = opI q0'.2.2) (h : ∀ y' S', fC x S (b + 1) y' S' → chE y' (cl ++ [q0']) → Fv y' S') : MD d z_choose 0 [(0, vr 0), (1, vi t), (2, vi l), (3, vi w)] [] S1 y (Dv Fv) := by
  obtain ⟨q1, q2, q3, q4, q5, q6⟩ := q
  obtain ⟨n, en⟩ : ∃ n, n = y.1 0 84 := ⟨_, rfl⟩
  have nv : vp_in n 200 := by rw [en, vp_in_iff]; omega
  have k1 : (1 : Int32).toInt = 1 := rfl
  obtain ⟨cl1, cl2⟩ := hl
  rw [← en] at q4 q5 cl1
  refine sd_choose_0 _ _ _ ⟨q3, by rw [← en]; exact nv, fun y2 e2 => ?_⟩
  rw [← en] at e2 ⊢
  have f2 : y2.1 0 84 = n := by rw [e2, si_cell (by decide), en]
  refine ⟨Or.inr q3, by rw [f2]; exact nv, fun y4 e4 => ?_⟩
  rw [f2] at e4 ⊢
  have f4 : y4.1 0 84 = n := by rw [e4, si_cell (by decide), f2]
  refine ⟨Or.inr (Or.inr q3), by rw [f4]; exact nv, fun y6 e6 => ?_⟩
  rw [f4] at e6 ⊢
  have f6 : y6.1 0 84 = n := by rw [e6, si_cell (by decide), f4]
  refine ⟨Or.inr (Or.inr (Or.inr q3)), fun y7 e7 => Dv_i (h y7 _ ?_ ?_)⟩
  rotate_left
  · rw [f6] at e7
    have nl : n.toNatClampNeg = cl.length := by rw [t_cl, cl1]; rfl
    have f7 : (y7.1 0 84).toInt = n.toInt + 1 := by rw [e7, si_get, if_pos ⟨rfl, rfl⟩, t_add (by omega) (by omega), k1]
    have g86 : ∀ i, y7.1 86 i = if i = cl.length then t else y.1 86 i := fun i => by rw [e7, si_cell (by decide), e6, si_cell (by decide), e4, si_cell (by decide), e2, si_get, nl]; by_cases z : i = cl.length; rw [if_pos ⟨rfl, z⟩, if_pos z]; rw [if_neg (fun q => z q.2), if_neg z]
    have g87 : ∀ i, y7.1 87 i = if i = cl.length then l else y.1 87 i := fun i => by rw [e7, si_cell (by decide), e6, si_cell (by decide), e4, si_get, nl, e2, si_cell (by decide)]; by_cases z : i = cl.length; rw [if_pos ⟨rfl, z⟩, if_pos z]; rw [if_neg (fun q => z q.2), if_neg z]
    have g88 : ∀ i, y7.1 88 i = if i = cl.length then w else y.1 88 i := fun i => by rw [e7, si_cell (by decide), e6, si_get, nl, e4, si_cell (by decide), e2, si_cell (by decide)]; by_cases z : i = cl.length; rw [if_pos ⟨rfl, z⟩, if_pos z]; rw [if_neg (fun q => z q.2), if_neg z]
    refine ⟨by rw [f7, cl1, List.length_append]; rfl, fun i q hi => ?_⟩
    rw [g86 i, g87 i, g88 i]
    by_cases c : i < cl.length
    · rw [List.getElem?_append_left c] at hi
      rw [if_neg (by omega), if_neg (by omega), if_neg (by omega)]
      exact cl2 i q hi
    · rw [List.getElem?_append_right (by omega)] at hi
      have il := gt_lt hi
      have il : i - cl.length < 1 := il
      have i0 : i - cl.length = 0 := by omega
      rw [i0] at hi
      have hi := Option.some.inj hi
      rw [if_pos (by omega), if_pos (by omega), if_pos (by omega), ← hi]
      exact hq
  rw [f6] at e7
  have m2 := md_a y 86 n.toNatClampNeg t (by decide)
  rw [← e2] at m2
  have m4 := md_a y2 87 n.toNatClampNeg l (by decide)
  rw [← e4] at m4
  have m6 := md_a y4 88 n.toNatClampNeg w (by decide)
  rw [← e6] at m6
  have m7 := md_f y6 84 (n + 1)
  rw [← e7] at m7
  have mm : md [84] [86, 87, 88] y y7 := md_tr (md_tr (L3 := []) (A3 := [86, 87, 88]) (md_tr (L3 := []) (A3 := [86, 87]) m2 m4 rfl rfl) m6 rfl rfl) m7 rfl rfl
  have mx : md [84] [86, 87, 88] x y7 := md_tr q1 mm rfl rfl
  have f7 : (y7.1 0 84).toInt = n.toInt + 1 := by rw [e7, si_get, if_pos ⟨rfl, rfl⟩, t_add (by omega) (by omega), k1]
  have cn := cl_i q4
  refine ⟨mx, ssub_tr q2 (fun c j z => Or.inr (Or.inr (Or.inr (Or.inr z)))), Or.inl ⟨rfl, rfl⟩, by omega, by omega, fun i hi => ?_⟩
  have e73 : y7.1 73 = x.1 73 := mx.2.1 73 (by decide) (by decide)
  have e77 : y7.1 77 = x.1 77 := mx.2.1 77 (by decide) (by decide)
  have e80 : y7.1 80 = x.1 80 := mx.2.1 80 (by decide) (by decide)
  by_cases z : i = n.toNatClampNeg
  · have g86 : y7.1 86 i = t := by rw [z, e7, si_cell (by decide), e6, si_cell (by decide), e4, si_cell (by decide), e2, si_get, if_pos ⟨rfl, rfl⟩]
    have g87 : y7.1 87 i = l := by rw [z, e7, si_cell (by decide), e6, si_cell (by decide), e4, si_get, if_pos ⟨rfl, rfl⟩]
    refine ⟨Or.inr (Or.inr (Or.inr (Or.inl ⟨rfl, z⟩))), Or.inr (Or.inr (Or.inl ⟨rfl, z⟩)), Or.inr (Or.inl ⟨rfl, z⟩), ?_⟩
    rw [g86, g87]
    unfold chO
    rw [e73, e77, e80]
    exact ho
  · have g86 : y7.1 86 i = y.1 86 i := by rw [e7, si_cell (by decide), e6, si_cell (by decide), e4, si_cell (by decide), e2, si_ne 86 i z]
    have g87 : y7.1 87 i = y.1 87 i := by rw [e7, si_cell (by decide), e6, si_cell (by decide), e4, si_ne 87 i z, e2, si_cell (by decide)]
    obtain ⟨a, b', c, o⟩ := q6 i (by rw [← en]; omega)
    refine ⟨Or.inr (Or.inr (Or.inr (Or.inr a))), Or.inr (Or.inr (Or.inr (Or.inr b'))), Or.inr (Or.inr (Or.inr (Or.inr c))), ?_⟩
    rw [g86, g87]
    unfold chO at o ⊢
    rw [mm.2.1 73 (by decide) (by decide), mm.2.1 77 (by decide) (by decide), mm.2.1 80 (by decide) (by decide)]
    exact o
end DC3
end
section
/-! the model: the choices found are the machine's -/
def acT (C : gCo) (w : Nat) (M : gMa) (t : Nat) : List gCh := if canM C w M t then (if soM C (M.2.2 t) = 8 ∧ (stN C (M.2.2 t).2.2.1).2.2.2.2.2.2.1 = false ∧ (M.2.1 (obM C (M.2.2 t).2.2.1)).1 = t + 1 ∧ ¬ waM C M (obM C (M.2.2 t).2.2.1) = [] then (waM C M (obM C (M.2.2 t).2.2.1)).map (fun o => (t, none, some o)) else [(t, none, none)]) else []
def ltP (l : List (Nat × Int32)) (i : Nat) : Bool := (l.take i).all (fun q => !(some q.1 == (l[i]?).map (fun z => z.1)))
def waP (C : gCo) (M : gMa) (l o : Nat) : Bool := (M.2.2 o).2.2.2.1 == 1 && obM C (M.2.2 o).2.2.1 == l
def prM (C : gCo) (w : Nat) (M : gMa) (t : Nat) : List gCh := (List.range t).flatMap (ch1 C w M)
theorem prM_s {C : gCo} {w : Nat} {M : gMa} {t : Nat} : prM C w M (t + 1) = prM C w M t ++ (acT C w M t ++ (((List.range (M.2.2 t).2.2.2.2.2.2.1.length).filter (ltP (M.2.2 t).2.2.2.2.2.2.1)).map (fun i => (t, some i, none)))) := by
  unfold prM
  rw [List.range_succ, List.flatMap_append]
  simp only [List.flatMap_cons, List.flatMap_nil, List.append_nil]
  rfl
theorem ltP_iff {l : List (Nat × Int32)} {i : Nat} {q : Nat × Int32} (h : l[i]? = some q) : ltP l i = true ↔ ∀ j q', j < i → l[j]? = some q' → ¬ q'.1 = q.1 := by
  unfold ltP
  rw [List.all_eq_true, h]
  constructor
  · intro a j q' hj hq e
    have m : q' ∈ l.take i := List.mem_iff_getElem?.mpr ⟨j, by rw [List.getElem?_take, if_pos hj]; exact hq⟩
    have b := a q' m
    simp [e] at b
  · intro a q' m
    obtain ⟨j, hj⟩ := List.mem_iff_getElem?.mp m
    rw [List.getElem?_take] at hj
    by_cases c : j < i
    · rw [if_pos c] at hj
      have b := a j q' c hj
      simp [b]
    · rw [if_neg c] at hj
      exact nomatch hj
theorem fl_no {P : Nat → Bool} {f : Nat → gCh} {n : Nat} (z : P n = false) : ((List.range n ++ [n]).filter P).map f = ((List.range n).filter P).map f := by
  rw [List.filter_append]
  simp [z]
theorem fl_yes {P : Nat → Bool} {f : Nat → gCh} {n : Nat} (z : P n = true) : ((List.range n ++ [n]).filter P).map f = ((List.range n).filter P).map f ++ [f n] := by
  rw [List.filter_append]
  simp [z]
section DF3
variable {d : Nat} {S : gS} {x : gd} {F : Int32 → gd → gS → Prop} {Fv : gd → gS → Prop} {C : gCo} {M : gMa}
set_option maxHeartbeats 1000000 in
theorem ds_find3 (ri : RI x S) (hK : MK x C) (hN : NC C) (hX : NXc C) (hM : MM1 x C M) {wa : Nat} (wy : x.1 0 68 = Int32.ofNat wa) (w01 : wa = 0 ∨ wa = 1) (hlt : wa = 0 → ∀ t', t' < 6 → (M.2.2 t').2.2.2.2.2.2.1 = []) (h : ∀ y S1, fC x S 84 y S1 → chE y (chM C wa M) → Fv y S1) : MD (d + 2) z_findChoices 0 [(0, vr 0)] [] S x (Dv Fv) := by
  have k0 : (0 : Int32).toInt = 0 := rfl
  have k1 : (1 : Int32).toInt = 1 := rfl
  have hT := ri.1.1.2.2.2.2.1
  have nT : (x.1 0 25).toInt = C.2.1.length := hK.2.1.1
  have hT6 := ri.1.1.2.2.2.2.2.1
  have p7 : ∀ (n : Nat) (y : gd) (S1 : gS) (t : Int32), 0 ≤ t.toInt → t.toInt ≤ (x.1 0 25).toInt → (x.1 0 25).toInt - t.toInt ≤ n → fC x S (14 * t.toInt) y S1 → chE y (prM C wa M t.toInt.toNat) → MD (d + 2) z_findChoices 7 [(0, vr 0), (1, vi t)] [] S1 y (Dv Fv) := by
    intro n
    induction n with
    | zero =>
      intro y S1 t t0 t1 hn q hl
      have f25 : y.1 0 25 = x.1 0 25 := q.1.1 25 (by decide)
      exact sd_findChoices_7 _ ⟨fun _ => Dv_i (h y S1 (fC_mono (by omega) q) (by rw [show t.toInt.toNat = C.2.1.length by omega] at hl; exact hl)), fun c => absurd (t_le.mpr (by rw [f25]; omega)) c⟩
    | succ n ih =>
      intro y S1 t t0 t1 hn q hl
      have f25 : y.1 0 25 = x.1 0 25 := q.1.1 25 (by decide)
      refine sd_findChoices_7 _ ⟨fun c => Dv_i (h y S1 (fC_mono (by omega) q) (by rw [t_le, f25] at c; rw [show t.toInt.toNat = C.2.1.length by omega] at hl; exact hl)), fun c => ?_⟩
      rw [t_le, f25] at c
      have ht : vp_in t 6 := by rw [vp_in_iff]; omega
      have i1 : (t + 1).toInt = t.toInt + 1 := by rw [t_add (by omega) (by omega), k1]
      obtain ⟨L, eL⟩ : ∃ L, L = x.1 80 t.toNatClampNeg := ⟨_, rfl⟩
      have rlx := (ri.2 _ (vt ht)).2.2
      have hL8 := rlx.2.1
      have hL0 := rlx.1
      rw [← eL] at hL8 hL0
      obtain ⟨T, eT⟩ : ∃ T, T = t.toNatClampNeg := ⟨_, rfl⟩
      have tTn : t.toInt.toNat = T := by rw [eT, t_cl]
      have tTI : t = Int32.ofNat T := i32_of (by rw [eT, t_cl]; omega)
      have T6 : T < 6 := by omega
      have t1n : (t + 1).toInt.toNat = T + 1 := by omega
      rw [tTn] at hl
      obtain ⟨l, el⟩ : ∃ l, l = (M.2.2 T).2.2.2.2.2.2.1 := ⟨_, rfl⟩
      have mlt := (hM.2.2 T T6).2.2.2.2.2.2.2.2.1
      rw [← el] at mlt
      have lL : L.toInt = (l.length : Nat) := by rw [eL, ← eT]; exact mlt.1
      have nxt : ∀ (y : gd) (S1 : gS), fC x S (14 * t.toInt + 14) y S1 → chE y ((prM C wa M T ++ acT C wa M T) ++ ((List.range l.length).filter (ltP l)).map (fun i => (T, some i, none))) → MD (d + 2) z_findChoices 7 [(0, vr 0), (1, vi (t + 1))] [] S1 y (Dv Fv) := fun y S1 q hc => ih y S1 (t + 1) (by omega) (by omega) (by omega) (fC_mono (by omega) q) (by rw [t1n, prM_s, ← List.append_assoc, ← el]; exact hc)
      -- late writes
      have p144 : ∀ (m : Nat) (y : gd) (S1 : gS) (i : Int32), 0 ≤ i.toInt → i.toInt ≤ L.toInt → L.toInt - i.toInt ≤ m → fC x S (14 * t.toInt + 6 + i.toInt) y S1 → chE y ((prM C wa M T ++ acT C wa M T) ++ ((List.range i.toInt.toNat).filter (ltP l)).map (fun i => (T, some i, none))) → MD (d + 2) z_findChoices 144 [(0, vr 0), (1, vi t), (2, vi i)] [] S1 y (Dv Fv) := by
        intro m
        induction m with
        | zero =>
          intro y S1 i i0 i1' hm q hc
          have f80 : y.1 80 = x.1 80 := q.1.2.1 80 (by decide) (by decide)
          refine sd_findChoices_144 _ _ ⟨ht, ?_⟩
          rw [f80, ← eL]
          exact ⟨fun _ => nxt y S1 (fC_mono (by omega) q) (by rw [show i.toInt.toNat = l.length by omega] at hc; exact hc), fun c => absurd (t_le.mpr (by omega)) c⟩
        | succ m ihm =>
          intro y S1 i i0 i1' hm q hc
          have f80 : y.1 80 = x.1 80 := q.1.2.1 80 (by decide) (by decide)
          refine sd_findChoices_144 _ _ ⟨ht, ?_⟩
          rw [f80, ← eL]
          refine ⟨fun c2 => nxt y S1 (fC_mono (by omega) q) (by rw [t_le] at c2; rw [show i.toInt.toNat = l.length by omega] at hc; exact hc), fun c2 => ?_⟩
          rw [t_le] at c2
          have ii : (i + 1).toInt = i.toInt + 1 := by rw [t_add (by omega) (by omega), k1]
          have riy : RI y S1 := RI_md q.1 rfl rfl q.2.1 ri
          have ry := (riy.2 _ (vt ht)).2.2
          have e80 : y.1 80 t.toNatClampNeg = L := by rw [f80, eL]
          have f81 : y.1 81 = x.1 81 := q.1.2.1 81 (by decide) (by decide)
          have hiL : i.toInt.toNat < l.length := by omega
          obtain ⟨qi, hqi⟩ : ∃ qi, l[i.toInt.toNat]? = some qi := ⟨_, List.getElem?_eq_getElem hiL⟩
          have rs : List.range (i + 1).toInt.toNat = List.range i.toInt.toNat ++ [i.toInt.toNat] := by rw [show (i + 1).toInt.toNat = i.toInt.toNat + 1 by omega, List.range_succ]
          have rno : ltP l i.toInt.toNat = false → ((List.range (i + 1).toInt.toNat).filter (ltP l)).map (fun i => ((T, some i, none) : gCh)) = ((List.range i.toInt.toNat).filter (ltP l)).map (fun i => (T, some i, none)) := fun z => by
            rw [rs]; exact fl_no z
          have ryes : ltP l i.toInt.toNat = true → ((List.range (i + 1).toInt.toNat).filter (ltP l)).map (fun i => ((T, some i, none) : gCh)) = ((List.range i.toInt.toNat).filter (ltP l)).map (fun i => (T, some i, none)) ++ [(T, some i.toInt.toNat, none)] := fun z => by
            rw [rs]; exact fl_yes z
          have cel : ∀ jj : Int32, 0 ≤ jj.toInt → jj.toInt < L.toInt → ∀ q', l[jj.toInt.toNat]? = some q' → y.1 81 (10 * t + jj).toNatClampNeg = Int32.ofNat q'.1 ∧ q'.1 < 24 := fun jj j0 j1 q' hq' => by
            obtain ⟨b1, b2, b3⟩ := mlt.2 _ q' hq'
            rw [f81, (t10 ht j0 (by omega)).2, t_cl jj, ← eT]
            exact ⟨b1, b3⟩
          have lj : ∀ (j : Nat) (may jj : Int32), 0 ≤ jj.toInt → i.toInt - jj.toInt ≤ j → (¬ may = 0 ↔ ∀ j' q', j' < jj.toInt.toNat → l[j']? = some q' → ¬ q'.1 = qi.1) → jj.toInt ≤ i.toInt → MD (d + 2) z_findChoices 159 [(0, vr 0), (1, vi t), (2, vi i), (3, vi may), (4, vi jj)] [] S1 y (Dv Fv) := by
            have last : ∀ may : Int32, (¬ may = 0 ↔ ltP l i.toInt.toNat = true) → ((may = (0 : Int32) → MD (d + 2) z_findChoices 144 [(0, vr 0), (1, vi t), (2, vi (i + 1))] [] S1 y (Dv Fv)) ∧ (¬ (may = (0 : Int32)) → MD (d + 1) z_choose 0 [(0, vr 0), (1, vi t), (2, vi i), (3, vi (-1))] [] S1 y (Dv (fun x3 S3 => MD (d + 2) z_findChoices 144 [(0, vr 0), (1, vi t), (2, vi (i + 1))] [] S3 x3 (Dv Fv))))) := by
              intro may hmay
              refine ⟨fun c0 => ihm y S1 (i + 1) (by omega) (by omega) (by omega) (fC_mono (by omega) q) (by rw [rno (Bool.eq_false_iff.mpr (fun z => hmay.mpr z c0))]; exact hc), fun c0 => ds_choose3 (q0' := (T, some i.toInt.toNat, none)) t i (-1) (by omega) q ⟨by omega, Or.inr ⟨i0, by rw [← eL]; omega⟩⟩ hc ⟨tTI, i32_of (by omega), rfl⟩ (fun y' S' q' hc' => ihm y' S' (i + 1) (by omega) (by omega) (by omega) (fC_mono (by omega) q') (by rw [ryes (hmay.mp c0), ← List.append_assoc]; exact hc'))⟩
            intro j
            induction j with
            | zero =>
              intro may jj j0 hj hmj hji
              exact sd_findChoices_159 _ _ _ _ ⟨fun _ => last may (by rw [ltP_iff hqi, ← show jj.toInt.toNat = i.toInt.toNat by omega]; exact hmj), fun c => absurd (t_le.mpr (by omega)) c⟩
            | succ j ihj =>
              intro may jj j0 hj hmj hji
              refine sd_findChoices_159 _ _ _ _ ⟨fun c3 => last may (by rw [t_le] at c3; rw [ltP_iff hqi, ← show jj.toInt.toNat = i.toInt.toNat by omega]; exact hmj), fun c3 => ?_⟩
              rw [t_le] at c3
              have jn : (jj + 1).toInt = jj.toInt + 1 := by rw [t_add (by omega) (by omega), k1]
              obtain ⟨a1, a2, _, _⟩ := rl_at ht ry (i := jj) j0 (by rw [e80]; omega)
              obtain ⟨b1, b2, _, _⟩ := rl_at ht ry (i := i) i0 (by rw [e80]; omega)
              have hjl : jj.toInt.toNat < l.length := by omega
              obtain ⟨qj, hqj⟩ : ∃ qj, l[jj.toInt.toNat]? = some qj := ⟨_, List.getElem?_eq_getElem hjl⟩
              obtain ⟨ej, lj24⟩ := cel jj j0 (by omega) qj hqj
              obtain ⟨ei, li24⟩ := cel i i0 (by omega) qi hqi
              have jn' : (jj + 1).toInt.toNat = jj.toInt.toNat + 1 := by omega
              have eqc : Int32.ofNat qj.1 = Int32.ofNat qi.1 ↔ qj.1 = qi.1 := by
                have e9 : (Int32.ofNat qj.1).toInt = (qj.1 : Nat) := Int32.toInt_ofNat_of_lt (by omega)
                have e8 : (Int32.ofNat qi.1).toInt = (qi.1 : Nat) := Int32.toInt_ofNat_of_lt (by omega)
                rw [t_eq, e9, e8]; omega
              rw [ej, ei]
              refine ⟨fun c0 => ihj _ _ (by omega) (by omega) ⟨fun z => absurd rfl z, fun z => absurd c0 (hmj.mpr (fun j' q' hj' => z j' q' (by omega)))⟩ (by omega), fun c0 => ⟨a1, a2, b1, b2, fun e0 => ihj _ _ (by omega) (by omega) ⟨fun z => absurd rfl z, fun z => absurd (eqc.mp e0) (z _ qj (by omega) hqj)⟩ (by omega), fun n0 => ihj _ _ (by omega) (by omega) ⟨fun _ j' q' hj' hq' => ?_, fun _ => by decide⟩ (by omega)⟩⟩
              by_cases c9 : j' = jj.toInt.toNat
              · rw [c9, hqj] at hq'
                rw [← Option.some.inj hq']
                exact fun z => n0 (eqc.mpr z)
              · exact hmj.mp c0 j' q' (by omega) hq'
          exact lj i.toInt.toNat 1 0 (by decide) (by rw [k0]; omega) ⟨fun _ j' q' hj' => absurd hj' (by rw [k0]; exact Nat.not_lt_zero _), fun _ => by decide⟩ (by rw [k0]; exact i0)
      have q144 : ∀ (y : gd) (S1 : gS), fC x S (14 * t.toInt + 6) y S1 → chE y (prM C wa M T ++ acT C wa M T) → MD (d + 2) z_findChoices 144 [(0, vr 0), (1, vi t), (2, vi 0)] [] S1 y (Dv Fv) := fun y S1 q hc => p144 L.toInt.toNat y S1 0 (by decide) (by rw [k0]; exact hL0) (by rw [k0]; omega) (fC_mono (by rw [k0]; omega) q) (by rw [k0]; simp; exact hc)
      have riy : RI y S1 := RI_md q.1 rfl rfl q.2.1 ri
      have e73 : y.1 73 = x.1 73 := q.1.2.1 73 (by decide) (by decide)
      have e77 : y.1 77 = x.1 77 := q.1.2.1 77 (by decide) (by decide)
      have My : MM1 y C M := MM1_md q.1 rfl hM
      have Ky : MK y C := MK_md q.1 rfl rfl hK
      refine ds_hasAct3 (M := M) t ht riy Ky hN hX My (wa := wa) (by rw [q.1.1 68 (by decide)]; exact wy) w01 hlt (fun nc => ⟨fun _ => q144 y S1 (fC_mono (by omega) q) (by rw [← eT] at nc; unfold acT; rw [if_neg nc, List.append_nil]; exact hl), fun z => absurd rfl z⟩) (fun g1 g2 can => ⟨fun z => absurd z (by decide), fun _ => ⟨ht, q.2.2.1, ?_⟩⟩)
      rw [← eT] at can g1 g2
      have ho : chO x t (-1) := ⟨by omega, Or.inl ⟨rfl, by rw [← eT, ← e73]; exact g1, by rw [← eT, ← e77]; exact g2⟩⟩
      have p127 : ∀ (z : gd) (S2 : gS), fC x S (14 * t.toInt + 6) z S2 → ∀ V : List Nat, chE z (prM C wa M T ++ V.map (fun o => (T, none, some o))) → (V = [] → acT C wa M T = [(T, none, none)]) → (¬ V = [] → acT C wa M T = V.map (fun o => (T, none, some o))) → MD (d + 2) z_findChoices 127 [(0, vr 0), (1, vi t), (3, vi (y.1 0 84))] [] S2 z (Dv Fv) := by
        intro z S2 qz V hV V0 V1
        have lenV : (z.1 0 84).toInt = (y.1 0 84).toInt + V.length := by rw [hV.1, hl.1, List.length_append, List.length_map]; omega
        refine sd_findChoices_127 _ _ ⟨qz.2.2.1, fun ne => q144 z S2 qz (by rw [V1 (fun z9 => ne (t_eq.mpr (by rw [lenV, z9]; simp)))]; exact hV), fun e => ?_⟩
        have Vn : V = [] := List.eq_nil_of_length_eq_zero (by rw [e] at lenV; omega)
        rw [Vn] at hV
        have hV : chE z (prM C wa M T) := by simpa using hV
        have qz2 : fC x S (14 * t.toInt) z S2 := ⟨qz.1, qz.2.1, qz.2.2.1, qz.2.2.2.1, by rw [e]; exact q.2.2.2.2.1, qz.2.2.2.2.2⟩
        exact ds_choose3 (q0' := (T, none, none)) t (-1) (-1) (by omega) qz2 ho hV ⟨tTI, rfl, rfl⟩ (fun y' S' q' hc' => q144 y' S' (fC_mono (by omega) q') (by rw [V0 Vn]; exact hc'))
      have q127 : ¬ (soM C (M.2.2 T) = 8 ∧ (stN C (M.2.2 T).2.2.1).2.2.2.2.2.2.1 = false ∧ (M.2.1 (obM C (M.2.2 T).2.2.1)).1 = T + 1 ∧ ¬ waM C M (obM C (M.2.2 T).2.2.1) = []) → MD (d + 2) z_findChoices 127 [(0, vr 0), (1, vi t), (3, vi (y.1 0 84))] [] S1 y (Dv Fv) := fun n => p127 y S1 (fC_mono (by omega) q) [] (by simpa using hl) (fun _ => by unfold acT; rw [if_pos can, if_neg n]) (fun z => absurd rfl z)
      obtain ⟨kv, kn, _, _⟩ := RI_step riy T6 g1
      obtain ⟨s1, s2, s3⟩ := srt_of riy T6 g1
      obtain ⟨K, eK⟩ : ∃ K, K = (M.2.2 T).2.2.1 := ⟨_, rfl⟩
      obtain ⟨m73, l73, m75, m74, m77, l77, -⟩ := My.2.2 T T6
      rw [← eK] at m74
      have kK : (y.1 74 T).toNatClampNeg = K := by rw [t_cl, m74]; rfl
      have l52 : (y.1 0 52).toInt = C.1.length := Ky.1.1
      obtain ⟨st, hst⟩ : ∃ st, C.1[K]? = some st := ⟨_, List.getElem?_eq_getElem (by omega)⟩
      have esN := stN_is hst
      obtain ⟨k54, k55, k56, k57, -⟩ := Ky.1.2 _ st hst
      have ns := hN.1 _ st hst
      have o16 : st.1 < 16 := by
        have a := ((riy.2 T T6).1.2.2 g1).2
        rw [kK, k54] at a
        exact (mWh_i st.1 ns.1.1).1.mp a
      obtain ⟨w2, w1', w0'⟩ := wai_2 _ (show (M.2.2 T).2.2.2.1 < 3 by omega)
      rw [← m77] at w2 w1' w0'
      have so8 : srt y T = 8 ↔ soM C (M.2.2 T) = 8 := by
        unfold srt soM
        rw [← eK, esN]
        by_cases c9 : y.1 77 T = 2
        · rw [if_pos c9, if_neg (by have := w2.mp c9; omega)]; decide
        · have z0 : (M.2.2 T).2.2.2.1 = 0 := by
            have a1 : ¬ (M.2.2 T).2.2.2.1 = 2 := fun z => c9 (w2.mpr z)
            have a2 : ¬ (M.2.2 T).2.2.2.1 = 1 := fun z => g2 (w1'.mpr z)
            omega
          rw [if_neg c9, if_pos z0, kK, k55 o16, t_eq, op_16 _ o16, show (8 : Int32).toInt = 8 from rfl]; omega
      rw [← eT]
      refine ds_sortOf t ht (by rw [← eT]; exact kv) ?_
      rw [← eT]
      have st8 : soM C (M.2.2 T) = 8 → st.1 = 8 := fun z => by
        unfold soM at z
        rw [← eK, esN] at z
        by_cases c9 : (M.2.2 T).2.2.2.1 = 0
        · rw [if_pos c9] at z; exact z
        · rw [if_neg c9] at z; exact absurd z (by decide)
      rw [kK, k56, k57]
      obtain ⟨-, -, -, nx4, -⟩ := hX _ st hst
      have flg : st.1 = 8 → (st.2.2.2.2.2.1 = 0 ↔ st.2.2.2.2.2.2.1 = false) := fun z => by
        rw [nx4 z]
        cases st.2.2.2.2.2.2.1 with
        | true => exact ⟨fun z => absurd z (by decide), fun z => nomatch z⟩
        | false => exact ⟨fun _ => rfl, fun _ => rfl⟩
      have obK : obM C (M.2.2 T).2.2.1 = st.2.2.2.2.1.toNatClampNeg := by unfold obM; rw [← eK, esN]
      rw [obK, ← eK, esN] at q127
      refine ⟨fun n8 => q127 (fun z => n8 (so8.mpr z.1)), fun e8 => ⟨kv, fun nf => q127 (fun z => nf ((flg (st8 (so8.mp e8))).mpr z.2.1)), fun f0 => ⟨kv, ?_, ?_⟩⟩⟩
      · have o := s2 (Or.inl (by rw [e8]; decide))
        rw [kK, k56] at o
        rw [vp_in_iff]; omega
      have ob6 := s2 (Or.inl (by rw [e8]; decide))
      rw [kK, k56] at ob6
      have B6 : st.2.2.2.2.1.toNatClampNeg < 6 := by rw [t_cl]; omega
      obtain ⟨e71, l71, -⟩ := My.2.1 _ B6
      have ht1 := hol_t _ (show (M.2.1 st.2.2.2.2.1.toNatClampNeg).1 < 7 by omega) T T6
      rw [← e71, ← tTI] at ht1
      refine ⟨fun nh => q127 (fun z => nh (ht1.mpr z.2.2.1)), fun yh => ?_⟩
      · -- those that it may wake
        have enW : ∀ (z : gd) (S2 : gS), fC x S (14 * t.toInt + 6) z S2 → chE z (prM C wa M T ++ ((List.range C.2.1.length).filter (waP C M st.2.2.2.2.1.toNatClampNeg)).map (fun o => (T, none, some o))) → MD (d + 2) z_findChoices 127 [(0, vr 0), (1, vi t), (3, vi (y.1 0 84))] [] S2 z (Dv Fv) := fun z S2 qz hc => by
          have wm : waM C M st.2.2.2.2.1.toNatClampNeg = (List.range C.2.1.length).filter (waP C M st.2.2.2.2.1.toNatClampNeg) := rfl
          rw [← wm] at hc
          refine p127 z S2 qz _ hc (fun V0 => ?_) (fun V1 => ?_)
          · unfold acT
            rw [if_pos can, obK, if_neg (fun z9 => z9.2.2.2 V0)]
          · unfold acT
            rw [if_pos can, obK, ← eK, esN, if_pos ⟨so8.mp e8, (flg (st8 (so8.mp e8))).mp f0, ht1.mp yh, V1⟩]
        have p72 : ∀ (m : Nat) (z : gd) (S2 : gS) (o : Int32), 0 ≤ o.toInt → o.toInt ≤ (x.1 0 25).toInt → (x.1 0 25).toInt - o.toInt ≤ m → fC x S (14 * t.toInt + o.toInt) z S2 → chE z (prM C wa M T ++ ((List.range o.toInt.toNat).filter (waP C M st.2.2.2.2.1.toNatClampNeg)).map (fun o => (T, none, some o))) → MD (d + 2) z_findChoices 72 [(0, vr 0), (1, vi t), (2, vi (y.1 74 T)), (3, vi (y.1 0 84)), (4, vi o)] [] S2 z (Dv Fv) := by
          intro m
          induction m with
          | zero =>
            intro z S2 o o0 o1 hm qz hc
            have g25 : z.1 0 25 = x.1 0 25 := qz.1.1 25 (by decide)
            exact sd_findChoices_72 _ _ _ _ ⟨fun _ => enW z S2 (fC_mono (by omega) qz) (by rw [show o.toInt.toNat = C.2.1.length by omega] at hc; exact hc), fun c => absurd (t_le.mpr (by rw [g25]; omega)) c⟩
          | succ m ihm =>
            intro z S2 o o0 o1 hm qz hc
            have g25 : z.1 0 25 = x.1 0 25 := qz.1.1 25 (by decide)
            refine sd_findChoices_72 _ _ _ _ ⟨fun c2 => enW z S2 (fC_mono (by omega) qz) (by rw [t_le, g25] at c2; rw [show o.toInt.toNat = C.2.1.length by omega] at hc; exact hc), fun c2 => ?_⟩
            rw [t_le, g25] at c2
            have ov : vp_in o 6 := by rw [vp_in_iff]; omega
            have oi : (o + 1).toInt = o.toInt + 1 := by rw [t_add (by omega) (by omega), k1]
            have riz : RI z S2 := RI_md qz.1 rfl rfl qz.2.1 ri
            have raz := (riz.2 _ (vt ov)).1
            obtain ⟨O, eO⟩ : ∃ O, O = o.toNatClampNeg := ⟨_, rfl⟩
            have oO : o.toInt.toNat = O := by rw [eO, t_cl]
            have oI : o = Int32.ofNat O := i32_of (by omega)
            have O6 : O < 6 := by omega
            have rs : List.range (o + 1).toInt.toNat = List.range o.toInt.toNat ++ [O] := by rw [show (o + 1).toInt.toNat = o.toInt.toNat + 1 by omega, List.range_succ, oO]
            have rno : waP C M st.2.2.2.2.1.toNatClampNeg O = false → ((List.range (o + 1).toInt.toNat).filter (waP C M st.2.2.2.2.1.toNatClampNeg)).map (fun o => ((T, none, some o) : gCh)) = ((List.range o.toInt.toNat).filter (waP C M st.2.2.2.2.1.toNatClampNeg)).map (fun o => (T, none, some o)) := fun z => by
              rw [rs, List.filter_append]
              simp [z]
            have ryes : waP C M st.2.2.2.2.1.toNatClampNeg O = true → ((List.range (o + 1).toInt.toNat).filter (waP C M st.2.2.2.2.1.toNatClampNeg)).map (fun o => ((T, none, some o) : gCh)) = ((List.range o.toInt.toNat).filter (waP C M st.2.2.2.2.1.toNatClampNeg)).map (fun o => (T, none, some o)) ++ [(T, none, some O)] := fun z => by
              rw [rs, List.filter_append]
              simp [z]
            have nx : ∀ (z' : gd) (S' : gS), fC x S (14 * t.toInt + o.toInt + 1) z' S' → chE z' (prM C wa M T ++ ((List.range (o + 1).toInt.toNat).filter (waP C M st.2.2.2.2.1.toNatClampNeg)).map (fun o => (T, none, some o))) → MD (d + 2) z_findChoices 72 [(0, vr 0), (1, vi t), (2, vi (y.1 74 T)), (3, vi (y.1 0 84)), (4, vi (o + 1))] [] S' z' (Dv Fv) := fun z' S' q' hc' => ihm z' S' (o + 1) (by omega) (by omega) (by omega) (fC_mono (by omega) q') hc'
            have Mz : MM1 z C M := MM1_md qz.1 rfl hM
            have Kz : MK z C := MK_md qz.1 rfl rfl hK
            obtain ⟨n73, nl73, -, n74, n77, nl77, -⟩ := Mz.2.2 O O6
            obtain ⟨-, b1, -⟩ := wai_2 _ (show (M.2.2 O).2.2.2.1 < 3 by omega)
            rw [← n77] at b1
            rw [← eO]
            have nof : ¬ ((M.2.2 O).2.2.2.1 = 1 ∧ obM C (M.2.2 O).2.2.1 = st.2.2.2.2.1.toNatClampNeg) → waP C M st.2.2.2.2.1.toNatClampNeg O = false := fun n9 => by
              cases e9 : waP C M st.2.2.2.2.1.toNatClampNeg O with
              | false => rfl
              | true =>
                unfold waP at e9
                simp at e9
                exact absurd e9 n9
            have kz56 : z.1 56 (y.1 74 T).toNatClampNeg = st.2.2.2.2.1 := by rw [kK]; exact (Kz.1.2 _ st hst).2.2.1
            rw [kz56]
            refine ⟨ov, fun n1 => nx z S2 (fC_mono (by omega) qz) (by rw [rno (nof (fun z9 => n1 (b1.mpr z9.1)))]; exact hc), fun w1 => ⟨ov, by rw [← eO] at raz; rw [vp_in_iff]; exact ⟨raz.1, raz.2.1⟩, kv, ?_⟩⟩
            have g1z : z.1 73 O = 1 := by
              rcases (riz.2 O O6).2.1 with z9 | ⟨-, z9, -⟩
              · rw [w1] at z9; exact absurd z9 (by decide)
              · exact z9
            have g5z : z.1 55 (z.1 74 O).toNatClampNeg = 7 := by
              rcases (riz.2 O O6).2.1 with z9 | ⟨-, -, z9⟩
              · rw [w1] at z9; exact absurd z9 (by decide)
              · exact z9
            have avz := (RI_step riz O6 g1z).2.2.2
            rw [g5z] at avz
            have ob : z.1 56 (z.1 74 O).toNatClampNeg = st.2.2.2.2.1 ↔ obM C (M.2.2 O).2.2.1 = st.2.2.2.2.1.toNatClampNeg := by
              have lo : 0 ≤ (z.1 56 (z.1 74 O).toNatClampNeg).toInt := by
                rcases avz.2 with z9 | z9 | z9
                · exact z9.2.2.1
                · exact z9.2.2.1
                · exact absurd z9.1 (by decide)
              have l52z : (z.1 0 52).toInt = C.1.length := Kz.1.1
              have kl : (M.2.2 O).2.2.1 < C.1.length := by
                have := (RI_step riz O6 g1z).2.1
                omega
              obtain ⟨so, hso⟩ : ∃ so, C.1[(M.2.2 O).2.2.1]? = some so := ⟨_, List.getElem?_eq_getElem kl⟩
              obtain ⟨-, -, g56, -⟩ := Kz.1.2 _ so hso
              have ec : (z.1 74 O).toNatClampNeg = (M.2.2 O).2.2.1 := by rw [t_cl, n74]; rfl
              rw [ec, g56] at lo ⊢
              unfold obM
              rw [stN_is hso, t_cl, t_cl, t_eq]
              omega
            refine ⟨fun n9 => nx z S2 (fC_mono (by omega) qz) (by rw [rno (nof (fun z9 => n9 (ob.mpr z9.2)))]; exact hc), fun e9 => ds_choose3 (q0' := (T, none, some O)) t (-1) o (by omega) qz ho hc ⟨tTI, rfl, oI⟩ (fun y' S' q' hc' => nx y' S' q' (by rw [ryes (by unfold waP; simp; exact ⟨b1.mp w1, ob.mp e9⟩), ← List.append_assoc]; exact hc'))⟩
        exact p72 (x.1 0 25).toInt.toNat y S1 0 (by decide) (by rw [k0]; omega) (by rw [k0]; omega) (fC_mono (by rw [k0]; omega) q) (by rw [k0]; simpa using hl)
  refine sd_findChoices_0 (fun y e => ?_)
  have m := md_f x 84 0
  rw [← e] at m
  have e0 : y.1 0 84 = 0 := by rw [e, si_get, if_pos ⟨rfl, rfl⟩]
  refine p7 (x.1 0 25).toInt.toNat y _ 0 (by decide) (by rw [k0]; exact hT) (by rw [k0]; omega) ⟨md_w m (by decide) (by decide), ssub_ad _ _ _, Or.inl ⟨rfl, rfl⟩, by rw [e0]; decide, by rw [e0, k0]; omega, fun i hi => ?_⟩ ⟨by rw [e0]; rfl, fun i q hi => nomatch hi⟩
  rw [e0, k0] at hi
  omega
end DF3
end
section
/-! the machine: what holds of every state -/
def wTq (w : Nat) (h : gTq) : Prop := (¬ h.1 = 3 → h.2.1 = 0) ∧ (h.2.2.2.1 = 0 → h.2.2.2.2.1 = 0) ∧ (¬ h.1 = 1 → h.2.2.2.1 = 0) ∧ (w = 0 → h.2.2.2.2.2.2.1 = [])
def WMw (w : Nat) (M : gMa) : Prop := ∀ t, t < 6 → wTq w (M.2.2 t)
section PIN
variable {C : gCo} {M : gMa} {w t s c n own : Nat} {me e f : Int32} {wk : Option Nat} {lv : Nat → Int32} {h : gTq} {r : gTr}
theorem WMw_WM (q : WMw w M) : WM M := fun t ht => ⟨(q t ht).1, (q t ht).2.1, (q t ht).2.2.1⟩
theorem ow1_num {st : gNs} (q : ow1 me s st lv = .inl r) : ¬ r.1 = 3 → r.2.1 = 0 := by
  unfold ow1 at q
  split at q
  · cases q
    exact fun _ => rfl
  · split at q
    · exact nomatch q
    · split at q
      · cases q
        exact fun z => absurd rfl z
      · split at q
        · cases q
          exact fun z => absurd rfl z
        · exact nomatch q
theorem setP_num : ∀ {n own s : Nat} {lv : Nat → Int32}, setP C me n own s lv = some r → ¬ r.1 = 3 → r.2.1 = 0 := by
  intro n
  induction n with
  | zero => intro own s lv q; exact absurd q (by simp [setP])
  | succ n ih =>
    intro own s lv q
    cases hs : C.1[s]? with
    | none =>
      rw [setP] at q
      simp only [hs] at q
      exact absurd q (by simp)
    | some st =>
      by_cases c1 : st.1 < 16
      · rw [set_act hs c1] at q
        cases q
        exact fun _ => rfl
      · by_cases c2 : st.1 < 20 ∧ 300 ≤ own
        · rw [set_6 hs c1 c2] at q
          cases q
          exact fun z => absurd rfl z
        · cases e1 : ow1 me s st lv with
          | inl r9 =>
            rw [set_l hs c1 c2 e1] at q
            cases q
            exact ow1_num e1
          | inr z =>
            rw [set_r hs c1 c2 e1] at q
            exact ih q
theorem owR_num : ¬ (owR C me s lv).1 = 3 → (owR C me s lv).2.1 = 0 := by
  by_cases q : ∃ r, ∃ n, setP C me n 0 s lv = some r
  · obtain ⟨r, n, q⟩ := q
    rw [owR_is q]
    exact setP_num q
  · have : owR C me s lv = (0, 0, 0, fun _ => 0) := by
      unfold owR
      rw [dif_neg q]
    rw [this]
    exact fun _ => rfl
theorem wT_thN (h3 : h.2.2.2.1 = 0) (h4 : h.2.2.2.2.1 = 0) (h6 : w = 0 → h.2.2.2.2.2.2.1 = []) : wTq w (thN C t h s lv) := ⟨owR_num, fun _ => h4, fun _ => h3, h6⟩
theorem wT_th0 : wTq w th0 := ⟨fun _ => rfl, fun _ => rfl, fun _ => rfl, fun _ => rfl⟩
theorem WMw_fs : WMw w (fsM C) := fun t _ => by
  by_cases q : t < C.2.1.length
  · obtain ⟨q9, hq⟩ : ∃ q9, C.2.1[t]? = some q9 := ⟨_, List.getElem?_eq_getElem q⟩
    by_cases c1 : q9.2 = 1
    · rw [fs_idle hq c1]; exact wT_th0
    · rw [fs_go hq c1]; exact wT_thN rfl rfl (fun _ => rfl)
  · rw [fs_out (by omega)]; exact wT_th0
/-- what an act does to the others keeps it; the thread itself is ready to go on -/
theorem WMw_ef (q : WMw w M) (t6 : t < 6) (h1 : (M.2.2 t).1 = 1) (hso : s = 15 ∨ (M.2.2 t).2.2.2.1 = 0) (h9 : s = 9 → c < 6 → (M.2.2 c).1 = 0) (n9 : s = 9 → ¬ c = t) (n7 : ¬ s = 7) : (∀ t', t' < 6 → ¬ t' = t → wTq w ((efM C w M t s c e f wk).1.2.2 t')) ∧ ((efM C w M t s c e f wk).1.2.2 t).2.2.2.1 = 0 ∧ ((efM C w M t s c e f wk).1.2.2 t).2.2.2.2.1 = 0 ∧ (w = 0 → ((efM C w M t s c e f wk).1.2.2 t).2.2.2.2.2.2.1 = []) := by
  have same : ¬ s = 15 → ∀ E : gMa, E.2.2 = M.2.2 → (∀ t', t' < 6 → ¬ t' = t → wTq w (E.2.2 t')) ∧ (E.2.2 t).2.2.2.1 = 0 ∧ (E.2.2 t).2.2.2.2.1 = 0 ∧ (w = 0 → (E.2.2 t).2.2.2.2.2.2.1 = []) := fun n15 E hE => by
    have w0 := hso.resolve_left n15
    rw [hE]
    exact ⟨fun t' ht' _ => q t' ht', w0, (q t t6).2.1 w0, (q t t6).2.2.2⟩
  have self : ∀ (E : gMa) (hh : gTq), E.2.2 = upf M.2.2 t hh → hh.2.2.2.1 = 0 → hh.2.2.2.2.1 = 0 → (w = 0 → hh.2.2.2.2.2.2.1 = []) → (∀ t', t' < 6 → ¬ t' = t → wTq w (E.2.2 t')) ∧ (E.2.2 t).2.2.2.1 = 0 ∧ (E.2.2 t).2.2.2.2.1 = 0 ∧ (w = 0 → (E.2.2 t).2.2.2.2.2.2.1 = []) := fun E hh hE a1 a2 a3 => by
    rw [hE, upf_eq]
    exact ⟨fun t' ht' ne => by rw [upf_ne ne]; exact q t' ht', a1, a2, a3⟩
  by_cases c0 : s = 0
  · rw [c0, ef_0]; exact same (by omega) _ rfl
  by_cases c1 : s = 1
  · have w0 := hso.resolve_left (by omega)
    rw [c1, ef_1]
    by_cases z : w = 0 ∨ suM C c = true
    · rw [if_pos z]; exact same (by omega) _ rfl
    · rw [if_neg z]
      exact self _ _ rfl w0 ((q t t6).2.1 w0) (fun z9 => absurd (Or.inl z9) z)
  by_cases c2 : s = 2
  · rw [c2, ef_2]; exact same (by omega) _ rfl
  by_cases c3 : s = 3
  · rw [c3, ef_3]; exact same (by omega) _ rfl
  by_cases c4 : s = 4
  · rw [c4, ef_4]; exact same (by omega) _ rfl
  by_cases c5 : s = 5
  · rw [c5, ef_5]; exact same (by omega) _ rfl
  by_cases c6 : s = 6
  · rw [c6, ef_6]; exact same (by omega) _ rfl
  by_cases c8 : s = 8
  · have w0 := hso.resolve_left (by omega)
    rw [c8, ef_8]
    have wt : ∀ t', wkT C M t c wk t' = M.2.2 t' ∨ ((M.2.2 t').2.2.2.1 = 1 ∧ wkT C M t c wk t' = ((M.2.2 t').1, (M.2.2 t').2.1, (M.2.2 t').2.2.1, 2, (M.2.2 t').2.2.2.2)) := fun t' => by
      unfold wkT
      split
      · next z => exact Or.inr ⟨z.2.1, rfl⟩
      · exact Or.inl rfl
    refine ⟨fun t' ht' _ => ?_, ?_⟩
    · show wTq w (wkT C M t c wk t')
      rcases wt t' with z | ⟨z1, z⟩
      · rw [z]; exact q t' ht'
      · rw [z]
        obtain ⟨a1, a2, a3, a4⟩ := q t' ht'
        refine ⟨a1, fun z9 => ?_, fun z9 => ?_, a4⟩
        · exact nomatch z9
        · have := a3 z9
          omega
    · show (wkT C M t c wk t).2.2.2.1 = 0 ∧ (wkT C M t c wk t).2.2.2.2.1 = 0 ∧ (w = 0 → (wkT C M t c wk t).2.2.2.2.2.2.1 = [])
      rcases wt t with z | ⟨z1, -⟩
      · rw [z]; exact ⟨w0, (q t t6).2.1 w0, (q t t6).2.2.2⟩
      · omega
  by_cases c9 : s = 9
  · cases hq : C.2.1[c]? with
    | none =>
      have a : efM C w M t 9 c e f wk = (match C.2.1[c]? with | some q => upT M c (thN C c (M.2.2 c) q.1 (M.2.2 c).2.2.2.2.2.2.2) | none => M, 0) := by unfold efM; rfl
      rw [c9, a, hq]; exact same (by omega) _ rfl
    | some q9 =>
      have w0 := hso.resolve_left (by omega)
      rw [c9, ef_9 hq]
      refine ⟨fun t' ht' _ => ?_, ?_⟩
      · show wTq w (upf M.2.2 c _ t')
        by_cases z : t' = c
        · rw [z, upf_eq]
          rw [z] at ht'
          have z0 := h9 c9 ht'
          have w9 := (q c ht').2.2.1 (by omega)
          exact wT_thN w9 ((q c ht').2.1 w9) (q c ht').2.2.2
        · rw [upf_ne z]; exact q t' ht'
      · show (upf M.2.2 c _ t).2.2.2.1 = 0 ∧ (upf M.2.2 c _ t).2.2.2.2.1 = 0 ∧ (w = 0 → (upf M.2.2 c _ t).2.2.2.2.2.2.1 = [])
        rw [upf_ne (fun z => n9 c9 z.symm)]
        exact ⟨w0, (q t t6).2.1 w0, (q t t6).2.2.2⟩
  by_cases c13 : s = 13
  · have w0 := hso.resolve_left (by omega)
    rw [c13, ef_13]
    exact self _ _ rfl w0 ((q t t6).2.1 w0) (q t t6).2.2.2
  by_cases c14 : s = 14
  · have w0 := hso.resolve_left (by omega)
    rw [c14, ef_14]
    exact self _ _ rfl w0 ((q t t6).2.1 w0) (q t t6).2.2.2
  by_cases c15 : s = 15
  · rw [c15, ef_15]
    exact self _ _ rfl rfl rfl (q t t6).2.2.2
  · have : efM C w M t s c e f wk = (M, 0) := by
      unfold efM
      rw [if_neg c0, if_neg c1, if_neg c2, if_neg c3, if_neg c4, if_neg c5, if_neg c6, if_neg n7, if_neg c8, if_neg c9, if_neg c13, if_neg c14, if_neg c15]
    rw [this]; exact same c15 _ rfl
end PIN
end
section
/-! the machine: every choice keeps it -/
section PIO
variable {C : gCo} {M : gMa} {w t i : Nat} {wk : Option Nat}
theorem lkM_rs (w0 : (M.2.2 t).2.2.2.1 = 0) (h : (lkM C w M t).1 = 0) : rsF C w M t (stN C (M.2.2 t).2.2.1).1 (lkM C w M t).2.1.toNatClampNeg = 0 := by
  obtain ⟨p1, p2⟩ := lkM_pl w0 h
  cases e1 : evO (M.2.2 t).2.2.2.2.2.2.2 (Int32.ofNat t) (stN C (M.2.2 t).2.2.1).2.2.2.2.2.2.2.2.1 with
  | none =>
    rw [lkM_1 w0 p1 e1] at h
    exact absurd h (by show ¬ 1 = 0; decide)
  | some e =>
    cases e2 : evO (M.2.2 t).2.2.2.2.2.2.2 (Int32.ofNat t) (stN C (M.2.2 t).2.2.1).2.2.2.2.2.2.2.2.2 with
    | none =>
      rw [lkM_2 w0 p1 e1 e2] at h
      exact absurd h (by show ¬ 1 = 0; decide)
    | some f =>
      rw [lkM_3 w0 p1 e1 e2] at h ⊢
      exact h
theorem so_0 (n : ¬ soM C (M.2.2 t) = 15) : (M.2.2 t).2.2.2.1 = 0 ∧ soM C (M.2.2 t) = (stN C (M.2.2 t).2.2.1).1 := by
  unfold soM at n ⊢
  by_cases c : (M.2.2 t).2.2.2.1 = 0
  · exact ⟨c, if_pos c⟩
  · rw [if_neg c] at n
    exact absurd rfl n
theorem WMw_ac (q : WMw w M) (t6 : t < 6) (h1 : (M.2.2 t).1 = 1) : WMw w (acM C w M t wk) := by
  by_cases L0 : (lkM C w M t).1 = 0
  · by_cases c7 : soM C (M.2.2 t) = 7
    · rw [acM_7 L0 c7, ef_7]
      intro t' ht'
      show wTq w (upf M.2.2 t _ t')
      by_cases z : t' = t
      · rw [z, upf_eq]
        obtain ⟨a1, a2, a3, a4⟩ := q t t6
        exact ⟨a1, (fun z => nomatch z), fun z => absurd h1 z, a4⟩
      · rw [upf_ne z]; exact q t' ht'
    · have st9 : soM C (M.2.2 t) = 9 → (M.2.2 (lkM C w M t).2.1.toNatClampNeg).1 = 0 := fun e9 => by
        obtain ⟨w0, es⟩ := so_0 (C := C) (M := M) (t := t) (by omega)
        have rs := lkM_rs w0 L0
        rw [← es, e9] at rs
        unfold rsF at rs
        rw [if_neg (fun z => nomatch z.1), if_neg (fun z => z.1.elim (fun z => nomatch z) (fun z => nomatch z))] at rs
        exact Classical.byContradiction (fun n => by rw [if_pos ⟨rfl, n⟩] at rs; exact nomatch rs)
      obtain ⟨a, b1, b2, b3⟩ := WMw_ef (C := C) (s := soM C (M.2.2 t)) (c := (lkM C w M t).2.1.toNatClampNeg) (e := (lkM C w M t).2.2.1) (f := (lkM C w M t).2.2.2) (wk := wk) q t6 h1 (Classical.byCases Or.inl (fun n => Or.inr (so_0 n).1)) (fun e9 _ => st9 e9) (fun e9 z => by have := st9 e9; rw [z] at this; omega) c7
      rw [acM_is (E := (efM C w M t (soM C (M.2.2 t)) (lkM C w M t).2.1.toNatClampNeg (lkM C w M t).2.2.1 (lkM C w M t).2.2.2 wk).1) (v := (efM C w M t (soM C (M.2.2 t)) (lkM C w M t).2.1.toNatClampNeg (lkM C w M t).2.2.1 (lkM C w M t).2.2.2 wk).2) L0 c7 rfl]
      intro t' ht'
      show wTq w (upf _ t _ t')
      by_cases z : t' = t
      · rw [z, upf_eq]; exact wT_thN b1 b2 b3
      · rw [upf_ne z]; exact a t' ht' z
  · have w0 : (M.2.2 t).2.2.2.1 = 0 := Classical.byContradiction (fun n0 => L0 (by rw [lkM_15 n0]))
    rw [acM_F L0]
    intro t' ht'
    show wTq w (upf M.2.2 t _ t')
    by_cases z : t' = t
    · rw [z, upf_eq]
      obtain ⟨a1, a2, a3, a4⟩ := q t t6
      exact ⟨fun z => absurd rfl z, a2, fun _ => w0, a4⟩
    · rw [upf_ne z]; exact q t' ht'
theorem WMw_la (q : WMw w M) (t6 : t < 6) : WMw w (laM M t i) := by
  unfold laM
  cases hq : (M.2.2 t).2.2.2.2.2.2.1[i]? with
  | none => exact q
  | some z9 =>
    intro t' ht'
    show wTq w (upf M.2.2 t _ t')
    by_cases z : t' = t
    · rw [z, upf_eq]
      obtain ⟨a1, a2, a3, a4⟩ := q t t6
      refine ⟨a1, a2, a3, fun w0 => ?_⟩
      rw [a4 w0] at hq
      exact nomatch hq
    · rw [upf_ne z]; exact q t' ht'
end PIO
end
section
/-! the class: a thread that settles: its number, step, locals; its late ones stay -/
section KSH
variable {G : kG} {q : kP} {d : Nat} {x x0 y z : gd} {o : Nat} {R : Nat → Nat → Int32} {F : Int32 → gd → Prop} {Fv : gd → Prop} {C : gCo}
/-- a thread's late ones stay -/
def sVx (x y : gd) (o T : Nat) : Prop := ∀ k : Nat, (x.1 o 9).toInt ≤ k → (k : Int) < (x.1 o 8).toInt → rg y o T k = rg x o T k
theorem sVx_tr {T : Nat} (hO : o = 120 ∨ o = 220) (f : fm (sSt o) x y) (a : sVx x y o T) (b : sVx y z o T) : sVx x z o T := fun k k9 k8 => (b k (by rw [f o 9 (by unfold sSt; omega)]; exact k9) (by rw [f o 8 (by unfold sSt; omega)]; exact k8)).trans (a k k9 k8)
theorem sVx_rf {T : Nat} : sVx x x o T := fun _ _ _ => rfl
theorem kh_set (hq : kV q) (ho : kiM q o) {T K : Nat} (hM : MS R x o T) (hT : T < 6) (t f v : Int32) (et : t.toInt = T) (ef : f.toInt = K) (hK : (K : Int) < (x.1 o 9).toInt) (h7 : K ≠ 7) (c2 : K = 2 → 0 ≤ v.toInt ∧ v.toInt < ssm x) (c0 : K = 0 → v = 0 → rg x o T 3 = 0) (c3 : K = 3 → rg x o T 0 = 0 → v = 0) (h : ∀ y, MS R y o T → fm (sSt o) x y → lowE x y o → (∀ k : Nat, (k : Int) < (x.1 o 9).toInt → rg y o T k = if k = K then v else rg x o T k) → sVx x y o T → Fv y) : KT G q d zk_X5_set 0 [(0, vr o), (1, vi t), (2, vi f), (3, vi v)] [] x (rv Fv) := by
  have hO := kiM_O ho
  obtain ⟨b1, b2, b3, b4, -⟩ := MG_b hM.1 hM.2.1
  refine kp_set hq ho hM.1 hM.2.1 _ _ _ et ef hT (by omega) (fun y ey => h y (MS_set hO hM hK h7 ey c2 c0 c3) (st_f ey) (fun j hj => ?_) (fun k hk => ?_) (fun k k9 k8 => ?_))
  · rw [ey, si_get, if_neg (fun z => ?_)]
    have := z.2
    unfold pa at this
    omega
  · rw [rg_set hO hM.1 hM.2.1 (by omega) (by omega) ey]
    by_cases hh : k = K
    · rw [if_pos ⟨rfl, hh⟩, if_pos hh]
    · rw [if_neg (fun q => hh q.2), if_neg hh]
  · rw [rg_set hO hM.1 hM.2.1 (by omega) (by omega) ey, if_neg (fun z => by omega)]
/-- one own step is done -/
def OWh (x y : gd) (o T : Nat) (s : Nat) (st : gNs) (lv : Nat → Int32) (r : Int32) : Prop :=
  (∃ n, ow1 (Int32.ofNat T) s st lv = .inl (3, n, s, lv) ∧ ¬ r = 0 ∧ r = Int32.ofNat n ∧ ∀ k, rg y o T k = rg x o T k) ∨ (ow1 (Int32.ofNat T) s st lv = .inl (2, 0, 0, lv) ∧ r = 0 ∧ rg y o T 0 = 2 ∧ rg y o T 2 = 0) ∨ (∃ s2 lv2, ow1 (Int32.ofNat T) s st lv = .inr (s2, lv2) ∧ r = 0 ∧ rg y o T 0 = rg x o T 0 ∧ (rg y o T 2).toInt = (s2 : Nat) ∧ (((aftN st).length : Int) ≤ (x.1 60 13).toInt) ∧ ∀ p, p < (aftN st).length → rg y o T (8 + p) = lv2 p)
theorem kh_own (hq : kV q) (ho : kiM q o) {T : Nat} (hM : MS R x o T) (hT : T < 6) (hTt : (T : Int) < (x.1 60 10).toInt) (t : Int32) (et : t.toInt = T) (h16 : 16 ≤ sop x (rg x o T 2).toInt.toNat) (hK : CK x C) (hN : NC C) {st0 : gNs} {lv : Nat → Int32} (hst : C.1[(rg x o T 2).toInt.toNat]? = some st0) (hlv : ∀ p, p < st0.2.1.length → rg x o T (8 + p) = lv p) (hml : (st0.2.1.length : Int) ≤ (x.1 60 13).toInt) (h : ∀ r y, MS R y o T → fm (sSt o) x y → sUx x y o T → sVx x y o T → rg y o T 1 = rg x o T 1 → (r = 0 → 20 ≤ sop x (rg x o T 2).toInt.toNat → ¬ rg y o T 0 = 1 ∨ (rg x o T 2).toInt < (rg y o T 2).toInt ∨ sop x (rg y o T 2).toInt.toNat = 17) → OWh x y o T (rg x o T 2).toInt.toNat st0 lv r → F r y) : KT G q (d + 2) zk_X5_ownFailure 0 [(0, vr o), (1, vi t), (2, vi (rg x o T 2)), (3, vi (x.1 81 (rg x o T 2).toInt.toNat))] [] x (ri F) := by
  have hO := kiM_O ho
  have k8 : (8 : Int32).toInt = 8 := rfl
  have k1 : (1 : Int32).toInt = 1 := rfl
  have tT : t = Int32.ofNat T := i32_of et
  obtain ⟨v, e, l⟩ := MM_st hM.1 (hM.2.2.1 T hTt).1
  obtain ⟨b1, b2, b3, b4, b5, b6, b7⟩ := MG_b hM.1 hM.2.1
  have hcs := (hM.1.2.2.2.1 _ l).2
  have s35 := hM.1.2.2.1.2
  have hA := (hM.2.2.1 T hTt).1
  have m8 := hM.1.1.2.2.2.1
  obtain ⟨st, est⟩ : ∃ st, st = (rg x o T 2).toInt.toNat := ⟨_, rfl⟩
  rw [← est] at h h16 l hcs hst ⊢
  have est2 : (rg x o T 2).toInt = st := by have := hA.1.1; omega
  have eN : (rg x o T 2).toNatClampNeg = st := by rw [t_cl, est2]; rfl
  have ns := hN.1 st st0 hst
  have n1 := ns.1.1
  obtain ⟨k81, k83, k84, -, -, -, -, k88, -⟩ := hK.1.2 st st0 hst
  have so : sop x st = (st0.1 : Nat) := by
    show (x.1 81 st).toInt = _
    rw [k81]
    exact Int32.toInt_ofNat_of_lt (by omega)
  have op_i : ∀ w : Nat, w < 22 → (x.1 81 st = Int32.ofNat w ↔ st0.1 = w) := fun w hw => by
    have e1 : (Int32.ofNat w).toInt = (w : Nat) := Int32.toInt_ofNat_of_lt (by omega)
    rw [t_eq, e1]
    have : (x.1 81 st).toInt = (st0.1 : Nat) := so
    omega
  have p12 : (st0.1 = 19 ∨ st0.1 = 21) → KT G q (d + 2) zk_X5_ownFailure 12 [(0, vr o), (1, vi t)] [] x (ri F) := by
    intro c12
    refine kg_X5_ownFailure_12 hq ho _ (kh_set hq ho hM hT _ _ _ et (show (0 : Int32).toInt = ((0 : Nat) : Int) from rfl) (by omega) (by omega) (fun c => by omega) (fun _ c => absurd c (by decide)) (fun c => by omega) (fun y hy fy ly gy wy => ?_))
    have y9 : y.1 o 9 = x.1 o 9 := fy _ _ (by unfold sSt; omega)
    have ys : ssm y = ssm x := by unfold ssm; rw [fy 80 9 (by unfold sSt; omega)]
    refine kh_set hq ho hy hT _ _ _ et (show (2 : Int32).toInt = ((2 : Nat) : Int) from rfl) (by rw [y9]; omega) (by omega) (fun _ => ⟨by decide, by rw [ys]; show (0 : Int) < _; omega⟩) (fun c => by omega) (fun c => by omega) (fun z hz fz lz gz wz => ri_i (h _ z hz (fm_tr fy fz) ?_ (sVx_tr hO fy wy wz) ?_ (fun _ _ => Or.inl ?_) (Or.inr (Or.inl ⟨?_, rfl, ?_, ?_⟩))))
    · refine ⟨fun k k3 k8' => ?_, lowE_tr hO fy ly lz⟩
      rw [gz k (by rw [y9]; omega), if_neg (by omega), gy k (by omega), if_neg (by omega)]
    · rw [gz 1 (by rw [y9]; omega), if_neg (by omega), gy 1 (by omega), if_neg (by omega)]
    · rw [gz 0 (by rw [y9]; omega), if_neg (by omega), gy 0 (by omega), if_pos rfl]; decide
    · unfold ow1; rw [if_pos c12]
    · rw [gz 0 (by rw [y9]; omega), if_neg (by omega), gy 0 (by omega), if_pos rfl]
    · rw [gz 2 (by rw [y9]; omega), if_pos rfl]
  -- a step is set
  have setp : ∀ (y : gd) (s2 : Int32) (n2 : Nat) (lv2 : Nat → Int32), MS R y o T → fm (sSt o) x y → sUx x y o T → sVx x y o T → rg y o T 1 = rg x o T 1 → rg y o T 0 = rg x o T 0 → (∀ p, p < (aftN st0).length → rg y o T (8 + p) = lv2 p) → ((aftN st0).length : Int) ≤ (x.1 60 13).toInt → ow1 (Int32.ofNat T) st st0 lv = .inr (n2, lv2) → s2.toInt = (n2 : Nat) → (0 ≤ s2.toInt ∧ s2.toInt < ssm x) → (20 ≤ sop x st → (st : Int) < s2.toInt ∨ sop x s2.toInt.toNat = 17) → KT G q (d + 1) zk_X5_set 0 [(0, vr o), (1, vi t), (2, vi 2), (3, vi s2)] [] y (rv (fun x1 => ri F (some (vi 0)) x1)) := by
    intro y s2 n2 lv2 hy fy gy gyv gy1 gy0 gyl hal how es2 hs hr
    have y9 : y.1 o 9 = x.1 o 9 := fy _ _ (by unfold sSt; omega)
    have ys : ssm y = ssm x := by unfold ssm; rw [fy 80 9 (by unfold sSt; omega)]
    refine kh_set hq ho hy hT _ _ _ et (show (2 : Int32).toInt = ((2 : Nat) : Int) from rfl) (by rw [y9]; omega) (by omega) (fun _ => by rw [ys]; exact hs) (fun c => by omega) (fun c => by omega) (fun z hz fz lz gz wz => ri_i (h _ z hz (fm_tr fy fz) ?_ (sVx_tr hO fy gyv wz) ?_ (fun _ c => Or.inr ?_) (Or.inr (Or.inr ⟨n2, lv2, how, rfl, ?_, ?_, hal, fun p hp => ?_⟩))))
    · refine ⟨fun k k3 k8' => ?_, lowE_tr hO fy gy.2 lz⟩
      rw [gz k (by rw [y9]; omega), if_neg (by omega)]; exact gy.1 k k3 k8'
    · rw [gz 1 (by rw [y9]; omega), if_neg (by omega)]; exact gy1
    · rw [gz 2 (by rw [y9]; omega), if_pos rfl, est2]; exact hr c
    · rw [gz 0 (by rw [y9]; omega), if_neg (by omega)]; exact gy0
    · rw [gz 2 (by rw [y9]; omega), if_pos rfl]; exact es2
    · rw [gz (8 + p) (by rw [y9]; push_cast; omega), if_neg (by omega)]; exact gyl p hp
  refine kg_X5_ownFailure_0 hq ho _ _ _ ⟨fun c => p12 (Or.inr ((op_i 21 (by decide)).mp c)), fun n21 => ⟨fun n19 => ⟨fun n20 => ⟨v, kf_localsAt hq ho hM.1 hM.2.1 _ et hT (fun r6 r0 r4 => ?_)⟩, fun c20 => ⟨v, ?_⟩⟩, fun c => p12 (Or.inl ((op_i 19 (by decide)).mp c))⟩⟩
  · have o21 : ¬ st0.1 = 21 := fun z => n21 ((op_i 21 (by decide)).mpr z)
    have o19 : ¬ st0.1 = 19 := fun z => n19 ((op_i 19 (by decide)).mpr z)
    have o20 : ¬ st0.1 = 20 := fun z => n20 ((op_i 20 (by decide)).mpr z)
    obtain ⟨Q, hQ⟩ := ns.2.2.2.2.2.1 (by omega)
    obtain ⟨q1, q2⟩ := ns.2.2.2.2.2.2.2.2.1 Q hQ
    rw [hQ] at k88
    have k88 : SUk x (x.1 88 st) (Q.map cQ) := k88
    have h800 := hM.1.2.1.1.2
    rw [eN]
    refine kf_work hq (kk_M5 ho) (kl_M5 hq ho) (by omega) _ _ _ (Q := Q) (lv := lv) (cv := fun _ => 0) h800 k88 q1 (fun p hp => ?_) (fun r8 y fy hwk => ?_)
    · obtain ⟨a1, a2, a3⟩ := q2 p hp
      refine ⟨a1, fun c => ?_, fun c => absurd c a3⟩
      have pl := a2 c
      have e8 : (Int32.ofNat p.2.1).toInt = (p.2.1 : Nat) := Int32.toInt_ofNat_of_lt (by omega)
      have es : (r6 + Int32.ofNat p.2.1).toInt = r6.toInt + (p.2.1 : Nat) := by rw [t_add (by omega) (by omega), e8]
      refine ⟨by rw [vp_in_iff, es]; omega, ?_⟩
      have ep : (r6 + Int32.ofNat p.2.1).toNatClampNeg = pa x o T (8 + p.2.1) := by
        rw [t_cl, es, r0]
        unfold pa
        omega
      rw [ep]
      exact hlv _ pl
    have hwk : wkR x y (wkQ lv (fun _ => 0) (Int32.ofNat T) Q) r8 := by rw [← tT]; exact hwk
    have hy : MS R y o T := MS_St hO fy hM
    have fS : fm (sSt o) x y := fm_w fy (fun c k q => by unfold sWk at q; unfold sSt; omega)
    have ry : ∀ k, rg y o T k = rg x o T k := fun k => rg_eq hO (fm_w fy (fun c k q => by unfold sWk at q; omega)) T k
    have uy : sUx x y o T := ⟨fun k _ _ => ry k, fun j _ => fy _ _ (by unfold sWk; omega)⟩
    have uv : sVx x y o T := fun k _ _ => ry k
    have n21' : ¬ sop x st = 21 := by omega
    have nx1 : (rg x o T 2 + 1).toInt = ((st + 1 : Nat) : Int) := by rw [t_add (by rw [k1]; omega) (by rw [k1]; omega), k1, est2]; push_cast; rfl
    have okn := hcs.2.2.2.2 n21'
    have ow : ow1 (Int32.ofNat T) st st0 lv = (match wkQ lv (fun _ => 0) (Int32.ofNat T) Q with | none => .inl (3, 1, st, lv) | some v => if st0.1 = 18 ∧ v = 0 then .inl (3, 5, st, lv) else .inr (if st0.1 = 17 ∧ v = 0 then st0.2.2.2.1.getD 0 else st + 1, if st0.1 = 16 then fup lv (st0.2.2.2.1.getD 0) v else lv)) := by
      unfold ow1
      rw [if_neg (by omega), if_neg o20, hQ]
      rfl
    have bad : ∀ (v9 : Int32) (n : Nat), ¬ v9 = 0 → v9 = Int32.ofNat n → ow1 (Int32.ofNat T) st st0 lv = .inl (3, n, st, lv) → ri F (some (vi v9)) y := fun v9 n h9 e9 how => ri_i (h _ y hy fS uy uv (ry 1) (fun c => absurd c h9) (Or.inl ⟨n, how, h9, e9, ry⟩))
    rcases hwk with ⟨v9, hw, er, y5⟩ | ⟨hw, y5⟩
    · subst er
      rw [hw] at ow
      have ow : ow1 (Int32.ofNat T) st st0 lv = (if st0.1 = 18 ∧ r8 = 0 then .inl (3, 5, st, lv) else .inr (if st0.1 = 17 ∧ r8 = 0 then st0.2.2.2.1.getD 0 else st + 1, if st0.1 = 16 then fup lv (st0.2.2.2.1.getD 0) r8 else lv)) := ow
      have p129 : ¬ (st0.1 = 18 ∧ r8 = 0) → ∀ z, MS R z o T → fm (sSt o) x z → sUx x z o T → sVx x z o T → rg z o T 1 = rg x o T 1 → rg z o T 0 = rg x o T 0 → (∀ p, p < (aftN st0).length → rg z o T (8 + p) = (if st0.1 = 16 then fup lv (st0.2.2.2.1.getD 0) r8 else lv) p) → ((aftN st0).length : Int) ≤ (x.1 60 13).toInt → KT G q (d + 2) zk_X5_ownFailure 129 [(0, vr o), (1, vi t), (2, vi (rg x o T 2)), (3, vi (x.1 81 st)), (4, vi r8)] [] z (ri F) := by
        intro n18 z hz fz gz gzv gz1 gz0 gzl hal
        rw [if_neg n18] at ow
        have up : ¬ (st0.1 = 17 ∧ r8 = 0) → KT G q (d + 1) zk_X5_set 0 [(0, vr o), (1, vi t), (2, vi 2), (3, vi (rg x o T 2 + 1))] [] z (rv (fun x1 => ri F (some (vi 0)) x1)) := fun nn => setp z (rg x o T 2 + 1) (st + 1) _ hz fz gz gzv gz1 gz0 gzl hal (by rw [ow, if_neg nn]) nx1 (by omega) (fun _ => Or.inl (by omega))
        refine kg_X5_ownFailure_129 hq ho _ _ _ _ ⟨fun n17 => kg_X5_ownFailure_158 hq ho _ _ _ (up (fun z => n17 ((op_i 17 (by decide)).mpr z.1))), fun c17 => ⟨fun nr => kg_X5_ownFailure_158 hq ho _ _ _ (up (fun z => nr z.2)), fun r0' => ⟨v, ?_⟩⟩⟩
        rw [eN, fz 84 _ (by unfold sSt; omega)]
        have c17' : st0.1 = 17 := (op_i 17 (by decide)).mp c17
        have s17 : sop x st = 17 := by omega
        obtain ⟨t1, t2, -⟩ := hcs.2.2.2.1 (Or.inl s17)
        obtain ⟨n, st', hto, -, -⟩ := ns.2.2.1 (Or.inl c17')
        have k84 := k84 (Or.inr (Or.inr (Or.inr (Or.inl c17'))))
        rw [hto] at k84
        have k84 : (x.1 84 st).toInt = (n : Nat) := k84
        exact kg_X5_ownFailure_158 hq ho _ _ _ (setp z _ n _ hz fz gz gzv gz1 gz0 gzl hal (by rw [ow, if_pos ⟨c17', r0'⟩, hto]; rfl) k84 ⟨t1, t2⟩ (fun c => by omega))
      have p104 : ¬ (st0.1 = 18 ∧ r8 = 0) → KT G q (d + 2) zk_X5_ownFailure 104 [(0, vr o), (1, vi t), (2, vi (rg x o T 2)), (3, vi (x.1 81 st)), (4, vi r8)] [] y (ri F) := by
        intro n18
        refine kg_X5_ownFailure_104 hq ho _ _ _ _ ⟨fun n16 => ?_, fun c16 => ⟨v, ?_⟩⟩
        · have o16 : ¬ st0.1 = 16 := fun z => n16 ((op_i 16 (by decide)).mpr z)
          have ea : aftN st0 = st0.2.1 := if_neg (fun z => by omega)
          refine p129 n18 y hy fS uy uv (ry 1) (ry 0) (fun p hp => ?_) (by rw [ea]; exact hml)
          rw [if_neg o16, ry, hlv p (by rw [ea] at hp; exact hp)]
        · have o16 : st0.1 = 16 := (op_i 16 (by decide)).mp c16
          rw [eN, fy 84 _ (by unfold sWk; omega)]
          have s16 : sop x st = 16 := by omega
          obtain ⟨t1, t2⟩ := hcs.2.2.1 (Or.inr (Or.inr s16))
          obtain ⟨p, hto, hp⟩ := ns.2.2.2.1 (Or.inr (Or.inr o16))
          have k84 := k84 (Or.inr (Or.inr (Or.inl o16)))
          rw [hto] at k84
          have k84 : (x.1 84 st).toInt = (p : Nat) := k84
          have e8 : (8 + x.1 84 st).toInt = ((8 + p : Nat) : Int) := by rw [t_add (by rw [k8]; omega) (by rw [k8]; omega), k8, k84]; push_cast; rfl
          have y9 : y.1 o 9 = x.1 o 9 := fS _ _ (by unfold sSt; omega)
          have hp13 : (p : Int) < (x.1 60 13).toInt := by
            have : stg x st < (x.1 60 13).toInt := t2
            unfold stg at this
            omega
          refine kh_set hq ho hy hT _ _ _ et e8 (by rw [y9]; push_cast; omega) (by omega) (fun c => by omega) (fun c => by omega) (fun c => by omega) (fun z hz fz lz gz wz => p129 n18 z hz (fm_tr fS fz) ?_ (sVx_tr hO fS uv wz) ?_ ?_ (fun j hj => ?_) ?_)
          · refine ⟨fun k k3 k8' => ?_, lowE_tr hO fS uy.2 lz⟩
            rw [gz k (by rw [y9]; omega), if_neg (by omega)]; exact ry k
          · rw [gz 1 (by rw [y9]; omega), if_neg (by omega)]; exact ry 1
          · rw [gz 0 (by rw [y9]; omega), if_neg (by omega)]; exact ry 0
          · have hal := aftN_le (st := st0)
            have hj8 : j ≤ st0.2.1.length := by omega
            have hj13 : (j : Int) < (x.1 60 13).toInt := by
              by_cases c : j < st0.2.1.length
              · omega
              · have : (aftN st0).length = st0.2.1.length + 1 := by omega
                have : j = p := by
                  unfold aftN at this
                  split at this
                  · next cc =>
                    rw [hto] at cc
                    have := Option.some.inj cc.2
                    omega
                  · omega
                omega
            rw [gz (8 + j) (by rw [y9]; push_cast; omega), if_pos o16, hto]
            show (if 8 + j = 8 + p then r8 else rg y o T (8 + j)) = if j = p then r8 else lv j
            by_cases c : j = p
            · rw [if_pos (by omega), if_pos c]
            · rw [if_neg (by omega), if_neg c, ry]
              refine hlv j ?_
              rcases hp with hp | ⟨hp, -⟩
              · have ea : aftN st0 = st0.2.1 := if_neg (fun z => by rw [hto] at z; have := Option.some.inj z.2; omega)
                rw [ea] at hj
                exact hj
              · omega
          · rcases hp with hp | ⟨hp, -⟩
            · have ea : aftN st0 = st0.2.1 := if_neg (fun z => by rw [hto] at z; have := Option.some.inj z.2; omega)
              rw [ea]; exact hml
            · have := (aftN_le (st := st0)).2
              omega
      exact ⟨fun _ => ⟨fun n18 => p104 (fun z => n18 ((op_i 18 (by decide)).mpr z.1)), fun c18 => ⟨fun nr => p104 (fun z => nr z.2), fun r0' => bad _ 5 (by decide) rfl (by rw [ow, if_pos ⟨(op_i 18 (by decide)).mp c18, r0'⟩])⟩⟩, fun n5' => absurd y5 n5'⟩
    · refine ⟨fun z5 => ?_, fun _ => bad _ 1 (by decide) rfl (by rw [ow, hw])⟩
      rw [y5] at z5
      exact absurd z5 (by decide)
  · have c20' : st0.1 = 20 := (op_i 20 (by decide)).mp c20
    have s20 : sop x st = 20 := by omega
    obtain ⟨t1, t2, t3⟩ := hcs.2.2.2.1 (Or.inr s20)
    obtain ⟨n, st', hto, -, -⟩ := ns.2.2.1 (Or.inr c20')
    have k84 := k84 (Or.inr (Or.inr (Or.inr (Or.inr c20'))))
    rw [hto] at k84
    have k84 : (x.1 84 st).toInt = (n : Nat) := k84
    have ea : aftN st0 = st0.2.1 := if_neg (fun z => by omega)
    rw [eN]
    refine setp x _ n lv hM (fm_rf _ _) sUx_rf sVx_rf rfl rfl (fun p hp => hlv p (by rw [ea] at hp; exact hp)) (by rw [ea]; exact hml) ?_ k84 ⟨t1, t2⟩ (fun _ => t3 s20)
    unfold ow1
    rw [if_neg (by omega), if_pos c20', hto]
    rfl
/-- how a settled thread stands -/
def finH (C : gCo) (y : gd) (o T : Nat) (r : gTr) : Prop := rg y o T 0 = Int32.ofNat r.1 ∧ rg y o T 1 = Int32.ofNat r.2.1 ∧ (rg y o T 2).toInt = (r.2.2.1 : Nat) ∧ (r.1 = 1 ∨ r.1 = 2 ∨ r.1 = 3) ∧ (r.1 = 1 ∨ r.1 = 3 → ∃ st, C.1[r.2.2.1]? = some st ∧ (st.2.1.length : Int) ≤ (y.1 60 13).toInt ∧ ∀ p, p < st.2.1.length → rg y o T (8 + p) = r.2.2.2 p)
theorem kh_fail (hq : kV q) (ho : kiM q o) {T : Nat} (hM : MS R x o T) (hT : T < 6) (t n : Int32) (et : t.toInt = T) (h : ∀ y, MS R y o T → fm (sSt o) x y → rg y o T 0 = 3 → rg y o T 1 = n → (∀ k : Nat, 2 ≤ k → (k : Int) < (x.1 o 9).toInt → rg y o T k = rg x o T k) → lowE x y o → sVx x y o T → Fv y) : KT G q (d + 1) zk_X5_fail 0 [(0, vr o), (1, vi t), (2, vi n)] [] x (rv Fv) := by
  obtain ⟨-, -, b3, -⟩ := MG_b hM.1 hM.2.1
  refine kg_X5_fail_0 hq ho _ _ (kh_set hq ho hM hT _ _ _ et (show (0 : Int32).toInt = ((0 : Nat) : Int) from rfl) (by omega) (by omega) (fun c => by omega) (fun _ c => absurd c (by decide)) (fun c => by omega) (fun y hy fy ly gy wy => ?_))
  have y9 : y.1 o 9 = x.1 o 9 := fy _ _ (by unfold sSt; have := kiM_O ho; omega)
  refine kh_set hq ho hy hT _ _ _ et (show (1 : Int32).toInt = ((1 : Nat) : Int) from rfl) (by rw [y9]; omega) (by omega) (fun c => by omega) (fun c => by omega) (fun c => by omega) (fun z hz fz lz gz wz => rv_i (h z hz (fm_tr fy fz) ?_ ?_ (fun k k2 k8 => ?_) (lowE_tr (kiM_O ho) fy ly lz) (sVx_tr (kiM_O ho) fy wy wz)))
  · rw [gz 0 (by rw [y9]; omega), if_neg (by omega), gy 0 (by omega), if_pos rfl]
  · rw [gz 1 (by rw [y9]; omega), if_pos rfl]
  · rw [gz k (by rw [y9]; omega), if_neg (by omega), gy k (by omega), if_neg (by omega)]
theorem kh_known (hq : kV q) (ho : kiM q o) (hC : CO x) (hG : MG x o) (t : Int32) {T : Nat} (et : t.toInt = T) (hT : T < 6) (hA : TA x o T) (h : ∀ r : Int32, 0 ≤ r.toInt → r.toInt ≤ 8 → (rg x o T 0 = 1 ∨ rg x o T 0 = 3 → r = x.1 83 (rg x o T 2).toInt.toNat) → (¬ (rg x o T 0 = 1 ∨ rg x o T 0 = 3) → r = 0) → F r x) : KT G q (d + 1) zk_X5_known 0 [(0, vr o), (1, vi t)] [] x (ri F) := by
  have p17 : (rg x o T 0 = 1 ∨ rg x o T 0 = 3) → KT G q (d + 1) zk_X5_known 17 [(0, vr o), (1, vi t)] [] x (ri F) := fun c9 => kg_X5_known_17 hq ho _ (kp_get hq ho hC hG _ _ et (show (2 : Int32).toInt = ((2 : Nat) : Int) from rfl) hT (by omega) (by
    obtain ⟨v, e, l⟩ := MM_st hC hA
    refine ⟨v, ri_i ?_⟩
    rw [e]
    have := (hC.2.2.2.1 _ l).2.2.1
    exact h _ this.1 this.2 (fun _ => rfl) (fun c => absurd c9 c)))
  exact kg_X5_known_0 hq ho _ (kp_get hq ho hC hG _ _ et (show (0 : Int32).toInt = ((0 : Nat) : Int) from rfl) hT (by omega) ⟨fun c => p17 (Or.inl c), fun c1 => ⟨fun c3 => ri_i (h _ (by decide) (by decide) (fun c => absurd c (fun z => z.elim c1 c3)) (fun _ => rfl)), fun c => p17 (Or.inr c)⟩⟩)
theorem kh_blank (hq : kV q) (ho : kiM q o) {T : Nat} (hM : MS R x o T) (hT : T < 6) (hTt : (T : Int) < (x.1 60 10).toInt) (t : Int32) (et : t.toInt = T) (h : ∀ y, MS R y o T → fm (sSt o) x y → lowE x y o → sVx x y o T → (∀ k, k < 8 → rg y o T k = rg x o T k) → (∀ p : Nat, (p : Int) < (x.1 60 13).toInt → rg y o T (8 + p) = if ((rg x o T 0 = 1 ∨ rg x o T 0 = 3) ∧ (p : Int) < (x.1 83 (rg x o T 2).toInt.toNat).toInt) then rg x o T (8 + p) else 0) → Fv y) : KT G q (d + 2) zk_X5_blankUnknown 0 [(0, vr o), (1, vi t)] [] x (rv Fv) := by
  have hO := kiM_O ho
  have k8 : (8 : Int32).toInt = 8 := rfl
  have m8 := hM.1.1.2.2.2.1
  have loop : ∀ (a : Int32), (∀ p : Nat, (p : Int) < (x.1 60 13).toInt → ((p : Int) < a.toInt ↔ ((rg x o T 0 = 1 ∨ rg x o T 0 = 3) ∧ (p : Int) < (x.1 83 (rg x o T 2).toInt.toNat).toInt))) → ∀ (n : Nat) (i : Int32) (y : gd), MS R y o T → fm (sSt o) x y → lowE x y o → sVx x y o T → (∀ k, k < 8 → rg y o T k = rg x o T k) → (∀ p : Nat, (p : Int) < (x.1 60 13).toInt → ((p : Int) < a.toInt → rg y o T (8 + p) = rg x o T (8 + p)) ∧ (¬ (p : Int) < a.toInt → (p : Int) < i.toInt → rg y o T (8 + p) = 0)) → a.toInt ≤ i.toInt → 0 ≤ i.toInt → (x.1 60 13).toInt - i.toInt ≤ n → KT G q (d + 2) zk_X5_blankUnknown 6 [(0, vr o), (1, vi t), (2, vi i)] [] y (rv Fv) := by
    intro a ha
    have done : ∀ (i : Int32) (y : gd), MS R y o T → fm (sSt o) x y → lowE x y o → sVx x y o T → (∀ k, k < 8 → rg y o T k = rg x o T k) → (∀ p : Nat, (p : Int) < (x.1 60 13).toInt → ((p : Int) < a.toInt → rg y o T (8 + p) = rg x o T (8 + p)) ∧ (¬ (p : Int) < a.toInt → (p : Int) < i.toInt → rg y o T (8 + p) = 0)) → (x.1 60 13).toInt ≤ i.toInt → Fv y := fun i y hy fy ly vy gy py c => h y hy fy ly vy gy (fun p hp => by
      by_cases c9 : (p : Int) < a.toInt
      · rw [if_pos ((ha p hp).mp c9)]; exact (py p hp).1 c9
      · rw [if_neg (fun z => c9 ((ha p hp).mpr z))]; exact (py p hp).2 c9 (by omega))
    intro n
    induction n with
    | zero =>
      intro i y hy fy ly vy gy py ia i0 hn
      refine kg_X5_blankUnknown_6 hq ho _ _ ⟨fun _ => rv_i (done i y hy fy ly vy gy py (by omega)), fun c => ?_⟩
      exfalso; rw [fy 60 13 (by unfold sSt; omega), t_le] at c; omega
    | succ n ih =>
      intro i y hy fy ly vy gy py ia i0 hn
      refine kg_X5_blankUnknown_6 hq ho _ _ ⟨fun c => rv_i (done i y hy fy ly vy gy py (by rw [fy 60 13 (by unfold sSt; omega), t_le] at c; exact c)), fun c => ?_⟩
      rw [fy 60 13 (by unfold sSt; omega), t_le] at c
      have e1 : (i + 1).toInt = i.toInt + 1 := t_add (by show _ ≤ _ + (1 : Int); omega) (by show _ + (1 : Int) ≤ _; omega)
      have e2 : (8 + i).toInt = ((8 + i.toInt.toNat : Nat) : Int) := by rw [t_add (by rw [k8]; omega) (by rw [k8]; omega), k8]; omega
      have y9 : (y.1 o 9).toInt = 8 + (x.1 60 13).toInt := by rw [fy o 9 (by unfold sSt; omega)]; exact hM.2.1.2.2.2.1
      refine kh_set hq ho hy hT _ _ _ et e2 (by omega) (by omega) (fun c => by omega) (fun c => by omega) (fun c => by omega) (fun z hz fz lz gz wz => ih _ z hz (fm_tr fy fz) (lowE_tr hO fy ly lz) (sVx_tr hO fy vy wz) (fun k hk => ?_) (fun p hp => ⟨fun c9 => ?_, fun c9 c8 => ?_⟩) (by omega) (by omega) (by omega))
      · rw [gz k (by omega), if_neg (by omega)]; exact gy k hk
      · rw [gz (8 + p) (by rw [y9]; push_cast; omega), if_neg (by omega)]; exact (py p hp).1 c9
      · rw [gz (8 + p) (by rw [y9]; push_cast; omega)]
        by_cases c7 : (p : Int) < i.toInt
        · rw [if_neg (by omega)]; exact (py p hp).2 c9 c7
        · rw [if_pos (by omega)]
  refine kg_X5_blankUnknown_0 hq ho _ (kh_known hq ho hM.1 hM.2.1 _ et hT (hM.2.2.1 T hTt).1 (fun r r0 r8 e1 e2 => loop r (fun p hp => ?_) 8 _ x hM (fm_rf _ _) (fun _ _ => rfl) sVx_rf (fun _ _ => rfl) (fun p hp => ⟨fun _ => rfl, fun c9 c8 => absurd c8 c9⟩) (Int.le_refl _) r0 (by omega)))
  by_cases c : rg x o T 0 = 1 ∨ rg x o T 0 = 3
  · rw [e1 c]; exact ⟨fun z => ⟨c, z⟩, fun z => z.2⟩
  · rw [e2 c]
    refine ⟨fun z => ?_, fun z => absurd z.1 c⟩
    have z : (p : Int) < 0 := z
    omega
theorem kh_settle (hq : kV q) (ho : kiM q o) {T : Nat} (hM : MS R x o T) (hTt : (T : Int) < (x.1 60 10).toInt) (t : Int32) (et : t.toInt = T) (h3 : rg x o T 3 = 0) (hK : CK x C) (hN : NC C) (hg0 : rg x o T 0 = 1) (hn0 : rg x o T 1 = 0) {st0 : gNs} {lv0 : Nat → Int32} (hst0 : C.1[(rg x o T 2).toInt.toNat]? = some st0) (hlv0 : ∀ p, p < st0.2.1.length → rg x o T (8 + p) = lv0 p) (hml0 : (st0.2.1.length : Int) ≤ (x.1 60 13).toInt) (h : ∀ y, MM y o → fm (sSt o) x y → (∀ t k : Nat, t ≠ T → (k : Int) < (x.1 o 8).toInt → rg y o t k = R t k) → sUx x y o T → sVx x y o T → (∃ n r, setP C (Int32.ofNat T) n 0 (rg x o T 2).toInt.toNat lv0 = some r ∧ finH C y o T r ∧ ∀ p : Nat, (p : Int) < (x.1 60 13).toInt → rg y o T (8 + p) = kvL C r.1 r.2.2.1 r.2.2.2 p) → Fv y) : KT G q (d + 3) zk_X5_settle 0 [(0, vr o), (1, vi t)] [] x (rv Fv) := by
  have hO := kiM_O ho
  have hT : T < 6 := MM_6 hM.1 hTt
  have k300 : (300 : Int32).toInt = 300 := rfl
  have k1m : (1000000 : Int32).toInt = 1000000 := rfl
  have k16 : (16 : Int32).toInt = 16 := rfl
  have k20 : (20 : Int32).toInt = 20 := rfl
  have k1 : (1 : Int32).toInt = 1 := rfl
  obtain ⟨G0, eG0⟩ : ∃ G0 : gTr → Prop, G0 = fun r => ∃ n, setP C (Int32.ofNat T) n 0 (rg x o T 2).toInt.toNat lv0 = some r := ⟨_, rfl⟩
  have p100 : ∀ y, MS R y o T → fm (sSt o) x y → sUx x y o T → sVx x y o T → (rg y o T 0 = 1 → sop y (rg y o T 2).toInt.toNat < 16) → (∃ r, G0 r ∧ finH C y o T r) → KT G q (d + 3) zk_X5_settle 100 [(0, vr o), (1, vi t)] [] y (rv Fv) := by
    intro y hy fy yu yv yg hfin
    have hTy : (T : Int) < (y.1 60 10).toInt := by rw [fy 60 10 (by unfold sSt; omega)]; exact hTt
    have y3 : rg y o T 3 = 0 := by rw [yu.1 3 (by omega) (by omega)]; exact h3
    refine kg_X5_settle_100 hq ho _ (kh_blank hq ho hy hT hTy _ et (fun z hz fz lz wz gz pz => rv_i (h z (MS_MM hz (fun _ => ?_)) (fm_tr fy fz) (fun t k hne hk => hz.2.2.2 t k hne (by rw [fz o 8 (by unfold sSt; omega), fy o 8 (by unfold sSt; omega)]; exact hk)) ⟨fun k k3 k8 => by rw [gz k k8]; exact yu.1 k k3 k8, lowE_tr hO fy yu.2 lz⟩ (sVx_tr hO fy yv wz) ?_)))
    · unfold TGo sop at *
      rw [gz 0 (by omega), gz 2 (by omega), gz 3 (by omega), fz 81 _ (by unfold sSt; omega)]
      exact fun c => ⟨yg c, fun c3 => absurd y3 c3⟩
    · obtain ⟨r, hr, hf⟩ := hfin
      rw [eG0] at hr
      obtain ⟨n, hn⟩ := hr
      obtain ⟨f0, f1, f2, f3, f4⟩ := hf
      have hKy : CK y C := CK_St hO hK fy
      have y13 : y.1 60 13 = x.1 60 13 := fy _ _ (by unfold sSt; omega)
      have key : ∀ p : Nat, (p : Int) < (x.1 60 13).toInt → rg z o T (8 + p) = kvL C r.1 r.2.2.1 r.2.2.2 p := fun p hp => by
        rw [pz p (by rw [y13]; exact hp)]
        unfold kvL
        rcases f3 with c | c | c
        · obtain ⟨st, g1, -, g2⟩ := f4 (Or.inl c)
          have e0 : rg y o T 0 = 1 := by rw [f0, c]; rfl
          have e2 : (rg y o T 2).toInt.toNat = r.2.2.1 := by rw [f2]; rfl
          have e3 : (stN C r.2.2.1) = st := by unfold stN; rw [g1]; rfl
          have e4 := (hKy.1.2 _ st g1).2.1
          rw [e2, e3, e4]
          by_cases c9 : p < st.2.1.length
          · rw [if_pos ⟨Or.inl e0, by omega⟩, if_pos ⟨Or.inl c, c9⟩]; exact g2 p c9
          · rw [if_neg (fun z => by omega), if_neg (fun z => c9 z.2)]
        · have e0 : rg y o T 0 = 2 := by rw [f0, c]; rfl
          rw [if_neg (fun z => by rw [e0] at z; exact absurd z.1 (by decide)), if_neg (fun z => by omega)]
        · obtain ⟨st, g1, -, g2⟩ := f4 (Or.inr c)
          have e0 : rg y o T 0 = 3 := by rw [f0, c]; rfl
          have e2 : (rg y o T 2).toInt.toNat = r.2.2.1 := by rw [f2]; rfl
          have e3 : (stN C r.2.2.1) = st := by unfold stN; rw [g1]; rfl
          have e4 := (hKy.1.2 _ st g1).2.1
          rw [e2, e3, e4]
          by_cases c9 : p < st.2.1.length
          · rw [if_pos ⟨Or.inr e0, by omega⟩, if_pos ⟨Or.inr c, c9⟩]; exact g2 p c9
          · rw [if_neg (fun z => by omega), if_neg (fun z => c9 z.2)]
      refine ⟨n, r, hn, ⟨by rw [gz 0 (by omega)]; exact f0, by rw [gz 1 (by omega)]; exact f1, by rw [gz 2 (by omega)]; exact f2, f3, fun c => ?_⟩, key⟩
      obtain ⟨st, g1, g3, g2⟩ := f4 c
      clear f4
      refine ⟨st, g1, by rw [fz 60 13 (by unfold sSt; omega)]; exact g3, fun p hp => ?_⟩
      rw [key p (by rw [← y13]; omega)]
      unfold kvL
      rw [if_pos ⟨c, by unfold stN; rw [g1]; exact hp⟩]
  obtain ⟨I, eI⟩ : ∃ I : Int32 → gd → Prop, I = fun own y => (rg y o T 0 = 1 ∧ rg y o T 1 = 0 ∧ ∃ st lv, C.1[(rg y o T 2).toInt.toNat]? = some st ∧ (∀ p, p < st.2.1.length → rg y o T (8 + p) = lv p) ∧ (st.2.1.length : Int) ≤ (x.1 60 13).toInt ∧ ∀ r, (∃ n, setP C (Int32.ofNat T) n own.toInt.toNat (rg y o T 2).toInt.toNat lv = some r) → G0 r) ∨ (¬ rg y o T 0 = 1 ∧ ∃ r, G0 r ∧ finH C y o T r) := ⟨_, rfl⟩
  have loop : ∀ (n : Nat) (own k : Int32) (y : gd), MS R y o T → fm (sSt o) x y → sUx x y o T → sVx x y o T → 0 ≤ own.toInt → own.toInt ≤ 301 → 0 ≤ k.toInt → (rg y o T 0 = 1 → own.toInt ≤ 300 ∧ (302 - own.toInt) * 1000 + rk x (rg y o T 2).toInt.toNat ≤ n) → k.toInt + n ≤ 500000 → I own y → KT G q (d + 3) zk_X5_settle 4 [(0, vr o), (1, vi t), (2, vi own), (3, vi k)] [] y (rv Fv) := by
    have noI : ∀ {own : Int32} {y : gd}, ¬ rg y o T 0 = 1 → I own y → ∃ r, G0 r ∧ finH C y o T r := fun {own y} hng hI => by
      rw [eI] at hI
      rcases hI with ⟨c, -⟩ | ⟨-, c⟩
      · exact absurd c hng
      · exact c
    intro n
    induction n with
    | zero =>
      intro own k y hy fy yu yv o0 o1 k0 hr hk hI
      have hng : ¬ rg y o T 0 = 1 := fun c => by have := hr c; omega
      refine kg_X5_settle_4 hq ho _ _ _ ⟨fun _ => p100 y hy fy yu yv (fun c => absurd c hng) (noI hng hI), fun _ => kp_isGoing hq ho hy.1 hy.2.1 _ et hT (fun c => absurd c hng) (fun _ => ⟨fun _ => p100 y hy fy yu yv (fun c => absurd c hng) (noI hng hI), fun c => absurd rfl c⟩)⟩
    | succ n ih =>
      intro own k y hy fy yu yv o0 o1 k0 hr hk hI
      have hTy : (T : Int) < (y.1 60 10).toInt := by rw [fy 60 10 (by unfold sSt; omega)]; exact hTt
      have hA := (hy.2.2.1 T hTy).1
      have ek : (k + 1).toInt = k.toInt + 1 := t_add (by rw [k1]; omega) (by rw [k1]; omega)
      refine kg_X5_settle_4 hq ho _ _ _ ⟨fun c => ?_, fun _ => kp_isGoing hq ho hy.1 hy.2.1 _ et hT (fun hg => ⟨fun c => absurd c (by decide), fun _ => kp_get hq ho hy.1 hy.2.1 _ _ et (show (2 : Int32).toInt = ((2 : Nat) : Int) from rfl) hT (by omega) ?_⟩) (fun hng => ⟨fun _ => p100 y hy fy yu yv (fun c => absurd c hng) (noI hng hI), fun c => absurd rfl c⟩)⟩
      · exfalso; rw [t_le, k1m] at c; omega
      have hI0 := hI
      rw [eI] at hI0
      obtain ⟨hy1, st, lv, hst, hlv, hml, lift⟩ : rg y o T 1 = 0 ∧ ∃ st lv, C.1[(rg y o T 2).toInt.toNat]? = some st ∧ (∀ p, p < st.2.1.length → rg y o T (8 + p) = lv p) ∧ (st.2.1.length : Int) ≤ (x.1 60 13).toInt ∧ ∀ r, (∃ n, setP C (Int32.ofNat T) n own.toInt.toNat (rg y o T 2).toInt.toNat lv = some r) → G0 r := by
        rcases hI0 with ⟨-, c⟩ | ⟨c, -⟩
        · exact c
        · exact absurd hg c
      clear hI0
      obtain ⟨v, e, l⟩ := MM_st hy.1 hA
      have s35 := hy.1.2.2.1.2
      have hrank := hr hg
      have hKy : CK y C := CK_St hO hK fy
      have es : ∀ j, sop y j = sop x j := fun j => by unfold sop; rw [fy 81 j (by unfold sSt; omega)]
      have rk1 : ∀ j, rk x j ≤ 401 := fun j => by unfold rk; split <;> omega
      have est2 : (rg y o T 2).toInt = (((rg y o T 2).toInt.toNat : Nat) : Int) := by have := hA.1.1; omega
      have ns := hN.1 _ st hst
      have so : sop y (rg y o T 2).toInt.toNat = (st.1 : Nat) := by
        show (y.1 81 _).toInt = _
        rw [(hKy.1.2 _ st hst).1]
        exact Int32.toInt_ofNat_of_lt (by have := ns.1.1; omega)
      have y13 : y.1 60 13 = x.1 60 13 := fy _ _ (by unfold sSt; omega)
      -- the thread's own step is done, with own steps counted own2
      have p80 : ∀ (own2 r : Int32) (z : gd), MS R z o T → fm (sSt o) y z → sUx x z o T → sVx x z o T → 0 ≤ own2.toInt → own2.toInt ≤ 301 → (r = 0 → rg z o T 0 = 1 → own2.toInt ≤ 300 ∧ (302 - own2.toInt) * 1000 + rk x (rg z o T 2).toInt.toNat ≤ n) → (r = 0 → I own2 z) → (¬ r = 0 → ∃ r9, G0 r9 ∧ r9.1 = 3 ∧ r = Int32.ofNat r9.2.1 ∧ (rg z o T 2).toInt = (r9.2.2.1 : Nat) ∧ ∃ st, C.1[r9.2.2.1]? = some st ∧ (st.2.1.length : Int) ≤ (x.1 60 13).toInt ∧ ∀ p, p < st.2.1.length → rg z o T (8 + p) = r9.2.2.2 p) → KT G q (d + 3) zk_X5_settle 80 [(0, vr o), (1, vi t), (2, vi own2), (3, vi k)] [vi r] z (rv Fv) := by
        intro own2 r z hz fz zu zv q0 q1 hrz hI0 hI1
        have z9 : (z.1 o 9).toInt = 8 + (x.1 60 13).toInt := by rw [fz o 9 (by unfold sSt; omega), fy o 9 (by unfold sSt; omega)]; exact hM.2.1.2.2.2.1
        have m13 := hM.1.1.2.2.2.1.1
        refine kg_X5_settle_80 hq ho _ _ _ _ ⟨fun c => ih own2 (k + 1) z hz (fm_tr fy fz) zu zv q0 q1 (by omega) (hrz c) (by omega) (hI0 c), fun c => kh_fail hq ho hz hT _ _ et (fun w hw fw w0 w1 wu lw wv => ih own2 (k + 1) w hw (fm_tr fy (fm_tr fz fw)) ⟨fun k k3 k8 => by rw [wu k (by omega) (by rw [z9]; omega)]; exact zu.1 k k3 k8, lowE_tr hO (fm_tr fy fz) zu.2 lw⟩ (sVx_tr hO (fm_tr fy fz) zv wv) q0 q1 (by omega) (fun c => ?_) (by omega) ?_)⟩
        · rw [w0] at c; exact absurd c (by decide)
        · obtain ⟨r9, g1, g2, g4, g3, st9, a1, a2, a3⟩ := hI1 c
          rw [eI]
          refine Or.inr ⟨by rw [w0]; decide, r9, g1, ?_, ?_, ?_, Or.inr (Or.inr g2), fun _ => ⟨st9, a1, by rw [fw 60 13 (by unfold sSt; omega), fz 60 13 (by unfold sSt; omega), fy 60 13 (by unfold sSt; omega)]; exact a2, fun p hp => ?_⟩⟩
          · rw [w0, g2]; rfl
          · rw [w1]; exact g4
          · rw [wu 2 (by omega) (by rw [z9]; omega)]; exact g3
          · rw [wu (8 + p) (by omega) (by rw [z9]; push_cast; omega)]; exact a3 p hp
      have p59 : ∀ own2 : Int32, 0 ≤ own2.toInt → own2.toInt ≤ 301 → 16 ≤ sop y (rg y o T 2).toInt.toNat → (sop y (rg y o T 2).toInt.toNat < 20 → own2.toInt = own.toInt + 1) → (20 ≤ sop y (rg y o T 2).toInt.toNat → own2 = own) → KT G q (d + 3) zk_X5_settle 59 [(0, vr o), (1, vi t), (2, vi own2), (3, vi k), (4, vi (rg y o T 2)), (5, vi (y.1 81 (rg y o T 2).toInt.toNat))] [] y (rv Fv) := by
        intro own2 q0 q1 h16 hlt hge
        have n16 : ¬ st.1 < 16 := by omega
        have eown : (if st.1 < 20 then own.toInt.toNat + 1 else own.toInt.toNat) = own2.toInt.toNat := by
          by_cases c : st.1 < 20
          · rw [if_pos c]; have := hlt (by omega); omega
          · rw [if_neg c, hge (by omega)]
        refine kg_X5_settle_59 hq ho _ _ _ _ _ ⟨fun c => kh_own hq ho hy hT hTy _ et h16 hKy hN hst hlv (by rw [y13]; exact hml) (fun r z hz fz zu zv z1 hzz how => ?_), fun c => p80 own2 6 y hy (fm_rf _ _) yu yv q0 q1 (fun c6 => absurd c6 (by decide)) (fun c6 => absurd c6 (by decide)) (fun _ => ?_)⟩
        · rw [t_le, k300] at c
          have c2 : ¬ (st.1 < 20 ∧ 300 ≤ own.toInt.toNat) := fun z => by have := hlt (by omega); omega
          refine p80 own2 r z hz fz (sUx_tr hO fy yu zu) (sVx_tr hO fy yv zv) q0 q1 (fun hr0 hgz => ⟨c, ?_⟩) (fun hr0 => ?_) (fun hr0 => ?_)
          · by_cases h20 : 20 ≤ sop y (rg y o T 2).toInt.toNat
            · rw [hge h20]
              have h0 := hzz hr0 h20
              have hne : ¬ sop x (rg y o T 2).toInt.toNat = 17 := by rw [es] at h20; omega
              have hr1 : rk x (rg y o T 2).toInt.toNat = 401 - (rg y o T 2).toInt.toNat := by unfold rk; rw [if_neg hne]
              rcases h0 with g | g | g
              · exact absurd hgz g
              · have hAz := (hz.2.2.1 T (by rw [fz 60 10 (by unfold sSt; omega)]; exact hTy)).1
                have hz2 := hAz.1.1
                have : rk x (rg z o T 2).toInt.toNat ≤ 401 - (rg z o T 2).toInt.toNat := by unfold rk; split <;> omega
                have y0 := hA.1.1
                omega
              · have : rk x (rg z o T 2).toInt.toNat = 0 := by
                  unfold rk
                  rw [es] at g
                  rw [if_pos g]
                omega
            · have e1 := hlt (by omega)
              have := rk1 (rg z o T 2).toInt.toNat
              rw [e1]
              omega
          · rw [eI]
            rcases how with ⟨n9, how, hr9, -⟩ | ⟨how, -, hz0, hz2⟩ | ⟨s2, lv2, how, -, hz0, hz2, hza, hzl⟩
            · exact absurd hr0 hr9
            · refine Or.inr ⟨by rw [hz0]; decide, (2, 0, 0, lv), lift _ ⟨1, set_l hst n16 c2 how⟩, hz0, by rw [z1]; exact hy1, by rw [hz2]; rfl, Or.inr (Or.inl rfl), fun z => absurd z (by show ¬ (2 = 1 ∨ 2 = 3); decide)⟩
            · obtain ⟨st', a1, a2⟩ := ow1_next ns (by omega) how
              have e2 : (rg z o T 2).toInt.toNat = s2 := by rw [hz2]; rfl
              refine Or.inl ⟨by rw [hz0]; exact hg, by rw [z1]; exact hy1, st', lv2, by rw [e2]; exact a1, fun p hp => hzl p (by omega), by rw [y13] at hza; omega, fun r9 hr9 => lift r9 ?_⟩
              obtain ⟨m, hm⟩ := hr9
              refine ⟨m + 1, ?_⟩
              rw [set_r hst n16 c2 how, eown]
              rw [e2] at hm
              exact hm
          · rcases how with ⟨n9, how, -, en9, hz9⟩ | ⟨-, hr9, -⟩ | ⟨s2, lv2, -, hr9, -⟩
            · exact ⟨(3, n9, _, lv), lift _ ⟨1, set_l hst n16 c2 how⟩, rfl, en9, by rw [hz9]; exact est2, st, hst, hml, fun p hp => by rw [hz9]; exact hlv p hp⟩
            · exact absurd hr9 hr0
            · exact absurd hr9 hr0
        · rw [t_le, k300] at c
          have c20 : st.1 < 20 := by
            by_cases c9 : st.1 < 20
            · exact c9
            · have := hge (by omega)
              rw [this] at c
              omega
          have := hlt (by omega)
          exact ⟨(3, 6, _, lv), lift _ ⟨1, set_6 hst n16 ⟨c20, by omega⟩⟩, rfl, rfl, est2, st, hst, hml, hlv⟩
      refine ⟨v, ?_⟩
      rw [e]
      refine ⟨fun c16 => ⟨fun c20 => ?_, fun c20 => ?_⟩, fun c16 => p100 y hy fy yu yv (fun _ => ?_) ?_⟩
      · rw [t_le, k16] at c16
        rw [t_le, k20] at c20
        exact p59 own o0 o1 c16 (fun c => by unfold sop at c; omega) (fun _ => rfl)
      · rw [t_le, k16] at c16
        rw [t_le, k20] at c20
        have e1 : (own + 1).toInt = own.toInt + 1 := t_add (by rw [k1]; omega) (by rw [k1]; omega)
        exact p59 (own + 1) (by omega) (by omega) c16 (fun _ => e1) (fun c => by unfold sop at c; omega)
      · rw [t_le, k16] at c16; unfold sop; omega
      · rw [t_le, k16] at c16
        have s16 : sop y (rg y o T 2).toInt.toNat < 16 := by unfold sop; omega
        exact ⟨(1, 0, _, lv), lift _ ⟨1, set_act hst (by omega)⟩, by rw [hg]; rfl, by rw [hy1]; rfl, est2, Or.inl rfl, fun _ => ⟨st, hst, by rw [y13]; exact hml, hlv⟩⟩
  refine kg_X5_settle_0 hq ho _ (loop 400000 _ _ x hM (fm_rf _ _) sUx_rf sVx_rf (by decide) (by decide) (by decide) (fun _ => ?_) (by decide) ?_)
  · have : rk x (rg x o T 2).toInt.toNat ≤ 401 := by unfold rk; split <;> omega
    show (0 : Int) ≤ 300 ∧ (302 - (0 : Int)) * 1000 + _ ≤ _
    omega
  · rw [eI]
    refine Or.inl ⟨hg0, hn0, st0, lv0, hst0, hlv0, hml0, fun r hr => ?_⟩
    rw [eG0]
    exact hr
end KSH
end
section
/-! the class's machine holds the machine's state -/
def kTq (x : gd) (o : Nat) (C : gCo) (t : Nat) (h : gTq) : Prop :=
  (rg x o t 0 = Int32.ofNat h.1 ∧ h.1 ≤ 3) ∧ rg x o t 1 = Int32.ofNat h.2.1 ∧ (rg x o t 2).toInt = (h.2.2.1 : Nat) ∧
  (rg x o t 3 = (if h.2.2.2.1 = 0 then 0 else (stN C h.2.2.1).2.2.2.2.1 + 1) ∧ rg x o t 5 = (if h.2.2.2.1 = 2 then 1 else 0) ∧ h.2.2.2.1 ≤ 2 ∧ (¬ h.2.2.2.1 = 0 → (stN C h.2.2.1).1 = 7)) ∧
  rg x o t 4 = h.2.2.2.2.1 ∧ rg x o t 6 = h.2.2.2.2.2.1 + 1 ∧
  ((rg x o t 7).toInt = (h.2.2.2.2.2.2.1.length : Nat) ∧ ∀ i p, h.2.2.2.2.2.2.1[i]? = some p → (rg x o t ((x.1 o 9).toInt.toNat + 2 * i)).toInt = (p.1 : Nat) ∧ rg x o t ((x.1 o 9).toInt.toNat + 2 * i + 1) = p.2) ∧
  (∀ p : Nat, (p : Int) < (x.1 60 13).toInt → rg x o t (8 + p) = h.2.2.2.2.2.2.2 p) ∧
  (h.1 = 1 ∨ h.1 = 3 → ((stN C h.2.2.1).2.1.length : Int) ≤ (x.1 60 13).toInt)
/-- cells and locks -/
def KMl (x : gd) (o : Nat) (M : gMa) : Prop := (∀ c : Nat, (c : Int) < (x.1 60 6).toInt → x.1 (o + 5) c = M.1 c) ∧ ∀ l : Nat, (l : Int) < (x.1 60 9).toInt → x.1 (o + 5) ((x.1 60 6).toInt.toNat + 2 * l) = Int32.ofNat (M.2.1 l).1 ∧ (M.2.1 l).1 ≤ 6 ∧ x.1 (o + 5) ((x.1 60 6).toInt.toNat + 2 * l + 1) = (M.2.1 l).2
def KMm (x : gd) (o : Nat) (C : gCo) (M : gMa) : Prop := KMl x o M ∧ ∀ t, t < C.2.1.length → kTq x o C t (M.2.2 t)
section KMR
variable {G : kG} {q : kP} {d : Nat} {x x0 y z : gd} {o : Nat} {F : Int32 → gd → Prop} {Fv : gd → Prop} {C : gCo} {M : gMa} {h h' : gTq} {t T : Nat}
theorem sM_e (hO : o = 120 ∨ o = 220) (f : fm (sMk o) x y) : y.1 60 6 = x.1 60 6 ∧ y.1 60 9 = x.1 60 9 ∧ y.1 60 13 = x.1 60 13 ∧ y.1 o 9 = x.1 o 9 ∧ y.1 o 8 = x.1 o 8 ∧ y.1 o 7 = x.1 o 7 ∧ y.1 60 10 = x.1 60 10 := ⟨f _ _ (by unfold sMk; omega), f _ _ (by unfold sMk; omega), f _ _ (by unfold sMk; omega), f _ _ (by unfold sMk; omega), f _ _ (by unfold sMk; omega), f _ _ (by unfold sMk; omega), f _ _ (by unfold sMk; omega)⟩
theorem CK_M (hO : o = 120 ∨ o = 220) (hK : CK x C) (f : fm (sMk o) x y) : CK y C := CK_f hK (fun c k hc => f c k (by unfold sMk; omega))
/-- its late ones lie within the row -/
theorem lt_in (hC : CO x) (hG : MG x o) (hA : TA x o t) {i : Nat} (hi : (i : Int) < (rg x o t 7).toInt) : x.1 o 3 = 1 ∧ (((x.1 o 9).toInt.toNat + 2 * i + 1 : Nat) : Int) < (x.1 o 8).toInt := by
  obtain ⟨b1, b2, b3, b4, b5, -⟩ := MG_b hC hG
  have k0 : (0 : Int32).toInt = 0 := rfl
  have hw : x.1 o 3 = 1 := by
    by_cases hw : x.1 o 3 = 1
    · exact hw
    · have := hA.2.2.1 hw
      rw [this, k0] at hi; omega
  have := b5 hw
  have := hA.2.1
  exact ⟨hw, by omega⟩
theorem kTq_e (hC : CO x) (hG : MG x o) (hA : TA x o t) (e13 : y.1 60 13 = x.1 60 13) (e9 : y.1 o 9 = x.1 o 9) (e : ∀ k : Nat, (k : Int) < (x.1 o 8).toInt → rg y o t k = rg x o t k) (g : kTq x o C t h) : kTq y o C t h := by
  obtain ⟨b1, b2, b3, b4, b5, b6, b7⟩ := MG_b hC hG
  obtain ⟨⟨q0, q0'⟩, q1, q2, ⟨q3, q5, qw⟩, q4, q6, ⟨q7, ql⟩, qv, qk⟩ := g
  refine ⟨⟨by rw [e 0 (by omega)]; exact q0, q0'⟩, by rw [e 1 (by omega)]; exact q1, by rw [e 2 (by omega)]; exact q2, ⟨by rw [e 3 (by omega)]; exact q3, by rw [e 5 (by omega)]; exact q5, qw⟩, by rw [e 4 (by omega)]; exact q4, by rw [e 6 (by omega)]; exact q6, ⟨by rw [e 7 (by omega)]; exact q7, fun i p hp => ?_⟩, fun p hp => ?_, by rw [e13]; exact qk⟩
  · have hi := gt_lt hp
    have := (lt_in hC hG hA (i := i) (by rw [q7]; omega)).2
    rw [e9, e _ (by omega), e _ (by omega)]; exact ql i p hp
  · rw [e13] at hp; rw [e _ (by push_cast; omega)]; exact qv p hp
theorem KMl_e (hG : MG x o) (f6 : y.1 60 6 = x.1 60 6) (f9 : y.1 60 9 = x.1 60 9) (l : lowE x y o) (g : KMl x o M) (hC : CO x) : KMl y o M := by
  obtain ⟨g1, g2, g3, -⟩ := hG
  have c1 := hC.1.1
  have c2 := hC.1.2.1
  refine ⟨fun c hc => ?_, fun l' hl => ?_⟩
  · rw [f6] at hc; rw [l c (by omega)]; exact g.1 c hc
  · rw [f9] at hl
    rw [f6, l _ (by omega), l _ (by omega)]; exact g.2 l' hl
/-- nothing of the row changes -/
theorem KMm_fr (hO : o = 120 ∨ o = 220) (hM : MM x o) (hK : CK x C) (f6 : y.1 60 6 = x.1 60 6) (f9 : y.1 60 9 = x.1 60 9) (e13 : y.1 60 13 = x.1 60 13) (e9 : y.1 o 9 = x.1 o 9) (l : lowE x y o) (e : ∀ t k, rg y o t k = rg x o t k) (g : KMm x o C M) : KMm y o C M := by
  have nT : (x.1 60 10).toInt = C.2.1.length := hK.2.1.1
  exact ⟨KMl_e hM.2.1 f6 f9 l g.1 hM.1, fun t ht => kTq_e hM.1 hM.2.1 (hM.2.2 t (by omega)).1 e13 e9 (fun k _ => e t k) (g.2 t ht)⟩
/-- a thread's fields change -/
theorem KMm_T (hO : o = 120 ∨ o = 220) (hM : MM x o) (hK : CK x C) (f : fm (sMk o) x y) (l : lowE x y o) (e : ∀ t k : Nat, t ≠ T → (k : Int) < (x.1 o 8).toInt → rg y o t k = rg x o t k) (g : KMm x o C M) (g' : kTq y o C T h') : KMm y o C (upT M T h') := by
  have nT : (x.1 60 10).toInt = C.2.1.length := hK.2.1.1
  obtain ⟨f6, f9, e13, e9, -⟩ := sM_e hO f
  refine ⟨KMl_e hM.2.1 f6 f9 l g.1 hM.1, fun t ht => ?_⟩
  show kTq y o C t (upf M.2.2 T h' t)
  unfold upf
  by_cases c : t = T
  · rw [if_pos c, c]; exact g'
  · rw [if_neg c]; exact kTq_e hM.1 hM.2.1 (hM.2.2 t (by omega)).1 e13 e9 (fun k hk => e t k c hk) (g.2 t ht)
/-- a cell is written -/
theorem KMm_c (hO : o = 120 ∨ o = 220) (hM : MM x o) (hK : CK x C) {c : Nat} {v : Int32} (hc : (c : Int) < (x.1 60 6).toInt) (ey : y = si x (o + 5) c v) (g : KMm x o C M) : KMm y o C (upC M c v) := by
  have nT : (x.1 60 10).toInt = C.2.1.length := hK.2.1.1
  obtain ⟨g1, g2, g3, -⟩ := hM.2.1
  have c2 := hM.1.1.2.1
  have f : ∀ c' k, c' ≠ o + 5 → y.1 c' k = x.1 c' k := fun c' k hc' => by rw [ey, si_cell hc']
  have r : ∀ t k, rg y o t k = rg x o t k := fun t k => rg_low hO (by omega) ey
  refine ⟨⟨fun c' hc' => ?_, fun l hl => ?_⟩, fun t ht => kTq_e hM.1 hM.2.1 (hM.2.2 t (by omega)).1 (f _ _ (by omega)) (f _ _ (by omega)) (fun k _ => r t k) (g.2 t ht)⟩
  · rw [f 60 6 (by omega)] at hc'
    rw [ey, si_get]
    show _ = upf M.1 c v c'
    unfold upf
    by_cases e : c' = c
    · rw [if_pos ⟨rfl, e⟩, if_pos e]
    · rw [if_neg (fun z => e z.2), if_neg e]; exact g.1.1 c' hc'
  · rw [f 60 9 (by omega)] at hl
    rw [f 60 6 (by omega), ey, si_get, if_neg (fun z => by have := z.2; omega), si_get, if_neg (fun z => by have := z.2; omega)]
    exact g.1.2 l hl
theorem AR_KM {S : Nat → Prop} (hO : o = 120 ∨ o = 220) (hM : MM x o) (hK : CK x C) (a : AR S x y o) (l : lowE x y o) (e : ∀ t k, rg y o t k = rg x o t k) (g : KMm x o C M) : KMm y o C M := by
  obtain ⟨f6, f9, e13, e9, -⟩ := sM_e hO a.2.1
  exact KMm_fr hO hM hK f6 f9 e13 e9 l e g
/-- a lock is set -/
theorem kh_setLock {S : Nat → Prop} (hq : kV q) (ho : kiM q o) (hM : MM x o) (hK : CK x C) (g : KMm x o C M) (l a b : Int32) {L n : Nat} (eL : l.toInt = L) (hl : (L : Int) < (x.1 60 9).toInt) (ha : a + 1 = Int32.ofNat n) (hn : n ≤ 6) (hF : ∀ y, AR S x y o → (∀ t k, rg y o t k = rg x o t k) → KMm y o C (upL M L (n, b)) → Fv y) : KT G q d zk_X5_setLock 0 [(0, vr o), (1, vi l), (2, vi a), (3, vi b)] [] x (rv Fv) := by
  have nT : (x.1 60 10).toInt = C.2.1.length := hK.2.1.1
  have hO := kiM_O ho
  obtain ⟨e1, e2, e3, e4, e5⟩ := lk_ix hM.1 hM.2.1 (l := l) (by omega) (by omega)
  have c1 := hM.1.1.1
  refine kg_X5_setLock_0 hq ho _ _ _ ⟨by rw [vp_in_iff]; omega, fun x2 f2 => ?_⟩
  have q6 : x2.1 o 6 = x.1 o 6 := by rw [f2, si_cell (by omega)]
  have q7 : x2.1 o 7 = x.1 o 7 := by rw [f2, si_cell (by omega)]
  rw [q6]
  refine ⟨by rw [vp_in_iff]; omega, fun z fz => rv_i ?_⟩
  have n1 : (x.1 o 6 + 2 * l).toNatClampNeg = (x.1 60 6).toInt.toNat + 2 * L := by rw [t_cl, e1]; omega
  have n2 : (x.1 o 6 + 2 * l + 1).toNatClampNeg = (x.1 60 6).toInt.toNat + 2 * L + 1 := by rw [t_cl, e2]; omega
  rw [n1] at f2
  rw [n2] at fz
  have r : ∀ t k, rg z o t k = rg x o t k := fun t k => by
    rw [rg_low hO (j := (x.1 60 6).toInt.toNat + 2 * L + 1) (by rw [q7]; omega) fz, rg_low hO (by omega) f2]
  have fr : fm (fun c k => c = o + 5) x z := by rw [fz, f2]; exact fm_si (fm_si (fm_rf _ _) rfl) rfl
  have ar : AR S x z o := AR_row hO hM fr r
  have f : ∀ c' k, c' ≠ o + 5 → z.1 c' k = x.1 c' k := fun c' k hc' => fr _ _ hc'
  have gt : ∀ j, z.1 (o + 5) j = if j = (x.1 60 6).toInt.toNat + 2 * L + 1 then b else if j = (x.1 60 6).toInt.toNat + 2 * L then a + 1 else x.1 (o + 5) j := fun j => by
    rw [fz, si_get]
    by_cases c : j = (x.1 60 6).toInt.toNat + 2 * L + 1
    · rw [if_pos ⟨rfl, c⟩, if_pos c]
    · rw [if_neg (fun z => c z.2), if_neg c, f2, si_get]
      by_cases c' : j = (x.1 60 6).toInt.toNat + 2 * L
      · rw [if_pos ⟨rfl, c'⟩, if_pos c']
      · rw [if_neg (fun z => c' z.2), if_neg c']
  refine hF z ar r ⟨⟨fun c' hc' => ?_, fun l' hl' => ?_⟩, fun t ht => kTq_e hM.1 hM.2.1 (hM.2.2 t (by omega)).1 (f _ _ (by omega)) (f _ _ (by omega)) (fun k _ => r t k) (g.2 t ht)⟩
  · rw [f 60 6 (by omega)] at hc'
    rw [gt, if_neg (by omega), if_neg (by omega)]; exact g.1.1 c' hc'
  · rw [f 60 9 (by omega)] at hl'
    rw [f 60 6 (by omega), gt, gt]
    show _ = Int32.ofNat (upf M.2.1 L (n, b) l').1 ∧ (upf M.2.1 L (n, b) l').1 ≤ 6 ∧ _ = (upf M.2.1 L (n, b) l').2
    unfold upf
    by_cases c : l' = L
    · rw [if_pos c, if_neg (by omega), if_pos (by omega), if_pos (by omega)]; exact ⟨ha, hn, rfl⟩
    · rw [if_neg c, if_neg (by omega), if_neg (by omega), if_neg (by omega), if_neg (by omega)]; exact g.1.2 l' hl'
theorem kh_holder (hq : kV q) (ho : kiM q o) (hM : MM x o) (g : KMm x o C M) (l : Int32) {L : Nat} (eL : l.toInt = L) (hl : (L : Int) < (x.1 60 9).toInt) (h : F (Int32.ofNat (M.2.1 L).1 - 1) x) : KT G q d zk_X5_holder 0 [(0, vr o), (1, vi l)] [] x (ri F) := by
  obtain ⟨e1, e2, e3, e4, e5⟩ := lk_ix hM.1 hM.2.1 (l := l) (by omega) (by omega)
  have c1 := hM.1.1.1
  refine kg_X5_holder_0 hq ho _ ⟨by rw [vp_in_iff]; omega, ri_i ?_⟩
  have n1 : (x.1 o 6 + 2 * l).toNatClampNeg = (x.1 60 6).toInt.toNat + 2 * L := by rw [t_cl, e1]; omega
  rw [n1, (g.1.2 L hl).1]; exact h
theorem kh_often (hq : kV q) (ho : kiM q o) (hM : MM x o) (g : KMm x o C M) (l : Int32) {L : Nat} (eL : l.toInt = L) (hl : (L : Int) < (x.1 60 9).toInt) (h : F (M.2.1 L).2 x) : KT G q d zk_X5_often 0 [(0, vr o), (1, vi l)] [] x (ri F) := by
  obtain ⟨e1, e2, e3, e4, e5⟩ := lk_ix hM.1 hM.2.1 (l := l) (by omega) (by omega)
  have c1 := hM.1.1.1
  refine kg_X5_often_0 hq ho _ ⟨by rw [vp_in_iff]; omega, ri_i ?_⟩
  have n2 : (x.1 o 6 + 2 * l + 1).toNatClampNeg = (x.1 60 6).toInt.toNat + 2 * L + 1 := by rw [t_cl, e2]; omega
  rw [n2, (g.1.2 L hl).2.2]; exact h
/-- a lock's holder is nobody, or this thread -/
theorem hol_n : ∀ h, h < 7 → (Int32.ofNat h - 1 = -1 ↔ h = 0) := by decide +kernel
theorem kw_i (hA : TA x o t) (g : kTq x o C t h) : rg x o t 0 = 1 ↔ h.1 = 1 := by
  obtain ⟨⟨q0, q0'⟩, -⟩ := g
  have s : ∀ n, n < 4 → (Int32.ofNat n = 1 ↔ n = 1) := by decide +kernel
  rw [q0]; exact s _ (by omega)
end KMR
end
section
/-! the class: its machine is looked at, with what it holds -/
section KMS
variable {G : kG} {q : kP} {d : Nat} {x x0 y z : gd} {o : Nat} {F : Int32 → gd → Prop} {Fv : gd → Prop} {C : gCo} {M : gMa} {h h' : gTq} {t T w : Nat}
theorem kst_at (hM : MM x o) (hK : CK x C) (hN : NC C) (ht : t < C.2.1.length) (g : kTq x o C t h) : ∃ st, C.1[h.2.2.1]? = some st ∧ stN C h.2.2.1 = st ∧ (rg x o t 2).toInt.toNat = h.2.2.1 ∧ (h.2.2.1 : Int) < ssm x ∧ sop x h.2.2.1 = (st.1 : Nat) ∧ kN x h.2.2.1 st ∧ NS C.1 h.2.2.1 st := by
  have nT : (x.1 60 10).toInt = C.2.1.length := hK.2.1.1
  have e2 := g.2.2.1
  have l := (hM.2.2 t (by omega)).1.1.2
  have ls : ssm x = C.1.length := hK.1.1
  rw [e2] at l
  have hl : h.2.2.1 < C.1.length := by omega
  obtain ⟨st, hst⟩ : ∃ st, C.1[h.2.2.1]? = some st := ⟨_, List.getElem?_eq_getElem hl⟩
  have kn := hK.1.2 _ st hst
  have ns := hN.1 _ st hst
  refine ⟨st, hst, by unfold stN; rw [hst]; rfl, by rw [e2]; rfl, l, ?_, kn, ns⟩
  show (x.1 81 _).toInt = _
  rw [kn.1]
  exact Int32.toInt_ofNat_of_lt (by have := ns.1.1; omega)
/-- the lock that it waits for -/
theorem kst_wl (hM : MM x o) (hK : CK x C) (hN : NC C) (ht : t < C.2.1.length) (g : kTq x o C t h) (hw : ¬ h.2.2.2.1 = 0) : (stN C h.2.2.1).2.2.2.2.1.toInt = (obM C h.2.2.1 : Nat) ∧ ((obM C h.2.2.1 : Nat) : Int) < (x.1 60 9).toInt := by
  obtain ⟨st, h1, h2, h3, h4, h5, h6, h7⟩ := kst_at hM hK hN ht g
  have o7 := g.2.2.2.1.2.2.2 hw
  rw [h2] at o7
  have a := (hM.1.2.2.2.1 _ h4).1.2.1 (by omega) (by omega)
  rw [h6.2.2.2.2.1 (by omega)] at a
  unfold obM
  rw [h2, t_cl]
  omega
theorem seL_app : ∀ (l : List (Nat × Int32)) (p : Nat × Int32) (c : Nat) (v : Int32), seL (l ++ [p]) c v = if p.1 = c then p.2 else seL l c v := by
  intro l
  induction l with
  | nil => intro p c v; rfl
  | cons r l ih => intro p c v; exact ih p c _
theorem kh_lateValue (hq : kV q) (ho : kiM q o) (hC : CO x) (hG : MG x o) (t j : Int32) {T J : Nat} (et : t.toInt = T) (hT : T < 6) (ej : j.toInt = J) (hJ : J < 8) (h : F (rg x o T ((x.1 o 9).toInt.toNat + 2 * J + 1)) x) : KT G q (d + 1) zk_X5_lateValue 0 [(0, vr o), (1, vi t), (2, vi j)] [] x (ri F) := by
  obtain ⟨e1, e2, e3⟩ := lt_ix hC hG ej hJ
  exact kg_X5_lateValue_0 hq ho _ _ (kp_get hq ho hC hG _ _ et e2 hT e3 (ri_i h))
theorem kh_seenBy (hq : kV q) (ho : kiM q o) (hM : MM x o) (hK : CK x C) (g : KMm x o C M) (t c : Int32) {T c' : Nat} (et : t.toInt = T) (hT : T < C.2.1.length) (ec : c.toInt = c') (hc : (c' : Int) < (x.1 60 6).toInt) (h : F (seM M T c') x) : KT G q (d + 2) zk_X5_seenBy 0 [(0, vr o), (1, vi t), (2, vi c)] [] x (ri F) := by
  have nT : (x.1 60 10).toInt = C.2.1.length := hK.2.1.1
  have hT6 := MM_6 hM.1 (t := T) (by omega)
  have hA := (hM.2.2 T (by omega)).1
  have hC := hM.1
  have hG := hM.2.1
  have c24 := hM.1.1.1
  have k0 : (0 : Int32).toInt = 0 := rfl
  have l8 := hA.2.1
  obtain ⟨l7, ll⟩ := (g.2 T hT).2.2.2.2.2.2.1
  have nc : c.toNatClampNeg = c' := by rw [t_cl, ec]; rfl
  unfold seM at h
  obtain ⟨l, el⟩ : ∃ l, l = (M.2.2 T).2.2.2.2.2.2.1 := ⟨_, rfl⟩
  rw [← el] at l7 ll h
  have loop : ∀ (n : Nat) (j : Int32), j.toInt + 1 = n → n ≤ l.length → F (seL (l.take n) c' (M.1 c')) x → KT G q (d + 2) zk_X5_seenBy 10 [(0, vr o), (1, vi t), (2, vi c), (3, vi j)] [] x (ri F) := by
    intro n
    induction n with
    | zero =>
      intro j hn hl hf
      refine kg_X5_seenBy_10 hq ho _ _ _ ⟨fun _ => ⟨by rw [vp_in_iff]; omega, ri_i ?_⟩, fun c => ?_⟩
      · rw [nc, g.1.1 c' hc]; exact hf
      · exfalso; rw [t_lt, k0] at c; omega
    | succ n ih =>
      intro j hn hl hf
      have ej : j.toInt = (n : Nat) := by push_cast at hn; omega
      refine kg_X5_seenBy_10 hq ho _ _ _ ⟨fun c => ?_, fun c => ?_⟩
      · exfalso; rw [t_lt, k0] at c; omega
      have e1 : (j + (-1)).toInt + 1 = (n : Nat) := by rw [t_add (by rw [tm1]; omega) (by rw [tm1]; omega), tm1]; omega
      obtain ⟨j2, ej2⟩ : ∃ j2, j2 = j + (-1) := ⟨_, rfl⟩
      rw [← ej2] at e1 ⊢
      clear ej2
      obtain ⟨p, hp⟩ : ∃ p, l[n]? = some p := ⟨_, List.getElem?_eq_getElem (by omega)⟩
      obtain ⟨p1, p2⟩ := ll n p hp
      have tk : l.take (n + 1) = l.take n ++ [p] := by rw [List.take_add_one, hp]; rfl
      rw [tk, seL_app] at hf
      refine kp_lateCell hq ho hC hG _ _ et hT6 ej (by omega) ⟨fun c9 => ih _ e1 (by omega) ?_, fun c9 => kh_lateValue hq ho hC hG _ _ et hT6 ej (by omega) (ri_i ?_)⟩
      · rw [if_neg (fun z => c9 ?_)] at hf
        · exact hf
        · rw [t_eq, p1, ec, z]
      · rw [t_eq, p1, ec] at c9
        rw [if_pos (by omega)] at hf
        rw [p2]; exact hf
  have e1 : (rg x o T 7 - 1).toInt + 1 = (l.length : Nat) := by rw [t_sub (by show _ ≤ _ - (1 : Int); omega) (by show _ - (1 : Int) ≤ _; omega)]; show _ - (1 : Int) + 1 = _; omega
  exact kg_X5_seenBy_0 hq ho _ _ (kp_get hq ho hC hG _ _ et (show (7 : Int32).toInt = ((7 : Nat) : Int) from rfl) hT6 (by omega) (loop l.length _ e1 (Nat.le_refl _) (by rw [List.take_length]; exact h)))
/-- a sum of a thread is worked out -/
theorem kh_ev (hq : kV q) (ho : kiM q o) (hM : MM x o) (hK : CK x C) (hT : T < C.2.1.length) (g : kTq x o C T h) (t a : Int32) (et : t.toInt = T) {Q : List gQ} (hS : SUk x a (Q.map cQ)) (q1 : okQ Q 0) {ks : List Nat} (q2 : ∀ p ∈ Q, qOk p ∧ (p.1 = 2 → p.2.1 < ks.length) ∧ ¬ p.1 = 4) (hk : (ks.length : Int) ≤ (x.1 60 13).toInt) (hF : ∀ r y, fm sWk x y → wkR x y (wkQ h.2.2.2.2.2.2.2 (fun _ => 0) (Int32.ofNat T) Q) r → F r y) : KT G q (d + 1) zk_X5_localsAt 0 [(0, vr o), (1, vi t)] [] x (ri (fun r6 x5 => KT G q (d + 1) zk_X0_work 0 [(0, vr 60), (1, vi a), (2, vr (o + 5)), (3, vi r6), (4, vi t)] [] x5 (ri F))) := by
  have nT : (x.1 60 10).toInt = C.2.1.length := hK.2.1.1
  have hO := kiM_O ho
  have hT6 := MM_6 hM.1 (t := T) (by omega)
  obtain ⟨b1, b2, b3, b4, b5, b6, b7⟩ := MG_b hM.1 hM.2.1
  have tT : t = Int32.ofNat T := i32_of et
  have m8 := hM.1.1.2.2.2.1
  refine kf_localsAt hq ho hM.1 hM.2.1 _ et hT6 (fun r6 r0 r4 => ?_)
  rw [tT]
  refine kf_work hq (kk_M5 ho) (kl_M5 hq ho) (by omega) _ _ _ (Q := Q) (lv := h.2.2.2.2.2.2.2) (cv := fun _ => 0) hM.1.2.1.1.2 hS q1 (fun p hp => ?_) hF
  obtain ⟨a1, a2, a3⟩ := q2 p hp
  refine ⟨a1, fun c => ?_, fun c => absurd c a3⟩
  have pl := a2 c
  have e8 : (Int32.ofNat p.2.1).toInt = (p.2.1 : Nat) := Int32.toInt_ofNat_of_lt (by omega)
  have es : (r6 + Int32.ofNat p.2.1).toInt = r6.toInt + (p.2.1 : Nat) := by rw [t_add (by omega) (by omega), e8]
  refine ⟨by rw [vp_in_iff, es]; omega, ?_⟩
  have ep : (r6 + Int32.ofNat p.2.1).toNatClampNeg = pa x o T (8 + p.2.1) := by
    rw [t_cl, es, r0]
    unfold pa
    omega
  rw [ep]
  exact g.2.2.2.2.2.2.2.1 _ (by omega)
/-- looking leaves what is held -/
theorem KMm_Lk (hO : o = 120 ∨ o = 220) (hM : MM x o) (hK : CK x C) (f : fm (sLk o) x y) (g : KMm x o C M) : KMm y o C M :=
  KMm_fr hO hM hK (f _ _ (by unfold sLk; omega)) (f _ _ (by unfold sLk; omega)) (f _ _ (by unfold sLk; omega)) (f _ _ (by unfold sLk; omega)) (fun j _ => f _ _ (by unfold sLk; omega)) (rg_Lk hO f) g
/-- where its [ ] leads -/
theorem kh_placeOf (hq : kV q) (ho : kiM q o) (hM : MM x o) (hK : CK x C) (hN : NC C) (g : KMm x o C M) (t : Int32) (et : t.toInt = T) (hT : T < C.2.1.length) (h1 : (M.2.2 T).1 = 1) (hop : (stN C (M.2.2 T).2.2.1).1 ≤ 4) (hF : ∀ r y, fm (sLk o) x y → (((lkI C M T).1 = 0 ∧ r = (lkI C M T).2 ∧ 0 ≤ r.toInt ∧ r.toInt < (x.1 60 6).toInt) ∨ (¬ (lkI C M T).1 = 0 ∧ r = -1 ∧ y.1 o 14 = Int32.ofNat (lkI C M T).1)) → F r y) : KT G q (d + 2) zk_X5_placeOf 0 [(0, vr o), (1, vi t)] [] x (ri F) := by
  have nT : (x.1 60 10).toInt = C.2.1.length := hK.2.1.1
  have hO := kiM_O ho
  have hT6 := MM_6 hM.1 (t := T) (by omega)
  have hA := (hM.2.2 T (by omega)).1
  have gT := g.2 T hT
  obtain ⟨st, s1, s2, s3, s4, s5, kn, ns⟩ := kst_at hM hK hN hT gT
  obtain ⟨v, e, l⟩ := MM_st hM.1 hA
  have k0 : (0 : Int32).toInt = 0 := rfl
  have c24 := hM.1.1.1
  have hml := gT.2.2.2.2.2.2.2.2 (Or.inl h1)
  rw [s2] at hop hml
  obtain ⟨a1, a2, a3⟩ := (hM.1.2.2.2.1 _ s4).1.1 (by omega)
  rw [s3] at e
  obtain ⟨-, -, -, -, k85, k86, k87, -, -⟩ := kn
  have k85 := k85 (by omega)
  refine kg_X5_placeOf_0 hq ho _ (kp_get hq ho hM.1 hM.2.1 _ _ et (show (2 : Int32).toInt = ((2 : Nat) : Int) from rfl) hT6 (by omega) ⟨v, fun c87 => ?_, fun c87 => ⟨v, ri_i (hF _ x (fm_rf _ _) (Or.inl ?_))⟩⟩)
  · rw [e] at c87 ⊢
    cases hix : st.2.2.2.2.2.2.2.1 with
    | none => rw [hix] at k87; exact absurd k87 c87
    | some Q =>
      rw [hix] at k87
      have k86 := k86 hop (by rw [hix]; exact fun z => nomatch z)
      obtain ⟨o1, o2⟩ := ns.2.2.2.2.2.2.2.1 Q hix
      refine kh_ev hq ho hM hK hT gT _ _ et k87 o1 o2 hml (fun r8 y fy hwk => ?_)
      have fL : fm (sLk o) x y := fm_w fy (fun c k q => by unfold sWk at q; unfold sLk; omega)
      have hix' : (stN C (M.2.2 T).2.2.1).2.2.2.2.2.2.2.1 = some Q := by rw [s2]; exact hix
      have p81 : ∀ n : Nat, (n = 1 ∨ n = 2) → (y.1 60 5 = 0 ↔ n = 2) → (lkI C M T).1 = n → KT G q (d + 2) zk_X5_placeOf 81 [(0, vr o)] [] y (ri F) := fun n hn h5 hl => by
        have nz : ¬ (lkI C M T).1 = 0 := by omega
        refine kg_X5_placeOf_81 hq ho ⟨fun c5 z ez => ri_i (hF _ z (by rw [ez]; exact fm_si fL (Or.inl ⟨rfl, rfl⟩)) (Or.inr ⟨nz, rfl, ?_⟩)), fun c5 z ez => ri_i (hF _ z (by rw [ez]; exact fm_si fL (Or.inl ⟨rfl, rfl⟩)) (Or.inr ⟨nz, rfl, ?_⟩))⟩
        · rw [hl, h5.mp c5, ez, si_get, if_pos ⟨rfl, rfl⟩]; rfl
        · have : n = 1 := by
            rcases hn with e | e
            · exact e
            · exact absurd (h5.mpr e) c5
          rw [hl, this, ez, si_get, if_pos ⟨rfl, rfl⟩]; rfl
      rcases hwk with ⟨v9, hw, er, y5⟩ | ⟨hw, y5⟩
      · subst er
        refine ⟨fun c => absurd y5 c, fun _ => ⟨fun c8 => ?_, fun c8 => ⟨v, fun c9 => ⟨v, ?_⟩, fun c9 => ?_⟩⟩⟩
        · exact p81 2 (Or.inr rfl) ⟨fun _ => rfl, fun _ => y5⟩ (by rw [lkI_2 hix' hw (Or.inl c8)])
        · rw [fy 86 _ (by unfold sWk; omega), k86] at c9
          have nn : ¬ (r8 < 0 ∨ (stN C (M.2.2 T).2.2.1).2.2.2.2.2.1 ≤ r8) := fun z => z.elim c8 (fun z => by
            rw [s2] at z
            rw [t_lt] at c9
            rw [t_le] at z
            omega)
          refine ri_i (hF _ y fL (Or.inl ?_))
          rw [lkI_0 hix' hw nn, fy 85 _ (by unfold sWk; omega), s2, k85]
          refine ⟨rfl, rfl, ?_⟩
          rw [t_lt, k0] at c8
          rw [← k86, t_lt] at c9
          rw [← k85, t_add (by omega) (by omega)]
          omega
        · rw [fy 86 _ (by unfold sWk; omega), k86] at c9
          refine p81 2 (Or.inr rfl) ⟨fun _ => rfl, fun _ => y5⟩ ?_
          rw [lkI_2 hix' hw (Or.inr ?_)]
          rw [s2]
          rw [t_lt] at c9
          rw [t_le]
          omega
      · refine ⟨fun _ => p81 1 (Or.inl rfl) ⟨fun z => ?_, fun z => absurd z (by decide)⟩ (by rw [lkI_1 hix' hw]), fun c => ?_⟩
        · rw [y5] at z; exact absurd z (by decide)
        · rw [y5] at c; exact absurd c (by decide)
  · rw [e] at c87 ⊢
    have hix : st.2.2.2.2.2.2.2.1 = none := by
      cases hix : st.2.2.2.2.2.2.2.1 with
      | none => rfl
      | some Q =>
        rw [hix] at k87
        have := k87.1
        rw [c87, tm1] at this
        omega
    rw [lkI_n (by rw [s2]; exact hix), s2]
    exact ⟨rfl, k85, by omega, by omega⟩
/-- whether its write comes late -/
theorem kh_goesLate (hq : kV q) (ho : kiM q o) (hM : MM x o) (hK : CK x C) (hN : NC C) (wy : x.1 o 3 = Int32.ofNat w) (w01 : w = 0 ∨ w = 1) (s : Int32) {S : Nat} {st : gNs} (es : s.toInt = S) (hst : C.1[S]? = some st) (hF : ∀ r : Int32, (¬ r = 0 ↔ w = 1 ∧ st.1 = 1 ∧ suM C st.2.2.2.2.1.toNatClampNeg = false) → F r x) : KT G q d zk_X5_goesLate 0 [(0, vr o), (1, vi s)] [] x (ri F) := by
  have s35 := hM.1.2.2.1.2
  have c24 := hM.1.1.1
  have ls : ssm x = C.1.length := hK.1.1
  have hS : (S : Int) < ssm x := by have := gt_lt hst; omega
  have v : vp_in s 400 := by rw [vp_in_iff]; omega
  have e : s.toNatClampNeg = S := by rw [t_cl, es]; rfl
  obtain ⟨k81, -, -, -, k85, -⟩ := hK.1.2 S st hst
  have n22 := (hN.1 S st hst).1.1
  have o1 : x.1 81 S = 1 ↔ st.1 = 1 := by
    have s : ∀ n, n < 22 → (Int32.ofNat n = 1 ↔ n = 1) := by decide +kernel
    rw [k81]; exact s _ n22
  have ww : x.1 o 3 = 1 ↔ w = 1 := by
    rw [wy]
    rcases w01 with e | e <;> rw [e] <;> decide
  refine kg_X5_goesLate_0 hq ho _ ⟨fun c => ri_i (hF _ ⟨fun z => absurd rfl z, fun z => absurd (ww.mpr z.1) c⟩), fun cw => ⟨v, fun c => ri_i (hF _ ⟨fun z => absurd rfl z, fun z => absurd (o1.mpr z.2.1) (by rw [e] at c; exact c)⟩), fun c1 => ⟨v, ?_, fun c0 => ?_, fun c0 => ?_⟩⟩⟩
  all_goals rw [e] at c1
  all_goals have p1 := o1.mp c1
  all_goals obtain ⟨s1, s2, s3⟩ := (hM.1.2.2.2.1 _ hS).1.1 (by show (x.1 81 S).toInt ≤ 4; rw [c1]; decide)
  all_goals have k85 := k85 (by omega)
  · rw [e, vp_in_iff]; omega
  all_goals rw [e, k85] at c0
  all_goals rw [k85] at s1 s2
  all_goals obtain ⟨cq, hcq⟩ : ∃ cq, C.2.2.1[st.2.2.2.2.1.toNatClampNeg]? = some cq := ⟨_, List.getElem?_eq_getElem (by have : (x.1 60 6).toInt = C.2.2.1.length := hK.2.2.1.1; rw [t_cl]; omega)⟩
  all_goals have k69 := (hK.2.2.1.2 _ cq hcq).2
  all_goals have su : suM C st.2.2.2.2.1.toNatClampNeg = cq.2 := by unfold suM; rw [hcq]
  all_goals rw [k69] at c0
  all_goals refine ri_i (hF _ ?_)
  all_goals rw [su]
  · refine ⟨fun z => absurd rfl z, fun z => absurd ?_ c0⟩
    rw [z.2.2]; rfl
  · refine ⟨fun _ => ⟨ww.mp cw, p1, ?_⟩, fun _ => by decide⟩
    cases hb : cq.2 with
    | false => rfl
    | true => rw [hb] at c0; exact absurd c0 (by decide)
theorem km_nil : ∀ {sl : List Nat}, (∀ s ∈ sl, s < 8) → (kmN sl = 0 ↔ sl = []) := fun {sl} h => by
  refine ⟨fun z => ?_, fun z => by rw [z]; rfl⟩
  cases sl with
  | nil => rfl
  | cons s r =>
    have a := km_bit h s (h s List.mem_cons_self)
    rw [if_pos List.mem_cons_self, z] at a
    have b := km_bit (sl := []) (fun s hs => by cases hs) s (h s List.mem_cons_self)
    rw [if_neg (by simp)] at b
    exact absurd (b.symm.trans a) (by decide)
/-- those that wait -/
theorem kh_waiters (hq : kV q) (ho : kiM q o) (hM : MM x o) (hK : CK x C) (hN : NC C) (g : KMm x o C M) (l : Int32) {L : Nat} (eL : l.toInt = L) (hl : (L : Int) < (x.1 60 9).toInt) (h : F (kmN (waM C M L).reverse) x) : KT G q (d + 1) zk_X5_waiters 0 [(0, vr o), (1, vi l)] [] x (ri F) := by
  have hb := hM.1.1.2.2.1
  have nT : (x.1 60 10).toInt = C.2.1.length := hK.2.1.1
  have l6 := hM.1.1.2.1.2
  have k1 : (1 : Int32).toInt = 1 := rfl
  have k0 : (0 : Int32).toInt = 0 := rfl
  have el1 : (l + 1).toInt = (L : Int) + 1 := by rw [t_add (by rw [k1]; omega) (by rw [k1]; omega), k1, eL]
  obtain ⟨P, eP⟩ : ∃ P : Nat → Bool, P = fun o => (M.2.2 o).2.2.2.1 == 1 && obM C (M.2.2 o).2.2.1 == L := ⟨_, rfl⟩
  have h : F (kmN ((List.range C.2.1.length).filter P).reverse) x := by rw [eP]; exact h
  -- a thread waits for it, not woken yet
  have tst : ∀ k, k < C.2.1.length → ((rg x o k 3 = l + 1 ∧ rg x o k 5 = 0) ↔ P k = true) := fun k hk => by
    have gk := g.2 k hk
    obtain ⟨w3, w5, w2, -⟩ := gk.2.2.2.1
    rw [w3, w5, eP]
    show _ ↔ ((M.2.2 k).2.2.2.1 == 1 && obM C (M.2.2 k).2.2.1 == L) = true
    rw [Bool.and_eq_true, beq_iff_eq, beq_iff_eq]
    by_cases c0 : (M.2.2 k).2.2.2.1 = 0
    · rw [if_pos c0]
      refine ⟨fun z => ?_, fun z => by omega⟩
      have := z.1
      rw [t_eq, k0, el1] at this
      omega
    · rw [if_neg c0]
      obtain ⟨a1, a2⟩ := kst_wl hM hK hN hk gk c0
      have e1 : ((stN C (M.2.2 k).2.2.1).2.2.2.2.1 + 1).toInt = (obM C (M.2.2 k).2.2.1 : Nat) + 1 := by rw [t_add (by rw [k1]; omega) (by rw [k1]; omega), k1, a1]
      rw [t_eq, e1, el1]
      by_cases c2 : (M.2.2 k).2.2.2.1 = 2
      · rw [if_pos c2]
        exact ⟨fun z => absurd z.2 (by decide), fun z => by omega⟩
      · rw [if_neg c2]
        exact ⟨fun z => ⟨by omega, by omega⟩, fun z => ⟨by omega, rfl⟩⟩
  have loop : ∀ (n k : Nat) (a i : Int32), i.toInt = k → k ≤ C.2.1.length → (x.1 60 10).toInt - k ≤ n → a = kmN ((List.range k).filter P).reverse → KT G q (d + 1) zk_X5_waiters 4 [(0, vr o), (1, vi l), (2, vi a), (3, vi i)] [] x (ri F) := by
    intro n
    induction n with
    | zero =>
      intro k a i ei hk hn ea
      have ek : k = C.2.1.length := by omega
      refine kg_X5_waiters_4 hq ho _ _ _ ⟨fun _ => ri_i (by rw [ea, ek]; exact h), fun c => ?_⟩
      exfalso; rw [t_le] at c; omega
    | succ n ih =>
      intro k a i ei hk hn ea
      refine kg_X5_waiters_4 hq ho _ _ _ ⟨fun c => ri_i ?_, fun c => ?_⟩
      · rw [t_le] at c
        have ek : k = C.2.1.length := by omega
        rw [ea, ek]; exact h
      rw [t_le] at c
      have e1 : (i + 1).toInt = ((k + 1 : Nat) : Int) := by rw [t_add (by show _ ≤ _ + (1 : Int); omega) (by show _ + (1 : Int) ≤ _; omega), ei]; rfl
      have hk' : k < C.2.1.length := by omega
      have st := tst k hk'
      have no : ¬ P k = true → ((List.range (k + 1)).filter P).reverse = ((List.range k).filter P).reverse := fun z => by
        rw [List.range_succ, List.filter_append, List.filter_cons_of_neg (by exact z), List.filter_nil, List.append_nil]
      have yes : P k = true → ((List.range (k + 1)).filter P).reverse = k :: ((List.range k).filter P).reverse := fun z => by
        rw [List.range_succ, List.filter_append, List.filter_cons_of_pos (by exact z), List.filter_nil, List.reverse_append]
        rfl
      have ii : i = Int32.ofNat k := i32_of ei
      refine kp_get hq ho hM.1 hM.2.1 _ _ ei (show (3 : Int32).toInt = ((3 : Nat) : Int) from rfl) (by omega) (by omega) ⟨fun c3 => ih (k + 1) _ _ e1 (by omega) (by push_cast; omega) ?_, fun c3 => kp_get hq ho hM.1 hM.2.1 _ _ ei (show (5 : Int32).toInt = ((5 : Nat) : Int) from rfl) (by omega) (by omega) ⟨fun c5 => ih (k + 1) _ _ e1 (by omega) (by push_cast; omega) ?_, fun c5 => ih (k + 1) _ _ e1 (by omega) (by push_cast; omega) ?_⟩⟩
      · rw [no (fun z => c3 (st.mpr z).1)]; exact ea
      · rw [no (fun z => c5 (st.mpr z).2)]; exact ea
      · rw [yes (st.mp ⟨c3, c5⟩), kmN, ← ea, ii]
  exact kg_X5_waiters_0 hq ho _ (loop 6 0 _ _ rfl (by omega) (by omega) rfl)
end KMS
end
