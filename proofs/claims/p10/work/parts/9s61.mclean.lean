/-! the model: what a thread's own steps leave, wholly -/
/-- which locals are known: the bits of a mask -/
theorem or_sr (a b j : Int32) : ((a ||| b) >>> j) &&& 1 = ((a >>> j) &&& 1) ||| ((b >>> j) &&& 1) := by
  apply Int32.toBitVec_inj.1
  simp only [Int32.toBitVec_and, Int32.toBitVec_or, Int32.toBitVec_shiftRight, BitVec.sshiftRight_eq', BitVec.sshiftRight_or_distrib]
  ext i hi
  simp [Bool.and_or_distrib_right]
theorem km_1 : ∀ s, s < 8 → ∀ k, k < 8 → (((1 : Int32) <<< (Int32.ofNat s &&& 31)) >>> (Int32.ofNat k &&& 31)) &&& 1 = if k = s then 1 else 0 := by decide +kernel
theorem km_0 : ∀ k, k < 8 → ((0 : Int32) >>> (Int32.ofNat k &&& 31)) &&& 1 = 0 := by decide +kernel
theorem km_bit : ∀ {sl : List Nat}, (∀ s ∈ sl, s < 8) → ∀ k, k < 8 → (kmN sl >>> (Int32.ofNat k &&& 31)) &&& 1 = if k ∈ sl then 1 else 0 := by
  intro sl
  induction sl with
  | nil => intro _ k hk; rw [if_neg (by simp)]; exact km_0 k hk
  | cons s r ih =>
    intro h k hk
    rw [kmN, or_sr, ih (fun s hs => h s (List.mem_cons_of_mem _ hs)) k hk, km_1 s (h s List.mem_cons_self) k hk]
    by_cases c1 : k = s
    · rw [if_pos c1, if_pos (show k ∈ s :: r by rw [c1]; exact List.mem_cons_self)]
      by_cases c2 : k ∈ r
      · rw [if_pos c2]; decide
      · rw [if_neg c2]; decide
    · rw [if_neg c1]
      by_cases c2 : k ∈ r
      · rw [if_pos c2, if_pos (List.mem_cons_of_mem _ c2)]; decide
      · rw [if_neg c2, if_neg (fun z => (List.mem_cons.mp z).elim c1 c2)]; decide
def th3 (t : Nat) (x x' : gd) : Prop := md hL hA x x' ∧ (∀ c j : Nat, (c = 73 ∨ c = 74 ∨ c = 75 ∨ c = 77 ∨ c = 78) → ¬ j = t → x'.1 c j = x.1 c j) ∧ ∀ j : Nat, ¬ (8 * t ≤ j ∧ j < 8 * t + 8) → x'.1 76 j = x.1 76 j
theorem th3_th {t : Nat} {x x' : gd} (h : th3 t x x') : th t x x' := ⟨h.1, fun c j hc hj => h.2.1 c j (by omega) hj⟩
theorem th3_rf (t : Nat) (x : gd) : th3 t x x := ⟨md_w (md_rf x) (by decide) (by decide), fun _ _ _ _ => rfl, fun _ _ => rfl⟩
theorem th3_tr {t : Nat} {x y z : gd} (a : th3 t x y) (b : th3 t y z) : th3 t x z := ⟨md_tr a.1 b.1 rfl rfl, fun c j h1 h2 => (b.2.1 c j h1 h2).trans (a.2.1 c j h1 h2), fun j h => (b.2.2 j h).trans (a.2.2 j h)⟩
theorem th3_si {t c : Nat} (h : c ∈ [73, 74, 75, 77, 78]) (x : gd) (v : Int32) : th3 t x (si x c t v) := by
  refine ⟨(th_si h x v).1, fun c' j _ hj => si_ne c' j hj, fun j _ => ?_⟩
  rw [si_cell (fun e => by rw [← e] at h; exact absurd h (by decide))]
theorem th3_md {t : Nat} {L A : List Nat} {x x' : gd} (h : md L A x x') (h1 : L.all (hL.elem ·) = true) (h2 : A.all ([84].elem ·) = true) : th3 t x x' := by
  have g : ∀ k ∈ A, k ∈ [84] := fun k hk => List.elem_iff.mp (List.all_eq_true.mp h2 k hk)
  refine ⟨md_w h (fun k hk => List.elem_iff.mp (List.all_eq_true.mp h1 k hk)) (fun k hk => by have := g k hk; simp at this ⊢; omega), fun c j hc _ => ?_, fun j _ => ?_⟩
  · rw [h.2.1 c (by omega) (fun q => by have := g c q; simp at this; omega)]
  · rw [h.2.1 76 (by decide) (fun q => by have := g 76 q; simp at this)]
theorem th3_76 {t i : Nat} (h : 8 * t ≤ i ∧ i < 8 * t + 8) (x : gd) (v : Int32) : th3 t x (si x 76 i v) := by
  refine ⟨md_w (md_a x 76 i v (by decide)) (fun i hi => nomatch hi) (fun i hi => by rw [List.mem_singleton.mp hi]; decide), fun c j hc _ => ?_, fun j hj => ?_⟩
  · rw [si_cell (by omega)]
  · rw [si_get, if_neg (fun z => hj (by rw [z.2]; exact h))]
section DSL
variable {d : Nat} {S : gS} {x : gd} {F : Int32 → gd → gS → Prop} {Fv : gd → gS → Prop} {C : gCo}
theorem ds_fail3 (t n : Int32) (ht : vp_in t 6) (h : ∀ x', th3 t.toNatClampNeg x x' → x'.1 73 t.toNatClampNeg = 3 → x'.1 74 t.toNatClampNeg = x.1 74 t.toNatClampNeg → x'.1 77 t.toNatClampNeg = 0 → x'.1 75 t.toNatClampNeg = n → x'.1 78 t.toNatClampNeg = 0 → x'.1 76 = x.1 76 → Fv x' S) : MD d z_failThread 0 [(0, vr 0), (1, vi t), (2, vi n)] [] S x (Dv Fv) := by
  refine sd_failThread_0 _ _ ⟨ht, fun x2 e2 => ⟨ht, fun x4 e4 => ⟨ht, fun x6 e6 => ⟨ht, fun x8 e8 => Dv_i (h x8 ?_ ?_ ?_ ?_ ?_ ?_ ?_)⟩⟩⟩⟩
  · rw [e8, e6, e4, e2]
    exact th3_tr (th3_tr (th3_tr (th3_si (by decide) _ _) (th3_si (by decide) _ _)) (th3_si (by decide) _ _)) (th3_si (by decide) _ _)
  · rw [e8, si_cell (by decide), e6, si_cell (by decide), e4, si_cell (by decide), e2, si_get, if_pos ⟨rfl, rfl⟩]
  · rw [e8, si_cell (by decide), e6, si_cell (by decide), e4, si_cell (by decide), e2, si_cell (by decide)]
  · rw [e8, si_cell (by decide), e6, si_get, if_pos ⟨rfl, rfl⟩]
  · rw [e8, si_cell (by decide), e6, si_cell (by decide), e4, si_get, if_pos ⟨rfl, rfl⟩]
  · rw [e8, si_get, if_pos ⟨rfl, rfl⟩]
  · rw [e8, si_cell (by decide), e6, si_cell (by decide), e4, si_cell (by decide), e2, si_cell (by decide)]
theorem ds_clean3 (t : Int32) (ht : vp_in t 6) (ha : 0 ≤ (x.1 74 t.toNatClampNeg).toInt ∧ (x.1 74 t.toNatClampNeg).toInt < 1500) {sl : List Nat} (h8 : ∀ s ∈ sl, s < 8) (hm : x.1 73 t.toNatClampNeg = 1 ∨ x.1 73 t.toNatClampNeg = 3 → x.1 62 (x.1 74 t.toNatClampNeg).toNatClampNeg = kmN sl) (h : ∀ x', th3 t.toNatClampNeg x x' → x'.1 73 = x.1 73 → x'.1 75 = x.1 75 → x'.1 77 = x.1 77 → x'.1 78 = x.1 78 → (¬ (x.1 73 t.toNatClampNeg = 0 ∨ x.1 73 t.toNatClampNeg = 2) → x'.1 74 = x.1 74) → (x.1 73 t.toNatClampNeg = 0 ∨ x.1 73 t.toNatClampNeg = 2 → x'.1 74 t.toNatClampNeg = 0) → (∀ s, s < 8 → x'.1 76 (8 * t.toNatClampNeg + s) = if (x.1 73 t.toNatClampNeg = 1 ∨ x.1 73 t.toNatClampNeg = 3) ∧ s ∈ sl then x.1 76 (8 * t.toNatClampNeg + s) else 0) → Fv x' S) : MD d z_clean 0 [(0, vr 0), (1, vi t)] [] S x (Dv Fv) := by
  have k1 : (1 : Int32).toInt = 1 := rfl
  have k8 : (8 : Int32).toInt = 8 := rfl
  have tv := vp_in_iff.mp ht
  obtain ⟨T, eT⟩ : ∃ T, T = t.toNatClampNeg := ⟨_, rfl⟩
  have tT : t.toInt = (T : Nat) := by rw [eT, t_cl]; omega
  rw [← eT] at ha hm h
  have m1 : (8 * t).toInt = 8 * t.toInt := by rw [t_mul (by rw [k8]; omega) (by rw [k8]; omega), k8]
  have loop : ∀ (n : Nat) (y : gd) (m i : Int32), (∀ s, s < 8 → (¬ (m >>> (Int32.ofNat s &&& 31)) &&& 1 = 0 ↔ (x.1 73 T = 1 ∨ x.1 73 T = 3) ∧ s ∈ sl)) → md [] [76] x y → th3 T x y → 0 ≤ i.toInt → 8 - i.toInt ≤ n → (∀ s, s < 8 → y.1 76 (8 * T + s) = if (s : Int) < i.toInt ∧ ¬ ((x.1 73 T = 1 ∨ x.1 73 T = 3) ∧ s ∈ sl) then 0 else x.1 76 (8 * T + s)) → MD d z_clean 38 [(0, vr 0), (1, vi t), (2, vi m), (3, vi i)] [] S y (Dv Fv) := by
    have last : ∀ y : gd, md [] [76] x y → th3 T x y → (∀ s, s < 8 → y.1 76 (8 * T + s) = if (x.1 73 T = 1 ∨ x.1 73 T = 3) ∧ s ∈ sl then x.1 76 (8 * T + s) else 0) → vp_in t 6 ∧ (((y.1 73 t.toNatClampNeg) = (0 : Int32) → vp_in t 6 ∧ (∀ x5 : gd, x5 = si y 74 t.toNatClampNeg 0 → Dv Fv none x5 S)) ∧ (¬ ((y.1 73 t.toNatClampNeg) = (0 : Int32)) → vp_in t 6 ∧ ((¬ ((y.1 73 t.toNatClampNeg) = (2 : Int32)) → Dv Fv none y S) ∧ ((y.1 73 t.toNatClampNeg) = (2 : Int32) → vp_in t 6 ∧ (∀ x9 : gd, x9 = si y 74 t.toNatClampNeg 0 → Dv Fv none x9 S))))) := by
      intro y my ty hl
      have e73 : y.1 73 = x.1 73 := my.2.1 73 (by decide) (by decide)
      have e74 : y.1 74 = x.1 74 := my.2.1 74 (by decide) (by decide)
      have e75 : y.1 75 = x.1 75 := my.2.1 75 (by decide) (by decide)
      have e77 : y.1 77 = x.1 77 := my.2.1 77 (by decide) (by decide)
      have e78 : y.1 78 = x.1 78 := my.2.1 78 (by decide) (by decide)
      have z0 : x.1 73 T = 0 ∨ x.1 73 T = 2 → ∀ x5 : gd, x5 = si y 74 T 0 → Dv Fv none x5 S := by
        intro q x5 e5
        refine Dv_i (h x5 ?_ ?_ ?_ ?_ ?_ (fun c => absurd q c) (fun _ => ?_) (fun s hs => ?_))
        · rw [e5]; exact th3_tr ty (th3_si (by decide) _ _)
        · rw [e5, si_cell (by decide), e73]
        · rw [e5, si_cell (by decide), e75]
        · rw [e5, si_cell (by decide), e77]
        · rw [e5, si_cell (by decide), e78]
        · rw [e5, si_get, if_pos ⟨rfl, rfl⟩]
        · rw [e5, si_cell (by decide)]; exact hl s hs
      rw [e73, ← eT]
      exact ⟨ht, fun c => ⟨ht, z0 (Or.inl c)⟩, fun c0 => ⟨ht, fun c2 => Dv_i (h y ty e73 e75 e77 e78 (fun _ => e74) (fun c => absurd c (fun z => z.elim c0 c2)) hl), fun c => ⟨ht, z0 (Or.inr c)⟩⟩⟩
    have lastI : ∀ (y : gd) (i : Int32), 8 ≤ i.toInt → (∀ s, s < 8 → y.1 76 (8 * T + s) = if (s : Int) < i.toInt ∧ ¬ ((x.1 73 T = 1 ∨ x.1 73 T = 3) ∧ s ∈ sl) then 0 else x.1 76 (8 * T + s)) → ∀ s, s < 8 → y.1 76 (8 * T + s) = if (x.1 73 T = 1 ∨ x.1 73 T = 3) ∧ s ∈ sl then x.1 76 (8 * T + s) else 0 := fun y i hi hl s hs => by
      rw [hl s hs]
      by_cases c : (x.1 73 T = 1 ∨ x.1 73 T = 3) ∧ s ∈ sl
      · rw [if_pos c, if_neg (fun z => z.2 c)]
      · rw [if_neg c, if_pos ⟨by omega, c⟩]
    intro n
    induction n with
    | zero =>
      intro y m i hb my ty i0 hi hl
      exact sd_clean_38 _ _ _ ⟨fun _ => last y my ty (lastI y i (by omega) hl), fun c => absurd (t_le.mpr (by rw [k8]; omega)) c⟩
    | succ n ih =>
      intro y m i hb my ty i0 hi hl
      refine sd_clean_38 _ _ _ ⟨fun c => last y my ty (lastI y i (by rw [t_le, k8] at c; exact c) hl), fun c => ?_⟩
      rw [t_le, k8] at c
      have i1 : (i + 1).toInt = i.toInt + 1 := by rw [t_add (by omega) (by omega), k1]
      have ei : i = Int32.ofNat i.toInt.toNat := i32_of (by omega)
      have hbi := hb i.toInt.toNat (by omega)
      rw [← ei] at hbi
      have es : (8 * t + i).toNatClampNeg = 8 * T + i.toInt.toNat := by rw [t_cl, t_add (by omega) (by omega), m1]; omega
      refine ⟨fun cb => ih y m (i + 1) hb my ty (by omega) (by omega) (fun s hs => ?_), fun cb => ⟨?_, fun y2 e2 => ?_⟩⟩
      · rw [hl s hs]
        have hB := hbi.mp cb
        by_cases e : s = i.toInt.toNat
        · rw [e, if_neg (fun z => z.2 hB), if_neg (fun z => z.2 hB)]
        · by_cases c9 : (s : Int) < i.toInt
          · by_cases c8 : (x.1 73 T = 1 ∨ x.1 73 T = 3) ∧ s ∈ sl
            · rw [if_neg (fun z => z.2 c8), if_neg (fun z => z.2 c8)]
            · rw [if_pos ⟨c9, c8⟩, if_pos ⟨by omega, c8⟩]
          · rw [if_neg (fun z => c9 z.1), if_neg (fun z => by have := z.1; omega)]
      · rw [vp_in_iff, t_add (by omega) (by omega), m1]; omega
      · rw [es] at e2
        have m2 := md_a y 76 (8 * T + i.toInt.toNat) 0 (by decide)
        rw [← e2] at m2
        have hB : ¬ ((x.1 73 T = 1 ∨ x.1 73 T = 3) ∧ i.toInt.toNat ∈ sl) := fun z => hbi.mpr z cb
        refine ih y2 m (i + 1) hb (md_tr my m2 rfl rfl) (th3_tr ty (by rw [e2]; exact th3_76 (by omega) _ _)) (by omega) (by omega) (fun s hs => ?_)
        rw [e2, si_get]
        by_cases e : s = i.toInt.toNat
        · rw [e, if_pos ⟨rfl, rfl⟩, if_pos ⟨by omega, hB⟩]
        · rw [if_neg (fun z => by have := z.2; omega), hl s hs]
          by_cases c8 : (x.1 73 T = 1 ∨ x.1 73 T = 3) ∧ s ∈ sl
          · rw [if_neg (fun z => z.2 c8), if_neg (fun z => z.2 c8)]
          · by_cases c9 : (s : Int) < i.toInt
            · rw [if_pos ⟨c9, c8⟩, if_pos ⟨by omega, c8⟩]
            · rw [if_neg (fun z => c9 z.1), if_neg (fun z => by have := z.1; omega)]
  have go : ∀ m : Int32, (∀ s, s < 8 → (¬ (m >>> (Int32.ofNat s &&& 31)) &&& 1 = 0 ↔ (x.1 73 T = 1 ∨ x.1 73 T = 3) ∧ s ∈ sl)) → MD d z_clean 38 [(0, vr 0), (1, vi t), (2, vi m), (3, vi 0)] [] S x (Dv Fv) := fun m hb => loop 8 x m 0 hb (md_w (md_rf x) (by decide) (by decide)) (th3_rf T x) (by decide) (by decide) (fun s hs => by
    rw [if_neg (fun z => by have := z.1; rw [show (0 : Int32).toInt = 0 from rfl] at this; omega)])
  have g20 : x.1 73 T = 1 ∨ x.1 73 T = 3 → MD d z_clean 20 [(0, vr 0), (1, vi t)] [] S x (Dv Fv) := fun c => sd_clean_20 _ ⟨ht, by rw [← eT, vp_in_iff]; omega, go _ (fun s hs => by
    rw [← eT, hm c, km_bit h8 s hs]
    by_cases e : s ∈ sl
    · rw [if_pos e]; exact ⟨fun _ => ⟨c, e⟩, fun _ => by decide⟩
    · rw [if_neg e]; exact ⟨fun z => absurd rfl z, fun z => absurd z.2 e⟩)⟩
  refine sd_clean_0 _ ⟨ht, fun c => g20 (by rw [← eT] at c; exact Or.inl c), fun c1 => ⟨ht, fun c3 => go _ (fun s hs => ?_), fun c => g20 (by rw [← eT] at c; exact Or.inr c)⟩⟩
  rw [← eT] at c1 c3
  rw [km_0 s hs]
  exact ⟨fun z => absurd rfl z, fun z => absurd z.1 (fun q => q.elim c1 c3)⟩
end DSL
