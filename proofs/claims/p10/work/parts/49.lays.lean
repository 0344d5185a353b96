/-! laying statements and blocks -/
def QL (x x' : gd) (s c : Nat) : Prop := LQ x x' s (2 * s) ∧ KS x' ∧ (x.1 0 43).toInt ≤ (x'.1 0 43).toInt ∧ (x.1 0 48).toInt ≤ (x'.1 0 48).toInt ∧ (x'.1 0 48).toInt ≤ (x.1 0 48).toInt + c
def QLB (x x' : gd) (s c : Nat) : Prop := LQ x x' (s - 2) (2 * s) ∧ KS x' ∧ x'.1 0 43 = x.1 0 43 ∧ (x.1 0 48).toInt ≤ (x'.1 0 48).toInt ∧ (x'.1 0 48).toInt ≤ (x.1 0 48).toInt + c
def SpLS (k : Nat) : Prop := ∀ (G : mG) (D : Nat) (x : gd) (Fv : gd → Prop) (m : Int) (s c : Nat) (e blk : Int32), 2 * k + 710 ≤ D → s ≤ 700 → vS x m k s c e → PL x → KS x → (x.1 0 48).toInt + c ≤ 8 → (x.1 0 49).toInt + 2 * s ≤ 5980 → (x.1 0 52).toInt + s ≤ 1499 → (∀ x', QL x x' s c → Fv x') → MT G D z_layS 0 [(0, vr 0), (1, vi e), (2, vi blk)] [] x (rv Fv)
theorem QL_0 {x : gd} (p : PL x) (ks : KS x) : QL x x 0 0 := ⟨LQ_0 (LF_wr (md_w (md_rf x) (by decide) (by decide)) p.2.1), ks, by omega, by omega, by omega⟩
theorem QL_tr {x y z : gd} {s s' c c' : Nat} (a : QL x y s c) (b : QL y z s' c') : QL x z (s + s') (c + c') := by
  obtain ⟨a1, a2, a3, a4, a5⟩ := a
  obtain ⟨b1, b2, b3, b4, b5⟩ := b
  exact ⟨LQ_mono (by omega) (by omega) (LQ_tr a1 b1), b2, by omega, by omega, by omega⟩
theorem vS_LF {x y : gd} {n w : Nat} (f : LF x y n w) {m : Int} {k s c : Nat} {e : Int32} (q : vS x m k s c e) : vS y m k s c e := vS_keep (Int.le_refl _) (NN_NL m e.toInt (NN_LF f)) k s c e (Int.le_refl _) q
theorem ln_LF {x y : gd} {n w : Nat} (f : LF x y n w) {L : List (Int32 × Nat × Nat)} {e : Int32} (q : ln x e L) : ln y e L := by
  have nn := NN_LF f
  refine ln_keep (m := 0) (l := (x.1 0 13).toInt) (NN_NL 0 _ nn) L e (fun z hz => ?_) q
  exact ln_mem L e q z hz
theorem vB_LF {x y : gd} {n w : Nat} (f : LF x y n w) {m : Int} {k s c : Nat} {e : Int32} (q : vB x m (vS x m k) s c e) : vB y m (vS y m k) s c e := vB_keep (Int.le_refl _) (NN_NL m e.toInt (NN_LF f)) (fun _ _ _ he g => vS_keep (Int.le_refl _) (NN_NL m e.toInt (NN_LF f)) _ _ _ _ he g) (Int.le_refl _) q
theorem sp_layBlock (k : Nat) (ih : SpLS k) {G : mG} {D : Nat} {x : gd} {Fv : gd → Prop} {m : Int} {s c : Nat} {e : Int32} (hD : 2 * k + 711 ≤ D) (hs : s ≤ 700) (v : vB x m (vS x m k) s c e) (p : PL x) (ks : KS x) (hc : (x.1 0 48).toInt + c ≤ 8) (hw : (x.1 0 49).toInt + 2 * s ≤ 5980) (hn : (x.1 0 52).toInt + s ≤ 1499) (h : ∀ x', QLB x x' s c → Fv x') : MT G D z_layBlock 0 [(0, vr 0), (1, vi e)] [] x (rv Fv) := by
  obtain ⟨D, rfl⟩ : ∃ D', D = D' + 1 := ⟨D - 1, by omega⟩
  obtain ⟨v1, v2, v3, L, v4, v5, v6, v7⟩ := v
  have ev : vp_in e 3000 := by rw [vp_in_iff]; have := p.2.2.2.1; omega
  have loop : ∀ (L : List (Int32 × Nat × Nat)) (y : gd) (e4 b : Int32) (s1 c1 : Nat), QL x y s1 c1 → ln y e4 L → (∀ q ∈ L, vS y m k q.2.1 q.2.2 q.1) → s1 + sm (fun q => q.2.1) L + 2 ≤ s → c1 + sm (fun q => q.2.2) L ≤ c → MT G (D + 1) z_layBlock 28 [(0, vr 0), (2, vi (x.1 0 43)), (3, vi b), (4, vi e4)] [] y (rv Fv) := by
    intro L
    induction L with
    | nil =>
      intro y e4 b s1 c1 q l _ h1 h2
      have l : e4 = -1 := l
      have h1 : s1 + 0 + 2 ≤ s := h1
      have h2 : c1 + 0 ≤ c := h2
      refine sg_layBlock_28 _ _ _ ⟨fun _ z ez => rv_i (h z ?_), fun q => absurd l q⟩
      obtain ⟨q1, q2, q3, q4, q5⟩ := q
      have mz := md_f y 43 (x.1 0 43)
      rw [← ez] at mz
      have e43 : z.1 0 43 = x.1 0 43 := by rw [ez, si_get, if_pos ⟨rfl, rfl⟩]
      have e48 : z.1 0 48 = y.1 0 48 := mz.1 48 (by decide)
      have lf := LF_fr (md_w mz (by decide) (by decide)) q1.1.2.1
      refine ⟨LQ_mono (by omega) (by omega) (LQ_tr q1 (LQ_0 lf)), ?_, e43, by rw [e48]; exact q4, by rw [e48]; omega⟩
      obtain ⟨k1, k2, k3, k4⟩ := q2
      have := ks.1
      refine ⟨by rw [e43]; exact ks.1, by rw [e43, e48]; omega, by rw [e48]; exact k3, fun j hj => ?_⟩
      rw [e43] at hj
      rw [mz.2.1 45 (by decide) (by decide), mz.2.1 46 (by decide) (by decide)]
      exact k4 j (by omega)
    | cons a r ih2 =>
      intro y e4 b s1 c1 q l vs h1 h2
      obtain ⟨l1, l2, l3⟩ := l
      have h1 : s1 + (a.2.1 + sm (fun q => q.2.1) r) + 2 ≤ s := h1
      have h2 : c1 + (a.2.2 + sm (fun q => q.2.2) r) ≤ c := h2
      have nm : ¬ e4 = -1 := fun z => by rw [z] at l2; exact absurd l2.1 (by decide)
      have py := PL_LF p q.1.1 (KS_KB q.2.1)
      have a48 := q.2.2.2.2
      have a4 := q.1.1.2.2.2.1
      have a6 := q.1.1.2.2.2.2.2.1
      refine sg_layBlock_28 _ _ _ ⟨fun z => absurd z nm, fun _ => ih G D y _ m a.2.1 a.2.2 e4 b (by omega) (by omega) (by rw [l1]; exact vs a List.mem_cons_self) py q.2.1 (by omega) (by omega) (by omega) (fun z qz => ⟨by rw [vp_in_iff]; have := py.2.2.2.1; omega, ?_⟩)⟩
      have lf := qz.1.1
      have e20 : z.1 20 = y.1 20 := lf.1.2.1 20 (by decide) (by decide)
      rw [e20]
      exact ih2 z _ b (s1 + a.2.1) (c1 + a.2.2) (QL_tr q qz) (ln_LF lf l3) (fun q hq => vS_LF lf (vs q (List.mem_cons_of_mem _ hq))) (by omega) (by omega)
  refine sg_layBlock_0 _ (fun y ey => ⟨ev, ?_⟩)
  have my := md_f x 47 (x.1 0 47 + 1)
  rw [← ey] at my
  have lf := LF_fr (md_w my (by decide) (by decide)) p.2.1
  have e43 : y.1 0 43 = x.1 0 43 := my.1 43 (by decide)
  have e48 : y.1 0 48 = x.1 0 48 := my.1 48 (by decide)
  rw [my.2.1 16 (by decide) (by decide)]
  exact loop L y _ _ 0 0 ⟨LQ_mono (by omega) (by omega) (LQ_0 lf), KS_md my (by decide) (by decide) (by decide) (by decide) ks, by rw [e43]; omega, by rw [e48]; omega, by rw [e48]; omega⟩ (ln_LF lf v4) (fun q hq => vS_LF lf (v5 q hq).1) (by omega) (by omega)
/-- a statement of one step -/
theorem QL_1 {x z : gd} {s c w : Nat} (q : LQ x z 1 w) (m : md pL pA x z) (ks : KS x) (hw : w ≤ 2 * s) (hs : 2 ≤ s) : QL x z s c := by
  have e43 : z.1 0 43 = x.1 0 43 := m.1 43 (by decide)
  have e48 : z.1 0 48 = x.1 0 48 := m.1 48 (by decide)
  exact ⟨LQ_mono (by omega) hw q, KS_md m (by decide) (by decide) (by decide) (by decide) ks, by rw [e43]; omega, by rw [e48]; omega, by rw [e48]; omega⟩
