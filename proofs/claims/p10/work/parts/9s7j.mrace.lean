/-! the model: sorts, races, findings noted -/
def FAm (z y : gd) (W : Nat) (s : Int32) (D : Nat → Prop) : Prop := ∀ f, f < 11 → (D f ∧ z.1 126 (11 * W + f) = -1 ∧ y.1 126 (11 * W + f) = s) ∨ (¬ (D f ∧ z.1 126 (11 * W + f) = -1) ∧ y.1 126 (11 * W + f) = z.1 126 (11 * W + f))
section MRC
variable {G : mG} {d D : Nat} {x z a y y' : gd} {F : Int32 → gd → Prop} {Fv : gd → Prop} {C : gCo} {M : gMa} {w W n m : Nat} {s : Int32} {E E' : Nat → Prop}
theorem FAm_f (e : y'.1 126 = y.1 126) (h : FAm z y W s E) : FAm z y' W s E := fun f hf => by rw [e]; exact h f hf
theorem FAm_c (e : ∀ f, f < 11 → (E f ↔ E' f)) (h : FAm z y W s E) : FAm z y W s E' := fun f hf => by rw [← e f hf]; exact h f hf
theorem FAm_more (hm : n ≤ m) (hn : ∀ f, n ≤ f → f < m → ¬ fnM C w M f) (h : FAm z y W s (fD C w M n)) : FAm z y W s (fD C w M m) := FAm_c (fun f _ => ⟨fun z => ⟨by have := z.1; omega, z.2⟩, fun z => ⟨by
  apply Classical.byContradiction
  intro c
  exact hn f (by omega) z.1 z.2, z.2⟩⟩) h
/-- a finding is noted, whether it was before or not -/
theorem FAm_find (hs : 0 ≤ s.toInt) (hn : n < 11) (e : ∀ k, ¬ k = 11 * W + n → y'.1 126 k = y.1 126 k) (e1 : y.1 126 (11 * W + n) = -1 → y'.1 126 (11 * W + n) = s) (e2 : ¬ y.1 126 (11 * W + n) = -1 → y'.1 126 (11 * W + n) = y.1 126 (11 * W + n)) (h : FAm z y W s E) : FAm z y' W s (fun f => E f ∨ f = n) := by
  intro f hf9
  by_cases c : f = n
  · rw [c]
    rcases h n hn with ⟨a1, a2, a3⟩ | ⟨a1, a2⟩
    · refine Or.inl ⟨Or.inr rfl, a2, ?_⟩
      rw [e2 (fun q => by rw [a3] at q; rw [q, tm1] at hs; omega)]; exact a3
    · by_cases c9 : z.1 126 (11 * W + n) = -1
      · exact Or.inl ⟨Or.inr rfl, c9, e1 (by rw [a2]; exact c9)⟩
      · exact Or.inr ⟨fun q => c9 q.2, by rw [e2 (by rw [a2]; exact c9)]; exact a2⟩
  · rw [e _ (by omega)]
    have hD : (fun f => E f ∨ f = n) f ↔ E f := ⟨fun q => q.resolve_right c, Or.inl⟩
    rw [hD]; exact h f hf9
theorem fD_up (hf : fnM C w M n) (f : Nat) : (fD C w M n f ∨ f = n) ↔ fD C w M (n + 1) f := by
  constructor
  · rintro (q | q)
    · exact ⟨by have := q.1; omega, q.2⟩
    · exact ⟨by omega, by rw [q]; exact hf⟩
  · intro q
    by_cases c : f = n
    · exact Or.inr c
    · exact Or.inl ⟨by have := q.1; omega, q.2⟩
theorem sp_find3 (w f s : Int32) (wv : vp_in w 2) {f9 : Nat} (ef : f.toInt = (f9 : Nat)) (f1 : f9 < 11) {M : Int} (s0 : 0 ≤ s.toInt) (s1 : s.toInt < M) (hf : fnd z w.toNatClampNeg M) (h : ∀ z', md [] [126] z z' → ow w.toNatClampNeg z z' → fnd z' w.toNatClampNeg M → (∀ k, ¬ k = 11 * w.toNatClampNeg + f9 → z'.1 126 k = z.1 126 k) → (z.1 126 (11 * w.toNatClampNeg + f9) = -1 → z'.1 126 (11 * w.toNatClampNeg + f9) = s) → (¬ z.1 126 (11 * w.toNatClampNeg + f9) = -1 → z'.1 126 (11 * w.toNatClampNeg + f9) = z.1 126 (11 * w.toNatClampNeg + f9)) → Fv z') : MT G d z_find 0 [(0, vr 0), (1, vi w), (2, vi f), (3, vi s)] [] z (rv Fv) := by
  obtain ⟨v, e⟩ := t11 wv (f := f) (by omega) (by omega)
  have cf : f.toNatClampNeg = f9 := by rw [t_cl, ef]; rfl
  rw [cf] at e
  refine sg_find_0 _ _ _ ⟨v, fun c => rv_i (h z (md_w (md_rf z) (by decide) (by decide)) (ow_mi (L := []) (A := []) ⟨fun _ _ => rfl, fun _ _ _ => rfl⟩ rfl) hf (fun _ _ => rfl) (fun c2 => absurd (by rw [e]; exact c2) c) (fun _ => rfl)), fun c => ⟨v, fun y ey => ?_⟩⟩
  rw [e] at ey c
  have m := md_a z 126 (11 * w.toNatClampNeg + f9) s (by decide)
  rw [← ey] at m
  refine rv_i (h y m ?_ (fun g hg => ?_) (fun k hk => by rw [ey, si_get, if_neg (fun q => hk q.2)]) (fun _ => by rw [ey, si_get, if_pos ⟨rfl, rfl⟩]) (fun c2 => absurd c c2))
  · rw [ey]
    exact ow_si (vp_lt wv) (Or.inr (Or.inl ⟨rfl, _, f1, rfl⟩))
  · rw [ey, si_get]
    by_cases q : (126 : Nat) = 126 ∧ 11 * w.toNatClampNeg + g = 11 * w.toNatClampNeg + f9
    · rw [if_pos q]; exact Or.inr ⟨s0, s1⟩
    · rw [if_neg q]; exact hf g hg
theorem sp_isAtomic3 {k : Nat} (hk : k < 22) (h : ∀ r : Int32, (¬ r = 0 ↔ 2 ≤ k ∧ k ≤ 4) → F r x) : MT G d z_isAtomic 0 [(0, vr 0), (1, vi (Int32.ofNat k))] [] x (ri F) := by
  have k1 : ¬ (1 : Int32) = 0 := by decide
  have e : ∀ n, n < 22 → ((Int32.ofNat n = 2 ↔ n = 2) ∧ (Int32.ofNat n = 3 ↔ n = 3) ∧ (Int32.ofNat n = 4 ↔ n = 4)) := by decide +kernel
  obtain ⟨e2, e3, e4⟩ := e k hk
  refine sg_isAtomic_0 _ ⟨fun c => ri_i (h _ ⟨fun _ => by have := e2.mp c; omega, fun _ => k1⟩), fun c2 => ⟨fun c => ri_i (h _ ⟨fun _ => by have := e3.mp c; omega, fun _ => k1⟩), fun c3 => ⟨fun c4 => ri_i (h _ ⟨fun q => absurd rfl q, fun q => ?_⟩), fun c => ri_i (h _ ⟨fun _ => by have := e4.mp c; omega, fun _ => k1⟩)⟩⟩⟩
  exfalso
  rw [e2] at c2
  rw [e3] at c3
  rw [e4] at c4
  omega
theorem sp_mayRace3 {k l : Nat} (hk : k < 22) (hl : l < 22) (h : ∀ r : Int32, (¬ r = 0 ↔ k ≤ 4 ∧ l ≤ 4 ∧ srM k l) → F r x) : MT G (d + 1) z_mayRace 0 [(0, vr 0), (1, vi (Int32.ofNat k)), (2, vi (Int32.ofNat l))] [] x (ri F) := by
  have k1 : ¬ (1 : Int32) = 0 := by decide
  have ek : (Int32.ofNat k).toInt = (k : Nat) := Int32.toInt_ofNat_of_lt (by omega)
  have el : (Int32.ofNat l).toInt = (l : Nat) := Int32.toInt_ofNat_of_lt (by omega)
  have z0 : ∀ n, n < 22 → (Int32.ofNat n = 0 ↔ n = 0) := by decide +kernel
  have p24 : k ≤ 4 → l ≤ 4 → ¬ (k = 0 ∧ l = 0) → MT G (d + 1) z_mayRace 24 [(0, vr 0), (1, vi (Int32.ofNat k)), (2, vi (Int32.ofNat l))] [] x (ri F) := fun a1 a2 a3 => sg_mayRace_24 _ _ (sp_isAtomic3 hk (fun r hr => ⟨fun r0 => ri_i (h _ ⟨fun _ => ⟨a1, a2, a3, fun q => hr.mpr ⟨q.1, a1⟩ r0⟩, fun _ => k1⟩), fun rn => sp_isAtomic3 hl (fun r2 hr2 => ⟨fun n2 => ri_i (h _ ⟨fun q => absurd rfl q, fun q => absurd ⟨(hr.mp rn).1, (hr2.mp n2).1⟩ q.2.2.2⟩), fun e2 => ri_i (h _ ⟨fun _ => ⟨a1, a2, a3, fun q => hr2.mpr ⟨q.2, a2⟩ e2⟩, fun _ => k1⟩)⟩)⟩))
  refine sg_mayRace_0 _ _ (sp_isAccess _ (fun c => ⟨fun _ => ri_i (h _ ⟨fun q => absurd rfl q, fun q => absurd q.1 (fun q2 => c (by omega))⟩), fun q => absurd rfl q⟩) (fun c1 => ⟨fun q => absurd q (by decide), fun _ => sp_isAccess _ (fun c => ⟨fun _ => ri_i (h _ ⟨fun q => absurd rfl q, fun q => absurd q.2.1 (fun q2 => c (by omega))⟩), fun q => absurd rfl q⟩) (fun c2 => ⟨fun q => absurd q (by decide), fun _ => ⟨fun n0 => p24 (by omega) (by omega) (fun q => n0 ((z0 k hk).mpr q.1)), fun e0 => ⟨fun e3 => ri_i (h _ ⟨fun q => absurd rfl q, fun q => absurd ⟨(z0 k hk).mp e0, (z0 l hl).mp e3⟩ q.2.2.1⟩), fun n3 => p24 (by omega) (by omega) (fun q => n3 ((z0 l hl).mpr q.2))⟩⟩⟩)⟩))
theorem srt_so {t : Nat} (hN : NC C) (am : AM C w M a) (ht : t < 6) (h1 : a.1 73 t = 1) (h2 : ¬ a.1 77 t = 1) : srt a t = Int32.ofNat (soM C (M.2.2 t)) ∧ soM C (M.2.2 t) < 22 := by
  obtain ⟨av, hK, hM, hI, wy, -⟩ := am
  obtain ⟨kv, kn, so, -⟩ := RI_step av.1 ht h1
  obtain ⟨m73, l73, m75, m74, m77, l77, -⟩ := hM.2.2 t ht
  have kK : (a.1 74 t).toNatClampNeg = (M.2.2 t).2.2.1 := by rw [t_cl, m74]; rfl
  have l52 : (a.1 0 52).toInt = C.1.length := hK.1.1
  obtain ⟨st, hst⟩ : ∃ st, C.1[(M.2.2 t).2.2.1]? = some st := ⟨_, List.getElem?_eq_getElem (by omega)⟩
  have esN := stN_is hst
  obtain ⟨k54, k55, -⟩ := hK.1.2 _ st hst
  have ns := hN.1 _ st hst
  have o16 : st.1 < 16 := by
    have b := ((av.1.2 t ht).1.2.2 h1).2
    rw [kK, k54] at b
    exact (mWh_i st.1 ns.1.1).1.mp b
  obtain ⟨w2, w1', w0'⟩ := wai_2 _ (show (M.2.2 t).2.2.2.1 < 3 by omega)
  rw [← m77] at w2 w1' w0'
  unfold srt soM
  rw [esN]
  by_cases c9 : a.1 77 t = 2
  · rw [if_pos c9, if_neg (by have := w2.mp c9; omega)]
    exact ⟨rfl, by decide⟩
  · have z0 : (M.2.2 t).2.2.2.1 = 0 := by
      have a1 : ¬ (M.2.2 t).2.2.2.1 = 2 := fun z => c9 (w2.mpr z)
      have a2 : ¬ (M.2.2 t).2.2.2.1 = 1 := fun z => h2 (w1'.mpr z)
      omega
    rw [if_neg c9, if_pos z0, kK]
    exact ⟨k55 o16, by omega⟩
end MRC
