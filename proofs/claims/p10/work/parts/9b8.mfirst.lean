/-! the model: how a run begins, and its first choices -/
def finT (y : gd) (t : Nat) (r : gTr) : Prop := y.1 73 t = Int32.ofNat r.1 ∧ (r.1 = 1 → (y.1 74 t).toInt = (r.2.2.1 : Nat)) ∧ r.1 ≤ 3
def FMs (C : gCo) (f : Nat → gTr) (y : gd) : Prop := fstS C f ∧ (∀ t, t < C.2.1.length → finT y t (f t)) ∧ (∀ t, t < 6 → y.1 77 t = 0 ∧ y.1 80 t = 0) ∧ ∀ l, l < 6 → y.1 71 l = -1
/-- how many choices there are at first -/
def bgM (C : gCo) (r : Int32) : Prop := ∃ f, fstS C f ∧ r.toInt = (chN C f C.2.1.length : Nat)
theorem MK_f {w w' : gd} {C : gCo} (h : MK w C) (fL : ∀ k ∈ mfL, w'.1 0 k = w.1 0 k) (fA : ∀ c ∈ mfA, w'.1 c = w.1 c) : MK w' C := by
  have su : ∀ {r : Int32} {P : List (Int32 × Int32)}, SUm w r P → SUm w' r P := fun h => SUm_f h (fL 49 (by decide)) (fA 51 (by decide)) (fA 52 (by decide))
  have ns : ∀ {sl : List Nat} {v : Int32} {o : Option (List gQ)}, mNs w sl v o → mNs w' sl v o := fun {sl v o} h => by
    cases o with
    | none => exact h
    | some Q => exact su h
  obtain ⟨⟨a1, a2⟩, b, c, d, e⟩ := h
  refine ⟨⟨by rw [fL 52 (by decide)]; exact a1, fun j st hj => ?_⟩, by rw [fL 25 (by decide), fA 64 (by decide), fA 38 (by decide)]; exact b, by rw [fL 23 (by decide), fA 36 (by decide), fA 37 (by decide)]; exact c, fun k Q hQ => by rw [fA 65 (by decide)]; exact su (d k Q hQ), fun k Q hQ => by rw [fA 66 (by decide)]; exact su (e k Q hQ)⟩
  obtain ⟨g1, g2, g3, g4, g5, g6, g7, g8, g9⟩ := a2 j st hj
  unfold mN
  rw [fA 54 (by decide), fA 55 (by decide), fA 56 (by decide), fA 57 (by decide), fA 58 (by decide), fA 59 (by decide), fA 60 (by decide), fA 61 (by decide), fA 62 (by decide)]
  exact ⟨g1, g2, g3, g4, ns g5, ns g6, ns g7, g8, g9⟩
theorem MK_md {w w' : gd} {C : gCo} {L A : List Nat} (m : md L A w w') (hL : mfL.all (fun k => !L.elem k) = true) (hA : mfA.all (fun k => !A.elem k) = true) (h : MK w C) : MK w' C := MK_f h (fun k hk => m.1 k (all_no hL k hk)) (fun c hc => m.2.1 c (mfA_0 c hc) (all_no hA c hc))
section DFS
variable {d : Nat} {S : gS} {x : gd} {F : Int32 → gd → gS → Prop} {Fv : gd → gS → Prop} {C : gCo} {f : Nat → gTr}
theorem ds_setTailf (cp : CP x) (i4 : ∀ j : Nat, j < 6 → iniT x j) (i3 : ∀ j : Nat, j < 6 → iniL x j) (hK : MK x C) (hN : NC C) (h : ∀ y S1, RI y S1 → (∃ f, FMs C f y) → Fv y S1) : MD 4 z_setFirst 157 [(0, vr 0), (1, vi 0)] [] S x (Dv Fv) := by
  have k0 : (0 : Int32).toInt = 0 := rfl
  have k1 : (1 : Int32).toInt = 1 := rfl
  have b25 := cp.1.2.2.2.2.2.1
  have nT : (x.1 0 25).toInt = C.2.1.length := hK.2.1.1
  have fin : ∀ (y : gd) (S1 : gS) (t : Int32), 0 ≤ t.toInt → RI y S1 → md hL hA x y → (∀ t', t' < 6 → y.1 77 t' = 0) → (∃ f : Nat → gTr, ∀ t' q, t' < t.toNatClampNeg → C.2.1[t']? = some q → fst1 C t' q (f t') ∧ finT y t' (f t')) → (x.1 0 25).toInt ≤ t.toInt → Fv y S1 := by
    intro y S1 t t0 ry my h77 hf hle
    have ct := cl_i t0
    obtain ⟨f, hf⟩ := hf
    refine h y S1 ry ⟨f, fun t' q hq => (hf t' q (by have := gt_lt hq; omega) hq).1, fun t' ht' => (hf t' _ (by omega) (List.getElem?_eq_getElem ht')).2, fun t' ht' => ⟨h77 t' ht', ?_⟩, fun l hl => ?_⟩
    · rw [my.2.1 80 (by decide) (by decide)]; exact (i4 t' ht').2.2.2.2.2.2
    · rw [my.2.1 71 (by decide) (by decide)]; exact (i3 l hl).1
  have ri0 : RI x S := by
    refine ⟨cp, fun t ht => ?_⟩
    obtain ⟨a1, a2, a3, a4, a5, a6, a7⟩ := i4 t ht
    refine ⟨⟨by rw [a2]; decide, by rw [a2]; decide, fun q => by rw [a1] at q; exact absurd q (by decide)⟩, Or.inl a4, by rw [a7]; decide, by rw [a7]; decide, fun k hk => ?_⟩
    rw [a7, k0] at hk; omega
  have loop : ∀ (n : Nat) (y : gd) (S1 : gS) (t : Int32), 0 ≤ t.toInt → (x.1 0 25).toInt - t.toInt ≤ n → y.1 0 25 = x.1 0 25 → RI y S1 → (∀ t' : Nat, t.toInt ≤ (t' : Int) → t' < 6 → y.1 73 t' = 0) → md hL hA x y → (∀ t', t' < 6 → y.1 77 t' = 0) → (∃ f : Nat → gTr, ∀ t' q, t' < t.toNatClampNeg → C.2.1[t']? = some q → fst1 C t' q (f t') ∧ finT y t' (f t')) → MD 4 z_setFirst 157 [(0, vr 0), (1, vi t)] [] S1 y (Dv Fv) := by
    intro n
    induction n with
    | zero =>
      intro y S1 t t0 hn e25 ry h0 my h77 hf
      exact sd_setFirst_157 _ ⟨fun _ => Dv_i (fin y S1 t t0 ry my h77 hf (by omega)), fun c => absurd (t_le.mpr (by rw [e25]; omega)) c⟩
    | succ n ih =>
      intro y S1 t t0 hn e25 ry h0 my h77 hf
      refine sd_setFirst_157 _ ⟨fun c => Dv_i (fin y S1 t t0 ry my h77 hf (by rw [t_le, e25] at c; exact c)), fun c => ?_⟩
      rw [t_le, e25] at c
      have tv : vp_in t 6 := by rw [vp_in_iff]; omega
      have ct := cl_i t0
      have ti : (t + 1).toInt = t.toInt + 1 := by rw [t_add (by omega) (by omega), k1]
      obtain ⟨T, eT⟩ : ∃ T, T = t.toNatClampNeg := ⟨_, rfl⟩
      have tl : T < C.2.1.length := by omega
      obtain ⟨q9, hq9⟩ : ∃ q9, C.2.1[T]? = some q9 := ⟨_, List.getElem?_eq_getElem tl⟩
      have hKy : MK y C := MK_md my rfl rfl hK
      obtain ⟨k64, k38⟩ := hKy.2.1.2 T q9 hq9
      obtain ⟨⟨st, s1, s2⟩, q1⟩ := hN.2.1 q9 (List.mem_of_getElem? hq9)
      have et1 : (t + 1).toNatClampNeg = T + 1 := by rw [eT, t_cl, t_cl, ti]; omega
      obtain ⟨f, hf⟩ := hf
      have ext : ∀ (u : gd) (r : gTr), (∀ t', t' < T → u.1 73 t' = y.1 73 t' ∧ u.1 74 t' = y.1 74 t') → fst1 C T q9 r → finT u T r → ∃ f : Nat → gTr, ∀ t' q, t' < (t + 1).toNatClampNeg → C.2.1[t']? = some q → fst1 C t' q (f t') ∧ finT u t' (f t') := fun u r eu h1 h2 => by
        refine ⟨fun t' => if t' = T then r else f t', fun t' q ht hq => ?_⟩
        rw [et1] at ht
        by_cases c9 : t' = T
        · rw [c9, hq9] at hq
          cases Option.some.inj hq
          show fst1 C t' q9 (if t' = T then r else f t') ∧ finT u t' (if t' = T then r else f t')
          rw [if_pos c9, c9]
          exact ⟨h1, h2⟩
        · show fst1 C t' q (if t' = T then r else f t') ∧ finT u t' (if t' = T then r else f t')
          rw [if_neg c9]
          obtain ⟨p1, p2⟩ := hf t' q (by omega) hq
          obtain ⟨a, b⟩ := eu t' (by omega)
          refine ⟨p1, ?_⟩
          unfold finT
          rw [a, b]
          exact p2
      refine ⟨tv, fun n0 => ih y S1 (t + 1) (by omega) (by omega) e25 ry (fun t' h1 h2 => h0 t' (by omega) h2) my h77 (ext y (0, 0, 0, fun _ => 0) (fun _ _ => ⟨rfl, rfl⟩) (Or.inl ⟨?_, rfl⟩) ⟨h0 T (by omega) (by omega), fun c => absurd c (by show ¬ 0 = 1; decide), Nat.zero_le _⟩), fun c0 => ⟨tv, fun y5 e5 => ⟨tv, tv, fun y8 e8 => ?_⟩⟩⟩
      · rw [← eT, k38] at n0
        have : ¬ q9.2 = 0 := fun z => n0 (by rw [z]; rfl)
        omega
      have t5 : th t.toNatClampNeg y y5 := by rw [e5]; exact th_si (by decide) _ _
      have t8 : th t.toNatClampNeg y5 y8 := by rw [e8]; exact th_si (by decide) _ _
      have t58 := th_tr t5 t8
      have bg := ry.1.2.1.2.2.2.2.2 t.toNatClampNeg (by have := t_cl (y.1 0 25); rw [e25] at this; rw [e25]; omega)
      have j2 := ry.1.2.1.2.1
      have a74 : y8.1 74 t.toNatClampNeg = y.1 64 t.toNatClampNeg := by rw [e8, si_get, if_pos ⟨rfl, rfl⟩, e5, si_cell (by decide)]
      have a77 : y8.1 77 = y.1 77 := by rw [e8, si_cell (by decide), e5, si_cell (by decide)]
      have a52 : y8.1 0 52 = y.1 0 52 := t58.1.1 52 (by decide)
      have w0 : y.1 77 t.toNatClampNeg = 0 := by
        rcases (ry.2 _ (vt tv)).2.1 with q | ⟨_, q, _⟩
        · exact q
        · rw [h0 _ (by omega) (vt tv)] at q; exact absurd q (by decide)
      have g73 : y8.1 73 t.toNatClampNeg = 1 := by rw [e8, si_cell (by decide), e5, si_get, if_pos ⟨rfl, rfl⟩]
      have n64 : (y.1 64 t.toNatClampNeg).toNatClampNeg = q9.1 := by rw [← eT, t_cl, k64]; rfl
      refine ds_ownf (d := 0) (lv0 := fun _ => 0) t tv (CP_th t58 ry.1) (by rw [a74]; exact ⟨bg.1, by omega⟩) (fun _ => by rw [a74, a52]; exact bg.2) (by rw [a77]; exact w0) (MK_md t58.1 rfl rfl hKy) hN g73 (by rw [a74, n64]; exact s1) (fun p hp => by rw [s2] at hp; exact absurd hp (Nat.not_lt_zero _)) (fun u S2 tu su ra' w' hfin => ?_)
      have tt := th_tr t58 tu
      refine ih u S2 (t + 1) (by omega) (by omega) (by rw [tt.1.1 25 (by decide)]; exact e25) ⟨CP_th tt ry.1, fun t' ht' => ?_⟩ (fun t' h1 h2 => by rw [tt.2 73 t' (by simp) (by omega)]; exact h0 t' (by omega) h2) (md_tr my tt.1 rfl rfl) (fun t' ht' => ?_) ?_
      rotate_left
      · by_cases q : t' = t.toNatClampNeg
        · rw [q]; exact w'
        · rw [tt.2 77 t' (by simp) q]; exact h77 t' ht'
      · rw [a74, n64] at hfin
        obtain ⟨n9, r, hn9, g1, g2, g3⟩ := hfin
        rw [← eT] at hn9 g1 g2
        refine ext u r (fun t' ht' => ⟨tt.2 73 t' (by simp) (by omega), tt.2 74 t' (by simp) (by omega)⟩) (Or.inr ⟨?_, n9, hn9⟩) ⟨g1, g2, by omega⟩
        intro z1
        rw [← eT, k38, z1] at c0
        exact absurd c0 (by decide)
      by_cases q : t' = t.toNatClampNeg
      · rw [q]; exact ⟨ra', Or.inl w', rl_th tt su (ry.2 _ (vt tv)).2.2⟩
      · exact rT_th tt su q (ry.2 t' ht')
  exact loop 6 x S 0 (by decide) (by rw [k0]; omega) rfl ri0 (fun t' _ h2 => (i4 t' h2).1) (md_w (md_rf x) (by decide) (by decide)) (fun t' ht' => (i4 t' ht').2.2.2.1) ⟨fun _ => (0, 0, 0, fun _ => 0), fun t' q ht' => absurd ht' (Nat.not_lt_zero _)⟩
theorem ds_hasActf (t : Int32) (ht : vp_in t 6) (ri : RI x S) (hK : MK x C) (hN : NC C) (hS : FMs C f x) (hTl : t.toNatClampNeg < C.2.1.length) (hob : ∀ (s : Nat) (st : gNs), C.1[s]? = some st → st.1 = 10 → st.2.2.2.2.1.toNatClampNeg < C.2.1.length) (h0 : ¬ canN C f t.toNatClampNeg → F 0 x S) (h1 : x.1 73 t.toNatClampNeg = 1 → ¬ x.1 77 t.toNatClampNeg = 1 → canN C f t.toNatClampNeg → F 1 x S) : MD (d + 1) z_hasAct 0 [(0, vr 0), (1, vi t)] [] S x (Di F) := by
  obtain ⟨hs1, hs2, hs3, hs4⟩ := hS
  have one : ∀ t', t' < C.2.1.length → (x.1 73 t').toInt = ((f t').1 : Nat) := fun t' ht' => by
    obtain ⟨a2, -, a4⟩ := hs2 t' ht'
    rw [a2]
    exact Int32.toInt_ofNat_of_lt (by omega)
  have k1 : (1 : Int32).toInt = 1 := rfl
  refine sd_hasAct_0 _ ⟨ht, fun c => Di_i (h0 (fun z => c ?_)), fun c1 => ⟨ht, fun c2 => ⟨ht, ?_⟩, fun c => ?_⟩⟩
  · rw [t_eq, one _ hTl, z.1]; rfl
  rotate_left
  · rw [(hs3 _ (vt ht)).1] at c; exact absurd c (by decide)
  have h1 := h1 c1 c2
  have f1 : (f t.toNatClampNeg).1 = 1 := by
    have := one _ hTl
    rw [c1, k1] at this
    omega
  obtain ⟨r73, r74, -⟩ := hs2 _ hTl
  have e74 : (x.1 74 t.toNatClampNeg).toNatClampNeg = (f t.toNatClampNeg).2.2.1 := by rw [t_cl, r74 f1]; rfl
  obtain ⟨kv, _, _, av⟩ := RI_step ri (vt ht) c1
  obtain ⟨s1, s2, s3⟩ := srt_of ri (vt ht) c1
  obtain ⟨k, ek⟩ : ∃ k, k = x.1 74 t.toNatClampNeg := ⟨_, rfl⟩
  rw [← ek] at kv av s1 s2 s3
  obtain ⟨s, es⟩ : ∃ s, s = srt x t.toNatClampNeg := ⟨_, rfl⟩
  rw [← es] at s1 s2 s3
  rw [← ek] at e74
  obtain ⟨a1, a2, a3⟩ := (ri.2 _ (vt ht)).1
  obtain ⟨b1, b2⟩ := a3 c1
  rw [← ek] at a1 b1 b2
  have ck := cl_i a1
  obtain ⟨st, hst⟩ : ∃ st, C.1[k.toNatClampNeg]? = some st := ⟨_, List.getElem?_eq_getElem (by
    have : (x.1 0 52).toInt = C.1.length := hK.1.1
    omega)⟩
  have n22 := (hN.1 _ st hst).1.1
  obtain ⟨h54, h55, h56, -⟩ := hK.1.2 _ st hst
  have o16 : st.1 < 16 := (mWh_i st.1 n22).1.mp (by rw [← h54]; exact b2)
  have es5 : s = Int32.ofNat st.1 := by
    rw [es]
    unfold srt
    rw [if_neg (by rw [(hs3 _ (vt ht)).1]; decide), ← ek]
    exact h55 o16
  have hst' : C.1[(f t.toNatClampNeg).2.2.1]? = some st := by rw [← e74]; exact hst
  have opE : opN C (f t.toNatClampNeg).2.2.1 = st.1 := by unfold opN; simp only [hst']
  have obE : obN C (f t.toNatClampNeg).2.2.1 = st.2.2.2.2.1.toNatClampNeg := by unfold obN; simp only [hst']
  have op_i : ∀ w : Nat, w < 22 → (s = Int32.ofNat w ↔ st.1 = w) := fun w hw => by
    have e1 : (Int32.ofNat w).toInt = (w : Nat) := Int32.toInt_ofNat_of_lt (by omega)
    have e2 : (Int32.ofNat st.1).toInt = (st.1 : Nat) := Int32.toInt_ofNat_of_lt (by omega)
    rw [es5, t_eq, e1, e2]
    omega
  have yes : ¬ st.1 = 10 → F 1 x S := fun n10 => h1 ⟨f1, fun z => absurd (opE.symm.trans z) n10⟩
  have p149 : (5 ≤ s.toInt ∧ s.toInt ≤ 10) ∨ s = 15 → ¬ st.1 = 10 → MD (d + 1) z_hasAct 149 [(0, vr 0), (1, vi t), (2, vi k)] [] S x (Di F) := by
    intro q n10
    have o := s2 q
    have ov : vp_in (x.1 56 k.toNatClampNeg) 6 := by rw [vp_in_iff]; omega
    exact sd_hasAct_149 _ _ ⟨kv, ov, fun _ => Di_i (yes n10), fun n => absurd (hs4 _ (by rw [t_cl]; omega)) n⟩
  have p138 : MD (d + 1) z_hasAct 138 [(0, vr 0), (1, vi t), (2, vi k), (3, vi s)] [] S x (Di F) := by
    refine sd_hasAct_138 _ _ _ ⟨fun e => p149 (Or.inl (by rw [e]; decide)) (by have := (op_i 5 (by decide)).mp e; omega), fun _ => ⟨fun _ => ⟨fun n10 => Di_i (yes (fun z => n10 ((op_i 10 (by decide)).mpr z))), fun e => ⟨kv, fun eo => Di_i (h0 (fun z => ?_)), fun no => ?_⟩⟩, fun e => ?_⟩⟩
    · have s10 : st.1 = 10 := (op_i 10 (by decide)).mp e
      have := z.2 (opE.trans s10)
      rw [obE, ← h56, eo, f1] at this
      omega
    · have s10 : st.1 = 10 := (op_i 10 (by decide)).mp e
      have o := s2 (Or.inl (by rw [e]; decide))
      have ov : vp_in (x.1 56 k.toNatClampNeg) 6 := by rw [vp_in_iff]; omega
      have ol := hob _ st hst s10
      rw [← h56] at ol
      have oo := one _ ol
      have can : canN C f t.toNatClampNeg ↔ 2 ≤ (f (x.1 56 k.toNatClampNeg).toNatClampNeg).1 := by
        show ((f t.toNatClampNeg).1 = 1 ∧ (opN C (f t.toNatClampNeg).2.2.1 = 10 → 2 ≤ (f (obN C (f t.toNatClampNeg).2.2.1)).1)) ↔ _
        rw [opE, obE, ← h56]
        exact ⟨fun z => z.2 s10, fun z => ⟨f1, fun _ => z⟩⟩
      refine ⟨ov, fun c => Di_i (h0 (fun z => ?_)), fun c => ⟨ov, fun n => absurd (hs3 _ (by rw [t_cl]; omega)).2 n, fun _ => Di_i (h1 (can.mpr ?_))⟩⟩
      · rw [t_le, k1] at c
        have := can.mp z
        omega
      · rw [t_le, k1] at c
        omega
    · have := (op_i 15 (by decide)).mp e
      exact absurd this (hN.1 _ st hst).1.2
  have p124 : ∀ b q : Int32, ¬ b = 0 → MD (d + 1) z_hasAct 124 [(0, vr 0), (1, vi t), (2, vi k), (3, vi s), (5, vi b)] [vi q] S x (Di F) := fun b q nb => sd_hasAct_124 _ _ _ _ _ ⟨fun _ => p138, fun _ => ⟨fun _ => p138, fun z => absurd z nb⟩⟩
  have p85 : ∀ a b : Int32, ¬ b = 0 → MD (d + 1) z_hasAct 85 [(0, vr 0), (1, vi t), (2, vi k), (3, vi s), (4, vi a)] [vi b] S x (Di F) := fun a b nb => sd_hasAct_85 _ _ _ _ _ ⟨fun _ => p124 _ _ nb, fun _ => ⟨fun _ => p124 _ _ nb, fun _ => ⟨fun _ => p124 _ _ nb, fun _ => ⟨fun _ => p124 _ _ nb, fun _ => ⟨fun _ => p124 _ _ nb, fun _ => ⟨fun _ => p124 _ _ nb, fun _ => p124 _ _ nb⟩⟩⟩⟩⟩⟩
  have p62 : ∀ a : Int32, MD (d + 1) z_hasAct 62 [(0, vr 0), (1, vi t), (2, vi k), (3, vi s)] [vi a] S x (Di F) := fun a => sd_hasAct_62 _ _ _ _ ⟨fun _ => p85 _ _ (by decide), fun _ => ⟨ht, fun n => absurd (hs3 _ (vt ht)).2 n, fun _ => p85 _ _ (by decide)⟩⟩
  rw [← ek]
  refine ds_sortOf t ht (by rw [← ek]; exact kv) ?_
  rw [← es]
  refine ds_isAccess s (fun _ => ⟨fun _ => p62 0, fun q => absurd rfl q⟩) (fun q => ⟨fun q => absurd q (by decide), fun _ => ⟨kv, ?_, fun _ => p62 0, fun _ => p62 1⟩⟩)
  have o := s1 q
  rw [vp_in_iff]; omega
theorem ds_choosef {y : gd} {S1 : gS} {b : Int} (t l w : Int32) (hb : b ≤ 198) (q : fC x S b y S1) (ho : chO x t l) (h : ∀ y' S', fC x S (b + 1) y' S' → (y'.1 0 84).toInt = (y.1 0 84).toInt + 1 → Fv y' S') : MD d z_choose 0 [(0, vr 0), (1, vi t), (2, vi l), (3, vi w)] [] S1 y (Dv Fv) := by
  obtain ⟨q1, q2, q3, q4, q5, q6⟩ := q
  obtain ⟨n, en⟩ : ∃ n, n = y.1 0 84 := ⟨_, rfl⟩
  have nv : vp_in n 200 := by rw [en, vp_in_iff]; omega
  have k1 : (1 : Int32).toInt = 1 := rfl
  rw [← en] at q4 q5
  refine sd_choose_0 _ _ _ ⟨q3, by rw [← en]; exact nv, fun y2 e2 => ?_⟩
  rw [← en] at e2 ⊢
  have f2 : y2.1 0 84 = n := by rw [e2, si_cell (by decide), en]
  refine ⟨Or.inr q3, by rw [f2]; exact nv, fun y4 e4 => ?_⟩
  rw [f2] at e4 ⊢
  have f4 : y4.1 0 84 = n := by rw [e4, si_cell (by decide), f2]
  refine ⟨Or.inr (Or.inr q3), by rw [f4]; exact nv, fun y6 e6 => ?_⟩
  rw [f4] at e6 ⊢
  have f6 : y6.1 0 84 = n := by rw [e6, si_cell (by decide), f4]
  refine ⟨Or.inr (Or.inr (Or.inr q3)), fun y7 e7 => Dv_i (h y7 _ ?_ (by rw [e7, si_get, if_pos ⟨rfl, rfl⟩, f6, ← en, t_add (by omega) (by omega), k1]))⟩
  rw [f6] at e7
  have m2 := md_a y 86 n.toNatClampNeg t (by decide)
  rw [← e2] at m2
  have m4 := md_a y2 87 n.toNatClampNeg l (by decide)
  rw [← e4] at m4
  have m6 := md_a y4 88 n.toNatClampNeg w (by decide)
  rw [← e6] at m6
  have m7 := md_f y6 84 (n + 1)
  rw [← e7] at m7
  have mm : md [84] [86, 87, 88] y y7 := md_tr (md_tr (L3 := []) (A3 := [86, 87, 88]) (md_tr (L3 := []) (A3 := [86, 87]) m2 m4 rfl rfl) m6 rfl rfl) m7 rfl rfl
  have mx : md [84] [86, 87, 88] x y7 := md_tr q1 mm rfl rfl
  have f7 : (y7.1 0 84).toInt = n.toInt + 1 := by rw [e7, si_get, if_pos ⟨rfl, rfl⟩, t_add (by omega) (by omega), k1]
  have cn := cl_i q4
  refine ⟨mx, ssub_tr q2 (fun c j z => Or.inr (Or.inr (Or.inr (Or.inr z)))), Or.inl ⟨rfl, rfl⟩, by omega, by omega, fun i hi => ?_⟩
  have e73 : y7.1 73 = x.1 73 := mx.2.1 73 (by decide) (by decide)
  have e77 : y7.1 77 = x.1 77 := mx.2.1 77 (by decide) (by decide)
  have e80 : y7.1 80 = x.1 80 := mx.2.1 80 (by decide) (by decide)
  by_cases z : i = n.toNatClampNeg
  · have g86 : y7.1 86 i = t := by rw [z, e7, si_cell (by decide), e6, si_cell (by decide), e4, si_cell (by decide), e2, si_get, if_pos ⟨rfl, rfl⟩]
    have g87 : y7.1 87 i = l := by rw [z, e7, si_cell (by decide), e6, si_cell (by decide), e4, si_get, if_pos ⟨rfl, rfl⟩]
    refine ⟨Or.inr (Or.inr (Or.inr (Or.inl ⟨rfl, z⟩))), Or.inr (Or.inr (Or.inl ⟨rfl, z⟩)), Or.inr (Or.inl ⟨rfl, z⟩), ?_⟩
    rw [g86, g87]
    unfold chO
    rw [e73, e77, e80]
    exact ho
  · have g86 : y7.1 86 i = y.1 86 i := by rw [e7, si_cell (by decide), e6, si_cell (by decide), e4, si_cell (by decide), e2, si_ne 86 i z]
    have g87 : y7.1 87 i = y.1 87 i := by rw [e7, si_cell (by decide), e6, si_cell (by decide), e4, si_ne 87 i z, e2, si_cell (by decide)]
    obtain ⟨a, b', c, o⟩ := q6 i (by rw [← en]; omega)
    refine ⟨Or.inr (Or.inr (Or.inr (Or.inr a))), Or.inr (Or.inr (Or.inr (Or.inr b'))), Or.inr (Or.inr (Or.inr (Or.inr c))), ?_⟩
    rw [g86, g87]
    unfold chO at o ⊢
    rw [mm.2.1 73 (by decide) (by decide), mm.2.1 77 (by decide) (by decide), mm.2.1 80 (by decide) (by decide)]
    exact o
theorem ds_findChoicesf (ri : RI x S) (hK : MK x C) (hN : NC C) (hS : FMs C f x) (hob : ∀ (s : Nat) (st : gNs), C.1[s]? = some st → st.1 = 10 → st.2.2.2.2.1.toNatClampNeg < C.2.1.length) (h : ∀ y S1, fC x S 84 y S1 → (y.1 0 84).toInt = (chN C f C.2.1.length : Nat) → Fv y S1) : MD (d + 2) z_findChoices 0 [(0, vr 0)] [] S x (Dv Fv) := by
  have k0 : (0 : Int32).toInt = 0 := rfl
  have k1 : (1 : Int32).toInt = 1 := rfl
  have hT := ri.1.1.2.2.2.2.1
  have hT6 := ri.1.1.2.2.2.2.2.1
  have nT : (x.1 0 25).toInt = C.2.1.length := hK.2.1.1
  have p7 : ∀ (n : Nat) (y : gd) (S1 : gS) (t : Int32), 0 ≤ t.toInt → t.toInt ≤ (x.1 0 25).toInt → (x.1 0 25).toInt - t.toInt ≤ n → fC x S (14 * t.toInt) y S1 → (y.1 0 84).toInt = (chN C f t.toNatClampNeg : Nat) → MD (d + 2) z_findChoices 7 [(0, vr 0), (1, vi t)] [] S1 y (Dv Fv) := by
    intro n
    induction n with
    | zero =>
      intro y S1 t t0 t1 hn q hcn
      have tcl := cl_i t0
      have f25 : y.1 0 25 = x.1 0 25 := q.1.1 25 (by decide)
      exact sd_findChoices_7 _ ⟨fun _ => Dv_i (h y S1 (fC_mono (by omega) q) (by rw [show C.2.1.length = t.toNatClampNeg by omega]; exact hcn)), fun c => absurd (t_le.mpr (by rw [f25]; omega)) c⟩
    | succ n ih =>
      intro y S1 t t0 t1 hn q hcn
      have tcl := cl_i t0
      have f25 : y.1 0 25 = x.1 0 25 := q.1.1 25 (by decide)
      refine sd_findChoices_7 _ ⟨fun c => Dv_i (h y S1 (fC_mono (by omega) q) (by rw [t_le, f25] at c; rw [show C.2.1.length = t.toNatClampNeg by omega]; exact hcn)), fun c => ?_⟩
      rw [t_le, f25] at c
      have ec1 : (t + 1).toNatClampNeg = t.toNatClampNeg + 1 := by rw [t_cl, t_cl, t_add (by omega) (by omega), k1]; omega
      have ht : vp_in t 6 := by rw [vp_in_iff]; omega
      have i1 : (t + 1).toInt = t.toInt + 1 := by rw [t_add (by omega) (by omega), k1]
      obtain ⟨L, eL⟩ : ∃ L, L = x.1 80 t.toNatClampNeg := ⟨_, rfl⟩
      have rlx := (ri.2 _ (vt ht)).2.2
      have hL8 := rlx.2.1
      have hL0 := rlx.1
      rw [← eL] at hL8 hL0
      have L0 : L = 0 := by rw [eL]; exact (hS.2.2.1 _ (vt ht)).2
      have q144 : ∀ (y : gd) (S1 : gS), fC x S (14 * t.toInt + 6) y S1 → (y.1 0 84).toInt = (chN C f (t.toNatClampNeg + 1) : Nat) → MD (d + 2) z_findChoices 144 [(0, vr 0), (1, vi t), (2, vi 0)] [] S1 y (Dv Fv) := by
        intro y S1 q hc1
        have f80 : y.1 80 = x.1 80 := q.1.2.1 80 (by decide) (by decide)
        refine sd_findChoices_144 _ _ ⟨ht, ?_⟩
        rw [f80, ← eL, L0]
        exact ⟨fun _ => ih y S1 (t + 1) (by omega) (by omega) (by omega) (fC_mono (by omega) q) (by rw [ec1]; exact hc1), fun c => absurd (by decide) c⟩
      have riy : RI y S1 := RI_md q.1 rfl rfl q.2.1 ri
      have e73 : y.1 73 = x.1 73 := q.1.2.1 73 (by decide) (by decide)
      have e77 : y.1 77 = x.1 77 := q.1.2.1 77 (by decide) (by decide)
      have hKy : MK y C := MK_md q.1 rfl rfl hK
      have hSy : FMs C f y := by
        obtain ⟨g1, g2, g3, g4⟩ := hS
        have e74 : y.1 74 = x.1 74 := q.1.2.1 74 (by decide) (by decide)
        have e80 : y.1 80 = x.1 80 := q.1.2.1 80 (by decide) (by decide)
        have e71 : y.1 71 = x.1 71 := q.1.2.1 71 (by decide) (by decide)
        unfold FMs finT
        rw [e73, e74, e77, e80, e71]
        exact ⟨g1, g2, g3, g4⟩
      refine ds_hasActf t ht riy hKy hN hSy (by omega) hob (fun nc => ⟨fun _ => q144 y S1 (fC_mono (by omega) q) (by rw [chN, if_neg nc, hcn]; rfl), fun z => absurd rfl z⟩) (fun g1 g2 hcan => ⟨fun z => absurd z (by decide), fun _ => ⟨ht, q.2.2.1, ?_⟩⟩)
      have ho : chO x t (-1) := ⟨by omega, Or.inl ⟨rfl, by rw [← e73]; exact g1, by rw [← e77]; exact g2⟩⟩
      have q127 : MD (d + 2) z_findChoices 127 [(0, vr 0), (1, vi t), (3, vi (y.1 0 84))] [] S1 y (Dv Fv) := by
        refine sd_findChoices_127 _ _ ⟨q.2.2.1, fun n => absurd rfl n, fun e => ?_⟩
        exact ds_choosef t (-1) (-1) (by omega) q ho (fun y' S' q' ey => q144 y' S' (fC_mono (by omega) q') (by rw [chN, if_pos hcan, ey, hcn]; push_cast; rfl))
      obtain ⟨kv, _, _, _⟩ := RI_step riy (vt ht) g1
      obtain ⟨s1, s2, s3⟩ := srt_of riy (vt ht) g1
      refine ds_sortOf t ht kv ⟨fun _ => q127, fun e8 => ⟨kv, fun _ => q127, fun _ => ⟨kv, ?_, fun _ => q127, fun e9 => ?_⟩⟩⟩
      · have o := s2 (Or.inl (by rw [e8]; decide))
        rw [vp_in_iff]; omega
      · exfalso
        have o := s2 (Or.inl (by rw [e8]; decide))
        rw [hSy.2.2.2 _ (by rw [t_cl]; omega)] at e9
        have km : (-1 : Int32).toInt = -1 := rfl
        rw [t_eq, km] at e9
        omega
  refine sd_findChoices_0 (fun y e => ?_)
  have m := md_f x 84 0
  rw [← e] at m
  have e0 : y.1 0 84 = 0 := by rw [e, si_get, if_pos ⟨rfl, rfl⟩]
  refine p7 (x.1 0 25).toInt.toNat y _ 0 (by decide) (by rw [k0]; exact hT) (by rw [k0]; omega) ⟨md_w m (by decide) (by decide), ssub_ad _ _ _, Or.inl ⟨rfl, rfl⟩, by rw [e0]; decide, by rw [e0, k0]; omega, fun i hi => ?_⟩ ?_
  · rw [e0, k0] at hi
    omega
  · rw [e0]; rfl
end DFS
theorem fc_exf {b : gd} {S : gS} {C : gCo} {f : Nat → gTr} (ri : RI b S) (wy : wy01 b) (hK : MK b C) (hN : NC C) (hS : FMs C f b) (hob : ∀ (s : Nat) (st : gNs), C.1[s]? = some st → st.1 = 10 → st.2.2.2.2.1.toNatClampNeg < C.2.1.length) : ∃ a, AV a ∧ fcA b a ∧ md [84] [86, 87, 88] b a ∧ (a.1 0 84).toInt = (chN C f C.2.1.length : Nat) := by
  obtain ⟨o, a, S', ⟨eo, fc, hcn⟩, m, q⟩ := ds_findChoicesf (d := 0) (Fv := fun y S1 => fC b (Sl b) 84 y S1 ∧ (y.1 0 84).toInt = (chN C f C.2.1.length : Nat)) (RI_Sl ri) hK hN hS hob (fun y S1 h h2 => ⟨h, h2⟩)
  obtain ⟨f1, f2, f3, f4, f5, f6⟩ := fc
  have e80 : a.1 80 = b.1 80 := f1.2.1 80 (by decide) (by decide)
  have sl : Sl a = Sl b := by
    funext c j
    unfold Sl
    rw [e80]
  have sm : ssub (Sm a) S' := by
    intro c j h
    rcases h with ⟨h1, h2⟩ | ⟨h1, h2⟩ | h
    · rw [h1, h2]; exact f3
    · obtain ⟨g1, g2, g3, _⟩ := f6 j h2
      rcases h1 with h1 | h1 | h1
      · rw [h1]; exact g1
      · rw [h1]; exact g2
      · rw [h1]; exact g3
    · rw [sl] at h
      exact f2 c j h
  have fa : fcA b a := by
    intro G z e
    refine MT_mono (q G z e) (fun o2 z' w => ?_)
    rw [w.1, eo]
    exact rv_i ⟨eqS_w sm w.2.1, w.2.2⟩
  refine ⟨a, ⟨?_, ?_, ?_, f4, f5, ?_⟩, fa, f1, hcn⟩
  · rw [sl]
    exact RI_md f1 rfl rfl (ssub_rf _) (RI_Sl ri)
  · unfold wy01
    rw [f1.1 68 (by decide)]
    exact wy
  · intro i hi
    obtain ⟨_, _, _, g⟩ := f6 i hi
    exact ⟨Or.inr (Or.inl ⟨Or.inl rfl, hi⟩), Or.inr (Or.inl ⟨Or.inr (Or.inl rfl), hi⟩), Or.inr (Or.inl ⟨Or.inr (Or.inr rfl), hi⟩), g⟩
  · intro G z e
    refine fa G z (fun c j h => ?_)
    rw [← sl] at h
    rw [e c j h]
    -- the core and the late writes are those of b
    rcases h with h | h
    · rcases h with ⟨h1, h2⟩ | ⟨n, h1, h2⟩
      · rw [h1]
        refine f1.1 j (fun w => ?_)
        rw [List.mem_singleton.mp w] at h2
        exact absurd h2 (by decide)
      · have hc : c ≠ 0 ∧ c ∉ [86, 87, 88] := by
          simp at h1
          refine ⟨by omega, ?_⟩
          simp
          omega
        rw [f1.2.1 c hc.1 hc.2]
    · obtain ⟨hc, _⟩ := h
      rw [f1.2.1 c (by omega) (by simp; omega)]
section DSX
variable {x : gd} {C : gCo}
/-- setFirst, from every memory with the program and the way of x -/
theorem first_exf (cp : CP x) (hK : MK x C) (hN : NC C) : ∃ b, RI b (Sl b) ∧ (∃ f, FMs C f b) ∧ MK b C ∧ b.1 0 68 = x.1 0 68 ∧ prE x b ∧ ∀ (G : mG) (D : Nat) (z : gd), 5 ≤ D → prE x z → z.1 0 68 = x.1 0 68 → MT G D z_setFirst 0 [(0, vr 0)] [] z (rv (fun z' => eqS (Sl b) b z' ∧ md rL rA z z')) := by
  have ii := ix_ini x
  obtain ⟨o, b, S', ⟨eo, rb, hfs⟩, m, q⟩ := ds_setTailf (x := ix x) (S := fun _ _ => False) (Fv := fun y S1 => RI y S1 ∧ ∃ f, FMs C f y) (CP_md ii.1 rfl rfl cp) ii.2.2.2.1 ii.2.2.1 (MK_md ii.1 rfl rfl hK) hN (fun y S1 h h2 => ⟨h, h2⟩)
  refine ⟨b, RI_Sl rb, hfs, MK_md m rfl rfl (MK_md ii.1 rfl rfl hK), ?_, ?_, fun G D z hD p w => ?_⟩
  · rw [m.1 68 (by decide), ii.1.1 68 (by decide)]
  · exact prE_mi (prE_mi (prE_rf x) (mi_of ii.1) rfl rfl) (mi_of m) rfl rfl
  · obtain ⟨D, rfl⟩ : ∃ D', D = D' + 1 := ⟨D - 1, by omega⟩
    refine sp_setInit (fun y iy => MT_up (d := 4) (by omega) (MT_mono (q G y (ini_eq p w ii iy)) (fun o2 z' v => ?_)))
    rw [v.1, eo]
    exact rv_i ⟨eqS_w (Sl_in rb) v.2.1, md_tr (md_w iy.1 (L2 := rL) (A2 := rA) (by decide) (by decide)) v.2.2 rfl rfl⟩
theorem start_exf (cp : CP x) (hK : MK x C) (hN : NC C) (hob : ∀ (s : Nat) (st : gNs), C.1[s]? = some st → st.1 = 10 → st.2.2.2.2.1.toNatClampNeg < C.2.1.length) (w : Int32) (hw : w = 0 ∨ w = 1) : ∃ a0, bgM C (a0.1 0 84) ∧ AV a0 ∧ a0.1 0 68 = w ∧ prE x a0 ∧ St x w a0 ∧ ∃ b, md [84] [86, 87, 88] b a0 ∧ ∀ (G : mG) (D : Nat) (z : gd), 5 ≤ D → prE x z → z.1 0 68 = w → MT G D z_setFirst 0 [(0, vr 0)] [] z (rv (fun z' => eqS (Sl b) b z' ∧ md rL rA z z')) := by
  have k0 : (0 : Int32).toInt = 0 := rfl
  have k1 : (1 : Int32).toInt = 1 := rfl
  have k6 : (6 : Int32).toInt = 6 := rfl
  have mw := md_f x 68 w
  obtain ⟨xw, exw⟩ : ∃ xw, xw = si x 0 68 w := ⟨_, rfl⟩
  rw [← exw] at mw
  have ew : xw.1 0 68 = w := by rw [exw, si_get, if_pos ⟨rfl, rfl⟩]
  have pw : prE x xw := prE_mi (prE_rf x) (mi_of mw) rfl rfl
  obtain ⟨b, rb, ⟨f, hfs⟩, hKb, b68, pb, hb⟩ := first_exf (CP_md mw rfl rfl cp) (MK_md mw rfl rfl hK) hN
  rw [ew] at b68
  obtain ⟨a0, av, fa, ma, hcn⟩ := fc_exf rb (by unfold wy01; rw [b68]; exact hw) hKb hN hfs hob
  refine ⟨a0, ⟨f, hfs.1, hcn⟩, av, by rw [ma.1 68 (by decide), b68], prE_tr pw (prE_mi pb (mi_of ma) rfl rfl), ?_, b, ma, fun G D z hD p hz => hb G D z hD (prE_tr (prE_sy pw) p) (by rw [ew]; exact hz)⟩
  intro G D z Fv hD p hF
  obtain ⟨D, rfl⟩ : ∃ D', D = D' + 1 := ⟨D - 1, by omega⟩
  refine sg_startRun_0 _ (fun z1 e1 z2 e2 z3 e3 z4 e4 => ?_)
  have m1 := md_f z 68 w
  rw [← e1] at m1
  have m2 := md_f z1 67 1
  rw [← e2] at m2
  have m3 := md_f z2 94 0
  rw [← e3] at m3
  have m4 := md_f z3 96 0
  rw [← e4] at m4
  have m14 : md [68, 67, 94, 96] [] z z4 := md_tr (md_tr (L3 := [68, 67, 94]) (A3 := []) (md_tr (L3 := [68, 67]) (A3 := []) m1 m2 rfl rfl) m3 rfl rfl) m4 rfl rfl
  have f68 : z4.1 0 68 = w := by rw [m4.1 68 (by decide), m3.1 68 (by decide), m2.1 68 (by decide), e1, si_get, if_pos ⟨rfl, rfl⟩]
  have f67 : z4.1 0 67 = 1 := by rw [m4.1 67 (by decide), m3.1 67 (by decide), e2, si_get, if_pos ⟨rfl, rfl⟩]
  have f94 : z4.1 0 94 = 0 := by rw [m4.1 94 (by decide), e3, si_get, if_pos ⟨rfl, rfl⟩]
  have f96 : z4.1 0 96 = 0 := by rw [e4, si_get, if_pos ⟨rfl, rfl⟩]
  have loop : ∀ (n : Nat) (y : gd) (t : Int32), 0 ≤ t.toInt → t.toInt ≤ 6 → 6 - t.toInt ≤ n → md [] [106, 107] z4 y → (∀ j : Nat, (j : Int) < t.toInt → y.1 106 j = -1 ∧ y.1 107 j = -1) → MT G (D + 1) z_startRun 22 [(0, vr 0), (2, vi t)] [] y (rv Fv) := by
    have last : ∀ y : gd, md [] [106, 107] z4 y → (∀ j : Nat, j < 6 → y.1 106 j = -1 ∧ y.1 107 j = -1) → MT G D z_setFirst 0 [(0, vr 0)] [] y (rv (fun x2 => MT G D z_findChoices 0 [(0, vr 0)] [] x2 (rv (fun x3 => rv Fv none x3)))) := by
      intro y my hy
      have py : prE xw y := prE_tr (prE_sy pw) (prE_mi (prE_mi p (mi_of m14) rfl rfl) (mi_of my) rfl rfl)
      have wy' : y.1 0 68 = xw.1 0 68 := by rw [my.1 68 (by decide), f68, ew]
      refine MTv_mono (hb G D y (by omega) py wy') (fun u q => MT_up (by omega) (MTv_mono (fa G u q.1) (fun v qv => rv_i (hF v qv.1 ?_))))
      have g : mi [82, 84, 88, 89, 90, 91, 92, 93] rA y v := mi_of (md_rt q.2 qv.2)
      have v94 : v.1 0 94 = 0 := by rw [g.1 94 (by decide), my.1 94 (by decide), f94]
      have v96 : v.1 0 96 = 0 := by rw [g.1 96 (by decide), my.1 96 (by decide), f96]
      refine ⟨mi_tr (mi_tr (L3 := sL') (A3 := sA') (mi_of m14) (mi_of my) rfl rfl) g rfl rfl, v94, ⟨by rw [v96]; decide, by rw [v96, v94]; decide, by rw [v94]; decide, fun j hj => by rw [v96, k0] at hj; omega, fun t ht => ?_⟩, by rw [g.1 67 (by decide), my.1 67 (by decide), f67], by rw [g.1 68 (by decide), my.1 68 (by decide), f68]⟩
      rw [g.2 106 (by decide) (by decide), g.2 107 (by decide) (by decide)]
      exact ⟨Or.inl (hy t ht).1, Or.inl (hy t ht).2⟩
    intro n
    induction n with
    | zero =>
      intro y t t0 t6 hn my hy
      exact sg_startRun_22 _ ⟨fun _ => last y my (fun j hj => hy j (by omega)), fun c => absurd (t_le.mpr (by rw [k6]; omega)) c⟩
    | succ n ih =>
      intro y t t0 t6 hn my hy
      refine sg_startRun_22 _ ⟨fun c => last y my (fun j hj => hy j (by rw [t_le, k6] at c; omega)), fun c => ?_⟩
      rw [t_le, k6] at c
      have tv : vp_in t 6 := by rw [vp_in_iff]; omega
      have ct := cl_i t0
      have ti : (t + 1).toInt = t.toInt + 1 := by rw [t_add (by omega) (by omega), k1]
      refine ⟨tv, fun y5 e5 => ⟨tv, fun y7 e7 => ?_⟩⟩
      have m5 := md_a y 106 t.toNatClampNeg (-1) (by decide)
      rw [← e5] at m5
      have m7 := md_a y5 107 t.toNatClampNeg (-1) (by decide)
      rw [← e7] at m7
      refine ih y7 (t + 1) (by omega) (by omega) (by omega) (md_tr (md_tr (L3 := []) (A3 := [106, 107]) my m5 rfl rfl) m7 rfl rfl) (fun j hj => ?_)
      by_cases q : j = t.toNatClampNeg
      · rw [q]
        exact ⟨by rw [e7, si_cell (by decide), e5, si_get, if_pos ⟨rfl, rfl⟩], by rw [e7, si_get, if_pos ⟨rfl, rfl⟩]⟩
      · rw [e7, si_ne 106 j q, si_ne 107 j q, e5, si_ne 106 j q, si_ne 107 j q]
        exact hy j (by omega)
  exact loop 6 z4 0 (by decide) (by decide) (by decide) (md_w (md_rf _) (by decide) (by decide)) (fun j hj => by rw [k0] at hj; omega)
end DSX
section SPB
variable {G : mG} {D d : Nat} {z : gd} {F : Int32 → gd → Prop} {Fv : gd → Prop}
/-- a run begun -/
theorem sp_startRunf {w : Int32} {C : gCo} (cp : CP z) (hK : MK z C) (hN : NC C) (hob : ∀ (s : Nat) (st : gNs), C.1[s]? = some st → st.1 = 10 → st.2.2.2.2.1.toNatClampNeg < C.2.1.length) (hw : w = 0 ∨ w = 1) (hD : 6 ≤ D) (h : ∀ z', Hist z' → mi sL' sA' z z' → z'.1 0 67 = 1 → bgM C (z'.1 0 84) → Fv z') : MT G D z_startRun 0 [(0, vr 0), (1, vi w)] [] z (rv Fv) := by
  obtain ⟨a0, hbg, av, e68, pa, st, _⟩ := start_exf cp hK hN hob w hw
  refine st G D z Fv hD (prE_rf z) (fun z' e sf => ?_)
  obtain ⟨m, f94, ha, f67, f68⟩ := sf
  refine h z' ⟨fun _ => a0, 0, by rw [f94]; rfl, fun _ _ => av, fun k hk => absurd hk (by omega), e, ?_, ?_, ha⟩ m f67 (by rw [e 0 84 (Or.inr (Or.inl ⟨rfl, rfl⟩))]; exact hbg)
  · rw [f68]
    exact St_pr (prE_mi (prE_rf z) m rfl rfl) st
  · unfold wy01
    rw [f68]; exact hw
theorem sp_beginf {C : gCo} (q : MI z) (w : Int32) (hK : ¬ z.1 0 66 = 0 → MK z C ∧ NC C ∧ ∀ (s : Nat) (st : gNs), C.1[s]? = some st → st.1 = 10 → st.2.2.2.2.1.toNatClampNeg < C.2.1.length) (hD : 7 ≤ D) (h : ∀ r z', PM z z' → (z.1 0 66 = 0 → z'.1 0 0 = 1) → (¬ z.1 0 66 = 0 → ¬ (w = 0 ∨ w = 1) → z'.1 0 0 = 2) → (¬ z.1 0 66 = 0 → (w = 0 ∨ w = 1) → z'.1 0 0 = 0 ∧ bgM C r) → F r z') : MT G D z_begin 0 [(0, vr 0), (1, vi w)] [] z (ri F) := by
  obtain ⟨D, rfl⟩ : ∃ D', D = D' + 1 := ⟨D - 1, by omega⟩
  have k0 : (0 : Int32).toInt = 0 := rfl
  have k1 : (1 : Int32).toInt = 1 := rfl
  refine sg_begin_0 _ (fun y e => ?_)
  have hy := z0_s e
  have no : ∀ k : Int32, (z.1 0 66 = 0 → k = 1) → (¬ z.1 0 66 = 0 → ¬ (w = 0 ∨ w = 1) ∧ k = 2) → ri F (some (vi 0)) (si y 0 0 k) := fun k h9 h8 => ri_i (h 0 _ (MI_0 (mi_tr hy.1 (mi_of (md_f y 0 k)) rfl rfl) q) (fun c => by rw [si_get, if_pos ⟨rfl, rfl⟩]; exact h9 c) (fun c _ => by rw [si_get, if_pos ⟨rfl, rfl⟩]; exact (h8 c).2) (fun c c2 => absurd c2 (h8 c).1))
  have e66 : y.1 0 66 = z.1 0 66 := hy.1.1 66 (by decide)
  have p40 : ¬ z.1 0 66 = 0 → ∀ b : Int32, (b = 0 → w = 0 ∨ w = 1) → (¬ b = 0 → ¬ (w = 0 ∨ w = 1)) → MT G (D + 1) z_begin 40 [(0, vr 0), (1, vi w)] [vi b, vr 0] y (ri F) := by
    intro c b hb hb2
    refine sg_begin_40 _ _ (sp_refuses b 2 hy.2 (by decide) (fun b0 => ⟨fun _ => ?_, fun q => absurd rfl q⟩) (fun nb => ⟨fun q => absurd q (by decide), fun _ => no 2 (fun z9 => absurd z9 c) (fun _ => ⟨hb2 nb, rfl⟩)⟩))
    have qy := (MI_0 hy.1 q).1
    have hKy : MK y C := MK_f (hK c).1 (fun k hk => hy.1.1 k (fun z9 => by rw [List.mem_singleton.mp z9] at hk; exact absurd hk (by decide))) (fun c9 hc9 => hy.1.2 c9 (mfA_0 c9 hc9) (fun z9 => nomatch z9))
    refine sp_startRunf (qy.2.1 (by rw [e66]; exact c)) hKy (hK c).2.1 (hK c).2.2 (hb b0) (by omega) (fun z' hh m f67 hbg => ri_i (h _ z' ?_ (fun z9 => absurd z9 c) (fun _ z9 => absurd (hb b0) z9) (fun _ _ => ⟨by rw [m.1 0 (by decide)]; exact hy.2, hbg⟩)))
    have p := MI_new m rfl rfl (by rw [e66]; exact c) hh qy
    exact PM_0 hy.1 p
  have p18 : ∀ b : Int32, (b = 0 → ¬ z.1 0 66 = 0) → (¬ b = 0 → ¬ ¬ z.1 0 66 = 0) → MT G (D + 1) z_begin 18 [(0, vr 0), (1, vi w)] [vi b, vr 0] y (ri F) := by
    intro b hb hb2
    refine sg_begin_18 _ _ (sp_refuses b 1 hy.2 (by decide) (fun b0 => ⟨fun q => absurd rfl q, fun _ => sp_in _ _ _ ⟨fun c => p40 (hb b0) 0 (fun _ => ?_) (fun q => absurd rfl q), fun c => p40 (hb b0) 1 (fun q => absurd q (by decide)) (fun _ z9 => ?_)⟩⟩) (fun nb => ⟨fun _ => no 1 (fun _ => rfl) (fun z9 => absurd z9 (hb2 nb)), fun q => absurd q (by decide)⟩))
    rotate_left
    · refine bi_eq.mp c ⟨t_le.mpr ?_, t_le.mpr ?_⟩
      · rcases z9 with z9 | z9 <;> rw [z9] <;> decide
      · rcases z9 with z9 | z9 <;> rw [z9] <;> decide
    obtain ⟨c1, c2⟩ := bi_ne.mp c
    rw [t_le, k0] at c1
    rw [t_le, k1] at c2
    rw [t_eq, t_eq, k0, k1]
    omega
  rw [e66]
  exact ⟨fun c => p18 0 (fun _ => c) (fun q => absurd rfl q), fun c => p18 1 (fun q => absurd q (by decide)) (fun _ z9 => z9 c)⟩
end SPB
