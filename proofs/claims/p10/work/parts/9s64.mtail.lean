/-! the model: what stays of the machine while one thread goes on -/
section MTL
variable {C : gCo} {M E : gMa} {x y z : gd} {T t s : Nat} {h : gTq} {lv : Nat → Int32}
theorem kn_8 (hN : NC C) (s : Nat) : ∀ k ∈ (stN C s).2.1, k < 8 := fun k hk => by
  unfold stN at hk
  cases e : C.1[s]? with
  | none => rw [e] at hk; exact nomatch hk
  | some st =>
    rw [e] at hk
    obtain ⟨-, pm, p8⟩ := (hN.1 _ st e).2.2.2.2.1
    have hk : k ∈ st.2.1 := hk
    have := pm k hk
    omega
theorem mLt_eq {l : List (Nat × Int32)} (h : mLt x t l) (e80 : y.1 80 = x.1 80) (e81 : y.1 81 = x.1 81) (e82 : y.1 82 = x.1 82) : mLt y t l := by
  unfold mLt
  rw [e80, e81, e82]; exact h
/-- another thread's memory stays -/
theorem mTq_th (hN : NC C) (hz : th3 T x z) (ne : ¬ t = T) (q : mTq x C t h) : mTq z C t h := by
  obtain ⟨a1, a2, a3, a4, a5, a6, a7, a8, a9, b1, b2⟩ := q
  have f := fun c hc => hz.2.1 c t hc ne
  have g : ∀ n, n < 8 → z.1 76 (8 * t + n) = x.1 76 (8 * t + n) := fun n hn => hz.2.2 _ (by omega)
  refine ⟨by rw [f 73 (by omega)]; exact a1, a2, by rw [f 75 (by omega)]; exact a3, by rw [f 74 (by omega)]; exact a4, by rw [f 77 (by omega)]; exact a5, a6, by rw [f 78 (by omega)]; exact a7, by rw [hz.1.2.1 79 (by decide) (by decide)]; exact a8, mLt_eq a9 (hz.1.2.1 80 (by decide) (by decide)) (hz.1.2.1 81 (by decide) (by decide)) (hz.1.2.1 82 (by decide) (by decide)), fun c p hp => ?_, fun k hk c => ?_⟩
  · rw [g _ (kn_8 hN _ _ (slN_mem hp))]; exact b1 c p hp
  · rw [g k hk]; exact b2 k hk c
/-- a thread's memory behind its own steps -/
theorem mTq_own (o : owM z C T (owR C (Int32.ofNat T) s lv)) (z77 : z.1 77 T = 0) (z78 : z.1 78 T = 0) (h3 : h.2.2.2.1 = 0) (h4 : h.2.2.2.2.1 = 0) (h5 : z.1 79 T = h.2.2.2.2.2.1) (h6 : mLt z T h.2.2.2.2.2.2.1) : mTq z C T (thN C T h s lv) := by
  obtain ⟨o1, o2, o3, o4, ⟨o5, o6⟩, -⟩ := o
  refine ⟨o1, ?_, o3, o4, ?_, ?_, ?_, h5, h6, fun c p hp => ?_, o6⟩
  · show (owR C (Int32.ofNat T) s lv).1 ≤ 3
    omega
  · show z.1 77 T = Int32.ofNat h.2.2.2.1
    rw [h3, z77]; rfl
  · show h.2.2.2.1 ≤ 2
    omega
  · show z.1 78 T = h.2.2.2.2.1
    rw [h4, z78]
  · show z.1 76 _ = kvL C _ _ _ p
    unfold kvL
    rw [if_pos ⟨c, hp⟩]
    exact o5 c p hp
/-- cells and locks stay -/
def MMc (y : gd) (M : gMa) : Prop := (∀ c, c < 24 → y.1 70 c = M.1 c) ∧ ∀ l, l < 6 → y.1 71 l = Int32.ofNat (M.2.1 l).1 - 1 ∧ (M.2.1 l).1 ≤ 6 ∧ y.1 72 l = (M.2.1 l).2
theorem MMc_eq (h : MMc x M) (e0 : y.1 70 = x.1 70) (e1 : y.1 71 = x.1 71) (e2 : y.1 72 = x.1 72) : MMc y M := by
  unfold MMc
  rw [e0, e1, e2]; exact h
theorem MMc_th (h : MMc x M) (hz : th3 T x z) : MMc z M := MMc_eq h (hz.1.2.1 70 (by decide) (by decide)) (hz.1.2.1 71 (by decide) (by decide)) (hz.1.2.1 72 (by decide) (by decide))
theorem upf_eq {α : Type} {f : Nat → α} {j : Nat} {v : α} : upf f j v j = v := if_pos rfl
theorem upf_ne {α : Type} {f : Nat → α} {i j : Nat} {v : α} (h : ¬ i = j) : upf f j v i = f i := if_neg h
theorem MK_th3 (h : MK x C) (hz : th3 T x z) : MK z C := MK_md hz.1 rfl rfl h
end MTL
section DTL
variable {d : Nat} {S : gS} {x y : gd} {F : Int32 → gd → gS → Prop} {Fv : gd → gS → Prop} {C : gCo} {E : gMa}
/-- the end of an act: the thread goes on; then one that was started -/
theorem ds_act695 (t c s : Int32) (ht : vp_in t 6) {T K : Nat} (eT : T = t.toNatClampNeg) (cp : CP y) (hK : MK y C) (hN : NC C) (y73 : y.1 73 T = 1) (y74 : (y.1 74 T).toInt = (K : Nat)) (K2 : (K : Int) + 1 < (y.1 0 52).toInt ∧ (y.1 0 52).toInt ≤ 1500) (yq : q0 y T) {lv : Nat → Int32} (hlv : ∀ p, p < (stN C (K + 1)).2.1.length → y.1 76 (8 * T + slN (stN C (K + 1)).2.1 p) = lv p) (mc : MMc y E) (mT : ∀ t' : Nat, t' < 6 → ¬ t' = T → (s = 9 → ¬ t' = c.toNatClampNeg) → mTq y C t' (E.2.2 t')) (e3 : (E.2.2 T).2.2.2.1 = 0) (e4 : (E.2.2 T).2.2.2.2.1 = 0) (e5 : y.1 79 T = (E.2.2 T).2.2.2.2.2.1) (e6 : mLt y T (E.2.2 T).2.2.2.2.2.2.1)
    (hc : s = 9 → vp_in c 6 ∧ ¬ c.toNatClampNeg = T ∧ y.1 73 c.toNatClampNeg = 1 ∧ q0 y c.toNatClampNeg ∧ ∃ (h : gTq) (b : Nat) (lc : Nat → Int32), E.2.2 c.toNatClampNeg = thN C c.toNatClampNeg h b lc ∧ (y.1 74 c.toNatClampNeg).toInt = (b : Nat) ∧ b < C.1.length ∧ (∀ p, p < (stN C b).2.1.length → y.1 76 (8 * c.toNatClampNeg + slN (stN C b).2.1 p) = lc p) ∧ h.2.2.2.1 = 0 ∧ h.2.2.2.2.1 = 0 ∧ y.1 79 c.toNatClampNeg = h.2.2.2.2.2.1 ∧ mLt y c.toNatClampNeg h.2.2.2.2.2.2.1)
    (rt : ∀ t' : Nat, t' < 6 → ¬ t' = T → (s = 9 → ¬ t' = c.toNatClampNeg) → rT y S t') (rlT : rl y S T) (rlc : s = 9 → rl y S c.toNatClampNeg)
    (h : ∀ x' S', RI x' S' → ssub S S' → md hL hA y x' → MM1 x' C (upT E T (thN C T (E.2.2 T) (K + 1) lv)) → Fv x' S') : MD (d + 4) z_doAct 695 [(0, vr 0), (1, vi t), (4, vi s), (5, vi c)] [] S y (Dv Fv) := by
  have k1 : (1 : Int32).toInt = 1 := rfl
  have T6 : T < 6 := by rw [eT]; exact vt ht
  have l52 : (y.1 0 52).toInt = C.1.length := hK.1.1
  refine sd_doAct_695 _ _ _ ⟨ht, ht, fun y3' e3' => ?_⟩
  rw [← eT] at e3'
  have ki : (y.1 74 T + 1).toInt = (K + 1 : Nat) := by
    rw [t_add (by omega) (by omega), k1, y74]; omega
  have kc : (y.1 74 T + 1).toNatClampNeg = K + 1 := by rw [t_cl, ki]; rfl
  have t3 : th3 T y y3' := by rw [e3']; exact th3_si (by decide) _ _
  have a3 : y3'.1 74 T = y.1 74 T + 1 := by rw [e3', si_get, if_pos ⟨rfl, rfl⟩]
  have b73 : y3'.1 73 = y.1 73 := by rw [e3', si_cell (by decide)]
  have b76 : y3'.1 76 = y.1 76 := by rw [e3', si_cell (by decide)]
  have b52 : y3'.1 0 52 = y.1 0 52 := by rw [e3', si_cell (by decide)]
  have bq : q0 y3' T := by rw [e3']; exact q0_si (by decide) yq
  obtain ⟨st1, hst1⟩ : ∃ st1, C.1[K + 1]? = some st1 := ⟨_, List.getElem?_eq_getElem (by omega)⟩
  rw [stN_is hst1] at hlv
  refine ds_own3 t ht (CP_th (th3_th t3) cp) (by rw [← eT, a3, ki]; omega) (fun _ => by rw [← eT, a3, b52, ki]; omega) (by rw [← eT]; exact bq) (MK_th3 hK t3) hN (by rw [← eT, b73]; exact y73) (st0 := st1) (lv0 := lv) (by rw [← eT, a3, kc]; exact hst1) (fun p hp => by rw [← eT, b76]; exact hlv p hp) (fun z S2 tz sz raz w9 z78 ow => ?_)
  rw [← eT] at tz raz w9 z78 ow
  rw [a3, kc] at ow
  have ty : th3 T y z := th3_tr t3 tz
  have rtz : ∀ t' : Nat, t' < 6 → (s = 9 → ¬ t' = c.toNatClampNeg) → rT z S2 t' := by
    intro t' ht' hc'
    by_cases q : t' = T
    · rw [q]; exact ⟨raz, Or.inl w9, rl_th (th3_th ty) sz rlT⟩
    · exact rT_th (th3_th ty) sz q (rt t' ht' q hc')
  have mz : mTq z C T (thN C T (E.2.2 T) (K + 1) lv) := mTq_own ow w9 z78 e3 e4 (by rw [ty.1.2.1 79 (by decide) (by decide)]; exact e5) (mLt_eq e6 (ty.1.2.1 80 (by decide) (by decide)) (ty.1.2.1 81 (by decide) (by decide)) (ty.1.2.1 82 (by decide) (by decide)))
  have mo : ∀ t' : Nat, t' < 6 → ¬ t' = T → (s = 9 → ¬ t' = c.toNatClampNeg) → mTq z C t' (E.2.2 t') := fun t' ht' ne hc' => mTq_th hN ty ne (mT t' ht' ne hc')
  refine ⟨fun n9 => Dv_i (h z S2 ⟨CP_th (th3_th ty) cp, fun t' ht' => rtz t' ht' (fun q => absurd q n9)⟩ sz ty.1 ⟨(MMc_th mc ty).1, (MMc_th mc ty).2, fun t' ht' => ?_⟩), fun e9 => ?_⟩
  · show mTq z C t' (upf E.2.2 T _ t')
    by_cases q : t' = T
    · rw [q, upf_eq]; exact mz
    · rw [upf_ne q]; exact mo t' ht' q (fun z => absurd z n9)
  obtain ⟨c1, c2, c3, c4, hh, b, lc, g1, g2, g3, g4, g5, g6, g7, g8⟩ := hc e9
  obtain ⟨N, eN⟩ : ∃ N, N = c.toNatClampNeg := ⟨_, rfl⟩
  rw [← eN] at c2 c3 c4 g1 g2 g4 g7 g8
  have N6 : N < 6 := by rw [eN]; exact vt c1
  have f := fun q hq => ty.2.1 q N hq c2
  obtain ⟨stb, hstb⟩ : ∃ stb, C.1[b]? = some stb := ⟨_, List.getElem?_eq_getElem g3⟩
  have es := stN_is hstb
  have z74 : z.1 74 N = y.1 74 N := f 74 (by omega)
  have bc : (z.1 74 N).toNatClampNeg = b := by rw [z74, t_cl, g2]; rfl
  refine ds_own3 c c1 (CP_th (th3_th ty) cp) (by rw [← eN, z74, g2]; omega) (fun _ => by rw [← eN, z74, g2, ty.1.1 52 (by decide)]; omega) (by rw [← eN]; unfold q0; rw [f 77 (by omega), f 78 (by omega), f 75 (by omega)]; exact c4) (MK_th3 hK ty) hN (by rw [← eN, f 73 (by omega)]; exact c3) (st0 := stb) (lv0 := lc) (by rw [← eN, bc]; exact hstb) (fun p hp => ?_) (fun u S3 tu su rau wu u78 ou => ?_)
  · have hp' : p < (stN C b).2.1.length := by rw [es]; exact hp
    have k8 := kn_8 hN b _ (slN_mem hp')
    have g4' := g4 p hp'
    rw [es] at k8 g4'
    rw [← eN, ty.2.2 _ (by omega)]
    exact g4'
  rw [← eN] at tu rau wu u78 ou
  rw [bc] at ou
  refine Dv_i (h u S3 ⟨CP_th (th3_th tu) (CP_th (th3_th ty) cp), fun t' ht' => ?_⟩ (ssub_tr sz su) (md_tr ty.1 tu.1 rfl rfl) ⟨(MMc_th (MMc_th mc ty) tu).1, (MMc_th (MMc_th mc ty) tu).2, fun t' ht' => ?_⟩)
  · by_cases q : t' = N
    · rw [q]; exact ⟨rau, Or.inl wu, rl_th (th3_th tu) su (rl_th (th3_th ty) sz (by rw [eN]; exact rlc e9))⟩
    · exact rT_th (th3_th tu) su q (rtz t' ht' (fun _ => by rw [← eN]; exact q))
  · show mTq u C t' (upf E.2.2 T _ t')
    by_cases q : t' = T
    · rw [q, upf_eq]
      exact mTq_th hN tu (fun z => c2 z.symm) mz
    · rw [upf_ne q]
      by_cases q2 : t' = N
      · rw [q2, g1]
        exact mTq_own ou wu u78 g5 g6 (by rw [tu.1.2.1 79 (by decide) (by decide), ty.1.2.1 79 (by decide) (by decide)]; exact g7) (mLt_eq g8 (by rw [tu.1.2.1 80 (by decide) (by decide), ty.1.2.1 80 (by decide) (by decide)]) (by rw [tu.1.2.1 81 (by decide) (by decide), ty.1.2.1 81 (by decide) (by decide)]) (by rw [tu.1.2.1 82 (by decide) (by decide), ty.1.2.1 82 (by decide) (by decide)]))
      · exact mTq_th hN tu q2 (mo t' ht' q (fun _ => by rw [← eN]; exact q2))
end DTL
