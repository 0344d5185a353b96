/-! the model: whether a thread's act can be done -/
section DH3
variable {d : Nat} {S : gS} {x : gd} {F : Int32 → gd → gS → Prop} {Fv : gd → gS → Prop} {C : gCo} {M : gMa}
theorem hol_0 : ∀ h, h < 7 → (Int32.ofNat h - 1 = -1 ↔ h = 0) := by decide +kernel
theorem sta_2 : ∀ h, h < 4 → (Int32.ofNat h ≤ 1 ↔ h ≤ 1) := by decide +kernel
set_option maxHeartbeats 1000000 in
theorem ds_hasAct3 (t : Int32) (ht : vp_in t 6) (ri : RI x S) (hK : MK x C) (hN : NC C) (hX : NXc C) (hM : MM1 x C M) {wa : Nat} (wy : x.1 0 68 = Int32.ofNat wa) (w01 : wa = 0 ∨ wa = 1) (hlt : wa = 0 → ∀ t', t' < 6 → (M.2.2 t').2.2.2.2.2.2.1 = []) (h0 : ¬ canM C wa M t.toNatClampNeg → F 0 x S) (h1 : x.1 73 t.toNatClampNeg = 1 → ¬ x.1 77 t.toNatClampNeg = 1 → canM C wa M t.toNatClampNeg → F 1 x S) : MD (d + 1) z_hasAct 0 [(0, vr 0), (1, vi t)] [] S x (Di F) := by
  have tv := vp_in_iff.mp ht
  obtain ⟨T, eT⟩ : ∃ T, T = t.toNatClampNeg := ⟨_, rfl⟩
  have T6 : T < 6 := by rw [eT]; exact vt ht
  have tT : t = Int32.ofNat T := i32_of (by rw [eT, t_cl]; omega)
  obtain ⟨m73, l73, m75, m74, m77, l77, m78, m79, mlt, mlv⟩ := hM.2.2 T T6
  obtain ⟨b2, b1, b0⟩ := wai_2 _ (show (M.2.2 T).2.2.2.1 < 3 by omega)
  rw [← m77] at b2 b1 b0
  have sta : x.1 73 T = 1 ↔ (M.2.2 T).1 = 1 := by
    rw [m73]
    rcases (show (M.2.2 T).1 = 0 ∨ (M.2.2 T).1 = 1 ∨ (M.2.2 T).1 = 2 ∨ (M.2.2 T).1 = 3 by omega) with e | e | e | e <;> rw [e] <;> decide
  rw [← eT] at h0 h1
  refine sd_hasAct_0 _ ⟨ht, fun c => Di_i (h0 (fun z => c (by rw [← eT]; exact sta.mpr z.1))), fun c1 => ⟨ht, fun c2 => ⟨ht, ?_⟩, fun c => Di_i (h0 (fun z => z.2.1 (b1.mp (by rw [eT]; exact c))))⟩⟩
  rw [← eT] at c1 c2
  have h1 := h1 c1 c2
  obtain ⟨kv, kn, _, av⟩ := RI_step ri T6 c1
  obtain ⟨s1, s2, s3⟩ := srt_of ri T6 c1
  obtain ⟨k, ek⟩ : ∃ k, k = x.1 74 T := ⟨_, rfl⟩
  rw [← ek] at kv kn av s1 s2 s3 m74
  obtain ⟨s, es⟩ : ∃ s, s = srt x T := ⟨_, rfl⟩
  rw [← es] at s1 s2 s3
  have l52 : (x.1 0 52).toInt = C.1.length := hK.1.1
  obtain ⟨K, eKd⟩ : ∃ K, K = (M.2.2 T).2.2.1 := ⟨_, rfl⟩
  rw [← eKd] at m74
  have kst : k.toNatClampNeg = K := by rw [t_cl, m74]; rfl
  obtain ⟨st, hst⟩ : ∃ st, C.1[K]? = some st := ⟨_, List.getElem?_eq_getElem (by omega)⟩
  have esN := stN_is hst
  obtain ⟨g54, g55, g56, -⟩ := hK.1.2 _ st hst
  have ns := hN.1 _ st hst
  obtain ⟨-, -, -, -, -, nx5⟩ := hX _ st hst
  rw [← kst] at g54 g55 g56
  have o16 : st.1 < 16 := by
    have a := ((ri.2 T T6).1.2.2 c1).2
    rw [← ek, g54] at a
    exact (mWh_i st.1 ns.1.1).1.mp a
  have g55 := g55 o16
  obtain ⟨o, eo⟩ : ∃ o, o = soM C (M.2.2 T) := ⟨_, rfl⟩
  have sO : s = Int32.ofNat o ∧ o < 16 ∧ (¬ o = 15 → o = st.1) := by
    rw [eo, es]
    unfold soM srt
    rw [← eKd, esN]
    by_cases c9 : x.1 77 T = 2
    · rw [if_pos c9, if_neg (by have := b2.mp c9; omega)]
      exact ⟨rfl, by omega, fun z => absurd rfl z⟩
    · have w0 : (M.2.2 T).2.2.2.1 = 0 := by
        have a1 : ¬ (M.2.2 T).2.2.2.1 = 2 := fun z => c9 (b2.mpr z)
        have a2 : ¬ (M.2.2 T).2.2.2.1 = 1 := fun z => c2 (b1.mpr z)
        omega
      rw [if_neg c9, if_pos w0, ← ek]
      exact ⟨g55, o16, fun _ => rfl⟩
  obtain ⟨sI, o15, oN⟩ := sO
  have sE : ∀ n : Nat, n < 16 → (s = Int32.ofNat n ↔ o = n) := fun n hn => by
    rw [t_eq, sI, op_16 o o15, op_16 n hn]; omega
  have sT : s.toInt = (o : Nat) := by rw [sI]; exact op_16 o o15
  obtain ⟨B, eB⟩ : ∃ B, B = obM C K := ⟨_, rfl⟩
  have hB : (x.1 56 k.toNatClampNeg).toNatClampNeg = B := by rw [eB, g56]; unfold obM; rw [esN]
  have l80 : x.1 80 T = 0 ↔ (M.2.2 T).2.2.2.2.2.2.1 = [] := by
    rw [t_eq, mlt.1, show (0 : Int32).toInt = 0 from rfl]
    exact ⟨fun z => List.eq_nil_of_length_eq_zero (by omega), fun z => by rw [z]; rfl⟩
  unfold canM at h0 h1
  rw [← eo, ← eKd, ← eB] at h0 h1
  have can1 := sta.mp c1
  have can2 : ¬ (M.2.2 T).2.2.2.1 = 1 := fun z => c2 (b1.mpr z)
  let W : Prop := ¬ (o = 0 ∨ o = 12 ∨ o = 13 ∨ o = 14 ∨ (wa = 1 ∧ o = 1 ∧ suM C B = false)) → (M.2.2 T).2.2.2.2.2.2.1 = []
  have p149 : W → (o = 5 ∨ o = 15) → MD (d + 1) z_hasAct 149 [(0, vr 0), (1, vi t), (2, vi k)] [] S x (Di F) := by
    intro hw q
    have ob := s2 (q.imp (fun q => by omega) (fun q => (sE 15 (by omega)).mpr q))
    have ov : vp_in (x.1 56 k.toNatClampNeg) 6 := by rw [vp_in_iff]; omega
    have B6 : B < 6 := by rw [← hB]; exact vp_lt ov
    obtain ⟨e71, l71, -⟩ := hM.2.1 B B6
    have a1 := hol_0 _ (show (M.2.1 B).1 < 7 by omega)
    have a2 := hol_t _ (show (M.2.1 B).1 < 7 by omega) T T6
    rw [← e71] at a1 a2
    rw [← tT] at a2
    refine sd_hasAct_149 _ _ ⟨kv, ov, ?_⟩
    rw [hB]
    exact ⟨fun c => Di_i (h1 ⟨can1, can2, hw, fun _ => Or.inl (a1.mp c), fun z => by omega⟩), fun c => ⟨kv, ov, fun c9 => Di_i (h0 (fun z => (z.2.2.2.1 q).elim (fun z => c (a1.mpr z)) (fun z => c9 (a2.mpr z)))), fun c9 => Di_i (h1 ⟨can1, can2, hw, fun _ => Or.inr (a2.mp c9), fun z => by omega⟩)⟩⟩
  have p138 : W → MD (d + 1) z_hasAct 138 [(0, vr 0), (1, vi t), (2, vi k), (3, vi s)] [] S x (Di F) := by
    intro hw
    have e5 := sE 5 (by omega)
    have e15 := sE 15 (by omega)
    have e10 := sE 10 (by omega)
    refine sd_hasAct_138 _ _ _ ⟨fun e => p149 hw (Or.inl (e5.mp e)), fun n5 => ⟨fun n15 => ⟨fun n10 => Di_i (h1 ⟨can1, can2, hw, fun z => absurd z (fun z => z.elim (fun z => n5 (e5.mpr z)) (fun z => n15 (e15.mpr z))), fun z => absurd (e10.mpr z) n10⟩), fun e => ⟨kv, ?_⟩⟩, fun e => p149 hw (Or.inr (e15.mp e))⟩⟩
    have o10 := e10.mp e
    have ob := s2 (Or.inl (by omega))
    have ov : vp_in (x.1 56 k.toNatClampNeg) 6 := by rw [vp_in_iff]; omega
    have B6 : B < 6 := by rw [← hB]; exact vp_lt ov
    obtain ⟨n73, nl73, -, -, -, -, -, -, nlt, -⟩ := hM.2.2 B B6
    have a2 := sta_2 _ (show (M.2.2 B).1 < 4 by omega)
    rw [← n73] at a2
    have nl : x.1 80 B = 0 ↔ (M.2.2 B).2.2.2.2.2.2.1 = [] := by
      rw [t_eq, nlt.1, show (0 : Int32).toInt = 0 from rfl]
      exact ⟨fun z => List.eq_nil_of_length_eq_zero (by omega), fun z => by rw [z]; rfl⟩
    refine ⟨fun c => Di_i (h0 (fun z => ?_)), fun _ => ⟨ov, ?_⟩⟩
    · have := (z.2.2.2.2 o10).1
      have bT : B = T := by rw [← hB, c, ← eT]
      rw [bT] at this
      omega
    · rw [hB]
      exact ⟨fun c => Di_i (h0 (fun z => by have := (z.2.2.2.2 o10).1; have := a2.mp c; omega)), fun c => ⟨ov, fun c9 => Di_i (h0 (fun z => c9 (nl.mpr (z.2.2.2.2 o10).2))), fun c9 => Di_i (h1 ⟨can1, can2, hw, fun z => by omega, fun _ => ⟨Classical.byContradiction (fun z => c (a2.mpr (by omega))), nl.mp c9⟩⟩)⟩⟩
  have p124 : ∀ b q : Int32, ((¬ b = 0 ∧ (wa = 0 ∨ (M.2.2 T).2.2.2.2.2.2.1 = [])) ∨ (b = 0 ∧ ¬ (M.2.2 T).2.2.2.2.2.2.1 = [])) → ((q = 0 ∧ (o = 0 ∨ o = 12 ∨ o = 13 ∨ o = 14 ∨ (o = 1 ∧ suM C B = false))) ∨ (¬ q = 0 ∧ ¬ (o = 0 ∨ o = 12 ∨ o = 13 ∨ o = 14 ∨ (o = 1 ∧ suM C B = false)))) → MD (d + 1) z_hasAct 124 [(0, vr 0), (1, vi t), (2, vi k), (3, vi s), (5, vi b)] [vi q] S x (Di F) := by
    intro b q hb hq
    have wl : wa = 0 → W := fun z _ => hlt z T T6
    refine sd_hasAct_124 _ _ _ _ _ ⟨fun c => p138 ?_, fun c => ⟨fun c9 => p138 ?_, fun c9 => Di_i (h0 (fun z => ?_))⟩⟩
    · rcases w01 with z | z
      · exact wl z
      · rcases hq with ⟨-, hq⟩ | ⟨hq, -⟩
        · intro n
          exact absurd (by rcases hq with e | e | e | e | ⟨e, e'⟩; exact Or.inl e; exact Or.inr (Or.inl e); exact Or.inr (Or.inr (Or.inl e)); exact Or.inr (Or.inr (Or.inr (Or.inl e))); exact Or.inr (Or.inr (Or.inr (Or.inr ⟨z, e, e'⟩)))) n
        · exact absurd c hq
    · rcases hb with ⟨-, hb | hb⟩ | ⟨hb, -⟩
      · exact wl hb
      · exact fun _ => hb
      · exact absurd hb c9
    · rcases hb with ⟨hb, -⟩ | ⟨-, hb⟩
      · exact hb c9
      · rcases hq with ⟨hq, -⟩ | ⟨-, hq⟩
        · exact c hq
        · exact hb (z.2.2.1 (fun n => hq (by rcases n with e | e | e | e | ⟨-, e, e'⟩; exact Or.inl e; exact Or.inr (Or.inl e); exact Or.inr (Or.inr (Or.inl e)); exact Or.inr (Or.inr (Or.inr (Or.inl e))); exact Or.inr (Or.inr (Or.inr (Or.inr ⟨e, e'⟩))))))
  have p85 : ∀ a b : Int32, (o = 1 → (a = 0 ↔ suM C B = false)) → ((¬ b = 0 ∧ (wa = 0 ∨ (M.2.2 T).2.2.2.2.2.2.1 = [])) ∨ (b = 0 ∧ ¬ (M.2.2 T).2.2.2.2.2.2.1 = [])) → MD (d + 1) z_hasAct 85 [(0, vr 0), (1, vi t), (2, vi k), (3, vi s), (4, vi a)] [vi b] S x (Di F) := by
    intro a b ha hb
    have e0 := sE 0 (by omega)
    have e12 := sE 12 (by omega)
    have e13 := sE 13 (by omega)
    have e14 := sE 14 (by omega)
    have e1 := sE 1 (by omega)
    refine sd_hasAct_85 _ _ _ _ _ ⟨fun e => p124 _ _ hb (Or.inl ⟨rfl, Or.inl (e0.mp e)⟩), fun n0 => ⟨fun e => p124 _ _ hb (Or.inl ⟨rfl, Or.inr (Or.inl (e12.mp e))⟩), fun n12 => ⟨fun e => p124 _ _ hb (Or.inl ⟨rfl, Or.inr (Or.inr (Or.inl (e13.mp e)))⟩), fun n13 => ⟨fun e => p124 _ _ hb (Or.inl ⟨rfl, Or.inr (Or.inr (Or.inr (Or.inl (e14.mp e))))⟩), fun n14 => ⟨fun n1 => p124 _ _ hb (Or.inr ⟨by decide, fun z => ?_⟩), fun e => ⟨fun c => p124 _ _ hb (Or.inl ⟨rfl, Or.inr (Or.inr (Or.inr (Or.inr ⟨e1.mp e, (ha (e1.mp e)).mp c⟩)))⟩), fun c => p124 _ _ hb (Or.inr ⟨by decide, fun z => ?_⟩)⟩⟩⟩⟩⟩⟩
    · rcases z with z | z | z | z | ⟨z, -⟩
      · exact n0 (e0.mpr z)
      · exact n12 (e12.mpr z)
      · exact n13 (e13.mpr z)
      · exact n14 (e14.mpr z)
      · exact n1 (e1.mpr z)
    · rcases z with z | z | z | z | ⟨z, z'⟩
      · exact n0 (e0.mpr z)
      · exact n12 (e12.mpr z)
      · exact n13 (e13.mpr z)
      · exact n14 (e14.mpr z)
      · exact c ((ha z).mpr z')
  have p62 : ∀ a : Int32, (o = 1 → (a = 0 ↔ suM C B = false)) → MD (d + 1) z_hasAct 62 [(0, vr 0), (1, vi t), (2, vi k), (3, vi s)] [vi a] S x (Di F) := by
    intro a ha
    refine sd_hasAct_62 _ _ _ _ ⟨fun c => p85 _ _ ha (Or.inl ⟨by decide, Or.inl (w01.resolve_right (fun z => by rw [wy, z] at c; exact absurd c (by decide)))⟩), fun c => ⟨ht, ?_⟩⟩
    rw [← eT]
    exact ⟨fun c9 => p85 _ _ ha (Or.inr ⟨rfl, fun z => c9 (l80.mpr z)⟩), fun c9 => p85 _ _ ha (Or.inl ⟨by decide, Or.inr (l80.mp c9)⟩)⟩
  rw [← eT, ← ek]
  refine ds_sortOf t ht (by rw [← eT, ← ek]; exact kv) ?_
  rw [← eT, ← es]
  refine ds_isAccess s (fun n => ⟨fun _ => p62 0 (fun z => absurd (by omega) n), fun q => absurd rfl q⟩) (fun q => ⟨fun q => absurd q (by decide), fun _ => ⟨kv, ?_, ?_⟩⟩)
  · have o := s1 q
    rw [vp_in_iff]; omega
  · have su : o = 1 → x.1 37 B = if suM C B = true then 1 else 0 := fun e1 => by
      have o1 := oN (by omega)
      obtain ⟨b1, b2, -⟩ := nx5 (by omega)
      have cl : B < C.2.2.1.length := by
        rw [eB]; unfold obM; rw [esN, t_cl]; omega
      obtain ⟨q, hq⟩ : ∃ q, C.2.2.1[B]? = some q := ⟨_, List.getElem?_eq_getElem cl⟩
      rw [(hK.2.2.1.2 _ q hq).2]
      unfold suM
      rw [hq]
    rw [hB]
    refine ⟨fun c => p62 0 (fun z => ⟨fun _ => ?_, fun _ => rfl⟩), fun c => p62 1 (fun z => ⟨fun y => absurd y (by decide), fun y => ?_⟩)⟩
    · rw [su z] at c
      cases e9 : suM C B with
      | false => rfl
      | true => rw [e9] at c; exact absurd c (by decide)
    · rw [su z, y] at c
      exact absurd rfl c
end DH3
