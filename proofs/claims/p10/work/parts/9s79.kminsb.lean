/-! the class: all threads' accesses; races -/
section KIB
variable {G : kG} {q : kP} {d : Nat} {x y z : gd} {o : Nat} {F : Int32 → gd → Prop} {Fv : gd → Prop} {C : gCo} {M : gMa} {T w : Nat}
theorem AC_f (e9 : y.1 209 T = x.1 209 T) (e10 : y.1 210 T = x.1 210 T) (h : ACx x C w M T) : ACx y C w M T := by
  unfold ACx
  rw [e9, e10]
  exact h
theorem t_and1 (a : Int32) : a &&& 1 = 0 ∨ a &&& 1 = 1 := by
  have e : (a &&& 1).toBitVec.toNat = a.toBitVec.toNat % 2 := by
    rw [Int32.toBitVec_and, BitVec.toNat_and]
    exact Nat.and_two_pow_sub_one_eq_mod _ 1
  rcases Nat.mod_two_eq_zero_or_one a.toBitVec.toNat with h | h
  · exact Or.inl (Int32.toBitVec_inj.mp (BitVec.eq_of_toNat_eq (by rw [e, h]; rfl)))
  · exact Or.inr (Int32.toBitVec_inj.mp (BitVec.eq_of_toNat_eq (by rw [e, h]; rfl)))
theorem bit_or (a : Int32) {u t : Nat} (hu : u < 8) (ht : t < 8) : ((a ||| ((1 : Int32) <<< (Int32.ofNat u &&& 31))) >>> (Int32.ofNat t &&& 31)) &&& 1 = 1 ↔ ((a >>> (Int32.ofNat t &&& 31)) &&& 1 = 1 ∨ t = u) := by
  rw [or_sr, km_1 u hu t ht]
  have b : (a >>> (Int32.ofNat t &&& 31)) &&& 1 = 0 ∨ (a >>> (Int32.ofNat t &&& 31)) &&& 1 = 1 := t_and1 _
  by_cases c : t = u
  · rw [if_pos c]
    refine ⟨fun _ => Or.inr c, fun _ => ?_⟩
    rcases b with b | b <;> rw [b] <;> decide
  · rw [if_neg c]
    rcases b with b | b <;> rw [b]
    · exact ⟨fun z => absurd z (by decide), fun z => z.elim (fun z => absurd z (by decide)) (fun z => absurd z c)⟩
    · exact ⟨fun _ => Or.inl rfl, fun _ => by decide⟩
theorem kh_inspectActs (hq : kV q) (he : q.ex = true) (ho : kiT q o) (ht : q.et = some o) (hM : MM x 220) (hK : CK x C) (hN : NC C) (hX : NXc C) (hX3 : NX3 C) (g : KMm x 220 C M) (wy : x.1 220 3 = Int32.ofNat w) (w01 : w = 0 ∨ w = 1) (hL : LSk x 220) (hc : kchL x 220 (chM C w M)) (h : ∀ y, fm (sIn o) x y → (∀ t, t < C.2.1.length → ACx y C w M t) → Fv y) : KT G q (d + 5) zk_X2_inspectActs 0 [(0, vr 200)] [] x (rv Fv) := by
  have hO := iT_O ho
  have hm : kiM q 220 := Or.inr ⟨rfl, he⟩
  have t6 := hM.1.1.2.2.1
  have nT : (x.1 60 10).toInt = C.2.1.length := hK.2.1.1
  have l84 := hL.1
  obtain ⟨c13, cch⟩ := hc
  have loop2 : ∀ (n k : Nat) (i l1 l2 : Int32) (y : gd), (∀ t, t < C.2.1.length → ((l1 >>> (Int32.ofNat t &&& 31)) &&& 1 = 1 ↔ canM C w M t)) → i.toInt = k → (x.1 60 10).toInt - k ≤ n → fm (sIn o) x y → (∀ t, t < k → ACx y C w M t) → KT G q (d + 5) zk_X2_inspectActs 52 [(0, vr 200), (1, vi l1), (2, vi l2), (3, vi i)] [] y (rv Fv) := by
    intro n
    have out : ∀ (k : Nat) (i l2 : Int32) (y : gd), i.toInt = k → x.1 60 10 ≤ i → fm (sIn o) x y → (∀ t, t < k → ACx y C w M t) → ((l2 = (0 : Int32) → rv Fv none y) ∧ (¬ (l2 = (0 : Int32)) → (∀ u3, u3 = (kf q).1 200 7 → ∃ c4, u3 = some c4 ∧ kiT q c4 ∧ (∀ x6, x6 = si y c4 4 ((y.1 c4 4) + 1) → rv Fv none x6)))) := by
      intro k i l2 y ei c fy hac
      rw [t_le] at c
      have hac : ∀ t, t < C.2.1.length → ACx y C w M t := fun t ht => hac t (by omega)
      refine ⟨fun _ => rv_i (h y fy hac), fun _ u eu => ?_⟩
      rw [et_r ht] at eu
      exact ⟨o, eu, ho, fun z ez => rv_i (h z (by rw [ez]; exact fm_si fy (by unfold sIn; omega)) (fun t ht => AC_f (by rw [ez, si_cell (by omega)]) (by rw [ez, si_cell (by omega)]) (hac t ht)))⟩
    induction n with
    | zero =>
      intro k i l1 l2 y hb ei hn fy hac
      refine kg_X2_inspectActs_52 hq he _ _ _ ⟨fun c => out k i l2 y ei (by rw [fy 60 10 (by unfold sIn; omega)] at c; exact c) fy hac, fun c => ?_⟩
      rw [t_le, fy 60 10 (by unfold sIn; omega)] at c; omega
    | succ n ih =>
      intro k i l1 l2 y hb ei hn fy hac
      refine kg_X2_inspectActs_52 hq he _ _ _ ⟨fun c => out k i l2 y ei (by rw [fy 60 10 (by unfold sIn; omega)] at c; exact c) fy hac, fun c => ?_⟩
      rw [t_le, fy 60 10 (by unfold sIn; omega)] at c
      have hk : k < C.2.1.length := by omega
      have e1 : (i + 1).toInt = ((k + 1 : Nat) : Int) := by rw [t_add (by show _ ≤ _ + (1 : Int); omega) (by show _ + (1 : Int) ≤ _; omega), ei]; rfl
      have iK : i.toNatClampNeg = k := by rw [t_cl, ei]; rfl
      have iO : i = Int32.ofNat k := i32_of ei
      refine ⟨by rw [vp_in_iff]; omega, fun z ez => ?_⟩
      rw [iK] at ez
      have fz : fm (sIn o) x z := by rw [ez]; exact fm_si fy (by unfold sIn; omega)
      have hMz := sIn_MM ho fz hM
      obtain ⟨hKz, gz⟩ := KM_In ho hM hK fz g
      have z9 : z.1 209 k = -1 := by rw [ez, si_get, if_pos ⟨rfl, rfl⟩]
      have hbk := hb k hk
      rw [← iO] at hbk
      have zac : ∀ t, t < k → ACx z C w M t := fun t ht => AC_f (by rw [ez, si_get, if_neg (by omega)]) (by rw [ez, si_get, if_neg (by omega)]) (hac t ht)
      have go : ∀ l2 w9, fm (sIn o) x w9 → (∀ t, t < k → ACx w9 C w M t) → ACx w9 C w M k → KT G q (d + 5) zk_X2_inspectActs 52 [(0, vr 200), (1, vi l1), (2, vi l2), (3, vi (i + 1))] [] w9 (rv Fv) := fun l2 w9 fw a1 a2 => ih (k + 1) _ _ _ w9 hb e1 (by push_cast; omega) fw (fun t ht => by
        by_cases e : t = k
        · rw [e]; exact a2
        · exact a1 t (by omega))
      refine ⟨fun nb => ?_, fun b => kh_inspectAct hq he ho ht hMz hKz hN hX hX3 gz (by rw [fz 220 3 (by unfold sIn; omega)]; exact wy) w01 _ ei hk (hbk.mp b) z9 (fun w9 fw a2 => go _ _ (fm_tr fz (fm_w fw (fun c k => sI1_In))) (fun t ht => AC_f (fw _ _ (fun q => by have := q.2 (Or.inl rfl); omega)) (fw _ _ (fun q => by have := q.2 (Or.inr rfl); omega)) (zac t ht)) a2)⟩
      have na : ACx z C w M k := Or.inr ⟨fun q => nb (hbk.mpr q.1), z9⟩
      exact kp_isGoing hq hm hMz.1 hMz.2.1 _ ei (by omega) (fun _ => ⟨fun _ => go _ _ fz zac na, fun _ => go _ _ fz zac na⟩) (fun _ => ⟨fun _ => go _ _ fz zac na, fun _ => go _ _ fz zac na⟩)
  have bits : ∀ (l1 : Int32), (∀ t, t < C.2.1.length → ((l1 >>> (Int32.ofNat t &&& 31)) &&& 1 = 1 ↔ ∃ i ch, i < (chM C w M).length ∧ (chM C w M)[i]? = some ch ∧ ch.2.1 = none ∧ ch.1 = t)) → ∀ t, t < C.2.1.length → ((l1 >>> (Int32.ofNat t &&& 31)) &&& 1 = 1 ↔ canM C w M t) := by
    intro l1 hb t ht
    rw [hb t ht, can_ch ht]
    constructor
    · rintro ⟨i, ch, -, h1, h2⟩
      exact ⟨ch, List.mem_of_getElem? h1, h2⟩
    · rintro ⟨ch, h1, h2⟩
      obtain ⟨i, hi⟩ := List.mem_iff_getElem?.mp h1
      exact ⟨i, ch, gt_lt hi, hi, h2⟩
  have loop : ∀ (n k : Nat) (i l1 : Int32), i.toInt = k → (x.1 220 13).toInt - k ≤ n → k ≤ (chM C w M).length → (∀ t, t < C.2.1.length → ((l1 >>> (Int32.ofNat t &&& 31)) &&& 1 = 1 ↔ ∃ i ch, i < k ∧ (chM C w M)[i]? = some ch ∧ ch.2.1 = none ∧ ch.1 = t)) → KT G q (d + 5) zk_X2_inspectActs 4 [(0, vr 200), (1, vi l1), (2, vi i)] [] x (rv Fv) := by
    intro n
    have fin : ∀ (k : Nat) (i l1 : Int32), i.toInt = k → k ≤ (chM C w M).length → (∀ t, t < C.2.1.length → ((l1 >>> (Int32.ofNat t &&& 31)) &&& 1 = 1 ↔ ∃ i ch, i < k ∧ (chM C w M)[i]? = some ch ∧ ch.2.1 = none ∧ ch.1 = t)) → x.1 220 13 ≤ i → KT G q (d + 5) zk_X2_inspectActs 52 [(0, vr 200), (1, vi l1), (2, vi 0), (3, vi 0)] [] x (rv Fv) := by
      intro k i l1 ei hkl hb c
      rw [t_le] at c
      have ek : k = (chM C w M).length := by clear hb; omega
      rw [ek] at hb
      exact loop2 6 0 _ _ _ x (bits l1 hb) rfl (by clear hb; omega) (fm_rf _ _) (fun t ht => absurd ht (Nat.not_lt_zero _))
    induction n with
    | zero =>
      intro k i l1 ei hn hkl hb
      refine kg_X2_inspectActs_4 hq he _ _ ⟨fun c => fin k i l1 ei hkl hb c, fun c => ?_⟩
      clear hb
      rw [t_le] at c; omega
    | succ n ih =>
      intro k i l1 ei hn hkl hb
      refine kg_X2_inspectActs_4 hq he _ _ ⟨fun c => fin k i l1 ei hkl hb c, fun c => ?_⟩
      rw [t_le] at c
      have hk : k < (chM C w M).length := by clear hb; omega
      have e1 : (i + 1).toInt = ((k + 1 : Nat) : Int) := by clear hb; rw [t_add (by show _ ≤ _ + (1 : Int); omega) (by show _ + (1 : Int) ≤ _; omega), ei]; rfl
      have v84 : vp_in i 84 := by clear hb; rw [vp_in_iff]; omega
      have iK : i.toNatClampNeg = k := by rw [t_cl, ei]; rfl
      obtain ⟨ch, hch⟩ : ∃ ch, (chM C w M)[k]? = some ch := ⟨_, List.getElem?_eq_getElem hk⟩
      obtain ⟨q1, q2, q3, -, -⟩ := cch k ch hch
      have cin := ch_in (List.mem_of_getElem? hch)
      have h6 : ch.1 < 6 := by have := cin.1; clear hb; omega
      have nxt : ∀ t, (∃ i ch', i < k + 1 ∧ (chM C w M)[i]? = some ch' ∧ ch'.2.1 = none ∧ ch'.1 = t) ↔ ((∃ i ch', i < k ∧ (chM C w M)[i]? = some ch' ∧ ch'.2.1 = none ∧ ch'.1 = t) ∨ (ch.2.1 = none ∧ ch.1 = t)) := by
        intro t
        constructor
        · rintro ⟨i, ch', i1, i2, i3⟩
          by_cases e : i = k
          · rw [e, hch] at i2
            rw [Option.some.inj i2]
            exact Or.inr i3
          · exact Or.inl ⟨i, ch', by omega, i2, i3⟩
        · rintro (⟨i, ch', i1, i2, i3⟩ | i3)
          · exact ⟨i, ch', by omega, i2, i3⟩
          · exact ⟨k, ch, by omega, hch, i3⟩
      rw [iK]
      refine ⟨v84, fun cn => ih (k + 1) _ _ e1 (by clear hb nxt; push_cast; omega) hk (fun t ht => ?_), fun cn => ⟨v84, ih (k + 1) _ _ e1 (by clear hb nxt; push_cast; omega) hk (fun t ht => ?_)⟩⟩
      · rw [hb t ht, nxt t]
        exact ⟨Or.inl, fun z => z.elim id (fun z => absurd (q2 z.1) cn)⟩
      · have cn : x.1 (220 + 12) k = -1 := cn
        have q1 : x.1 231 k = Int32.ofNat ch.1 := q1
        have c0 : ch.2.1 = none := by
          cases hz : ch.2.1 with
          | none => rfl
          | some j =>
            have jl := cin.2.2 j hz
            have l7 := (g.2 _ cin.1).2.2.2.2.2.2.1.1
            have l8 := (hM.2.2 ch.1 (by have := cin.1; clear hb nxt; omega)).1.2.1
            have e := q3 j hz
            rw [cn] at e
            have e2 : (Int32.ofNat j).toInt = (j : Nat) := Int32.toInt_ofNat_of_lt (by clear hb nxt; omega)
            rw [← e, tm1] at e2
            clear hb nxt
            omega
        have ht6 : t < 6 := by clear hb nxt; omega
        rw [q1, bit_or _ (by omega) (by omega), hb t ht, nxt t]
        exact or_congr Iff.rfl ⟨fun e => ⟨c0, e.symm⟩, fun e => e.2.symm⟩
  refine kg_X2_inspectActs_0 hq he (loop 84 0 _ _ rfl (by omega) (Nat.zero_le _) (fun t ht => ?_))
  rw [km_0 t (by omega)]
  exact ⟨fun z => absurd z (by decide), fun ⟨i, ch, z, _⟩ => absurd z (Nat.not_lt_zero _)⟩
theorem kh_isRacing (hq : kV q) (he : q.ex = true) (hM : MM x 220) (hK : CK x C) (hN : NC C) (g : KMm x 220 C M) (hac : ∀ t, t < C.2.1.length → ACx x C w M t) (h : ∀ r : Int32, (¬ r = 0 ↔ rcM C w M) → F r x) : KT G q (d + 1) zk_X2_isRacing 0 [(0, vr 200)] [] x (ri F) := by
  have t6 := hM.1.1.2.2.1
  have nT : (x.1 60 10).toInt = C.2.1.length := hK.2.1.1
  have so22 : ∀ t, t < C.2.1.length → soM C (M.2.2 t) < 22 := fun t ht => by
    obtain ⟨st, s1, s2, s3, s4, s5, kn, ns⟩ := kst_at hM hK hN ht (g.2 t ht)
    have n22 := ns.1.1
    unfold soM
    split
    · rw [s2]; exact n22
    · omega
  obtain ⟨P, hP⟩ : ∃ P : Nat → Nat → Prop, ∀ t u, P t u ↔ (axM C w M t ∧ axM C w M u ∧ (lkM C w M t).2.1 = (lkM C w M u).2.1 ∧ srM (soM C (M.2.2 t)) (soM C (M.2.2 u))) := ⟨_, fun t u => Iff.rfl⟩
  have yes : ∀ t u, u < t → t < C.2.1.length → P t u → ri F (some (vi 1)) x := fun t u h1 h2 h3 => ri_i (h _ ⟨fun _ => ⟨t, u, h1, h2, (hP t u).mp h3⟩, fun _ => by decide⟩)
  have outer : ∀ (m j : Nat) (t : Int32), t.toInt = j → (x.1 60 10).toInt - j ≤ m → (∀ t, t < j → ∀ u, u < t → ¬ P t u) → KT G q (d + 1) zk_X2_isRacing 2 [(0, vr 200), (1, vi t)] [] x (ri F) := by
    intro m
    have fin : ∀ (j : Nat) (t : Int32), t.toInt = j → (∀ t, t < j → ∀ u, u < t → ¬ P t u) → x.1 60 10 ≤ t → ri F (some (vi 0)) x := fun j t ej hno c => ri_i (h _ ⟨fun z => absurd rfl z, fun ⟨t9, u, a1, a2, a3⟩ => absurd ((hP t9 u).mpr a3) (hno t9 (by rw [t_le] at c; omega) u a1)⟩)
    induction m with
    | zero =>
      intro j t ej hm hno
      refine kg_X2_isRacing_2 hq he _ ⟨fun c => fin j t ej hno c, fun c => ?_⟩
      rw [t_le] at c; omega
    | succ m ih =>
      intro j t ej hm hno
      refine kg_X2_isRacing_2 hq he _ ⟨fun c => fin j t ej hno c, fun c => ?_⟩
      rw [t_le] at c
      have hj : j < C.2.1.length := by omega
      have e1 : (t + 1).toInt = ((j + 1 : Nat) : Int) := by rw [t_add (by show _ ≤ _ + (1 : Int); omega) (by show _ + (1 : Int) ≤ _; omega), ej]; rfl
      have vt : vp_in t 6 := by rw [vp_in_iff]; omega
      have tJ : t.toNatClampNeg = j := by rw [t_cl, ej]; rfl
      have loop : ∀ (n k : Nat) (u : Int32), u.toInt = k → (j : Int) - k ≤ n → (∀ u, u < k → ¬ P j u) → KT G q (d + 1) zk_X2_isRacing 15 [(0, vr 200), (1, vi t), (2, vi u)] [] x (ri F) := by
        intro n
        have nx : ∀ (k : Nat) (u : Int32), u.toInt = k → (∀ u, u < k → ¬ P j u) → t ≤ u → KT G q (d + 1) zk_X2_isRacing 2 [(0, vr 200), (1, vi (t + 1))] [] x (ri F) := fun k u eu hnu c => ih (j + 1) _ e1 (by push_cast; omega) (fun t9 h9 u9 hu9 => by
          rw [t_le] at c
          by_cases e : t9 = j
          · rw [e]; exact hnu u9 (by omega)
          · exact hno t9 (by omega) u9 hu9)
        induction n with
        | zero =>
          intro k u eu hn hnu
          refine kg_X2_isRacing_15 hq he _ _ ⟨fun c => nx k u eu hnu c, fun c => ?_⟩
          rw [t_le] at c; omega
        | succ n ihn =>
          intro k u eu hn hnu
          refine kg_X2_isRacing_15 hq he _ _ ⟨fun c => nx k u eu hnu c, fun c => ?_⟩
          rw [t_le] at c
          have hk : k < j := by omega
          have eu1 : (u + 1).toInt = ((k + 1 : Nat) : Int) := by rw [t_add (by show _ ≤ _ + (1 : Int); omega) (by show _ + (1 : Int) ≤ _; omega), eu]; rfl
          have vu : vp_in u 6 := by rw [vp_in_iff]; omega
          have uK : u.toNatClampNeg = k := by rw [t_cl, eu]; rfl
          have go : ¬ P j k → KT G q (d + 1) zk_X2_isRacing 15 [(0, vr 200), (1, vi t), (2, vi (u + 1))] [] x (ri F) := fun np => ihn (k + 1) _ eu1 (by push_cast; omega) (fun u9 hu9 => by
            by_cases e : u9 = k
            · rw [e]; exact np
            · exact hnu u9 (by omega))
          rw [tJ, uK]
          have aj := hac j hj
          have ak := hac k (by omega)
          refine ⟨vt, fun cj => go (fun p => ?_), fun cj => ⟨vt, vu, fun ce => go (fun p => ?_), fun ce => ⟨vt, vu, ?_⟩⟩⟩
          · have p := (hP _ _).mp p
            rcases aj with ⟨-, -, a0, -⟩ | ⟨a, -⟩
            · rw [cj, tm1] at a0; omega
            · exact a p.1
          · have p := (hP _ _).mp p
            rcases aj with ⟨-, a1, -⟩ | ⟨a, -⟩
            · rcases ak with ⟨-, b1, -⟩ | ⟨b, -⟩
              · exact ce (by rw [a1, b1]; exact p.2.2.1)
              · exact b p.2.1
            · exact a p.1
          · rcases aj with ⟨a0, a1, a2, a3⟩ | ⟨a, a9⟩
            rotate_left
            · exact absurd a9 cj
            rcases ak with ⟨b0, b1, b2, b3⟩ | ⟨b, b9⟩
            rotate_left
            · rw [b9] at ce; exact absurd ce cj
            rw [a3, b3]
            refine kh_sortsRace hq (so22 j hj) (so22 k (by omega)) (fun r hr => ⟨fun r0 => go (fun p => ?_), fun rn => yes j k hk hj ((hP _ _).mpr ⟨a0, b0, ?_, hr.mp rn⟩)⟩)
            · exact hr.mpr ((hP _ _).mp p).2.2.2 r0
            · rw [← a1, ← b1]; exact ce
      exact loop 6 0 _ rfl (by omega) (fun u hu => absurd hu (Nat.not_lt_zero _))
  exact kg_X2_isRacing_0 hq he (outer 6 0 _ rfl (by omega) (fun t ht => absurd ht (Nat.not_lt_zero _)))
end KIB
