section
/-! the class: all threads' accesses; races -/
section KIB
variable {G : kG} {q : kP} {d : Nat} {x y z : gd} {o : Nat} {F : Int32 → gd → Prop} {Fv : gd → Prop} {C : gCo} {M : gMa} {T w : Nat}
theorem AC_f (e9 : y.1 209 T = x.1 209 T) (e10 : y.1 210 T = x.1 210 T) (h : ACx x C w M T) : ACx y C w M T := by
  unfold ACx
  rw [e9, e10]
  exact h
theorem t_and1 (a : Int32) : a &&& 1 = 0 ∨ a &&& 1 = 1 := by
  have e : (a &&& 1).toBitVec.toNat = a.toBitVec.toNat % 2 := by
    rw [Int32.toBitVec_and, BitVec.toNat_and]
    exact Nat.and_two_pow_sub_one_eq_mod _ 1
  rcases Nat.mod_two_eq_zero_or_one a.toBitVec.toNat with h | h
  · exact Or.inl (Int32.toBitVec_inj.mp (BitVec.eq_of_toNat_eq (by rw [e, h]; rfl)))
  · exact Or.inr (Int32.toBitVec_inj.mp (BitVec.eq_of_toNat_eq (by rw [e, h]; rfl)))
theorem bit_or (a : Int32) {u t : Nat} (hu : u < 8) (ht : t < 8) : ((a ||| ((1 : Int32) <<< (Int32.ofNat u &&& 31))) >>> (Int32.ofNat t &&& 31)) &&& 1 = 1 ↔ ((a >>> (Int32.ofNat t &&& 31)) &&& 1 = 1 ∨ t = u) := by
  rw [or_sr, km_1 u hu t ht]
  have b : (a >>> (Int32.ofNat t &&& 31)) &&& 1 = 0 ∨ (a >>> (Int32.ofNat t &&& 31)) &&& 1 = 1 := t_and1 _
  by_cases c : t = u
  · rw [if_pos c]
    refine ⟨fun _ => Or.inr c, fun _ => ?_⟩
    rcases b with b | b <;> rw [b] <;> decide
  · rw [if_neg c]
    rcases b with b | b <;> rw [b]
    · exact ⟨fun z => absurd z (by decide), fun z => z.elim (fun z => absurd z (by decide)) (fun z => absurd z c)⟩
    · exact ⟨fun _ => Or.inl rfl, fun _ => by decide⟩
theorem kh_inspectActs (hq : kV q) (he : q.ex = true) (ho : kiT q o) (ht : q.et = some o) (hM : MM x 220) (hK : CK x C) (hN : NC C) (hX : NXc C) (hX3 : NX3 C) (g : KMm x 220 C M) (wy : x.1 220 3 = Int32.ofNat w) (w01 : w = 0 ∨ w = 1) (hL : LSk x 220) (hc : kchL x 220 (chM C w M)) (h : ∀ y, fm (sIn o) x y → (∀ t, t < C.2.1.length → ACx y C w M t) → Fv y) : KT G q (d + 5) zk_X2_inspectActs 0 [(0, vr 200)] [] x (rv Fv) := by
  have hO := iT_O ho
  have hm : kiM q 220 := Or.inr ⟨rfl, he⟩
  have t6 := hM.1.1.2.2.1
  have nT : (x.1 60 10).toInt = C.2.1.length := hK.2.1.1
  have l84 := hL.1
  obtain ⟨c13, cch⟩ := hc
  have loop2 : ∀ (n k : Nat) (i l1 l2 : Int32) (y : gd), (∀ t, t < C.2.1.length → ((l1 >>> (Int32.ofNat t &&& 31)) &&& 1 = 1 ↔ canM C w M t)) → i.toInt = k → (x.1 60 10).toInt - k ≤ n → fm (sIn o) x y → (∀ t, t < k → ACx y C w M t) → KT G q (d + 5) zk_X2_inspectActs 52 [(0, vr 200), (1, vi l1), (2, vi l2), (3, vi i)] [] y (rv Fv) := by
    intro n
    have out : ∀ (k : Nat) (i l2 : Int32) (y : gd), i.toInt = k → x.1 60 10 ≤ i → fm (sIn o) x y → (∀ t, t < k → ACx y C w M t) → ((l2 = (0 : Int32) → rv Fv none y) ∧ (¬ (l2 = (0 : Int32)) → (∀ u3, u3 = (kf q).1 200 7 → ∃ c4, u3 = some c4 ∧ kiT q c4 ∧ (∀ x6, x6 = si y c4 4 ((y.1 c4 4) + 1) → rv Fv none x6)))) := by
      intro k i l2 y ei c fy hac
      rw [t_le] at c
      have hac : ∀ t, t < C.2.1.length → ACx y C w M t := fun t ht => hac t (by omega)
      refine ⟨fun _ => rv_i (h y fy hac), fun _ u eu => ?_⟩
      rw [et_r ht] at eu
      exact ⟨o, eu, ho, fun z ez => rv_i (h z (by rw [ez]; exact fm_si fy (by unfold sIn; omega)) (fun t ht => AC_f (by rw [ez, si_cell (by omega)]) (by rw [ez, si_cell (by omega)]) (hac t ht)))⟩
    induction n with
    | zero =>
      intro k i l1 l2 y hb ei hn fy hac
      refine kg_X2_inspectActs_52 hq he _ _ _ ⟨fun c => out k i l2 y ei (by rw [fy 60 10 (by unfold sIn; omega)] at c; exact c) fy hac, fun c => ?_⟩
      rw [t_le, fy 60 10 (by unfold sIn; omega)] at c; omega
    | succ n ih =>
      intro k i l1 l2 y hb ei hn fy hac
      refine kg_X2_inspectActs_52 hq he _ _ _ ⟨fun c => out k i l2 y ei (by rw [fy 60 10 (by unfold sIn; omega)] at c; exact c) fy hac, fun c => ?_⟩
      rw [t_le, fy 60 10 (by unfold sIn; omega)] at c
      have hk : k < C.2.1.length := by omega
      have e1 : (i + 1).toInt = ((k + 1 : Nat) : Int) := by rw [t_add (by show _ ≤ _ + (1 : Int); omega) (by show _ + (1 : Int) ≤ _; omega), ei]; rfl
      have iK : i.toNatClampNeg = k := by rw [t_cl, ei]; rfl
      have iO : i = Int32.ofNat k := i32_of ei
      refine ⟨by rw [vp_in_iff]; omega, fun z ez => ?_⟩
      rw [iK] at ez
      have fz : fm (sIn o) x z := by rw [ez]; exact fm_si fy (by unfold sIn; omega)
      have hMz := sIn_MM ho fz hM
      obtain ⟨hKz, gz⟩ := KM_In ho hM hK fz g
      have z9 : z.1 209 k = -1 := by rw [ez, si_get, if_pos ⟨rfl, rfl⟩]
      have hbk := hb k hk
      rw [← iO] at hbk
      have zac : ∀ t, t < k → ACx z C w M t := fun t ht => AC_f (by rw [ez, si_get, if_neg (by omega)]) (by rw [ez, si_get, if_neg (by omega)]) (hac t ht)
      have go : ∀ l2 w9, fm (sIn o) x w9 → (∀ t, t < k → ACx w9 C w M t) → ACx w9 C w M k → KT G q (d + 5) zk_X2_inspectActs 52 [(0, vr 200), (1, vi l1), (2, vi l2), (3, vi (i + 1))] [] w9 (rv Fv) := fun l2 w9 fw a1 a2 => ih (k + 1) _ _ _ w9 hb e1 (by push_cast; omega) fw (fun t ht => by
        by_cases e : t = k
        · rw [e]; exact a2
        · exact a1 t (by omega))
      refine ⟨fun nb => ?_, fun b => kh_inspectAct hq he ho ht hMz hKz hN hX hX3 gz (by rw [fz 220 3 (by unfold sIn; omega)]; exact wy) w01 _ ei hk (hbk.mp b) z9 (fun w9 fw a2 => go _ _ (fm_tr fz (fm_w fw (fun c k => sI1_In))) (fun t ht => AC_f (fw _ _ (fun q => by have := q.2 (Or.inl rfl); omega)) (fw _ _ (fun q => by have := q.2 (Or.inr rfl); omega)) (zac t ht)) a2)⟩
      have na : ACx z C w M k := Or.inr ⟨fun q => nb (hbk.mpr q.1), z9⟩
      exact kp_isGoing hq hm hMz.1 hMz.2.1 _ ei (by omega) (fun _ => ⟨fun _ => go _ _ fz zac na, fun _ => go _ _ fz zac na⟩) (fun _ => ⟨fun _ => go _ _ fz zac na, fun _ => go _ _ fz zac na⟩)
  have bits : ∀ (l1 : Int32), (∀ t, t < C.2.1.length → ((l1 >>> (Int32.ofNat t &&& 31)) &&& 1 = 1 ↔ ∃ i ch, i < (chM C w M).length ∧ (chM C w M)[i]? = some ch ∧ ch.2.1 = none ∧ ch.1 = t)) → ∀ t, t < C.2.1.length → ((l1 >>> (Int32.ofNat t &&& 31)) &&& 1 = 1 ↔ canM C w M t) := by
    intro l1 hb t ht
    rw [hb t ht, can_ch ht]
    constructor
    · rintro ⟨i, ch, -, h1, h2⟩
      exact ⟨ch, List.mem_of_getElem? h1, h2⟩
    · rintro ⟨ch, h1, h2⟩
      obtain ⟨i, hi⟩ := List.mem_iff_getElem?.mp h1
      exact ⟨i, ch, gt_lt hi, hi, h2⟩
  have loop : ∀ (n k : Nat) (i l1 : Int32), i.toInt = k → (x.1 220 13).toInt - k ≤ n → k ≤ (chM C w M).length → (∀ t, t < C.2.1.length → ((l1 >>> (Int32.ofNat t &&& 31)) &&& 1 = 1 ↔ ∃ i ch, i < k ∧ (chM C w M)[i]? = some ch ∧ ch.2.1 = none ∧ ch.1 = t)) → KT G q (d + 5) zk_X2_inspectActs 4 [(0, vr 200), (1, vi l1), (2, vi i)] [] x (rv Fv) := by
    intro n
    have fin : ∀ (k : Nat) (i l1 : Int32), i.toInt = k → k ≤ (chM C w M).length → (∀ t, t < C.2.1.length → ((l1 >>> (Int32.ofNat t &&& 31)) &&& 1 = 1 ↔ ∃ i ch, i < k ∧ (chM C w M)[i]? = some ch ∧ ch.2.1 = none ∧ ch.1 = t)) → x.1 220 13 ≤ i → KT G q (d + 5) zk_X2_inspectActs 52 [(0, vr 200), (1, vi l1), (2, vi 0), (3, vi 0)] [] x (rv Fv) := by
      intro k i l1 ei hkl hb c
      rw [t_le] at c
      have ek : k = (chM C w M).length := by clear hb; omega
      rw [ek] at hb
      exact loop2 6 0 _ _ _ x (bits l1 hb) rfl (by clear hb; omega) (fm_rf _ _) (fun t ht => absurd ht (Nat.not_lt_zero _))
    induction n with
    | zero =>
      intro k i l1 ei hn hkl hb
      refine kg_X2_inspectActs_4 hq he _ _ ⟨fun c => fin k i l1 ei hkl hb c, fun c => ?_⟩
      clear hb
      rw [t_le] at c; omega
    | succ n ih =>
      intro k i l1 ei hn hkl hb
      refine kg_X2_inspectActs_4 hq he _ _ ⟨fun c => fin k i l1 ei hkl hb c, fun c => ?_⟩
      rw [t_le] at c
      have hk : k < (chM C w M).length := by clear hb; omega
      have e1 : (i + 1).toInt = ((k + 1 : Nat) : Int) := by clear hb; rw [t_add (by show _ ≤ _ + (1 : Int); omega) (by show _ + (1 : Int) ≤ _; omega), ei]; rfl
      have v84 : vp_in i 84 := by clear hb; rw [vp_in_iff]; omega
      have iK : i.toNatClampNeg = k := by rw [t_cl, ei]; rfl
      obtain ⟨ch, hch⟩ : ∃ ch, (chM C w M)[k]? = some ch := ⟨_, List.getElem?_eq_getElem hk⟩
      obtain ⟨q1, q2, q3, -, -⟩ := cch k ch hch
      have cin := ch_in (List.mem_of_getElem? hch)
      have h6 : ch.1 < 6 := by have := cin.1; clear hb; omega
      have nxt : ∀ t, (∃ i ch', i < k + 1 ∧ (chM C w M)[i]? = some ch' ∧ ch'.2.1 = none ∧ ch'.1 = t) ↔ ((∃ i ch', i < k ∧ (chM C w M)[i]? = some ch' ∧ ch'.2.1 = none ∧ ch'.1 = t) ∨ (ch.2.1 = none ∧ ch.1 = t)) := by
        intro t
        constructor
        · rintro ⟨i, ch', i1, i2, i3⟩
          by_cases e : i = k
          · rw [e, hch] at i2
            rw [Option.some.inj i2]
            exact Or.inr i3
          · exact Or.inl ⟨i, ch', by omega, i2, i3⟩
        · rintro (⟨i, ch', i1, i2, i3⟩ | i3)
          · exact ⟨i, ch', by omega, i2, i3⟩
          · exact ⟨k, ch, by omega, hch, i3⟩
      rw [iK]
      refine ⟨v84, fun cn => ih (k + 1) _ _ e1 (by clear hb nxt; push_cast; omega) hk (fun t ht => ?_), fun cn => ⟨v84, ih (k + 1) _ _ e1 (by clear hb nxt; push_cast; omega) hk (fun t ht => ?_)⟩⟩
      · rw [hb t ht, nxt t]
        exact ⟨Or.inl, fun z => z.elim id (fun z => absurd (q2 z.1) cn)⟩
      · have cn : x.1 (220 + 12) k = -1 := cn
        have q1 : x.1 231 k = Int32.ofNat ch.1 := q1
        have c0 : ch.2.1 = none := by
          cases hz : ch.2.1 with
          | none => rfl
          | some j =>
            have jl := cin.2.2 j hz
            have l7 := (g.2 _ cin.1).2.2.2.2.2.2.1.1
            have l8 := (hM.2.2 ch.1 (by have := cin.1; clear hb nxt; omega)).1.2.1
            have e := q3 j hz
            rw [cn] at e
            have e2 : (Int32.ofNat j).toInt = (j : Nat) := Int32.toInt_ofNat_of_lt (by clear hb nxt; omega)
            rw [← e, tm1] at e2
            clear hb nxt
            omega
        have ht6 : t < 6 := by clear hb nxt; omega
        rw [q1, bit_or _ (by omega) (by omega), hb t ht, nxt t]
        exact or_congr Iff.rfl ⟨fun e => ⟨c0, e.symm⟩, fun e => e.2.symm⟩
  refine kg_X2_inspectActs_0 hq he (loop 84 0 _ _ rfl (by omega) (Nat.zero_le _) (fun t ht => ?_))
  rw [km_0 t (by omega)]
  exact ⟨fun z => absurd z (by decide), fun ⟨i, ch, z, _⟩ => absurd z (Nat.not_lt_zero _)⟩
theorem kh_isRacing (hq : kV q) (he : q.ex = true) (hM : MM x 220) (hK : CK x C) (hN : NC C) (g : KMm x 220 C M) (hac : ∀ t, t < C.2.1.length → ACx x C w M t) (h : ∀ r : Int32, (¬ r = 0 ↔ rcM C w M) → F r x) : KT G q (d + 1) zk_X2_isRacing 0 [(0, vr 200)] [] x (ri F) := by
  have t6 := hM.1.1.2.2.1
  have nT : (x.1 60 10).toInt = C.2.1.length := hK.2.1.1
  have so22 : ∀ t, t < C.2.1.length → soM C (M.2.2 t) < 22 := fun t ht => by
    obtain ⟨st, s1, s2, s3, s4, s5, kn, ns⟩ := kst_at hM hK hN ht (g.2 t ht)
    have n22 := ns.1.1
    unfold soM
    split
    · rw [s2]; exact n22
    · omega
  obtain ⟨P, hP⟩ : ∃ P : Nat → Nat → Prop, ∀ t u, P t u ↔ (axM C w M t ∧ axM C w M u ∧ (lkM C w M t).2.1 = (lkM C w M u).2.1 ∧ srM (soM C (M.2.2 t)) (soM C (M.2.2 u))) := ⟨_, fun t u => Iff.rfl⟩
  have yes : ∀ t u, u < t → t < C.2.1.length → P t u → ri F (some (vi 1)) x := fun t u h1 h2 h3 => ri_i (h _ ⟨fun _ => ⟨t, u, h1, h2, (hP t u).mp h3⟩, fun _ => by decide⟩)
  have outer : ∀ (m j : Nat) (t : Int32), t.toInt = j → (x.1 60 10).toInt - j ≤ m → (∀ t, t < j → ∀ u, u < t → ¬ P t u) → KT G q (d + 1) zk_X2_isRacing 2 [(0, vr 200), (1, vi t)] [] x (ri F) := by
    intro m
    have fin : ∀ (j : Nat) (t : Int32), t.toInt = j → (∀ t, t < j → ∀ u, u < t → ¬ P t u) → x.1 60 10 ≤ t → ri F (some (vi 0)) x := fun j t ej hno c => ri_i (h _ ⟨fun z => absurd rfl z, fun ⟨t9, u, a1, a2, a3⟩ => absurd ((hP t9 u).mpr a3) (hno t9 (by rw [t_le] at c; omega) u a1)⟩)
    induction m with
    | zero =>
      intro j t ej hm hno
      refine kg_X2_isRacing_2 hq he _ ⟨fun c => fin j t ej hno c, fun c => ?_⟩
      rw [t_le] at c; omega
    | succ m ih =>
      intro j t ej hm hno
      refine kg_X2_isRacing_2 hq he _ ⟨fun c => fin j t ej hno c, fun c => ?_⟩
      rw [t_le] at c
      have hj : j < C.2.1.length := by omega
      have e1 : (t + 1).toInt = ((j + 1 : Nat) : Int) := by rw [t_add (by show _ ≤ _ + (1 : Int); omega) (by show _ + (1 : Int) ≤ _; omega), ej]; rfl
      have vt : vp_in t 6 := by rw [vp_in_iff]; omega
      have tJ : t.toNatClampNeg = j := by rw [t_cl, ej]; rfl
      have loop : ∀ (n k : Nat) (u : Int32), u.toInt = k → (j : Int) - k ≤ n → (∀ u, u < k → ¬ P j u) → KT G q (d + 1) zk_X2_isRacing 15 [(0, vr 200), (1, vi t), (2, vi u)] [] x (ri F) := by
        intro n
        have nx : ∀ (k : Nat) (u : Int32), u.toInt = k → (∀ u, u < k → ¬ P j u) → t ≤ u → KT G q (d + 1) zk_X2_isRacing 2 [(0, vr 200), (1, vi (t + 1))] [] x (ri F) := fun k u eu hnu c => ih (j + 1) _ e1 (by push_cast; omega) (fun t9 h9 u9 hu9 => by
          rw [t_le] at c
          by_cases e : t9 = j
          · rw [e]; exact hnu u9 (by omega)
          · exact hno t9 (by omega) u9 hu9)
        induction n with
        | zero =>
          intro k u eu hn hnu
          refine kg_X2_isRacing_15 hq he _ _ ⟨fun c => nx k u eu hnu c, fun c => ?_⟩
          rw [t_le] at c; omega
        | succ n ihn =>
          intro k u eu hn hnu
          refine kg_X2_isRacing_15 hq he _ _ ⟨fun c => nx k u eu hnu c, fun c => ?_⟩
          rw [t_le] at c
          have hk : k < j := by omega
          have eu1 : (u + 1).toInt = ((k + 1 : Nat) : Int) := by rw [t_add (by show _ ≤ _ + (1 : Int); omega) (by show _ + (1 : Int) ≤ _; omega), eu]; rfl
          have vu : vp_in u 6 := by rw [vp_in_iff]; omega
          have uK : u.toNatClampNeg = k := by rw [t_cl, eu]; rfl
          have go : ¬ P j k → KT G q (d + 1) zk_X2_isRacing 15 [(0, vr 200), (1, vi t), (2, vi (u + 1))] [] x (ri F) := fun np => ihn (k + 1) _ eu1 (by push_cast; omega) (fun u9 hu9 => by
            by_cases e : u9 = k
            · rw [e]; exact np
            · exact hnu u9 (by omega))
          rw [tJ, uK]
          have aj := hac j hj
          have ak := hac k (by omega)
          refine ⟨vt, fun cj => go (fun p => ?_), fun cj => ⟨vt, vu, fun ce => go (fun p => ?_), fun ce => ⟨vt, vu, ?_⟩⟩⟩
          · have p := (hP _ _).mp p
            rcases aj with ⟨-, -, a0, -⟩ | ⟨a, -⟩
            · rw [cj, tm1] at a0; omega
            · exact a p.1
          · have p := (hP _ _).mp p
            rcases aj with ⟨-, a1, -⟩ | ⟨a, -⟩
            · rcases ak with ⟨-, b1, -⟩ | ⟨b, -⟩
              · exact ce (by rw [a1, b1]; exact p.2.2.1)
              · exact b p.2.1
            · exact a p.1
          · rcases aj with ⟨a0, a1, a2, a3⟩ | ⟨a, a9⟩
            rotate_left
            · exact absurd a9 cj
            rcases ak with ⟨b0, b1, b2, b3⟩ | ⟨b, b9⟩
            rotate_left
            · rw [b9] at ce; exact absurd ce cj
            rw [a3, b3]
            refine kh_sortsRace hq (so22 j hj) (so22 k (by omega)) (fun r hr => ⟨fun r0 => go (fun p => ?_), fun rn => yes j k hk hj ((hP _ _).mpr ⟨a0, b0, ?_, hr.mp rn⟩)⟩)
            · exact hr.mpr ((hP _ _).mp p).2.2.2 r0
            · rw [← a1, ← b1]; exact ce
      exact loop 6 0 _ rfl (by omega) (fun u hu => absurd hu (Nat.not_lt_zero _))
  exact kg_X2_isRacing_0 hq he (outer 6 0 _ rfl (by omega) (fun t ht => absurd ht (Nat.not_lt_zero _)))
end KIB
end
section
/-! the class: a state is looked at, what it shows is noted -/
/-- findings of D are noted with state s, where none was -/
def FAs (x0 x : gd) (o : Nat) (s : Int32) (D : Nat → Prop) : Prop := ∀ f, f < 11 → (D f ∧ x0.1 (o + 7) f = -1 ∧ x.1 (o + 7) f = s) ∨ (¬ (D f ∧ x0.1 (o + 7) f = -1) ∧ x.1 (o + 7) f = x0.1 (o + 7) f)
def fD (C : gCo) (w : Nat) (M : gMa) (n f : Nat) : Prop := f < n ∧ fnM C w M f
section KLO
variable {G : kG} {q q1 : kP} {d : Nat} {x x0 y z : gd} {o : Nat} {F : Int32 → gd → Prop} {Fv : gd → Prop} {Fm : gd → kP → Prop} {X : String → gd → kP → Prop} {C : gCo} {M : gMa} {T w n m : Nat} {s : Int32} {D D' : Nat → Prop}
theorem FAs_f (e : ∀ f, y.1 (o + 7) f = x.1 (o + 7) f) (h : FAs x0 x o s D) : FAs x0 y o s D := fun f hf => by
  rw [e f]; exact h f hf
theorem FAs_c (e : ∀ f, f < 11 → (D f ↔ D' f)) (h : FAs x0 x o s D) : FAs x0 x o s D' := fun f hf => by
  rw [← e f hf]; exact h f hf
theorem FAs_more (hm : n ≤ m) (hn : ∀ f, n ≤ f → f < m → ¬ fnM C w M f) (h : FAs x0 x o s (fD C w M n)) : FAs x0 x o s (fD C w M m) := FAs_c (fun f _ => ⟨fun z => ⟨by have := z.1; omega, z.2⟩, fun z => ⟨by
  apply Classical.byContradiction
  intro c
  exact hn f (by omega) z.1 z.2, z.2⟩⟩) h
theorem FAs_find (hs : 0 ≤ s.toInt) (hf : fnM C w M n) (e : ∀ k, ¬ k = n → y.1 (o + 7) k = x.1 (o + 7) k) (e1 : x.1 (o + 7) n = -1 → y.1 (o + 7) n = s) (e2 : ¬ x.1 (o + 7) n = -1 → y.1 (o + 7) n = x.1 (o + 7) n) (h : FAs x0 x o s (fD C w M n)) : FAs x0 y o s (fD C w M (n + 1)) := by
  intro f hf9
  by_cases c : f = n
  · rw [c]
    have hD : fD C w M (n + 1) n := ⟨by omega, hf⟩
    have nD : ¬ fD C w M n n := fun z => by have := z.1; omega
    rcases h n (by omega) with ⟨a, -⟩ | ⟨-, a⟩
    · exact absurd a nD
    · by_cases c9 : x0.1 (o + 7) n = -1
      · exact Or.inl ⟨hD, c9, e1 (by rw [a]; exact c9)⟩
      · exact Or.inr ⟨fun z => c9 z.2, by rw [e2 (by rw [a]; exact c9)]; exact a⟩
  · have hD : fD C w M (n + 1) f ↔ fD C w M n f := ⟨fun z => ⟨by have := z.1; omega, z.2⟩, fun z => ⟨by have := z.1; omega, z.2⟩⟩
    rw [hD, e f c]; exact h f hf9
theorem kt_find3 (hq : kV q) (ho : kiT q o) (f s : Int32) {Fn : Nat} (ef : f.toInt = Fn) (hF : Fn < 11) (hz : TZ x o) (hs : 0 ≤ s.toInt ∧ s.toInt < (x.1 o 0).toInt) (h : ∀ y, fm (fun c k => c = o + 7) x y → TZ y o → (∀ k, ¬ k = Fn → y.1 (o + 7) k = x.1 (o + 7) k) → (x.1 (o + 7) Fn = -1 → y.1 (o + 7) Fn = s) → (¬ x.1 (o + 7) Fn = -1 → y.1 (o + 7) Fn = x.1 (o + 7) Fn) → Fv y) : KT G q d zk_X10_find 0 [(0, vr o), (1, vi f), (2, vi s)] [] x (rv Fv) := by
  have vf : vp_in f 11 := by rw [vp_in_iff]; omega
  have eF : f.toNatClampNeg = Fn := by rw [t_cl, ef]; rfl
  refine kg_X10_find_0 hq ho _ _ ⟨vf, fun c => rv_i (h x (fm_rf _ _) hz (fun _ _ => rfl) (fun c2 => absurd (by rw [eF]; exact c2) c) (fun _ => rfl)), fun c => ⟨vf, fun z ez => rv_i (h z ?_ ?_ (fun k hk => ?_) (fun _ => ?_) (fun c2 => absurd (by rw [eF] at c; exact c) c2))⟩⟩
  · rw [ez]; exact fm_si (fm_rf _ _) rfl
  · rw [eF] at ez
    obtain ⟨b, hf, hs2⟩ := hz
    have g : ∀ c k, ¬ c = o + 7 → z.1 c k = x.1 c k := fun c k hc => by rw [ez, si_cell hc]
    unfold TZ
    rw [g o 0 (by omega)]
    refine ⟨b, fun k hk => ?_, fun k hk => ?_⟩
    · by_cases h9 : k = Fn
      · have : z.1 (o + 7) k = s := by rw [ez, h9, si_get, if_pos ⟨rfl, rfl⟩]
        rw [this]; exact Or.inr hs
      · have : z.1 (o + 7) k = x.1 (o + 7) k := by rw [ez, si_get, if_neg (fun q => h9 q.2)]
        rw [this]; exact hf k hk
    · rw [g (o + 12) k (by omega), g (o + 10) k (by omega), g (o + 12) _ (by omega)]; exact hs2 k hk
  · rw [ez, si_get, if_neg (fun q => hk (by rw [← eF]; exact q.2))]
  · rw [ez, si_get, if_pos ⟨rfl, eF.symm⟩]
theorem fn_lt4 (h : n < 4) : fnM C w M n ↔ ∃ Q, C.2.2.2.1[n]? = some Q ∧ badC M Q := by
  unfold fnM
  constructor
  · rintro (z | z | z | z | z)
    · exact z.2
    all_goals (exfalso; have := z.1; omega)
  · intro z; exact Or.inl ⟨h, z⟩
theorem fn_4 (h : n < 4) : fnM C w M (4 + n) ↔ (chM C w M = [] ∧ ¬ goM C M ∧ ∃ Q, C.2.2.2.2[n]? = some Q ∧ badC M Q) := by
  unfold fnM
  rw [show 4 + n - 4 = n by omega]
  constructor
  · rintro (z | z | z | z | z)
    · exfalso; have := z.1; omega
    · exact z.2.2
    all_goals (exfalso; have := z.1; omega)
  · intro z; exact Or.inr (Or.inl ⟨by omega, by omega, z⟩)
theorem fn_8 : fnM C w M 8 ↔ (chM C w M = [] ∧ goM C M) := by
  unfold fnM
  constructor
  · rintro (z | z | z | z | z)
    · exfalso; have := z.1; omega
    · exfalso; have := z.2.1; omega
    · exact z.2
    all_goals (exfalso; have := z.1; omega)
  · intro z; exact Or.inr (Or.inr (Or.inl ⟨rfl, z⟩))
theorem fn_9 : fnM C w M 9 ↔ ∃ t, t < C.2.1.length ∧ (M.2.2 t).1 = 3 := by
  unfold fnM
  constructor
  · rintro (z | z | z | z | z)
    · exfalso; have := z.1; omega
    · exfalso; have := z.2.1; omega
    · exfalso; have := z.1; omega
    · exact z.2
    · exfalso; have := z.1; omega
  · intro z; exact Or.inr (Or.inr (Or.inr (Or.inl ⟨rfl, z⟩)))
theorem fn_10 : fnM C w M 10 ↔ rcM C w M := by
  unfold fnM
  constructor
  · rintro (z | z | z | z | z)
    · exfalso; have := z.1; omega
    · exfalso; have := z.2.1; omega
    · exfalso; have := z.1; omega
    · exfalso; have := z.1; omega
    · exact z.2
  · intro z; exact Or.inr (Or.inr (Or.inr (Or.inr ⟨rfl, z⟩)))
/-- looking at a state keeps the machine -/
theorem KM_Vi (hO : o = 260 ∨ o = 280) (hM : MM x0 220) (hK : CK x0 C) (f : fm (sVi o) x0 x) (g : KMm x0 220 C M) : CK x C ∧ KMm x 220 C M :=
  ⟨CK_f hK (fun c k hc => f c k (by unfold sVi; omega)), KMm_in hM hK (gm_ag (fun c k hc => f c k (by unfold sVi; omega)) (fun k h1 h2 => f _ _ (by unfold sVi; omega))) (fun k _ => f _ _ (by unfold sVi; omega)) g⟩
theorem kh_inspectEnd (hu : kU q) (he : q.ex = true) (ho : kiT q o) (ht : q.et = some o) (hM0 : MM x0 220) (hK0 : CK x0 C) (hN : NC C) (hq2 : NCq C) (g0 : KMm x0 220 C M) (hV : VI x0 x q o) (s : Int32) (hs : 0 ≤ s.toInt ∧ s.toInt < (x.1 o 0).toInt) (he0 : chM C w M = []) (hFA : FAs x0 x o s (fD C w M 4)) (h : ∀ y q1, kU q1 → kle q q1 → q1.et = q.et → VI x0 y q1 o → FAs x0 y o s (fD C w M 9) → Fm y q1) : KM G q (d + 4) zk_X2_inspectEnd 0 [(0, vr 200), (1, vi s)] [] x (rm q Fm) X := by
  have hO := iT_O ho
  have k1 : (1 : Int32).toInt = 1 := rfl
  have cl : 0 ≤ (x.1 60 6).toInt ∧ (x.1 60 6).toInt ≤ 24 := hV.2.1.1.1.1
  have cf : 0 ≤ (x.1 60 16).toInt ∧ (x.1 60 16).toInt ≤ 4 := hV.2.1.1.1.2.2.2.2.2
  obtain ⟨hKx, gx⟩ := KM_Vi hO hM0 hK0 hV.1 g0
  have nF : (x.1 60 16).toInt = C.2.2.2.2.length := hKx.2.2.2.2.1
  refine kg_X2_inspectEnd_0 hu he s (fun u1 e1 => ⟨o, by rw [e1, et_r ht], ho, fun x4 e4 u5 e5 => ⟨o, by rw [e5, et_r ht], ho, ?_⟩⟩)
  have f4 : fm (fun c k => (c = o ∧ (k = 2 ∨ k = 5)) ∨ (c = 60 ∧ k = 5) ∨ c = 65) x x4 := by rw [e4]; exact fm_si (fm_rf _ _) (by omega)
  have hV4 := VI_st hO hV f4
  rw [f4 60 6 (by omega)]
  refine kt_addOutcome hu ho kk_225 (kl_225 hu.1 he) (by omega) _ hV4.2.2.2 cl (fun x8 q9 hu9 hl9 et9 f8 ht8 => ?_)
  have hV8 := VI_ou hO hV4 f8 ht8
  have ho9 := kle_T hl9 ho
  have he9 := hl9.2.1.2.1 he
  have ht9 : q9.et = some o := by rw [et9]; exact ht
  have e80 : x8.1 o 0 = x.1 o 0 := by rw [f8 o 0 (by unfold sOu; omega), f4 o 0 (by omega)]
  have e86 : x8.1 60 16 = x.1 60 16 := by rw [f8 60 16 (by unfold sOu; omega), f4 60 16 (by omega)]
  have FA8 : FAs x0 x8 o s (fD C w M 4) := FAs_f (fun f => by rw [f8 _ _ (by unfold sOu; omega), f4 _ _ (by omega)]) hFA
  have loop : ¬ goM C M → ∀ (m k : Nat) (i : Int32) (w9 : gd), i.toInt = k → (x.1 60 16).toInt - k ≤ m → (k : Int) ≤ (x.1 60 16).toInt → VI x0 w9 q9 o → w9.1 o 0 = x.1 o 0 → w9.1 60 16 = x.1 60 16 → FAs x0 w9 o s (fD C w M (4 + k)) → KM G q9 (d + 4) zk_X2_inspectEnd 57 [(0, vr 200), (1, vi s), (2, vi i)] [] w9 (rm q Fm) X := by
    intro ngo m
    have fin : ∀ (k : Nat) (i : Int32) (w9 : gd), i.toInt = k → (k : Int) ≤ (x.1 60 16).toInt → VI x0 w9 q9 o → w9.1 60 16 = x.1 60 16 → FAs x0 w9 o s (fD C w M (4 + k)) → w9.1 60 16 ≤ i → rm q Fm none w9 q9 := by
      intro k i w9 ei hk hw ew2 hfa c
      rw [t_le, ew2] at c
      have kk : k = C.2.2.2.2.length := by omega
      refine rm_i hu9 hl9 (h w9 q9 hu9 hl9 et9 hw (FAs_more (n := 4 + k) (by omega) (fun f h1 h2 z => ?_) hfa))
      by_cases c8 : f = 8
      · rw [c8, fn_8] at z; exact ngo z.2
      · obtain ⟨f', ef⟩ : ∃ f', f = 4 + f' := ⟨f - 4, by omega⟩
        rw [ef, fn_4 (by omega)] at z
        obtain ⟨-, -, Q, hQ, -⟩ := z
        have := gt_lt hQ
        omega
    induction m with
    | zero =>
      intro k i w9 ei hm hk hw ew ew2 hfa
      refine kg_X2_inspectEnd_57 hu9 he9 s i ⟨fun c => fin k i w9 ei hk hw ew2 hfa c, fun c => ?_⟩
      rw [t_le, ew2] at c; omega
    | succ m ih =>
      intro k i w9 ei hm hk hw ew ew2 hfa
      refine kg_X2_inspectEnd_57 hu9 he9 s i ⟨fun c => fin k i w9 ei hk hw ew2 hfa c, fun c => ⟨?_, ?_⟩⟩
      · rw [t_le, ew2] at c; rw [vp_in_iff]; omega
      rw [t_le, ew2] at c
      have e1 : (i + 1).toInt = ((k + 1 : Nat) : Int) := by rw [t_add (by rw [k1]; omega) (by rw [k1]; omega), k1, ei]; rfl
      have e4 : (4 + i).toInt = ((4 + k : Nat) : Int) := by
        have k4 : (4 : Int32).toInt = 4 := rfl
        rw [t_add (by rw [k4]; omega) (by rw [k4]; omega), k4, ei]; push_cast; rfl
      have hkl : k < C.2.2.2.2.length := by omega
      obtain ⟨Q, hQ⟩ : ∃ Q, C.2.2.2.2[k]? = some Q := ⟨_, List.getElem?_eq_getElem hkl⟩
      obtain ⟨hKw, gw⟩ := KM_Vi hO hM0 hK0 hw.1 g0
      have iK : i.toNatClampNeg = k := by rw [t_cl, ei]; rfl
      rw [iK]
      refine kh_isFalse hu9.1 he9 hw.2.1 hKw hN hq2 gw _ (hKw.2.2.2.2.2 k Q hQ) (Or.inr (List.mem_of_getElem? hQ)) (fun r v gr fv hr => ?_)
      have fv2 : fm (fun c k => (c = o ∧ (k = 2 ∨ k = 5)) ∨ (c = 60 ∧ k = 5) ∨ c = 65) w9 v := fm_w fv (fun c k q => by unfold sWk at q; omega)
      have hv := VI_st hO hw fv2
      have ev : v.1 o 0 = x.1 o 0 := by rw [fv2 o 0 (by omega), ew]
      have ev2 : v.1 60 16 = x.1 60 16 := by rw [fv2 60 16 (by omega), ew2]
      have hfv : FAs x0 v o s (fD C w M (4 + k)) := FAs_f (fun f => fv2 _ _ (by omega)) hfa
      have fn : fnM C w M (4 + k) ↔ badC M Q := by
        rw [fn_4 (by omega)]
        refine ⟨fun ⟨_, _, Q9, h9, b⟩ => ?_, fun b => ⟨he0, ngo, Q, hQ, b⟩⟩
        rw [hQ] at h9
        rw [Option.some.inj h9]; exact b
      refine ⟨fun r0 => ih (k + 1) _ v e1 (by push_cast; omega) (by push_cast; omega) hv ev ev2 (FAs_more (n := 4 + k) (by omega) (fun f h1 h2 z => ?_) hfv), fun rn u6 e6 => ⟨o, by rw [e6, et_r ht9], ho9, kt_find3 hu9.1 ho9 _ _ e4 (by omega) hv.2.2.1 (by rw [ev]; exact hs) (fun t ft hzt t1 t2 t3 => ?_)⟩⟩
      · have : f = 4 + k := by omega
        rw [this] at z
        exact hr.mpr (fn.mp z) r0
      · exact ih (k + 1) _ t e1 (by push_cast; omega) (by push_cast; omega) (VI_fi hO hv ft hzt) (by rw [ft o 0 (by omega), ev]) (by rw [ft 60 16 (by omega), ev2]) (FAs_find hs.1 (fn.mpr (hr.mp rn)) t1 t2 t3 hfv)
  obtain ⟨hK8, g8⟩ := KM_Vi hO hM0 hK0 hV8.1 g0
  refine kh_anyGoing hu9.1 (Or.inr ⟨rfl, he9⟩) hV8.2.1 hK8 g8 (fun r hr => ⟨fun r0 => loop (fun z => hr.mpr z r0) 4 0 _ x8 rfl (by omega) (by omega) hV8 e80 e86 FA8, fun rn u13 e13 => ⟨o, by rw [e13, et_r ht9], ho9, kt_find3 hu9.1 ho9 _ _ (Fn := 8) rfl (by omega) hV8.2.2.1 (by rw [e80]; exact hs) (fun t ft hzt t1 t2 t3 => rm_i hu9 hl9 (h t q9 hu9 hl9 et9 (VI_fi hO hV8 ft hzt) (FAs_find hs.1 (fn_8.mpr ⟨he0, hr.mp rn⟩) t1 t2 t3 (FAs_more (n := 4) (by omega) (fun f h1 h2 z => ?_) FA8))))⟩⟩)
  obtain ⟨f', ef⟩ : ∃ f', f = 4 + f' := ⟨f - 4, by omega⟩
  rw [ef, fn_4 (by omega)] at z
  exact z.2.1 (hr.mp rn)
theorem kh_inspect (hu : kU q) (he : q.ex = true) (ho : kiT q o) (ht : q.et = some o) (hM : MM x 220) (hK : CK x C) (hN : NC C) (hq2 : NCq C) (g : KMm x 220 C M) (hc : (x.1 220 13).toInt = ((chM C w M).length : Nat)) (hac : ∀ t, t < C.2.1.length → ACx x C w M t) (hz : TZ x o) (hT : TO x q o) (s : Int32) (hs : 0 ≤ s.toInt ∧ s.toInt < (x.1 o 0).toInt) (h : ∀ y q1, kU q1 → kle q q1 → q1.et = q.et → VI x y q1 o → FAs x y o s (fD C w M 11) → Fm y q1) : KM G q (d + 5) zk_X2_inspect 0 [(0, vr 200), (1, vi s)] [] x (rm q Fm) X := by
  have hO := iT_O ho
  have k1 : (1 : Int32).toInt = 1 := rfl
  have k0 : (0 : Int32).toInt = 0 := rfl
  have hV : VI x x q o := ⟨fm_rf _ _, hM, hz, hT⟩
  have ca : 0 ≤ (x.1 60 14).toInt ∧ (x.1 60 14).toInt ≤ 4 := hM.1.1.2.2.2.2.1
  have nA : (x.1 60 14).toInt = C.2.2.2.1.length := hK.2.2.2.1.1
  have p98 : ∀ (q9 : kP) (w9 : gd), kU q9 → kle q q9 → q9.et = q.et → VI x w9 q9 o → FAs x w9 o s (fD C w M 10) → KM G q9 (d + 5) zk_X2_inspect 98 [(0, vr 200), (1, vi s)] [] w9 (rm q Fm) X := by
    intro q9 w9 hu9 hl9 et9 hw hfa
    have ho9 := kle_T hl9 ho
    have he9 := hl9.2.1.2.1 he
    have ht9 : q9.et = some o := by rw [et9]; exact ht
    obtain ⟨hKw, gw⟩ := KM_Vi hO hM hK hw.1 g
    refine kg_X2_inspect_98 hu9 he9 s (kh_isRacing (w := w) hu9.1 he9 hw.2.1 hKw hN gw (fun t ht => AC_f (hw.1 _ _ (by unfold sVi; omega)) (hw.1 _ _ (by unfold sVi; omega)) (hac t ht)) (fun r hr => ⟨fun r0 => rm_i hu9 hl9 (h w9 q9 hu9 hl9 et9 hw (FAs_more (n := 10) (by omega) (fun f h1 h2 z => ?_) hfa)), fun rn u4 e4 => ⟨o, by rw [e4, et_r ht9], ho9, kt_find3 hu9.1 ho9 _ _ (Fn := 10) rfl (by omega) hw.2.2.1 (by rw [(VI_0 hO hw).1]; exact hs) (fun t ft hzt t1 t2 t3 => rm_i hu9 hl9 (h t q9 hu9 hl9 et9 (VI_fi hO hw ft hzt) (FAs_find hs.1 (fn_10.mpr (hr.mp rn)) t1 t2 t3 hfa)))⟩⟩))
    have : f = 10 := by omega
    rw [this, fn_10] at z
    exact hr.mpr z r0
  have p78 : ∀ (q9 : kP) (w9 : gd), kU q9 → kle q q9 → q9.et = q.et → VI x w9 q9 o → FAs x w9 o s (fD C w M 9) → KM G q9 (d + 5) zk_X2_inspect 78 [(0, vr 200), (1, vi s)] [] w9 (rm q Fm) X := by
    intro q9 w9 hu9 hl9 et9 hw hfa
    have ho9 := kle_T hl9 ho
    have he9 := hl9.2.1.2.1 he
    have ht9 : q9.et = some o := by rw [et9]; exact ht
    obtain ⟨hKw, gw⟩ := KM_Vi hO hM hK hw.1 g
    refine kg_X2_inspect_78 hu9 he9 s (kh_anyFailed hu9.1 (Or.inr ⟨rfl, he9⟩) hw.2.1 hKw gw (fun r hr => ⟨fun r0 => p98 q9 w9 hu9 hl9 et9 hw (FAs_more (n := 9) (by omega) (fun f h1 h2 z => ?_) hfa), fun rn u4 e4 => ⟨o, by rw [e4, et_r ht9], ho9, kt_find3 hu9.1 ho9 _ _ (Fn := 9) rfl (by omega) hw.2.2.1 (by rw [(VI_0 hO hw).1]; exact hs) (fun t ft hzt t1 t2 t3 => p98 q9 t hu9 hl9 et9 (VI_fi hO hw ft hzt) (FAs_find hs.1 (fn_9.mpr (hr.mp rn)) t1 t2 t3 hfa))⟩⟩))
    have : f = 9 := by omega
    rw [this, fn_9] at z
    exact hr.mpr z r0
  have loop : ∀ (m k : Nat) (i : Int32) (w9 : gd), i.toInt = k → (x.1 60 14).toInt - k ≤ m → (k : Int) ≤ (x.1 60 14).toInt → VI x w9 q o → FAs x w9 o s (fD C w M k) → KM G q (d + 5) zk_X2_inspect 21 [(0, vr 200), (1, vi s), (2, vi i)] [] w9 (rm q Fm) X := by
    intro m
    have out : ∀ (k : Nat) (i : Int32) (w9 : gd), i.toInt = k → (k : Int) ≤ (x.1 60 14).toInt → VI x w9 q o → FAs x w9 o s (fD C w M k) → w9.1 60 14 ≤ i → ((¬ ((w9.1 220 13) = (0 : Int32)) → KM G q (d + 5) zk_X2_inspect 78 [(0, vr 200), (1, vi s)] [] w9 (rm q Fm) X) ∧ ((w9.1 220 13) = (0 : Int32) → KM G q (d + 4) zk_X2_inspectEnd 0 [(0, vr 200), (1, vi s)] [] w9 (rm q (fun x3 q4 => KM G q4 (d + 5) zk_X2_inspect 78 [(0, vr 200), (1, vi s)] [] x3 (rm q Fm) X)) X)) := by
      intro k i w9 ei hk hw hfa c
      rw [t_le, (VI_0 hO hw).2 60 14 (by omega) (by omega) (by omega) (by omega)] at c
      have hfa : FAs x w9 o s (fD C w M 4) := FAs_more (n := k) (by omega) (fun f h1 h2 z => by
        rw [fn_lt4 (by omega)] at z
        obtain ⟨Q, hQ, -⟩ := z
        have := gt_lt hQ
        omega) hfa
      have e13 : w9.1 220 13 = x.1 220 13 := hw.1 _ _ (by unfold sVi; omega)
      rw [e13]
      refine ⟨fun c0 => p78 q w9 hu (kle_rf q) rfl hw (FAs_more (n := 4) (by omega) (fun f h1 h2 z => c0 ?_) hfa), fun c0 => kh_inspectEnd hu he ho ht hM hK hN hq2 g hw s (by rw [(VI_0 hO hw).1]; exact hs) ?_ hfa (fun y q1 hu1 hl1 et1 hy hfy => p78 q1 y hu1 hl1 et1 hy hfy)⟩
      · have : chM C w M = [] := by
          by_cases c8 : f = 8
          · rw [c8, fn_8] at z; exact z.1
          · obtain ⟨f', ef⟩ : ∃ f', f = 4 + f' := ⟨f - 4, by omega⟩
            rw [ef, fn_4 (by omega)] at z
            exact z.1
        rw [this] at hc
        rw [t_eq, k0]; exact hc
      · rw [c0, k0] at hc
        exact List.eq_nil_of_length_eq_zero (by omega)
    induction m with
    | zero =>
      intro k i w9 ei hm hk hw hfa
      refine kg_X2_inspect_21 hu he s i ⟨fun c => out k i w9 ei hk hw hfa c, fun c => ?_⟩
      rw [t_le, (VI_0 hO hw).2 60 14 (by omega) (by omega) (by omega) (by omega)] at c; omega
    | succ m ih =>
      intro k i w9 ei hm hk hw hfa
      refine kg_X2_inspect_21 hu he s i ⟨fun c => out k i w9 ei hk hw hfa c, fun c => ?_⟩
      rw [t_le, (VI_0 hO hw).2 60 14 (by omega) (by omega) (by omega) (by omega)] at c
      have e1 : (i + 1).toInt = ((k + 1 : Nat) : Int) := by rw [t_add (by rw [k1]; omega) (by rw [k1]; omega), k1, ei]; rfl
      have hkl : k < C.2.2.2.1.length := by omega
      obtain ⟨Q, hQ⟩ : ∃ Q, C.2.2.2.1[k]? = some Q := ⟨_, List.getElem?_eq_getElem hkl⟩
      obtain ⟨hKw, gw⟩ := KM_Vi hO hM hK hw.1 g
      have iK : i.toNatClampNeg = k := by rw [t_cl, ei]; rfl
      rw [iK]
      refine ⟨by rw [vp_in_iff]; omega, kh_isFalse hu.1 he hw.2.1 hKw hN hq2 gw _ (hKw.2.2.2.1.2 k Q hQ) (Or.inl (List.mem_of_getElem? hQ)) (fun r v gr fv hr => ?_)⟩
      have hv := VI_st hO hw (fm_w fv (fun c k q => by unfold sWk at q; omega))
      have hfv : FAs x v o s (fD C w M k) := FAs_f (fun f => fv _ _ (by unfold sWk; omega)) hfa
      have fn : fnM C w M k ↔ badC M Q := by
        rw [fn_lt4 (by omega)]
        refine ⟨fun ⟨Q9, h9, b⟩ => ?_, fun b => ⟨Q, hQ, b⟩⟩
        rw [hQ] at h9
        rw [Option.some.inj h9]; exact b
      refine ⟨fun r0 => ih (k + 1) _ v e1 (by push_cast; omega) (by push_cast; omega) hv (FAs_more (n := k) (by omega) (fun f h1 h2 z => ?_) hfv), fun rn u9 e9 => ⟨o, by rw [e9, et_r ht], ho, kt_find3 hu.1 ho _ _ ei (by omega) hv.2.2.1 (by rw [(VI_0 hO hv).1]; exact hs) (fun t ft hzt t1 t2 t3 => ih (k + 1) _ t e1 (by push_cast; omega) (by push_cast; omega) (VI_fi hO hv ft hzt) (FAs_find hs.1 (fn.mpr (hr.mp rn)) t1 t2 t3 hfv))⟩⟩
      have : f = k := by omega
      rw [this] at z
      exact hr.mpr (fn.mp z) r0
  refine kg_X2_inspect_0 hu he s (fun u1 e1 => ⟨o, by rw [e1, et_r ht], ho, fun x4 e4 => loop 4 0 _ x4 rfl (by omega) (by omega) (VI_st hO hV ?_) (fun f _ => Or.inr ⟨fun z => absurd z.1.1 (Nat.not_lt_zero _), ?_⟩)⟩)
  · rw [e4]; exact fm_si (fm_rf _ _) (by omega)
  · rw [e4, si_cell (by omega)]
end KLO
end
section
/-! the class: all states, one after another, with what they are -/
/-- of each finding the first state that shows it, of the first k -/
def FN3 (C : gCo) (w : Nat) (x7 : Nat → Int32) (T : gTy) (k : Nat) : Prop := ∀ f, f < 11 → (x7 f = -1 ∧ ∀ s p, s < k → T.1[s]? = some p → ¬ fnM C w p.1 f) ∨ ∃ s p, s < k ∧ (x7 f).toInt = (s : Nat) ∧ T.1[s]? = some p ∧ fnM C w p.1 f ∧ ∀ s' p', s' < s → T.1[s']? = some p' → ¬ fnM C w p'.1 f
def sKX (o c k : Nat) : Prop := c = 225 ∨ (c = 220 ∧ (k = 13 ∨ k = 14)) ∨ (231 ≤ c ∧ c ≤ 233) ∨ c = 209 ∨ c = 210 ∨ c = 240 ∨ (c = o ∧ 2 ≤ k ∧ k ≤ 5) ∨ c = o + 7 ∨ c = o + 8 ∨ c = o + 9 ∨ c = o + 14 ∨ 4000 ≤ c ∨ (c = 60 ∧ k = 5) ∨ c = 65
section PEX
variable {C : gCo} {M : gMa} {T T' : gTy} {w lim s i n m k : Nat} {x7 y7 : Nat → Int32}
theorem adS_pre (h : s < T.1.length) (a b : Nat) : (adS lim a b T M).1[s]? = T.1[s]? ∧ T.1.length ≤ (adS lim a b T M).1.length := by
  by_cases c : ∃ q ∈ T.1, q.1 = M
  · rw [adS_old c]; exact ⟨rfl, Nat.le_refl _⟩
  · by_cases c2 : lim ≤ T.1.length
    · rw [adS_full c c2]; exact ⟨rfl, Nat.le_refl _⟩
    · rw [adS_new c c2]
      refine ⟨List.getElem?_append_left h, ?_⟩
      show _ ≤ (T.1 ++ _).length
      rw [List.length_append]; omega
theorem onS_pre (h : s < T.1.length) (a : Nat) : ∀ n, (onS C w lim a M n T).1[s]? = T.1[s]? ∧ T.1.length ≤ (onS C w lim a M n T).1.length := by
  intro n
  induction n with
  | zero => exact ⟨rfl, Nat.le_refl _⟩
  | succ n ih =>
    rw [onS]
    split
    · exact ih
    · obtain ⟨i1, i2⟩ := ih
      obtain ⟨j1, j2⟩ := adS_pre (lim := lim) (M := doM C w M (((chM C w M)[n]?).getD (0, none, none))) (s := s) (T := onS C w lim a M n T) (by omega) a n
      exact ⟨j1.trans i1, Nat.le_trans i2 j2⟩
theorem onS_stop (h : (onS C w lim k M n T).2 = true) : ∀ m, n ≤ m → onS C w lim k M m T = onS C w lim k M n T := by
  intro m
  induction m with
  | zero => intro hm; rw [show n = 0 by omega]
  | succ m ih =>
    intro hm
    by_cases c : n = m + 1
    · rw [c]
    · have e := ih (by omega)
      rw [onS, e, if_pos h]
theorem onS_go (h : ¬ (onS C w lim k M n T).2 = true) {ch : gCh} (hc : (chM C w M)[n]? = some ch) : onS C w lim k M (n + 1) T = adS lim k n (onS C w lim k M n T) (doM C w M ch) := by
  rw [onS, if_neg h, hc]
  rfl
theorem FN3_T (h : ∀ s, s < k → T'.1[s]? = T.1[s]?) (g : FN3 C w x7 T k) : FN3 C w x7 T' k := by
  intro f hf
  rcases g f hf with ⟨g1, g2⟩ | ⟨s, p, g1, g2, g3, g4, g5⟩
  · exact Or.inl ⟨g1, fun s p hs hp => g2 s p hs (by rw [← h s hs]; exact hp)⟩
  · exact Or.inr ⟨s, p, g1, g2, by rw [h s g1]; exact g3, g4, fun s' p' hs' hp' => g5 s' p' hs' (by rw [← h s' (by omega)]; exact hp')⟩
theorem FN3_next {p : gMa × Nat × Nat} {v : Int32} (ev : v.toInt = (k : Nat)) (hp : T.1[k]? = some p) (g : FN3 C w x7 T k) (h : ∀ f, f < 11 → (fD C w p.1 11 f ∧ x7 f = -1 ∧ y7 f = v) ∨ (¬ (fD C w p.1 11 f ∧ x7 f = -1) ∧ y7 f = x7 f)) : FN3 C w y7 T (k + 1) := by
  intro f hf
  rcases h f hf with ⟨h1, h2, h3⟩ | ⟨h1, h3⟩
  · refine Or.inr ⟨k, p, by omega, by rw [h3]; exact ev, hp, h1.2, fun s' p' hs' hp' => ?_⟩
    rcases g f hf with ⟨-, g2⟩ | ⟨s, p9, -, g2, -⟩
    · exact g2 s' p' hs' hp'
    · rw [h2, tm1] at g2; omega
  · rw [h3]
    rcases g f hf with ⟨g1, g2⟩ | ⟨s, p9, g1, g2⟩
    · refine Or.inl ⟨g1, fun s' p' hs' hp' => ?_⟩
      by_cases e : s' = k
      · rw [e, hp] at hp'
        rw [← Option.some.inj hp']
        exact fun z => h1 ⟨⟨hf, z⟩, g1⟩
      · exact g2 s' p' (by omega) hp'
    · exact Or.inr ⟨s, p9, by omega, g2⟩
end PEX
section KEXP
variable {G : kG} {q q0 q1 : kP} {d : Nat} {x x0 y z : gd} {o : Nat} {F : Int32 → gd → Prop} {Fv : gd → Prop} {Fm : gd → kP → Prop} {X : String → gd → kP → Prop} {C : gCo} {M : gMa} {T : gTy} {nl w lim : Nat} {S : Nat → Nat → Prop}
theorem KX3_S (hO : o = 260 ∨ o = 280) (hK : CK x C) (f : fm S x y) (hs : ∀ c k, S c k → sKX o c k) (h3 : T.1.length ≤ 3000) (h : KX3 C nl w x o T) : KX3 C nl w y o T := by
  have f : fm (sKX o) x y := fm_w f hs
  refine KX3_f hK (fun c k hc => f c k (by unfold sKX; omega)) (fun k h1 h2 => f _ _ (by unfold sKX; omega)) (fun s k hs => f _ _ (by unfold sKX; omega)) (fun k => f _ _ (by unfold sKX; omega)) (fun k => f _ _ (by unfold sKX; omega)) (f _ _ (by unfold sKX; omega)) (f _ _ (by unfold sKX; omega)) (fun k => f _ _ (by unfold sKX; omega)) (fun k => f _ _ (by unfold sKX; omega)) (fun k => f _ _ (by unfold sKX; omega)) h
/-- program, way, locks -/
def J3 (C : gCo) (nl w : Nat) (x : gd) : Prop := CK x C ∧ x.1 220 3 = Int32.ofNat w ∧ (x.1 60 9).toInt = (nl : Nat)
theorem J3_f (hc : agC x y) (hm : agM 220 x y) (h : J3 C nl w x) : J3 C nl w y := ⟨CK_f h.1 hc, by rw [hm 3 (by omega) (by omega)]; exact h.2.1, by rw [hc 60 9 (by omega)]; exact h.2.2⟩
theorem J3_S (hO : o = 260 ∨ o = 280) (f : fm S x y) (hs : ∀ c k, S c k → sKX o c k) (h : J3 C nl w x) : J3 C nl w y := by
  have f : fm (sKX o) x y := fm_w f hs
  exact J3_f (fun c k hc => f c k (by unfold sKX; omega)) (fun k h1 h2 => f _ _ (by unfold sKX; omega)) h
theorem kx_25 {c k : Nat} (h : c = 225) : sKX o c k := Or.inl h
theorem kx_Li {c k : Nat} (h : sLi 220 c k) : sKX o c k := by unfold sLi at h; unfold sKX; omega
theorem kx_In {c k : Nat} (h : sIn o c k) : sKX o c k := by unfold sIn at h; unfold sKX; omega
theorem kx_Vi {c k : Nat} (h : sVi o c k) : sKX o c k := by unfold sVi at h; unfold sKX; omega
theorem kx_Mk {c k : Nat} (h : sMk 220 c k) : sKX o c k := by unfold sMk at h; unfold sKX; omega
theorem kchL_f {l : List gCh} (e13 : y.1 220 13 = x.1 220 13) (e : ∀ c k, 231 ≤ c → c ≤ 233 → y.1 c k = x.1 c k) (h : kchL x 220 l) : kchL y 220 l := by
  obtain ⟨h1, h2⟩ := h
  refine ⟨by rw [e13]; exact h1, fun i ch hi => ?_⟩
  have := h2 i ch hi
  unfold kch at this ⊢
  rw [e (220 + 11) i (by omega) (by omega), e (220 + 12) i (by omega) (by omega), e (220 + 13) i (by omega) (by omega)]
  exact this
/-- the choices of one state -/
theorem kx_inner3 (he : q.ex = true) (ho : kiT q o) (hN : NC C) (hX : NXc C) (hX3 : NX3 C) (hLk : LkN C nl) (w01 : w = 0 ∨ w = 1) (l i : Int32) {k : Nat} (ei : i.toInt = k) (hk3 : k < 3000) (el : l.toInt = (lim : Nat)) (hl3 : lim ≤ 3000) {p : gMa × Nat × Nat} (hp : T.1[k]? = some p) (l84 : (chM C w p.1).length ≤ 84) {x7 : Nat → Int32}
    (again : ∀ (q2 : kP) (t : gd), kU q2 → kle q q2 → q2.et = some o → fm (sEx o) x t → XI t q2 o → J3 C nl w t → KX3 C nl w t o (onS C w lim k p.1 (chM C w p.1).length T) → (∀ f, t.1 (o + 7) f = x7 f) → KM G q2 (d + 6) zk_X2_explore 49 [(0, vr 200), (2, vi l), (4, vi (i + 1))] [] t (rm q Fm) X) :
    ∀ (n j : Nat) (i2 : Int32) (q2 : kP) (t : gd), i2.toInt = j → (chM C w p.1).length - j ≤ n → j ≤ (chM C w p.1).length → kU q2 → kle q q2 → q2.et = some o → fm (sEx o) x t → XI t q2 o → J3 C nl w t → kchL t 220 (chM C w p.1) → KX3 C nl w t o (onS C w lim k p.1 j T) → (∀ f, t.1 (o + 7) f = x7 f) → KM G q2 (d + 6) zk_X2_explore 95 [(0, vr 200), (2, vi l), (4, vi i), (5, vi i2)] [] t (rm q Fm) X := by
  have hO := iT_O ho
  have k1 : (1 : Int32).toInt = 1 := rfl
  have k0 : (0 : Int32).toInt = 0 := rfl
  intro n
  induction n with
  | zero =>
    intro j i2 q2 t ej hn hj hu2 hl2 et2 ft hXt hJ hc hT h7
    have ho2 := kle_T hl2 ho
    have he2 := hl2.2.1.2.1 he
    have jl : j = (chM C w p.1).length := by omega
    have c13 := hc.1
    refine kg_X2_explore_95 hu2 he2 ho2 l i i2 ⟨fun _ => again q2 t hu2 hl2 et2 ft hXt hJ (by rw [← jl]; exact hT) h7, fun c => ?_⟩
    rw [t_le] at c; omega
  | succ n ihn =>
    intro j i2 q2 t ej hn hj hu2 hl2 et2 ft hXt hJ hc hT h7
    have ho2 := kle_T hl2 ho
    have he2 := hl2.2.1.2.1 he
    have hkn2 := hu2.2.2.2.2.1
    have hm2 : kiM q2 220 := Or.inr ⟨rfl, he2⟩
    have c13 := hc.1
    refine kg_X2_explore_95 hu2 he2 ho2 l i i2 ⟨fun c => again q2 t hu2 hl2 et2 ft hXt hJ ?_ h7, fun c2 u2 e2 => ⟨o, by rw [e2, et_r et2], ho2, fun cp => again q2 t hu2 hl2 et2 ft hXt hJ ?_ h7, fun cp => ?_⟩⟩
    · rw [t_le] at c
      have jl : j = (chM C w p.1).length := by omega
      rw [← jl]; exact hT
    · have pt : (onS C w lim k p.1 j T).2 = true := by
        apply Classical.byContradiction
        intro z
        have := hT.1.2
        rw [if_neg z] at this
        exact cp this
      rw [onS_stop pt _ hj]; exact hT
    rw [t_le] at c2
    have pf : ¬ (onS C w lim k p.1 j T).2 = true := fun z => by
      have := hT.1.2
      rw [if_pos z] at this
      rw [this] at cp
      exact absurd cp (by decide)
    have hjl : j < (chM C w p.1).length := by omega
    obtain ⟨ch, hch⟩ : ∃ ch, (chM C w p.1)[j]? = some ch := ⟨_, List.getElem?_eq_getElem hjl⟩
    have hkl := gt_lt hp
    obtain ⟨pr1, pr2⟩ := onS_pre (C := C) (w := w) (lim := lim) (M := p.1) hkl k j
    have hp' : (onS C w lim k p.1 j T).1[k]? = some p := by rw [pr1]; exact hp
    have hkp := hT.2.1 k p hp'
    have hk0 : (k : Int) < (t.1 o 0).toInt := by rw [hT.1.1]; omega
    have hT3 : (onS C w lim k p.1 j T).1.length ≤ 3000 := by have := hT.1.1; have := hXt.2.1.1.1; omega
    have hkr := hXt.2.2.2.1 k hk0
    have hsn : k < q2.kn := by have := hXt.2.2.1; omega
    have ej1 : (i2 + 1).toInt = ((j + 1 : Nat) : Int) := by rw [t_add (by rw [k1]; omega) (by rw [k1]; omega), k1, ej]; rfl
    refine kx_recall hu2.1 he2 hXt.1.1 hXt.1.2 i ei hsn hk3 hkr (fun a2 ea2 hMa2 fa2 => ?_)
    have hXa2 : XI a2 q2 o := XI_q hO (fm_w fa2 (fun c k => qu_25)) hXt hkn2
    have ga2 : KMm a2 220 C p.1 := by rw [ea2]; exact hkp.2.1
    have hJa := J3_S hO fa2 (fun c k => kx_25) hJ
    have hTa := KX3_S hO hJ.1 fa2 (fun c k => kx_25) hT3 hT
    have hca := kchL_f (c13_25 fa2) (fun c k h1 h2 => fa2 _ _ (by omega)) hc
    have e0a := co0_25 hO fa2
    refine kh_perform hu2.1 hm2 hMa2 hJa.1 hN hX hX3 ga2 (WMw_WM hkp.2.2.1.1) hJa.2.1 w01 i2 ej (by omega) (hca.2 j ch hch) (ch_in (List.mem_of_getElem? hch)) (fun b2 hMb2 fb2 hD2 gb2 => ?_)
    have hXb2 : XI b2 q2 o := XI_q hO (fm_w fb2 (fun c k => qu_Mk)) hXa2 hkn2
    have hJb := J3_S hO fb2 (fun c k => kx_Mk) hJa
    have hTb := KX3_S hO hJa.1 fb2 (fun c k => kx_Mk) hT3 hTa
    have hcb := kchL_f (c13_Mk fb2) (fun c k h1 h2 => fb2 _ _ (by unfold sMk; omega)) hca
    have l6 : C.2.1.length ≤ 6 := by have := hMb2.1.1.2.2.1; have := hJb.1.2.1.1; omega
    have lb : (C.2.2.1.length : Int) < 2147483648 := by have := hMb2.1.1.1; have := hJb.1.2.2.1.1; omega
    have hmem := List.mem_of_getElem? hch
    refine kx_addState3 (d := d + 1) (A := k) (B := j) hu2 he2 ho2 et2 hXb2 hMb2 hJb.1 hN hJb.2.2 gb2 (MIv_do hX l6 hkp.2.2.1 hmem) (MCn_do hN hX hLk lb l6 hkp.2.2.2.1 hkp.2.2.1 hmem) (NBm_do hkp.2.2.2.2.1) hTb i i2 l (Or.inr ⟨ei, by omega, ej⟩) el hl3 (fun c3 q3 hu3 hl3' et3 f3 hX3' hrow hT3' => ?_)
    obtain ⟨ac3, am3⟩ := sKe_C hO f3
    refine ihn (j + 1) _ q3 c3 ej1 (by omega) hjl hu3 (kle_tr hl2 hl3') (by rw [et3]; exact et2) (fm_tr ft (fm_tr (fm_tr (fm_w fa2 (fun c k => ex_25)) (fm_w fb2 (fun c k => ex_Mk))) (fm_w f3 (fun c k => ex_Ke)))) hX3' (J3_f ac3 am3 hJb) (kchL_f (c13_Ke hO f3) (fun c k h1 h2 => f3 _ _ (by unfold sKe; omega)) hcb) (by rw [onS_go pf hch]; exact hT3') (fun f => ?_)
    rw [f3 _ _ (by unfold sKe; omega), fb2 _ _ (by unfold sMk; omega), fa2 _ _ (by omega)]
    exact h7 f
end KEXP
end
section
/-! the class: explore() tries as the machine does -/
section KALL
variable {G : kG} {q q0 q1 : kP} {d : Nat} {x x0 y z : gd} {o : Nat} {F : Int32 → gd → Prop} {Fv : gd → Prop} {Fm : gd → kP → Prop} {X : String → gd → kP → Prop} {C : gCo} {M : gMa} {T : gTy} {nl w lim : Nat}
theorem kx_outer3 (he : q.ex = true) (ho : kiT q o) (hN : NC C) (hX : NXc C) (hX3 : NX3 C) (hLk : LkN C nl) (hq2 : NCq C) (w01 : w = 0 ∨ w = 1) (l : Int32) (el : l.toInt = (lim : Nat)) (hl3 : lim ≤ 3000) (h : ∀ y q1, kU q1 → kle q q1 → q1.et = some o → fm (sEx o) x y → TZ y o → TO y q1 o → J3 C nl w y → KX3 C nl w y o (tryM C w lim) → FN3 C w (y.1 (o + 7)) (tryM C w lim) (tryM C w lim).1.length → Fm y q1) :
    ∀ (m k : Nat) (i : Int32) (q9 : kP) (v : gd) (T : gTy), i.toInt = k → 3000 - (k : Int) ≤ m → k ≤ T.1.length → kU q9 → kle q q9 → q9.et = some o → fm (sEx o) x v → XI v q9 o → J3 C nl w v → KX3 C nl w v o T → FN3 C w (v.1 (o + 7)) T k → bfS C w lim (3001 - k) k T = tryM C w lim → KM G q9 (d + 6) zk_X2_explore 49 [(0, vr 200), (2, vi l), (4, vi i)] [] v (rm q Fm) X := by
  have hO := iT_O ho
  have k1 : (1 : Int32).toInt = 1 := rfl
  have k3 : (3000 : Int32).toInt = 3000 := rfl
  intro m
  have hend : ∀ (k : Nat) (i : Int32) (q9 : kP) (v : gd) (T : gTy), k = T.1.length → kU q9 → kle q q9 → q9.et = some o → fm (sEx o) x v → XI v q9 o → J3 C nl w v → KX3 C nl w v o T → FN3 C w (v.1 (o + 7)) T k → bfS C w lim (3001 - k) k T = tryM C w lim → rm q Fm none v q9 := by
    intro k i q9 v T hk hu9 hl9 et9 fv hX9 hJ hT hFN hb
    rw [bfS_end (List.getElem?_eq_none (by omega))] at hb
    subst hb
    exact rm_i hu9 hl9 (h v q9 hu9 hl9 et9 fv hX9.2.1.1 hX9.2.1.2 hJ hT (by rw [← hk]; exact hFN))
  induction m with
  | zero =>
    intro k i q9 v T ei hm hkT hu9 hl9 et9 fv hX9 hJ hT hFN hb
    have ho9 := kle_T hl9 ho
    have he9 := hl9.2.1.2.1 he
    have tz := hX9.2.1.1.1
    have t0 := hT.1.1
    have e := hend k i q9 v T (by omega) hu9 hl9 et9 fv hX9 hJ hT hFN hb
    refine kg_X2_explore_49 hu9 he9 ho9 l i (fun u1 e1 => ⟨o, by rw [e1, et_r et9], ho9, fun _ => e, fun _ => ⟨fun _ => e, fun c => ?_⟩⟩)
    rw [t_le, k3] at c; omega
  | succ m ih =>
    intro k i q9 v T ei hm hkT hu9 hl9 et9 fv hX9 hJ hT hFN hb
    have ho9 := kle_T hl9 ho
    have he9 := hl9.2.1.2.1 he
    have hm9 : kiM q9 220 := Or.inr ⟨rfl, he9⟩
    have tz := hX9.2.1.1.1
    have t0 := hT.1.1
    refine kg_X2_explore_49 hu9 he9 ho9 l i (fun u1 e1 => ⟨o, by rw [e1, et_r et9], ho9, fun c => hend k i q9 v T ?_ hu9 hl9 et9 fv hX9 hJ hT hFN hb, fun c0 => ⟨fun c => hend k i q9 v T ?_ hu9 hl9 et9 fv hX9 hJ hT hFN hb, fun c => ?_⟩⟩)
    · rw [t_le, ei] at c; omega
    · rw [t_le, k3, ei] at c; omega
    rw [t_le, ei] at c0
    rw [t_le, k3, ei] at c
    have ei1 : (i + 1).toInt = ((k + 1 : Nat) : Int) := by rw [t_add (by rw [k1]; omega) (by rw [k1]; omega), k1, ei]; rfl
    have hkn9 := hu9.2.2.2.2.1
    have hk0 : (k : Int) < (v.1 o 0).toInt := by omega
    have hk3 : k < 3000 := by omega
    have hkl : k < T.1.length := by omega
    have hT3 : T.1.length ≤ 3000 := by omega
    have hsn : k < q9.kn := by have := hX9.2.2.1; omega
    have hm2 : 3000 - ((k + 1 : Nat) : Int) ≤ m := by push_cast; omega
    clear c c0 hm
    obtain ⟨p, hp⟩ : ∃ p, T.1[k]? = some p := ⟨_, List.getElem?_eq_getElem hkl⟩
    have hkp := hT.2.1 k p hp
    have hkr := hX9.2.2.2.1 k hk0
    rw [show 3001 - k = (3000 - k) + 1 by omega, bfS_go hp] at hb
    refine kx_recall hu9.1 he9 hX9.1.1 hX9.1.2 i ei hsn hk3 hkr (fun a ea hMa fa => ?_)
    have hXa : XI a q9 o := XI_q hO (fm_w fa (fun c k => qu_25)) hX9 hkn9
    have ga : KMm a 220 C p.1 := by rw [ea]; exact hkp.2.1
    have hJa := J3_S hO fa (fun c k => kx_25) hJ
    have hTa := KX3_S hO hJ.1 fa (fun c k => kx_25) hT3 hT
    refine kh_listChoices hu9.1 hm9 hMa hJa.1 hN ga hkp.2.2.1.2 hJa.2.1 w01 (fun b fb hLb hcb => ?_)
    have hMb := MM_Li (Or.inr rfl) fb hMa
    have hXb : XI b q9 o := XI_q hO (fm_w fb (fun c k => qu_Li)) hXa hkn9
    have hJb := J3_S hO fb (fun c k => kx_Li) hJa
    have hTb := KX3_S hO hJa.1 fb (fun c k => kx_Li) hT3 hTa
    have gb := KMm_Li (Or.inr rfl) hMa hJa.1 fb ga
    have e0b : b.1 o 0 = v.1 o 0 := (co0_Li hO fb).trans (co0_25 hO fa)
    refine kh_inspectActs hu9.1 he9 ho9 et9 hMb hJb.1 hN hX hX3 gb hJb.2.1 w01 hLb hcb (fun c1 fc hac => ?_)
    have hXc : XI c1 q9 o := XI_q hO (fm_w fc (fun c k => qu_In)) hXb hkn9
    have hMc := sIn_MM ho9 fc hMb
    have hJc := J3_S hO fc (fun c k => kx_In) hJb
    have hTc := KX3_S hO hJb.1 fc (fun c k => kx_In) hT3 hTb
    obtain ⟨-, gc⟩ := KM_In ho9 hMb hJb.1 fc gb
    have hcc := kchL_f (c13_In hO fc) (fun c k h1 h2 => fc _ _ (by unfold sIn; omega)) hcb
    have e0 : c1.1 o 0 = v.1 o 0 := (co0_In hO fc).trans e0b
    have hs : 0 ≤ i.toInt ∧ i.toInt < (c1.1 o 0).toInt := by rw [e0, ei]; omega
    refine kh_inspect hu9 he9 ho9 et9 hMc hJc.1 hN hq2 gc hcc.1 hac hXc.2.1.1 hXc.2.1.2 i hs (fun y q1 hu1 hl1 et1 hy hfa => ?_)
    have hl1' := kle_tr hl9 hl1
    have et1' : q1.et = some o := by rw [et1]; exact et9
    have fy : fm (sEx o) x y := fm_tr (fm_tr (fm_tr (fm_tr fv (fm_w fa (fun c k => ex_25))) (fm_w fb (fun c k => ex_Li))) (fm_w fc (fun c k => ex_In))) (fm_w hy.1 (fun c k => ex_Vi))
    have hXy : XI y q1 o := XI_w hO (fm_w hy.1 (fun c k => wd_Vi)) hy.2.2.1 hy.2.2.2 hl1.2.2.1.1 hXc hkn9
    have hJy := J3_S hO hy.1 (fun c k => kx_Vi) hJc
    have hTy := KX3_S hO hJc.1 hy.1 (fun c k => kx_Vi) hT3 hTc
    have hcy := kchL_f (c13_Vi hO hy.1) (fun c k h1 h2 => hy.1 _ _ (by unfold sVi; omega)) hcc
    have e7 : ∀ f, c1.1 (o + 7) f = v.1 (o + 7) f := fun f => by rw [fc _ _ (by unfold sIn; omega), fb _ _ (by unfold sLi; omega), fa _ _ (by omega)]
    have hFy : FN3 C w (y.1 (o + 7)) T (k + 1) := FN3_next ei hp hFN (fun f hf => by rw [← e7 f]; exact hfa f hf)
    have l84 : (chM C w p.1).length ≤ 84 := by have := hcb.1; have := hLb.1.2; omega
    refine kx_inner3 he ho hN hX hX3 hLk w01 l i ei hk3 el hl3 hp l84 (x7 := y.1 (o + 7)) (fun q2 t hu2 hl2 et2 ft hXt hJt hTt h7 => ?_) 84 0 _ q1 y rfl (by omega) (Nat.zero_le _) hu1 hl1' et1' fy hXy hJy hcy hTy (fun f => rfl)
    have pre := fun s (hs : s < T.1.length) => onS_pre (C := C) (w := w) (lim := lim) (M := p.1) hs k (chM C w p.1).length
    refine ih (k + 1) _ q2 t _ ei1 hm2 (by have := (pre k hkl).2; omega) hu2 hl2 et2 ft hXt hJt hTt ?_ (by rw [show 3001 - (k + 1) = 3000 - k by omega]; exact hb)
    rw [show t.1 (o + 7) = y.1 (o + 7) from funext h7]
    exact FN3_T (fun s hs => (pre s (by omega)).1) hFy
theorem kx_explore3 (hu : kU q) (he : q.ex = true) (ho : kiT q o) (hC : CO x) (hK : CK x C) (hN : NC C) (hX : NXc C) (hX3 : NX3 C) (hLk : LkN C nl) (hq2 : NCq C) (en : (x.1 60 9).toInt = (nl : Nat)) (w01 : w = 0 ∨ w = 1) (l : Int32) (el : l.toInt = (lim : Nat)) (hl1 : 1 ≤ lim) (hl3 : lim ≤ 3000) (h : ∀ y q1, kU q1 → kle q q1 → q1.et = some o → fm (sEx o) x y → TZ y o → TO y q1 o → J3 C nl w y → KX3 C nl w y o (tryM C w lim) → FN3 C w (y.1 (o + 7)) (tryM C w lim) (tryM C w lim).1.length → Fm y q1) : KM G q (d + 6) zk_X2_explore 0 [(0, vr 200), (1, vi (Int32.ofNat w)), (2, vi l), (3, vr o)] [] x (rm q Fm) X := by
  have hO := iT_O ho
  have k0 : (0 : Int32).toInt = 0 := rfl
  have hw : Int32.ofNat w = 0 ∨ Int32.ofNat w = 1 := by
    rcases w01 with e | e <;> rw [e]
    · exact Or.inl rfl
    · exact Or.inr rfl
  refine kg_X2_explore_0 hu he ho (Int32.ofNat w) l (fun q1 e1 hu1 hl1' u2 e2 => ⟨o, ?_, kle_T hl1' ho, ?_⟩)
  · rw [e2, e1]; exact et_r rfl
  have et1 : q1.et = some o := by rw [e1]; rfl
  have ho1 := kle_T hl1' ho
  have he1 := hl1'.2.1.2.1 he
  have hm1 : kiM q1 220 := Or.inr ⟨rfl, he1⟩
  refine kt_clear (d := d + 4) hu1.1 ho1 (oN_U hu1 o) _ (fun y fy y0 y3 y1 hzy hty x6 e6 => ?_)
  have f6 : fm (fun c k => c = 205) y x6 := by rw [e6]; exact fm_fl (fm_rf _ _) (fun k hk => rfl)
  have ac6 : agC x x6 := fun c k hc => by rw [f6 c k (by omega)]; exact fy c k (by unfold sTr; omega)
  have hC6 : CO x6 := CO_fm hC ac6
  have hK6 : CK x6 C := CK_f hK ac6
  refine kh_reset hu1.1 hm1 hC6 hK6 hN (Int32.ofNat w) hw (fun x7 hM7 f7 e7 g7 => ?_)
  have ac7 : agC x6 x7 := fun c k hc => f7 c k (by unfold sRe; omega)
  have hJ7 : J3 C nl w x7 := ⟨CK_f hK6 ac7, e7, by rw [ac7 60 9 (by omega), ac6 60 9 (by omega)]; exact en⟩
  have e70 : x7.1 o 0 = 0 := by rw [f7 o 0 (by unfold sRe; omega), f6 o 0 (by omega), y0]
  have e71 : x7.1 o 1 = 0 := by rw [f7 o 1 (by unfold sRe; omega), f6 o 1 (by omega), y1]
  have e75 : ∀ j, j < 8192 → x7.1 205 j = 0 := fun j hj => by rw [f7 205 j (by unfold sRe; omega), e6, sfl_get, if_pos ⟨rfl, hj⟩]
  have e77 : ∀ f, f < 11 → x7.1 (o + 7) f = -1 := fun f hf => by
    rw [f7 _ _ (by unfold sRe; omega), f6 _ _ (by omega)]
    rcases hzy.2.1 f hf with e | e
    · exact e
    · rw [y0, k0] at e; omega
  have hX7 : XI x7 q1 o := by
    refine ⟨⟨hM7.1, hM7.2.1⟩, ⟨TZ_fm f7 (by unfold sRe; omega) (fun c k hc => by unfold sRe; omega) (TZ_fm f6 (by omega) (fun c k hc => by omega) hzy), TO_fm f7 (by unfold sRe; omega) (fun k => by unfold sRe; omega) (TO_fm f6 (by omega) (fun k => by omega) hty)⟩, by rw [e70, k0]; omega, fun s hs => by rw [e70, k0] at hs; omega, fun j hj => ?_⟩
    rw [e75 j hj, e70, k0]
    omega
  have hT7 : KX3 C nl w x7 o ([], false) := by
    refine ⟨⟨by rw [e70, k0]; rfl, by rw [e71]; rfl⟩, fun s p hp => (nomatch hp), ⟨fun j hj => by rw [e75 j hj, k0]; exact ⟨Int.le_refl _, Int.le_refl _⟩, fun s hs => absurd hs (Nat.not_lt_zero _), ?_⟩, fun s p hp => (nomatch hp)⟩
    have : (List.range 8192).countP (fun j => decide (¬ x7.1 205 j = 0)) = 0 := List.countP_eq_zero.mpr (fun j hj => by rw [e75 j (List.mem_range.mp hj)]; decide)
    rw [this]; exact Nat.le_refl _
  refine kx_addState3 (d := d + 1) (A := 0) (B := 0) hu1 he1 ho1 et1 hX7 hM7 hJ7.1 hN hJ7.2.2 g7 MIv_fs MCn_fs NBm_fs hT7 _ _ l (Or.inl ⟨rfl, rfl⟩) el hl3 (fun x8 q9 hu9 hl9 et9 f8 hX8 hrow hT8 => ?_)
  have nw : ¬ ∃ p ∈ (([], false) : gTy).1, p.1 = fsM C := fun ⟨p, h1, _⟩ => nomatch h1
  have eT : adS lim 0 0 ([], false) (fsM C) = ([(fsM C, 0, 0)], false) := adS_new nw (by show ¬ lim ≤ 0; omega)
  rw [eT] at hT8
  obtain ⟨ac8, am8⟩ := sKe_C hO f8
  refine kx_outer3 he ho hN hX hX3 hLk hq2 w01 l el hl3 h 3000 0 _ q9 x8 _ rfl (by omega) (Nat.zero_le _) hu9 (kle_tr hl1' hl9) (by rw [et9]; exact et1) ?_ hX8 (J3_f ac8 am8 hJ7) hT8 (fun f hf => Or.inl ⟨by rw [f8 _ _ (by unfold sKe; omega)]; exact e77 f hf, fun s p hs => absurd hs (Nat.not_lt_zero _)⟩) rfl
  exact fm_tr (fm_tr (fm_tr (fm_w fy (fun c k => ex_Tr)) (fm_w f6 (fun c k q => by unfold sEx; omega))) (fm_w f7 (fun c k => ex_Re))) (fm_w f8 (fun c k => ex_Ke))
end KALL
end
section
/-! a trying: each state comes from an earlier one by a choice; the way to it -/
def TW (C : gCo) (w : Nat) (T : gTy) : Prop := ∀ s p, T.1[s]? = some p → (s = 0 → p.1 = fsM C) ∧ (0 < s → p.2.1 < s ∧ ∃ p' ch, T.1[p.2.1]? = some p' ∧ (chM C w p'.1)[p.2.2]? = some ch ∧ p.1 = doM C w p'.1 ch)
/-- the choices that lead to a state -/
def pthF (T : gTy) : Nat → Nat → List Nat
  | 0, _ => []
  | _ + 1, 0 => []
  | f + 1, s + 1 => match T.1[s + 1]? with
    | none => []
    | some p => pthF T f p.2.1 ++ [p.2.2]
def pth (T : gTy) (s : Nat) : List Nat := pthF T s s
section PTW
variable {C : gCo} {M : gMa} {T T' : gTy} {w lim s i n m k f : Nat} {p : gMa × Nat × Nat}
theorem TW_ad (h : TW C w T) (hp : T.1[k]? = some p) {ch : gCh} (hc : (chM C w p.1)[i]? = some ch) : TW C w (adS lim k i T (doM C w p.1 ch)) := by
  by_cases c : ∃ q ∈ T.1, q.1 = doM C w p.1 ch
  · rw [adS_old c]; exact h
  · by_cases c2 : lim ≤ T.1.length
    · rw [adS_full c c2]; exact h
    · rw [adS_new c c2]
      have hk := gt_lt hp
      intro s r hr
      have hr : (T.1 ++ [(doM C w p.1 ch, k, i)])[s]? = some r := hr
      show _ ∧ (0 < s → r.2.1 < s ∧ ∃ p' ch', (T.1 ++ [(doM C w p.1 ch, k, i)])[r.2.1]? = some p' ∧ _)
      by_cases cs : s < T.1.length
      · rw [List.getElem?_append_left cs] at hr
        obtain ⟨h1, h2⟩ := h s r hr
        refine ⟨h1, fun s0 => ?_⟩
        obtain ⟨h3, p', ch', h4, h5⟩ := h2 s0
        exact ⟨h3, p', ch', by rw [List.getElem?_append_left (by omega)]; exact h4, h5⟩
      · have hl := gt_lt hr
        rw [List.length_append, List.length_singleton] at hl
        have es : s = T.1.length := by omega
        rw [es, List.getElem?_append_right (Nat.le_refl _), Nat.sub_self] at hr
        have hr : (doM C w p.1 ch, k, i) = r := Option.some.inj hr
        rw [← hr, es]
        refine ⟨fun z => by omega, fun _ => ⟨hk, p, ch, ?_, hc, rfl⟩⟩
        show (T.1 ++ _)[k]? = _
        rw [List.getElem?_append_left hk]; exact hp
theorem TW_on (h : TW C w T) (hp : T.1[k]? = some p) : ∀ n, n ≤ (chM C w p.1).length → TW C w (onS C w lim k p.1 n T) := by
  intro n
  induction n with
  | zero => intro _; exact h
  | succ n ih =>
    intro hn
    by_cases c : (onS C w lim k p.1 n T).2 = true
    · rw [onS, if_pos c]; exact ih (by omega)
    · have hch := List.getElem?_eq_getElem (show n < (chM C w p.1).length by omega)
      rw [onS_go c hch]
      exact TW_ad (ih (by omega)) (by rw [(onS_pre (gt_lt hp) k n).1]; exact hp) hch
theorem TW_bf : ∀ f s (T : gTy), TW C w T → TW C w (bfS C w lim f s T) := by
  intro f
  induction f with
  | zero => intro s T h; exact h
  | succ f ih =>
    intro s T h
    cases hs : T.1[s]? with
    | none => rw [bfS_end hs]; exact h
    | some p => rw [bfS_go hs]; exact ih _ _ (TW_on h hs _ (Nat.le_refl _))
theorem TW_try : TW C w (tryM C w lim) := TW_bf _ _ _ (fun s p hp => by
  cases s with
  | zero =>
    have hp : (fsM C, 0, 0) = p := Option.some.inj hp
    rw [← hp]
    exact ⟨fun _ => rfl, fun z => absurd z (Nat.lt_irrefl _)⟩
  | succ s => exact nomatch hp)
theorem pthF_eq (h : TW C w T) : ∀ f g s, s ≤ f → s ≤ g → pthF T f s = pthF T g s := by
  intro f
  induction f with
  | zero =>
    intro g s h1 h2
    rw [show s = 0 by omega]
    cases g <;> rfl
  | succ f ih =>
    intro g s h1 h2
    cases s with
    | zero => cases g <;> rfl
    | succ s =>
      cases g with
      | zero => omega
      | succ g =>
        rw [pthF, pthF]
        cases hs : T.1[s + 1]? with
        | none => rfl
        | some p =>
          have := ((h (s + 1) p hs).2 (by omega)).1
          show pthF T f p.2.1 ++ _ = pthF T g p.2.1 ++ _
          rw [ih g p.2.1 (by omega) (by omega)]
theorem pth_0 : pth T 0 = [] := rfl
theorem pth_s (h : TW C w T) (hs : 0 < s) (hp : T.1[s]? = some p) : pth T s = pth T p.2.1 ++ [p.2.2] := by
  have hl := ((h s p hp).2 hs).1
  obtain ⟨r, rfl⟩ : ∃ r, s = r + 1 := ⟨s - 1, by omega⟩
  unfold pth
  rw [pthF, hp]
  show pthF T r p.2.1 ++ _ = _
  rw [pthF_eq h r p.2.1 p.2.1 (by omega) (Nat.le_refl _)]
/-- the choices lead to it -/
theorem pth_run (h : TW C w T) : ∀ n s p, s ≤ n → T.1[s]? = some p → ∀ c : Nat → Nat, (∀ k v, (pth T s)[k]? = some v → c k = v) → runM C w c (pth T s).length = p.1 ∧ ∀ k, k < (pth T s).length → c k < (chM C w (runM C w c k)).length := by
  intro n
  induction n with
  | zero =>
    intro s p hs hp c hc
    have e : s = 0 := by omega
    rw [e] at hp ⊢
    exact ⟨((h 0 p hp).1 rfl).symm, fun k hk => absurd hk (Nat.not_lt_zero _)⟩
  | succ n ih =>
    intro s p hs hp c hc
    by_cases s0 : s = 0
    · rw [s0] at hp ⊢
      exact ⟨((h 0 p hp).1 rfl).symm, fun k hk => absurd hk (Nat.not_lt_zero _)⟩
    · obtain ⟨hl, p', ch, h1, h2, h3⟩ := (h s p hp).2 (by omega)
      have e := pth_s h (by omega) hp
      rw [e] at hc ⊢
      have cl : c (pth T p.2.1).length = p.2.2 := hc _ _ (by rw [List.getElem?_append_right (Nat.le_refl _), Nat.sub_self]; rfl)
      obtain ⟨i1, i2⟩ := ih p.2.1 p' (by omega) h1 c (fun k v hk => hc k v (by rw [List.getElem?_append_left (gt_lt hk)]; exact hk))
      rw [List.length_append, List.length_singleton]
      have hch : (chM C w (runM C w c (pth T p.2.1).length))[c (pth T p.2.1).length]? = some ch := by rw [i1, cl]; exact h2
      refine ⟨by rw [runM_s hch, i1, h3], fun k hk => ?_⟩
      by_cases e9 : k = (pth T p.2.1).length
      · rw [e9]; exact gt_lt hch
      · exact i2 k (by omega)
end PTW
section KPTH
variable {x : gd} {C : gCo} {T : gTy} {w nl o s : Nat} {p : gMa × Nat × Nat}
end KPTH
end
section
/-! the class: show() does the choices that lead to a state -/
def PA3 (x : gd) (o : Nat) (T : gTy) : Prop := ∀ s p, T.1[s]? = some p → (s = 0 → (x.1 (o + 12) 0).toInt = 0) ∧ (0 < s → p.2.1 < s ∧ (x.1 (o + 10) s).toInt = (p.2.1 : Nat) ∧ (x.1 (o + 11) s).toInt = (p.2.2 : Nat) ∧ (x.1 (o + 12) s).toInt = (x.1 (o + 12) p.2.1).toInt + 1)
/-- what a trying has told -/
def TR3 (C : gCo) (w : Nat) (x : gd) (o : Nat) (T : gTy) : Prop := ((x.1 o 0).toInt = (T.1.length : Nat) ∧ x.1 o 1 = if T.2 = true then 1 else 0) ∧ PA3 x o T ∧ FN3 C w (x.1 (o + 7)) T T.1.length
section KSH
variable {G : kG} {q : kP} {d : Nat} {x y z : gd} {o : Nat} {F : Int32 → gd → Prop} {Fv : gd → Prop} {P : Option gv → gd → Prop} {X : String → gd → Prop} {C : gCo} {T : gTy} {nl w n : Nat} {c : Nat → Nat}
theorem TR3_of (h : KX3 C nl w x o T) (g : FN3 C w (x.1 (o + 7)) T T.1.length) : TR3 C w x o T := ⟨h.1, h.2.2.2, g⟩
theorem TR3_f (e0 : y.1 o 0 = x.1 o 0) (e1 : y.1 o 1 = x.1 o 1) (e : ∀ c k, c = o + 7 ∨ c = o + 10 ∨ c = o + 11 ∨ c = o + 12 → y.1 c k = x.1 c k) (h : TR3 C w x o T) : TR3 C w y o T := by
  obtain ⟨h1, h2, h3⟩ := h
  refine ⟨by rw [e0, e1]; exact h1, fun s p hp => ?_, ?_⟩
  · rw [e _ _ (by omega), e _ _ (by omega), e _ _ (by omega), e _ _ (by omega), e _ _ (by omega)]; exact h2 s p hp
  · rw [show y.1 (o + 7) = x.1 (o + 7) from funext (fun k => e _ _ (by omega))]; exact h3
theorem PA_d (h : TW C w T) (g : PA3 x o T) : ∀ n s p, s ≤ n → T.1[s]? = some p → (x.1 (o + 12) s).toInt = ((pth T s).length : Nat) := by
  intro n
  induction n with
  | zero =>
    intro s p hs hp
    have e : s = 0 := by omega
    rw [e] at hp ⊢
    exact (g 0 p hp).1 rfl
  | succ n ih =>
    intro s p hs hp
    by_cases s0 : s = 0
    · rw [s0] at hp ⊢
      exact (g 0 p hp).1 rfl
    · obtain ⟨a1, a2, a3, a4⟩ := (g s p hp).2 (by omega)
      obtain ⟨hl, p', ch, h1, h2, h3⟩ := (h s p hp).2 (by omega)
      rw [a4, ih p.2.1 p' (by omega) h1, pth_s h (by omega) hp, List.length_append, List.length_singleton]
      rfl
theorem kt_pathTo3 (hq : kV q) (ho : kiT q o) {a : Nat} (ka : kK a = .inr (.int, 400)) (ma : a ∈ (kf q).2.1) (hoa : a < o) (s : Int32) {S : Nat} (es : s.toInt = S) {p : gMa × Nat × Nat} (hp : T.1[S]? = some p) (hW : TW C w T) (hA : PA3 x o T) (hT3 : T.1.length ≤ 3000) (h4 : (pth T S).length ≤ 400) (h : ∀ y, fm (fun c k => c = a) x y → (∀ k v, (pth T S)[k]? = some v → (y.1 a k).toInt = (v : Nat)) → Fv y) : KT G q d zk_X10_pathTo 0 [(0, vr o), (1, vi s), (2, vr a)] [] x (rv Fv) := by
  have k1 : (1 : Int32).toInt = 1 := rfl
  have km : (-1 : Int32).toInt = -1 := rfl
  have k0 : (0 : Int32).toInt = 0 := rfl
  have k4 : (Int32.ofNat 400).toInt = 400 := rfl
  have loop : ∀ (n : Nat) (u i : Int32) (U : Nat) (p9 : gMa × Nat × Nat) (r : List Nat) (y : gd), i.toInt = (n : Int) - 1 → u.toInt = U → T.1[U]? = some p9 → (pth T U).length = n → pth T S = pth T U ++ r → fm (fun c k => c = a) x y → (∀ j v, r[j]? = some v → (y.1 a (n + j)).toInt = (v : Nat)) → KT G q d zk_X10_pathTo 12 [(0, vr o), (2, vr a), (3, vi u), (4, vi i)] [] y (rv Fv) := by
    intro n
    induction n with
    | zero =>
      intro u i U p9 r y ei eu hU hl hr fy hy
      have e0 : pth T U = [] := List.eq_nil_of_length_eq_zero hl
      rw [e0, List.nil_append] at hr
      refine kg_X10_pathTo_12 hq ho ka ma _ _ ⟨fun _ => rv_i (h y fy (fun k v hk => ?_)), fun c => ?_⟩
      · rw [hr] at hk
        have := hy k v hk
        rw [Nat.zero_add] at this
        exact this
      · rw [t_lt, k0] at c; omega
    | succ n ih =>
      intro u i U p9 r y ei eu hU hl hr fy hy
      have hlen : (pth T S).length = (n + 1) + r.length := by rw [hr, List.length_append, hl]
      have U0 : 0 < U := by
        apply Classical.byContradiction
        intro c
        rw [show U = 0 by omega, pth_0] at hl
        cases hl
      obtain ⟨a1, a2, a3, a4⟩ := (hA U p9 hU).2 U0
      obtain ⟨hlt, p', ch, g1, g2, g3⟩ := (hW U p9 hU).2 U0
      have ps := pth_s hW U0 hU
      have hUl := gt_lt hU
      have vu : vp_in u 3000 := by rw [vp_in_iff]; omega
      refine kg_X10_pathTo_12 hq ho ka ma _ _ ⟨fun c => ?_, fun c => ⟨fun c2 => ?_, fun c2 => ⟨vu, ?_, fun z ez => ⟨vu, ?_⟩⟩⟩⟩
      · rw [t_lt, k0] at c; push_cast at ei; omega
      · rw [t_le, k4] at c2
        push_cast at ei; omega
      · rw [vp_in_iff]; push_cast at ei; omega
      have eU : u.toNatClampNeg = U := by rw [t_cl, eu]; rfl
      have eI : i.toNatClampNeg = n := by rw [t_cl, ei]; push_cast; omega
      have fz : fm (fun c k => c = a) x z := by rw [ez]; exact fm_si fy rfl
      rw [eU, fz (o + 10) _ (by omega)]
      obtain ⟨i2, hi2⟩ : ∃ i2, i2 = i + -1 := ⟨_, rfl⟩
      rw [← hi2]
      have ei1 : i2.toInt = (n : Int) - 1 := by rw [hi2, t_add (by rw [km]; push_cast at ei; omega) (by rw [km]; push_cast at ei; omega), km, ei]; push_cast; omega
      clear hi2
      have hl' : (pth T p9.2.1).length = n := by rw [ps, List.length_append, List.length_singleton] at hl; omega
      refine ih _ _ p9.2.1 p' (p9.2.2 :: r) z ei1 a2 g1 hl' (by rw [hr, ps, List.append_assoc]; rfl) fz (fun j v hj => ?_)
      cases j with
      | zero =>
        have hj : p9.2.2 = v := Option.some.inj hj
        rw [ez, si_get, if_pos ⟨rfl, by rw [eI]; rfl⟩, eU, fy (o + 11) _ (by omega), ← hj]
        exact a3
      | succ j =>
        have hj : r[j]? = some v := hj
        have := hy j v hj
        rw [ez, si_get, if_neg (fun z => by have := z.2; omega), show n + (j + 1) = n + 1 + j by omega]
        exact this
  have eS : s.toNatClampNeg = S := by rw [t_cl, es]; rfl
  have dd := PA_d hW hA S S p (Nat.le_refl _) hp
  have hSl := gt_lt hp
  refine kg_X10_pathTo_0 hq ho ka ma _ ⟨by rw [vp_in_iff]; omega, ?_⟩
  rw [eS]
  refine loop (pth T S).length _ _ S p [] x ?_ es hp rfl (List.append_nil _).symm (fm_rf _ _) (fun j v hj => nomatch hj)
  rw [t_sub (by rw [k1]; omega) (by rw [k1]; omega), k1, dd]
end KSH
end
section
/-! the class: show() -/
section KSW
variable {G : kG} {q : kP} {d : Nat} {x y z : gd} {o : Nat} {F : Int32 → gd → Prop} {Fv : gd → Prop} {P : Option gv → gd → Prop} {X : String → gd → Prop} {C : gCo} {T : gTy} {nl w n : Nat} {c : Nat → Nat}
theorem k7_w {k : Nat} (h : (kf q).1 7 k = some o) : (k = 0 ∨ k = 1) ∧ o = 260 + 20 * k := by
  have h : kR q 7 k = some o := h
  unfold kR at h
  rw [if_neg (by omega), if_neg (by omega), if_pos rfl] at h
  by_cases e0 : k = 0
  · rw [if_pos e0] at h
    by_cases e : q.t0 = true
    · rw [if_pos e] at h; cases h; exact ⟨Or.inl e0, by omega⟩
    · rw [if_neg e] at h; cases h
  · rw [if_neg e0] at h
    by_cases e1 : k = 1
    · rw [if_pos e1] at h
      by_cases e : q.t1 = true
      · rw [if_pos e] at h; cases h; exact ⟨Or.inr e1, by omega⟩
      · rw [if_neg e] at h; cases h
    · rw [if_neg e1] at h; cases h
theorem w_nat {l : Int32} (hw : l = 0 ∨ l = 1) : ∃ w : Nat, (w = 0 ∨ w = 1) ∧ l = Int32.ofNat w ∧ l.toNatClampNeg = w := by
  rcases hw with e | e
  · exact ⟨0, Or.inl rfl, e, by rw [e]; rfl⟩
  · exact ⟨1, Or.inr rfl, e, by rw [e]; rfl⟩
theorem kh_was (hq : kV q) (hH : HOI x q) (l : Int32) (w01 : w = 0 ∨ w = 1) (el : l = Int32.ofNat w) (h0 : x.1 (260 + 20 * w) 0 = 0 → F 0 x) (h1 : (kf q).1 7 w = some (260 + 20 * w) → kiT q (260 + 20 * w) → TZ x (260 + 20 * w) → CO x → ¬ x.1 (260 + 20 * w) 0 = 0 → F 1 x) : KT G q d zk_X11_wasTried 0 [(0, vr 0), (1, vi l)] [] x (ri F) := by
  have k0 : (0 : Int32).toInt = 0 := rfl
  have hw : l = 0 ∨ l = 1 := by
    rcases w01 with e | e <;> rw [el, e]
    · exact Or.inl rfl
    · exact Or.inr rfl
  have ew : l.toNatClampNeg = w := by rcases w01 with e | e <;> rw [el, e] <;> rfl
  have v := way_in hw
  have hO : 260 + 20 * w = 260 ∨ 260 + 20 * w = 280 := by omega
  refine kg_X11_wasTried_0 hq l ⟨v, fun u2 e2 => ⟨fun hn => ri_i (h0 ?_), fun c4 h4 => ⟨v, fun u6 e6 => ⟨c4, by rw [e6, ← e2, h4], k7_T (by rw [← e2, h4]), ?_⟩⟩⟩⟩
  · refine (hH.2.2.2 _ hO).2 (fun z => ?_)
    rw [ew] at e2
    have : (kf q).1 7 w = some (260 + 20 * w) := by
      show kR q 7 w = _
      unfold kR
      rw [if_neg (by omega), if_neg (by omega), if_pos rfl]
      rcases w01 with e | e
      · rcases z with ⟨-, z⟩ | ⟨z, -⟩
        · rw [if_pos e, if_pos z, e]
        · omega
      · rcases z with ⟨z, -⟩ | ⟨-, z⟩
        · omega
        · rw [if_neg (by omega), if_pos e, if_pos z, e]
    rw [← e2, hn] at this
    cases this
  · rw [h4] at e2
    have e2 : (kf q).1 7 l.toNatClampNeg = some c4 := e2.symm
    rw [ew] at e2
    obtain ⟨-, ec⟩ := k7_w e2
    have ho := k7_T e2
    rw [ec] at e2 ho ⊢
    obtain ⟨⟨t1, t2⟩, -⟩ := hH.2.2.2 _ hO
    have nn : 0 ≤ (x.1 (260 + 20 * w) 0).toInt := by
      rcases t2 with e | ⟨a, b⟩
      · rw [e]; exact Int.le_refl _
      · exact a.1.1
    refine ⟨fun c => ri_i (h0 ?_), fun c => ri_i ?_⟩
    · rw [t_le, k0] at c; rw [t_eq, k0]; omega
    · have nz : ¬ x.1 (260 + 20 * w) 0 = 0 := fun z => c (by rw [z, t_le]; exact Int.le_refl _)
      rcases t2 with e | ⟨a, b⟩
      · exact absurd e nz
      · exact h1 e2 ho a b nz
theorem kh_fnd (hq : kV q) (l : Int32) (hA : ¬ (0 ≤ l.toInt ∧ l.toInt < 11) → X iAE x) (h : 0 ≤ l.toInt → l.toInt < 11 → Fv x) : KE G q (d + 6) zk_X11_needFinding 0 [(0, vi l)] [] x (rv Fv) X := by
  have k0 : (0 : Int32).toInt = 0 := rfl
  have k11 : (11 : Int32).toInt = 11 := rfl
  refine kg_X11_needFinding_0 hq l ⟨fun c => kg_X11_needFinding_10 hq (hA ?_), fun c => ⟨fun c2 => rv_i (h ?_ ?_), fun c2 => kg_X11_needFinding_10 hq (hA ?_)⟩⟩
  · rw [t_lt, k0] at c; omega
  · rw [t_lt, k0] at c; omega
  · rw [t_lt, k11] at c2; exact c2
  · rw [t_lt, k11] at c2; omega
/-- the first state that shows a finding -/
def fsF (C : gCo) (w : Nat) (T : gTy) (f s : Nat) : Prop := ∃ p, T.1[s]? = some p ∧ fnM C w p.1 f ∧ ∀ s' p', s' < s → T.1[s']? = some p' → ¬ fnM C w p'.1 f
theorem kh_show {Tw : Nat → gTy} (hq : kV q) (hH : HOI x q) (l1 l2 : Int32) (hT : ∀ w, (w = 0 ∨ w = 1) → ¬ x.1 (260 + 20 * w) 0 = 0 → (CK x C ∧ GC C ∧ NX3 C) ∧ TR3 C w x (260 + 20 * w) (Tw w) ∧ TW C w (Tw w)) (hA : ¬ ((l1 = 0 ∨ l1 = 1) ∧ 0 ≤ l2.toInt ∧ l2.toInt < 11) → X iAE x) (hS : ∀ w, (w = 0 ∨ w = 1) → l1 = Int32.ofNat w → 0 ≤ l2.toInt → l2.toInt < 11 → (x.1 (260 + 20 * w) 0 = 0 ∨ (¬ x.1 (260 + 20 * w) 0 = 0 ∧ ∀ s, fsF C w (Tw w) l2.toInt.toNat s → 400 < (pth (Tw w) s).length)) → X iSE x) (hP : ∀ w s y, (w = 0 ∨ w = 1) → l1 = Int32.ofNat w → 0 ≤ l2.toInt → l2.toInt < 11 → ¬ x.1 (260 + 20 * w) 0 = 0 → fsF C w (Tw w) l2.toInt.toNat s → (pth (Tw w) s).length ≤ 400 → HOI y q → fm sRn x y → (∀ c, (∀ k v, (pth (Tw w) s)[k]? = some v → c k = v) → KRun C w (pth (Tw w) s).length c y) → y.1 0 10 = 1 → P (some (vi (Int32.ofNat (pth (Tw w) s).length))) y) : KE G q (d + 7) zk_X11_show 0 [(0, vr 0), (1, vi l1), (2, vi l2)] [] x P X := by
  have k1 : (1 : Int32).toInt = 1 := rfl
  have k4 : (400 : Int32).toInt = 400 := rfl
  refine kg_X11_show_0 hq l1 l2 (kf_way hq l1 (fun z => hA (fun z2 => z z2.1)) (fun hw => kh_fnd hq l2 (fun z => hA (fun z2 => z z2.2)) (fun f0 f11 => ?_)))
  obtain ⟨w, w01, ew, ewn⟩ := w_nat hw
  obtain ⟨o, eo⟩ : ∃ o, o = 260 + 20 * w := ⟨_, rfl⟩
  have hO : o = 260 ∨ o = 280 := by omega
  have hS := hS w w01 ew f0 f11
  refine kg_X11_firstState_0 hq l1 l2 (kh_was (w := w) hq hH l1 w01 ew (fun c0 => ⟨fun _ => ?_, fun c => absurd rfl c⟩) (fun e7 ho hz hC nz => ⟨fun c => absurd c (by decide), fun _ => ⟨way_in hw, fun u5 e5 => ⟨o, by rw [e5, ewn, e7, eo], by rw [eo]; exact ho, by rw [vp_in_iff]; omega, ?_⟩⟩⟩))
  · exact ri_i ⟨fun c => absurd rfl c, fun _ => hS (Or.inl c0)⟩
  obtain ⟨⟨hK, gc, hX3⟩, hTR, hTW⟩ := hT w w01 nz
  rw [← eo] at e7 ho hz nz hTR hS
  have hP := hP w
  rw [← eo] at hP
  have F2 : l2.toNatClampNeg = l2.toInt.toNat := rfl
  obtain ⟨⟨t0, -⟩, hPA, hFN⟩ := hTR
  have ff := hFN l2.toInt.toNat (by omega)
  rw [F2]
  refine ri_i ⟨fun c => ?_, fun c => hS (Or.inr ⟨nz, fun s hs => ?_⟩)⟩
  rotate_left
  · rcases ff with ⟨-, g2⟩ | ⟨s9, p9, -, g2, -⟩
    · obtain ⟨p, a1, a2, -⟩ := hs
      exact absurd a2 (g2 s p (gt_lt a1) a1)
    · rw [c, tm1] at g2; omega
  rcases ff with ⟨g1, -⟩ | ⟨s, p, g1, g2, g3, g4, g5⟩
  · exact absurd g1 c
  have hfs : fsF C w (Tw w) l2.toInt.toNat s := ⟨p, g3, g4, g5⟩
  have dd := PA_d hTW hPA s s p (Nat.le_refl _) g3
  have hsl := gt_lt g3
  have b3 := hz.1.2
  obtain ⟨r, er⟩ : ∃ r, r = x.1 (o + 7) l2.toInt.toNat := ⟨_, rfl⟩
  rw [← er] at c g2 ⊢
  have rS : r.toNatClampNeg = s := by rw [t_cl, g2]; rfl
  refine ⟨way_in hw, fun u7 e => ⟨o, by rw [e, ewn, e7], ho, by rw [vp_in_iff]; omega, ?_⟩⟩
  rw [rS]
  refine ⟨fun c4 => ⟨way_in hw, fun u13 e13 => ⟨o, by rw [e13, ewn, e7], ho, ?_⟩⟩, fun c4 => hS (Or.inr ⟨nz, fun s9 hs9 => ?_⟩)⟩
  rotate_left
  · obtain ⟨p9, b1, b2, b3⟩ := hs9
    have : s9 = s := by
      apply Classical.byContradiction
      intro ne
      by_cases lt : s9 < s
      · exact g5 s9 p9 lt b1 b2
      · exact b3 s p (by omega) g3 g4
    rw [this]
    rw [t_le, k4, dd] at c4
    omega
  rw [t_le, k4, dd] at c4
  have l4 : (pth (Tw w) s).length ≤ 400 := by omega
  obtain ⟨c9, hc9⟩ : ∃ c9 : Nat → Nat, ∀ k v, (pth (Tw w) s)[k]? = some v → c9 k = v := ⟨fun k => ((pth (Tw w) s)[k]?).getD 0, fun k v hk => congrArg (fun z : Option Nat => z.getD 0) hk⟩
  obtain ⟨r1, r2⟩ := pth_run hTW s s p (Nat.le_refl _) g3 c9 hc9
  have far : x.1 (o + 12) s = Int32.ofNat (pth (Tw w) s).length := i32_of dd
  refine kt_pathTo3 hq ho kk_162 (kl_162 hq) (by omega) r (S := s) g2 g3 hTW hPA (by omega) l4 (fun y fy hy => ?_)
  rw [far, ew]
  have f1 : fm sRn x y := fm_w fy (fun c k q => by unfold sRn; omega)
  have loop : ∀ (n k : Nat) (i : Int32) (y : gd), i.toInt = k → (pth (Tw w) s).length - k ≤ n → k ≤ (pth (Tw w) s).length → fm sRn x y → KRun C w k c9 y → (∀ j, k ≤ j → j < (pth (Tw w) s).length → (y.1 162 j).toInt = (c9 j : Nat)) → y.1 0 10 = 1 → KE G q (d + 7) zk_X11_show 88 [(0, vr 0), (4, vi (Int32.ofNat (pth (Tw w) s).length)), (5, vi i)] [] y P X := by
    have e4 : (Int32.ofNat (pth (Tw w) s).length).toInt = ((pth (Tw w) s).length : Nat) := by rw [← far]; exact dd
    intro n
    have fin : ∀ (k : Nat) (y : gd), k = (pth (Tw w) s).length → fm sRn x y → KRun C w k c9 y → y.1 0 10 = 1 → P (some (vi (Int32.ofNat (pth (Tw w) s).length))) y := fun k y ek fy hR h10 => by
      rw [ek] at hR
      refine hP s y w01 ew f0 f11 nz hfs l4 (HOI_run fy hR.1 hH) fy (fun c hc => KRun_cg (fun k hk => ?_) hR) h10
      have hg := List.getElem?_eq_getElem hk
      rw [hc9 k _ hg, hc k _ hg]
    induction n with
    | zero =>
      intro k i y ei hn hk fy hR hj h10
      refine kg_X11_show_88 hq _ i ⟨fun _ => fin k y (by omega) fy hR h10, fun cc => ?_⟩
      rw [t_le, e4] at cc; omega
    | succ n ih =>
      intro k i y ei hn hk fy hR hj h10
      refine kg_X11_show_88 hq _ i ⟨fun cc => fin k y ?_ fy hR h10, fun cc => ?_⟩
      · rw [t_le, e4] at cc; omega
      rw [t_le, e4] at cc
      have hkl : k < (pth (Tw w) s).length := by omega
      have iK : i.toNatClampNeg = k := by rw [t_cl, ei]; rfl
      rw [iK]
      refine ⟨by rw [vp_in_iff]; omega, kh_doChoice hq (CK_f hK (fun c k hc => fy c k (by unfold sRn; omega))) gc hX3 hR _ (hj k (Nat.le_refl _) hkl) (r2 k hkl) (by omega) rfl (fun z fz hRz h162 hz10 => ih (k + 1) _ z (by rw [t_add (by rw [k1]; omega) (by rw [k1]; omega), k1, ei]; rfl) (by omega) hkl (fm_tr fy fz) hRz (fun j h1 h2 => by rw [h162 j (by omega)]; exact hj j (by omega) h2) (by rw [hz10]; exact h10))⟩
  exact kh_beginRun hq (CO_fm hC (fun c k hc => fy c k (by omega))) (CK_f hK (fun c k hc => fy c k (by omega))) gc w01 c9 (fun z fz hRz h162 h10 => loop _ 0 _ z rfl (Nat.le_refl _) (Nat.zero_le _) (fm_tr f1 fz) hRz (fun j _ h2 => by
    rw [h162 j]
    have hg := List.getElem?_eq_getElem h2
    rw [hy j _ hg, hc9 j _ hg]) h10)
end KSW
end
section
/-! the model: rows that are the same hold one state, and the other way round -/
section MRW
variable {a b : gd} {C : gCo} {M M' : gMa} {h h' : gTq} {nl t k : Nat}
theorem slN_ex : ∀ {l : List Nat} {k : Nat}, k ∈ l → ∃ p, p < l.length ∧ slN l p = k := by
  intro l
  induction l with
  | nil => intro k h; cases h
  | cons s r ih =>
    intro k h
    by_cases c : k ∈ r
    · obtain ⟨p, p1, p2⟩ := ih c
      refine ⟨p, Nat.lt_succ_of_lt p1, ?_⟩
      rw [slN, if_neg (by omega)]; exact p2
    · rcases List.mem_cons.mp h with e | e
      · exact ⟨r.length, Nat.lt_succ_self _, by rw [slN, if_pos rfl, e]⟩
      · exact absurd e c
theorem stN_8 (hN : NC C) {s : Nat} : ∀ k ∈ (stN C s).2.1, k < 8 := by
  intro k hk
  unfold stN at hk
  cases hs : C.1[s]? with
  | none => rw [hs] at hk; cases hk
  | some st =>
    rw [hs] at hk
    have hk : k ∈ st.2.1 := hk
    obtain ⟨n1, n2, n3⟩ := (hN.1 s st hs).2.2.2.2.1
    have := n2 k hk
    omega
/-- a thread's ints -/
theorem mTq_same (g : mTq a C t h) (g' : mTq b C t h) : a.1 73 t = b.1 73 t ∧ a.1 74 t = b.1 74 t ∧ a.1 75 t = b.1 75 t ∧ a.1 77 t = b.1 77 t ∧ a.1 78 t = b.1 78 t ∧ a.1 79 t = b.1 79 t ∧ a.1 80 t = b.1 80 t ∧ (∀ k, k < 8 → a.1 76 (8 * t + k) = b.1 76 (8 * t + k)) ∧ ∀ k : Nat, (k : Int) < (a.1 80 t).toInt → a.1 81 (10 * t + k) = b.1 81 (10 * t + k) ∧ a.1 82 (10 * t + k) = b.1 82 (10 * t + k) := by
  obtain ⟨q0, q0', q1, q2, q3, q3', q4, q5, ⟨q6, q6'⟩, q7, q7'⟩ := g
  obtain ⟨r0, r0', r1, r2, r3, r3', r4, r5, ⟨r6, r6'⟩, r7, r7'⟩ := g'
  refine ⟨by rw [q0, r0], by rw [t_eq, q2, r2], by rw [q1, r1], by rw [q3, r3], by rw [q4, r4], by rw [q5, r5], by rw [t_eq, q6, r6], fun k hk => ?_, fun k hk => ?_⟩
  · by_cases c : (h.1 = 1 ∨ h.1 = 3) ∧ k ∈ (stN C h.2.2.1).2.1
    · obtain ⟨p, p1, p2⟩ := slN_ex c.2
      have e1 := q7 c.1 p p1
      have e2 := r7 c.1 p p1
      rw [p2] at e1 e2
      rw [e1, e2]
    · rw [q7' k hk c, r7' k hk c]
  · rw [q6] at hk
    have hg := List.getElem?_eq_getElem (show k < h.2.2.2.2.2.2.1.length by omega)
    obtain ⟨a1, a2, -⟩ := q6' k _ hg
    obtain ⟨b1, b2, -⟩ := r6' k _ hg
    exact ⟨by rw [a1, b1], by rw [a2, b2]⟩
/-- the places of a row -/
theorem row_at {i : Nat} (hi : i < 222) : i < 24 ∨ (∃ l, l < 6 ∧ (i = 24 + 2 * l ∨ i = 25 + 2 * l)) ∨ ∃ t, t < 6 ∧ ((∃ r, r < 7 ∧ i = 36 + 31 * t + r) ∨ (∃ k, k < 8 ∧ i = 43 + 31 * t + k) ∨ ∃ k, k < 8 ∧ (i = 51 + 31 * t + 2 * k ∨ i = 52 + 31 * t + 2 * k)) := by
  by_cases c1 : i < 24
  · exact Or.inl c1
  · by_cases c2 : i < 36
    · exact Or.inr (Or.inl ⟨(i - 24) / 2, by omega, by omega⟩)
    · refine Or.inr (Or.inr ⟨(i - 36) / 31, by omega, ?_⟩)
      by_cases c3 : (i - 36) % 31 < 7
      · exact Or.inl ⟨(i - 36) % 31, c3, by omega⟩
      · by_cases c4 : (i - 36) % 31 < 15
        · exact Or.inr (Or.inl ⟨(i - 36) % 31 - 7, by omega, by omega⟩)
        · exact Or.inr (Or.inr ⟨((i - 36) % 31 - 15) / 2, by omega, by omega⟩)
theorem pv_t {t r : Nat} (ht : t < 6) (hr : r < 7) : pv a (36 + 31 * t + r) = a.1 (if r = 0 then 73 else if r = 1 then 74 else if r = 2 then 75 else if r = 3 then 77 else if r = 4 then 78 else if r = 5 then 79 else 80) t := by
  rw [pv_n (Or.inr (by omega)), tg_t ht hr]
theorem pv_lo {t k : Nat} (ht : t < 6) (hk : k < 8) : pv a (43 + 31 * t + k) = a.1 76 (8 * t + k) := by
  rw [pv_n (Or.inr (by omega)), tg_lo ht hk]
theorem pv_l0 {l : Nat} (hl : l < 6) : pv a (24 + 2 * l) = a.1 71 l := by rw [pv_n (Or.inl (by omega)), tg_l0 hl]
theorem pv_l1 {l : Nat} (hl : l < 6) : pv a (25 + 2 * l) = a.1 72 l := by rw [pv_n (Or.inl (by omega)), tg_l1 hl]
theorem pv_c {c : Nat} (hc : c < 24) : pv a c = a.1 70 c := by rw [pv_n (Or.inl (by omega)), tg_c hc]
/-- one state, one row -/
theorem rows_same (g : MM1 a C M) (g' : MM1 b C M) : ∀ i, i < 222 → pv a i = pv b i := by
  obtain ⟨g1, g2, g3⟩ := g
  obtain ⟨h1, h2, h3⟩ := g'
  intro i hi
  rcases row_at hi with c | ⟨l, hl, e | e⟩ | ⟨t, ht, ⟨r, hr, e⟩ | ⟨k, hk, e⟩ | ⟨k, hk, e | e⟩⟩
  · rw [pv_c c, pv_c c, g1 i c, h1 i c]
  · rw [e, pv_l0 hl, pv_l0 hl, (g2 l hl).1, (h2 l hl).1]
  · rw [e, pv_l1 hl, pv_l1 hl, (g2 l hl).2.2, (h2 l hl).2.2]
  · obtain ⟨s0, s1, s2, s3, s4, s5, s6, -, -⟩ := mTq_same (g3 t ht) (h3 t ht)
    rw [e, pv_t ht hr, pv_t ht hr]
    have : r = 0 ∨ r = 1 ∨ r = 2 ∨ r = 3 ∨ r = 4 ∨ r = 5 ∨ r = 6 := by omega
    rcases this with c | c | c | c | c | c | c <;> rw [c]
    · exact s0
    · exact s1
    · exact s2
    · exact s3
    · exact s4
    · exact s5
    · exact s6
  · obtain ⟨-, -, -, -, -, -, -, s7, -⟩ := mTq_same (g3 t ht) (h3 t ht)
    rw [e, pv_lo ht hk, pv_lo ht hk]; exact s7 k hk
  · obtain ⟨-, -, -, -, -, -, s6, -, s8⟩ := mTq_same (g3 t ht) (h3 t ht)
    rw [e, pv_a ht hk, pv_a ht hk, ← s6]
    by_cases c : (k : Int) < (a.1 80 t).toInt
    · rw [if_pos c, if_pos c]; exact (s8 k c).1
    · rw [if_neg c, if_neg c]
  · obtain ⟨-, -, -, -, -, -, s6, -, s8⟩ := mTq_same (g3 t ht) (h3 t ht)
    rw [e, pv_b ht hk, pv_b ht hk, ← s6]
    by_cases c : (k : Int) < (a.1 80 t).toInt
    · rw [if_pos c, if_pos c]; exact (s8 k c).2
    · rw [if_neg c, if_neg c]
theorem hol_in {n m : Nat} (hn : n ≤ 9) (hm : m ≤ 9) (e : Int32.ofNat n - 1 = Int32.ofNat m - 1) : n = m := by
  have s : ∀ n, n < 10 → ∀ m, m < 10 → Int32.ofNat n - 1 = Int32.ofNat m - 1 → n = m := by decide +kernel
  exact s n (by omega) m (by omega) e
/-- one row, one state -/
theorem rows_one (hN : NC C) (l24 : C.2.2.1.length ≤ 24) (l6 : C.2.1.length ≤ 6) (n6 : nl ≤ 6) (g : MM1 a C M) (g' : MM1 b C M') (q : MCn C nl M) (q' : MCn C nl M') (n9 : NBm M) (n9' : NBm M') (l8 : ∀ t, t < 6 → (a.1 80 t).toInt ≤ 8) (hr : ∀ i, i < 222 → pv a i = pv b i) : M = M' := by
  obtain ⟨g1, g2, g3⟩ := g
  obtain ⟨h1, h2, h3⟩ := g'
  refine MCn_eq q q' (fun c hc => ?_) (fun l hl => ?_) (fun t ht => ?_)
  · have := hr c (by omega)
    rw [pv_c (by omega), pv_c (by omega), g1 c (by omega), h1 c (by omega)] at this
    exact this
  · obtain ⟨a1, a2, a3⟩ := g2 l (by omega)
    obtain ⟨b1, b2, b3⟩ := h2 l (by omega)
    have k1 := hr (24 + 2 * l) (by omega)
    have k2 := hr (25 + 2 * l) (by omega)
    rw [pv_l0 (by omega), pv_l0 (by omega), a1, b1] at k1
    rw [pv_l1 (by omega), pv_l1 (by omega), a3, b3] at k2
    exact Prod.ext (hol_in (by omega) (by omega) k1) k2
  · have t6 : t < 6 := by omega
    have rr := fun (r : Nat) (h7 : r < 7) => (pv_t (a := a) t6 h7).symm.trans ((hr (36 + 31 * t + r) (by omega)).trans (pv_t (a := b) t6 h7))
    have m9 := n9 t
    have m9' := n9' t
    have c1 := (q.2.2 t).2.1
    have c2 := (q'.2.2 t).2.1
    have le := l8 t t6
    obtain ⟨q0, q0', q1, q2, q3, q3', q4, q5, ⟨q6, q6'⟩, q7, q7'⟩ := g3 t t6
    obtain ⟨r0, r0', r1, r2, r3, r3', r4, r5, ⟨r6, r6'⟩, r7, r7'⟩ := h3 t t6
    have k0 : a.1 73 t = b.1 73 t := rr 0 (by omega)
    have k1 : a.1 74 t = b.1 74 t := rr 1 (by omega)
    have k2 : a.1 75 t = b.1 75 t := rr 2 (by omega)
    have k3 : a.1 77 t = b.1 77 t := rr 3 (by omega)
    have k4 : a.1 78 t = b.1 78 t := rr 4 (by omega)
    have k5 : a.1 79 t = b.1 79 t := rr 5 (by omega)
    have k6 : a.1 80 t = b.1 80 t := rr 6 (by omega)
    have e0 : (M.2.2 t).1 = (M'.2.2 t).1 := ofN_in9 (by omega) (by omega) (by rw [← q0, ← r0, k0])
    have e1 : (M.2.2 t).2.1 = (M'.2.2 t).2.1 := ofN_in9 (by omega) (by omega) (by rw [← q1, ← r1, k2])
    have e2 : (M.2.2 t).2.2.1 = (M'.2.2 t).2.2.1 := by rw [k1, r2] at q2; omega
    have e3 : (M.2.2 t).2.2.2.1 = (M'.2.2 t).2.2.2.1 := ofN_in9 (by omega) (by omega) (by rw [← q3, ← r3, k3])
    have e4 : (M.2.2 t).2.2.2.2.1 = (M'.2.2 t).2.2.2.2.1 := by rw [← q4, ← r4, k4]
    have e5 : (M.2.2 t).2.2.2.2.2.1 = (M'.2.2 t).2.2.2.2.2.1 := by rw [← q5, ← r5, k5]
    have len : (M.2.2 t).2.2.2.2.2.2.1.length = (M'.2.2 t).2.2.2.2.2.2.1.length := by rw [k6, r6] at q6; omega
    have e6 : (M.2.2 t).2.2.2.2.2.2.1 = (M'.2.2 t).2.2.2.2.2.2.1 := by
      refine List.ext_getElem? (fun i => ?_)
      by_cases ci : i < (M.2.2 t).2.2.2.2.2.2.1.length
      · obtain ⟨p, hp⟩ : ∃ p, (M.2.2 t).2.2.2.2.2.2.1[i]? = some p := ⟨_, List.getElem?_eq_getElem ci⟩
        obtain ⟨p', hp'⟩ : ∃ p', (M'.2.2 t).2.2.2.2.2.2.1[i]? = some p' := ⟨_, List.getElem?_eq_getElem (by omega)⟩
        obtain ⟨a1, a2, a3⟩ := q6' i p hp
        obtain ⟨b1, b2, b3⟩ := r6' i p' hp'
        have i8 : i < 8 := by omega
        have u1 := hr (51 + 31 * t + 2 * i) (by omega)
        have u2 := hr (52 + 31 * t + 2 * i) (by omega)
        rw [pv_a t6 i8, pv_a t6 i8, if_pos (by omega), if_pos (by omega), a1, b1] at u1
        rw [pv_b t6 i8, pv_b t6 i8, if_pos (by omega), if_pos (by omega), a2, b2] at u2
        have v1 : (Int32.ofNat p.1).toInt = (p.1 : Nat) := Int32.toInt_ofNat_of_lt (by omega)
        have v2 : (Int32.ofNat p'.1).toInt = (p'.1 : Nat) := Int32.toInt_ofNat_of_lt (by omega)
        rw [hp, hp']
        exact congrArg some (Prod.ext (by rw [u1, v2] at v1; omega) u2)
      · rw [List.getElem?_eq_none_iff.mpr (by omega), List.getElem?_eq_none_iff.mpr (by omega)]
    have e7 : (M.2.2 t).2.2.2.2.2.2.2 = (M'.2.2 t).2.2.2.2.2.2.2 := by
      funext p
      rw [← e0, ← e2] at r7 c2
      by_cases cp : ((M.2.2 t).1 = 1 ∨ (M.2.2 t).1 = 3) ∧ p < (stN C (M.2.2 t).2.2.1).2.1.length
      · have s8 := stN_8 hN _ (slN_mem cp.2)
        have := hr (43 + 31 * t + slN (stN C (M.2.2 t).2.2.1).2.1 p) (by omega)
        rw [pv_lo t6 s8, pv_lo t6 s8, q7 cp.1 p cp.2, r7 cp.1 p cp.2] at this
        exact this
      · rw [c1 p cp, c2 p cp]
    exact Prod.ext e0 (Prod.ext e1 (Prod.ext e2 (Prod.ext e3 (Prod.ext e4 (Prod.ext e5 (Prod.ext e6 e7))))))
end MRW
end
