/-! the model: the choices found are the machine's -/
def acT (C : gCo) (w : Nat) (M : gMa) (t : Nat) : List gCh := if canM C w M t then (if soM C (M.2.2 t) = 8 ∧ (stN C (M.2.2 t).2.2.1).2.2.2.2.2.2.1 = false ∧ (M.2.1 (obM C (M.2.2 t).2.2.1)).1 = t + 1 ∧ ¬ waM C M (obM C (M.2.2 t).2.2.1) = [] then (waM C M (obM C (M.2.2 t).2.2.1)).map (fun o => (t, none, some o)) else [(t, none, none)]) else []
def ltP (l : List (Nat × Int32)) (i : Nat) : Bool := (l.take i).all (fun q => !(some q.1 == (l[i]?).map (fun z => z.1)))
def waP (C : gCo) (M : gMa) (l o : Nat) : Bool := (M.2.2 o).2.2.2.1 == 1 && obM C (M.2.2 o).2.2.1 == l
def prM (C : gCo) (w : Nat) (M : gMa) (t : Nat) : List gCh := (List.range t).flatMap (ch1 C w M)
theorem prM_s {C : gCo} {w : Nat} {M : gMa} {t : Nat} : prM C w M (t + 1) = prM C w M t ++ (acT C w M t ++ (((List.range (M.2.2 t).2.2.2.2.2.2.1.length).filter (ltP (M.2.2 t).2.2.2.2.2.2.1)).map (fun i => (t, some i, none)))) := by
  unfold prM
  rw [List.range_succ, List.flatMap_append]
  simp only [List.flatMap_cons, List.flatMap_nil, List.append_nil]
  rfl
theorem ltP_iff {l : List (Nat × Int32)} {i : Nat} {q : Nat × Int32} (h : l[i]? = some q) : ltP l i = true ↔ ∀ j q', j < i → l[j]? = some q' → ¬ q'.1 = q.1 := by
  unfold ltP
  rw [List.all_eq_true, h]
  constructor
  · intro a j q' hj hq e
    have m : q' ∈ l.take i := List.mem_iff_getElem?.mpr ⟨j, by rw [List.getElem?_take, if_pos hj]; exact hq⟩
    have b := a q' m
    simp [e] at b
  · intro a q' m
    obtain ⟨j, hj⟩ := List.mem_iff_getElem?.mp m
    rw [List.getElem?_take] at hj
    by_cases c : j < i
    · rw [if_pos c] at hj
      have b := a j q' c hj
      simp [b]
    · rw [if_neg c] at hj
      exact nomatch hj
theorem fl_no {P : Nat → Bool} {f : Nat → gCh} {n : Nat} (z : P n = false) : ((List.range n ++ [n]).filter P).map f = ((List.range n).filter P).map f := by
  rw [List.filter_append]
  simp [z]
theorem fl_yes {P : Nat → Bool} {f : Nat → gCh} {n : Nat} (z : P n = true) : ((List.range n ++ [n]).filter P).map f = ((List.range n).filter P).map f ++ [f n] := by
  rw [List.filter_append]
  simp [z]
section DF3
variable {d : Nat} {S : gS} {x : gd} {F : Int32 → gd → gS → Prop} {Fv : gd → gS → Prop} {C : gCo} {M : gMa}
set_option maxHeartbeats 1000000 in
theorem ds_find3 (ri : RI x S) (hK : MK x C) (hN : NC C) (hX : NXc C) (hM : MM1 x C M) {wa : Nat} (wy : x.1 0 68 = Int32.ofNat wa) (w01 : wa = 0 ∨ wa = 1) (hlt : wa = 0 → ∀ t', t' < 6 → (M.2.2 t').2.2.2.2.2.2.1 = []) (h : ∀ y S1, fC x S 84 y S1 → chE y (chM C wa M) → Fv y S1) : MD (d + 2) z_findChoices 0 [(0, vr 0)] [] S x (Dv Fv) := by
  have k0 : (0 : Int32).toInt = 0 := rfl
  have k1 : (1 : Int32).toInt = 1 := rfl
  have hT := ri.1.1.2.2.2.2.1
  have nT : (x.1 0 25).toInt = C.2.1.length := hK.2.1.1
  have hT6 := ri.1.1.2.2.2.2.2.1
  have p7 : ∀ (n : Nat) (y : gd) (S1 : gS) (t : Int32), 0 ≤ t.toInt → t.toInt ≤ (x.1 0 25).toInt → (x.1 0 25).toInt - t.toInt ≤ n → fC x S (14 * t.toInt) y S1 → chE y (prM C wa M t.toInt.toNat) → MD (d + 2) z_findChoices 7 [(0, vr 0), (1, vi t)] [] S1 y (Dv Fv) := by
    intro n
    induction n with
    | zero =>
      intro y S1 t t0 t1 hn q hl
      have f25 : y.1 0 25 = x.1 0 25 := q.1.1 25 (by decide)
      exact sd_findChoices_7 _ ⟨fun _ => Dv_i (h y S1 (fC_mono (by omega) q) (by rw [show t.toInt.toNat = C.2.1.length by omega] at hl; exact hl)), fun c => absurd (t_le.mpr (by rw [f25]; omega)) c⟩
    | succ n ih =>
      intro y S1 t t0 t1 hn q hl
      have f25 : y.1 0 25 = x.1 0 25 := q.1.1 25 (by decide)
      refine sd_findChoices_7 _ ⟨fun c => Dv_i (h y S1 (fC_mono (by omega) q) (by rw [t_le, f25] at c; rw [show t.toInt.toNat = C.2.1.length by omega] at hl; exact hl)), fun c => ?_⟩
      rw [t_le, f25] at c
      have ht : vp_in t 6 := by rw [vp_in_iff]; omega
      have i1 : (t + 1).toInt = t.toInt + 1 := by rw [t_add (by omega) (by omega), k1]
      obtain ⟨L, eL⟩ : ∃ L, L = x.1 80 t.toNatClampNeg := ⟨_, rfl⟩
      have rlx := (ri.2 _ (vt ht)).2.2
      have hL8 := rlx.2.1
      have hL0 := rlx.1
      rw [← eL] at hL8 hL0
      obtain ⟨T, eT⟩ : ∃ T, T = t.toNatClampNeg := ⟨_, rfl⟩
      have tTn : t.toInt.toNat = T := by rw [eT, t_cl]
      have tTI : t = Int32.ofNat T := i32_of (by rw [eT, t_cl]; omega)
      have T6 : T < 6 := by omega
      have t1n : (t + 1).toInt.toNat = T + 1 := by omega
      rw [tTn] at hl
      obtain ⟨l, el⟩ : ∃ l, l = (M.2.2 T).2.2.2.2.2.2.1 := ⟨_, rfl⟩
      have mlt := (hM.2.2 T T6).2.2.2.2.2.2.2.2.1
      rw [← el] at mlt
      have lL : L.toInt = (l.length : Nat) := by rw [eL, ← eT]; exact mlt.1
      have nxt : ∀ (y : gd) (S1 : gS), fC x S (14 * t.toInt + 14) y S1 → chE y ((prM C wa M T ++ acT C wa M T) ++ ((List.range l.length).filter (ltP l)).map (fun i => (T, some i, none))) → MD (d + 2) z_findChoices 7 [(0, vr 0), (1, vi (t + 1))] [] S1 y (Dv Fv) := fun y S1 q hc => ih y S1 (t + 1) (by omega) (by omega) (by omega) (fC_mono (by omega) q) (by rw [t1n, prM_s, ← List.append_assoc, ← el]; exact hc)
      -- late writes
      have p144 : ∀ (m : Nat) (y : gd) (S1 : gS) (i : Int32), 0 ≤ i.toInt → i.toInt ≤ L.toInt → L.toInt - i.toInt ≤ m → fC x S (14 * t.toInt + 6 + i.toInt) y S1 → chE y ((prM C wa M T ++ acT C wa M T) ++ ((List.range i.toInt.toNat).filter (ltP l)).map (fun i => (T, some i, none))) → MD (d + 2) z_findChoices 144 [(0, vr 0), (1, vi t), (2, vi i)] [] S1 y (Dv Fv) := by
        intro m
        induction m with
        | zero =>
          intro y S1 i i0 i1' hm q hc
          have f80 : y.1 80 = x.1 80 := q.1.2.1 80 (by decide) (by decide)
          refine sd_findChoices_144 _ _ ⟨ht, ?_⟩
          rw [f80, ← eL]
          exact ⟨fun _ => nxt y S1 (fC_mono (by omega) q) (by rw [show i.toInt.toNat = l.length by omega] at hc; exact hc), fun c => absurd (t_le.mpr (by omega)) c⟩
        | succ m ihm =>
          intro y S1 i i0 i1' hm q hc
          have f80 : y.1 80 = x.1 80 := q.1.2.1 80 (by decide) (by decide)
          refine sd_findChoices_144 _ _ ⟨ht, ?_⟩
          rw [f80, ← eL]
          refine ⟨fun c2 => nxt y S1 (fC_mono (by omega) q) (by rw [t_le] at c2; rw [show i.toInt.toNat = l.length by omega] at hc; exact hc), fun c2 => ?_⟩
          rw [t_le] at c2
          have ii : (i + 1).toInt = i.toInt + 1 := by rw [t_add (by omega) (by omega), k1]
          have riy : RI y S1 := RI_md q.1 rfl rfl q.2.1 ri
          have ry := (riy.2 _ (vt ht)).2.2
          have e80 : y.1 80 t.toNatClampNeg = L := by rw [f80, eL]
          have f81 : y.1 81 = x.1 81 := q.1.2.1 81 (by decide) (by decide)
          have hiL : i.toInt.toNat < l.length := by omega
          obtain ⟨qi, hqi⟩ : ∃ qi, l[i.toInt.toNat]? = some qi := ⟨_, List.getElem?_eq_getElem hiL⟩
          have rs : List.range (i + 1).toInt.toNat = List.range i.toInt.toNat ++ [i.toInt.toNat] := by rw [show (i + 1).toInt.toNat = i.toInt.toNat + 1 by omega, List.range_succ]
          have rno : ltP l i.toInt.toNat = false → ((List.range (i + 1).toInt.toNat).filter (ltP l)).map (fun i => ((T, some i, none) : gCh)) = ((List.range i.toInt.toNat).filter (ltP l)).map (fun i => (T, some i, none)) := fun z => by
            rw [rs]; exact fl_no z
          have ryes : ltP l i.toInt.toNat = true → ((List.range (i + 1).toInt.toNat).filter (ltP l)).map (fun i => ((T, some i, none) : gCh)) = ((List.range i.toInt.toNat).filter (ltP l)).map (fun i => (T, some i, none)) ++ [(T, some i.toInt.toNat, none)] := fun z => by
            rw [rs]; exact fl_yes z
          have cel : ∀ jj : Int32, 0 ≤ jj.toInt → jj.toInt < L.toInt → ∀ q', l[jj.toInt.toNat]? = some q' → y.1 81 (10 * t + jj).toNatClampNeg = Int32.ofNat q'.1 ∧ q'.1 < 24 := fun jj j0 j1 q' hq' => by
            obtain ⟨b1, b2, b3⟩ := mlt.2 _ q' hq'
            rw [f81, (t10 ht j0 (by omega)).2, t_cl jj, ← eT]
            exact ⟨b1, b3⟩
          have lj : ∀ (j : Nat) (may jj : Int32), 0 ≤ jj.toInt → i.toInt - jj.toInt ≤ j → (¬ may = 0 ↔ ∀ j' q', j' < jj.toInt.toNat → l[j']? = some q' → ¬ q'.1 = qi.1) → jj.toInt ≤ i.toInt → MD (d + 2) z_findChoices 159 [(0, vr 0), (1, vi t), (2, vi i), (3, vi may), (4, vi jj)] [] S1 y (Dv Fv) := by
            have last : ∀ may : Int32, (¬ may = 0 ↔ ltP l i.toInt.toNat = true) → ((may = (0 : Int32) → MD (d + 2) z_findChoices 144 [(0, vr 0), (1, vi t), (2, vi (i + 1))] [] S1 y (Dv Fv)) ∧ (¬ (may = (0 : Int32)) → MD (d + 1) z_choose 0 [(0, vr 0), (1, vi t), (2, vi i), (3, vi (-1))] [] S1 y (Dv (fun x3 S3 => MD (d + 2) z_findChoices 144 [(0, vr 0), (1, vi t), (2, vi (i + 1))] [] S3 x3 (Dv Fv))))) := by
              intro may hmay
              refine ⟨fun c0 => ihm y S1 (i + 1) (by omega) (by omega) (by omega) (fC_mono (by omega) q) (by rw [rno (Bool.eq_false_iff.mpr (fun z => hmay.mpr z c0))]; exact hc), fun c0 => ds_choose3 (q0' := (T, some i.toInt.toNat, none)) t i (-1) (by omega) q ⟨by omega, Or.inr ⟨i0, by rw [← eL]; omega⟩⟩ hc ⟨tTI, i32_of (by omega), rfl⟩ (fun y' S' q' hc' => ihm y' S' (i + 1) (by omega) (by omega) (by omega) (fC_mono (by omega) q') (by rw [ryes (hmay.mp c0), ← List.append_assoc]; exact hc'))⟩
            intro j
            induction j with
            | zero =>
              intro may jj j0 hj hmj hji
              exact sd_findChoices_159 _ _ _ _ ⟨fun _ => last may (by rw [ltP_iff hqi, ← show jj.toInt.toNat = i.toInt.toNat by omega]; exact hmj), fun c => absurd (t_le.mpr (by omega)) c⟩
            | succ j ihj =>
              intro may jj j0 hj hmj hji
              refine sd_findChoices_159 _ _ _ _ ⟨fun c3 => last may (by rw [t_le] at c3; rw [ltP_iff hqi, ← show jj.toInt.toNat = i.toInt.toNat by omega]; exact hmj), fun c3 => ?_⟩
              rw [t_le] at c3
              have jn : (jj + 1).toInt = jj.toInt + 1 := by rw [t_add (by omega) (by omega), k1]
              obtain ⟨a1, a2, _, _⟩ := rl_at ht ry (i := jj) j0 (by rw [e80]; omega)
              obtain ⟨b1, b2, _, _⟩ := rl_at ht ry (i := i) i0 (by rw [e80]; omega)
              have hjl : jj.toInt.toNat < l.length := by omega
              obtain ⟨qj, hqj⟩ : ∃ qj, l[jj.toInt.toNat]? = some qj := ⟨_, List.getElem?_eq_getElem hjl⟩
              obtain ⟨ej, lj24⟩ := cel jj j0 (by omega) qj hqj
              obtain ⟨ei, li24⟩ := cel i i0 (by omega) qi hqi
              have jn' : (jj + 1).toInt.toNat = jj.toInt.toNat + 1 := by omega
              have eqc : Int32.ofNat qj.1 = Int32.ofNat qi.1 ↔ qj.1 = qi.1 := by
                have e9 : (Int32.ofNat qj.1).toInt = (qj.1 : Nat) := Int32.toInt_ofNat_of_lt (by omega)
                have e8 : (Int32.ofNat qi.1).toInt = (qi.1 : Nat) := Int32.toInt_ofNat_of_lt (by omega)
                rw [t_eq, e9, e8]; omega
              rw [ej, ei]
              refine ⟨fun c0 => ihj _ _ (by omega) (by omega) ⟨fun z => absurd rfl z, fun z => absurd c0 (hmj.mpr (fun j' q' hj' => z j' q' (by omega)))⟩ (by omega), fun c0 => ⟨a1, a2, b1, b2, fun e0 => ihj _ _ (by omega) (by omega) ⟨fun z => absurd rfl z, fun z => absurd (eqc.mp e0) (z _ qj (by omega) hqj)⟩ (by omega), fun n0 => ihj _ _ (by omega) (by omega) ⟨fun _ j' q' hj' hq' => ?_, fun _ => by decide⟩ (by omega)⟩⟩
              by_cases c9 : j' = jj.toInt.toNat
              · rw [c9, hqj] at hq'
                rw [← Option.some.inj hq']
                exact fun z => n0 (eqc.mpr z)
              · exact hmj.mp c0 j' q' (by omega) hq'
          exact lj i.toInt.toNat 1 0 (by decide) (by rw [k0]; omega) ⟨fun _ j' q' hj' => absurd hj' (by rw [k0]; exact Nat.not_lt_zero _), fun _ => by decide⟩ (by rw [k0]; exact i0)
      have q144 : ∀ (y : gd) (S1 : gS), fC x S (14 * t.toInt + 6) y S1 → chE y (prM C wa M T ++ acT C wa M T) → MD (d + 2) z_findChoices 144 [(0, vr 0), (1, vi t), (2, vi 0)] [] S1 y (Dv Fv) := fun y S1 q hc => p144 L.toInt.toNat y S1 0 (by decide) (by rw [k0]; exact hL0) (by rw [k0]; omega) (fC_mono (by rw [k0]; omega) q) (by rw [k0]; simp; exact hc)
      have riy : RI y S1 := RI_md q.1 rfl rfl q.2.1 ri
      have e73 : y.1 73 = x.1 73 := q.1.2.1 73 (by decide) (by decide)
      have e77 : y.1 77 = x.1 77 := q.1.2.1 77 (by decide) (by decide)
      have My : MM1 y C M := MM1_md q.1 rfl hM
      have Ky : MK y C := MK_md q.1 rfl rfl hK
      refine ds_hasAct3 (M := M) t ht riy Ky hN hX My (wa := wa) (by rw [q.1.1 68 (by decide)]; exact wy) w01 hlt (fun nc => ⟨fun _ => q144 y S1 (fC_mono (by omega) q) (by rw [← eT] at nc; unfold acT; rw [if_neg nc, List.append_nil]; exact hl), fun z => absurd rfl z⟩) (fun g1 g2 can => ⟨fun z => absurd z (by decide), fun _ => ⟨ht, q.2.2.1, ?_⟩⟩)
      rw [← eT] at can g1 g2
      have ho : chO x t (-1) := ⟨by omega, Or.inl ⟨rfl, by rw [← eT, ← e73]; exact g1, by rw [← eT, ← e77]; exact g2⟩⟩
      have p127 : ∀ (z : gd) (S2 : gS), fC x S (14 * t.toInt + 6) z S2 → ∀ V : List Nat, chE z (prM C wa M T ++ V.map (fun o => (T, none, some o))) → (V = [] → acT C wa M T = [(T, none, none)]) → (¬ V = [] → acT C wa M T = V.map (fun o => (T, none, some o))) → MD (d + 2) z_findChoices 127 [(0, vr 0), (1, vi t), (3, vi (y.1 0 84))] [] S2 z (Dv Fv) := by
        intro z S2 qz V hV V0 V1
        have lenV : (z.1 0 84).toInt = (y.1 0 84).toInt + V.length := by rw [hV.1, hl.1, List.length_append, List.length_map]; omega
        refine sd_findChoices_127 _ _ ⟨qz.2.2.1, fun ne => q144 z S2 qz (by rw [V1 (fun z9 => ne (t_eq.mpr (by rw [lenV, z9]; simp)))]; exact hV), fun e => ?_⟩
        have Vn : V = [] := List.eq_nil_of_length_eq_zero (by rw [e] at lenV; omega)
        rw [Vn] at hV
        have hV : chE z (prM C wa M T) := by simpa using hV
        have qz2 : fC x S (14 * t.toInt) z S2 := ⟨qz.1, qz.2.1, qz.2.2.1, qz.2.2.2.1, by rw [e]; exact q.2.2.2.2.1, qz.2.2.2.2.2⟩
        exact ds_choose3 (q0' := (T, none, none)) t (-1) (-1) (by omega) qz2 ho hV ⟨tTI, rfl, rfl⟩ (fun y' S' q' hc' => q144 y' S' (fC_mono (by omega) q') (by rw [V0 Vn]; exact hc'))
      have q127 : ¬ (soM C (M.2.2 T) = 8 ∧ (stN C (M.2.2 T).2.2.1).2.2.2.2.2.2.1 = false ∧ (M.2.1 (obM C (M.2.2 T).2.2.1)).1 = T + 1 ∧ ¬ waM C M (obM C (M.2.2 T).2.2.1) = []) → MD (d + 2) z_findChoices 127 [(0, vr 0), (1, vi t), (3, vi (y.1 0 84))] [] S1 y (Dv Fv) := fun n => p127 y S1 (fC_mono (by omega) q) [] (by simpa using hl) (fun _ => by unfold acT; rw [if_pos can, if_neg n]) (fun z => absurd rfl z)
      obtain ⟨kv, kn, _, _⟩ := RI_step riy T6 g1
      obtain ⟨s1, s2, s3⟩ := srt_of riy T6 g1
      obtain ⟨K, eK⟩ : ∃ K, K = (M.2.2 T).2.2.1 := ⟨_, rfl⟩
      obtain ⟨m73, l73, m75, m74, m77, l77, -⟩ := My.2.2 T T6
      rw [← eK] at m74
      have kK : (y.1 74 T).toNatClampNeg = K := by rw [t_cl, m74]; rfl
      have l52 : (y.1 0 52).toInt = C.1.length := Ky.1.1
      obtain ⟨st, hst⟩ : ∃ st, C.1[K]? = some st := ⟨_, List.getElem?_eq_getElem (by omega)⟩
      have esN := stN_is hst
      obtain ⟨k54, k55, k56, k57, -⟩ := Ky.1.2 _ st hst
      have ns := hN.1 _ st hst
      have o16 : st.1 < 16 := by
        have a := ((riy.2 T T6).1.2.2 g1).2
        rw [kK, k54] at a
        exact (mWh_i st.1 ns.1.1).1.mp a
      obtain ⟨w2, w1', w0'⟩ := wai_2 _ (show (M.2.2 T).2.2.2.1 < 3 by omega)
      rw [← m77] at w2 w1' w0'
      have so8 : srt y T = 8 ↔ soM C (M.2.2 T) = 8 := by
        unfold srt soM
        rw [← eK, esN]
        by_cases c9 : y.1 77 T = 2
        · rw [if_pos c9, if_neg (by have := w2.mp c9; omega)]; decide
        · have z0 : (M.2.2 T).2.2.2.1 = 0 := by
            have a1 : ¬ (M.2.2 T).2.2.2.1 = 2 := fun z => c9 (w2.mpr z)
            have a2 : ¬ (M.2.2 T).2.2.2.1 = 1 := fun z => g2 (w1'.mpr z)
            omega
          rw [if_neg c9, if_pos z0, kK, k55 o16, t_eq, op_16 _ o16, show (8 : Int32).toInt = 8 from rfl]; omega
      rw [← eT]
      refine ds_sortOf t ht (by rw [← eT]; exact kv) ?_
      rw [← eT]
      have st8 : soM C (M.2.2 T) = 8 → st.1 = 8 := fun z => by
        unfold soM at z
        rw [← eK, esN] at z
        by_cases c9 : (M.2.2 T).2.2.2.1 = 0
        · rw [if_pos c9] at z; exact z
        · rw [if_neg c9] at z; exact absurd z (by decide)
      rw [kK, k56, k57]
      obtain ⟨-, -, -, nx4, -⟩ := hX _ st hst
      have flg : st.1 = 8 → (st.2.2.2.2.2.1 = 0 ↔ st.2.2.2.2.2.2.1 = false) := fun z => by
        rw [nx4 z]
        cases st.2.2.2.2.2.2.1 with
        | true => exact ⟨fun z => absurd z (by decide), fun z => nomatch z⟩
        | false => exact ⟨fun _ => rfl, fun _ => rfl⟩
      have obK : obM C (M.2.2 T).2.2.1 = st.2.2.2.2.1.toNatClampNeg := by unfold obM; rw [← eK, esN]
      rw [obK, ← eK, esN] at q127
      refine ⟨fun n8 => q127 (fun z => n8 (so8.mpr z.1)), fun e8 => ⟨kv, fun nf => q127 (fun z => nf ((flg (st8 (so8.mp e8))).mpr z.2.1)), fun f0 => ⟨kv, ?_, ?_⟩⟩⟩
      · have o := s2 (Or.inl (by rw [e8]; decide))
        rw [kK, k56] at o
        rw [vp_in_iff]; omega
      have ob6 := s2 (Or.inl (by rw [e8]; decide))
      rw [kK, k56] at ob6
      have B6 : st.2.2.2.2.1.toNatClampNeg < 6 := by rw [t_cl]; omega
      obtain ⟨e71, l71, -⟩ := My.2.1 _ B6
      have ht1 := hol_t _ (show (M.2.1 st.2.2.2.2.1.toNatClampNeg).1 < 7 by omega) T T6
      rw [← e71, ← tTI] at ht1
      refine ⟨fun nh => q127 (fun z => nh (ht1.mpr z.2.2.1)), fun yh => ?_⟩
      · -- those that it may wake
        have enW : ∀ (z : gd) (S2 : gS), fC x S (14 * t.toInt + 6) z S2 → chE z (prM C wa M T ++ ((List.range C.2.1.length).filter (waP C M st.2.2.2.2.1.toNatClampNeg)).map (fun o => (T, none, some o))) → MD (d + 2) z_findChoices 127 [(0, vr 0), (1, vi t), (3, vi (y.1 0 84))] [] S2 z (Dv Fv) := fun z S2 qz hc => by
          have wm : waM C M st.2.2.2.2.1.toNatClampNeg = (List.range C.2.1.length).filter (waP C M st.2.2.2.2.1.toNatClampNeg) := rfl
          rw [← wm] at hc
          refine p127 z S2 qz _ hc (fun V0 => ?_) (fun V1 => ?_)
          · unfold acT
            rw [if_pos can, obK, if_neg (fun z9 => z9.2.2.2 V0)]
          · unfold acT
            rw [if_pos can, obK, ← eK, esN, if_pos ⟨so8.mp e8, (flg (st8 (so8.mp e8))).mp f0, ht1.mp yh, V1⟩]
        have p72 : ∀ (m : Nat) (z : gd) (S2 : gS) (o : Int32), 0 ≤ o.toInt → o.toInt ≤ (x.1 0 25).toInt → (x.1 0 25).toInt - o.toInt ≤ m → fC x S (14 * t.toInt + o.toInt) z S2 → chE z (prM C wa M T ++ ((List.range o.toInt.toNat).filter (waP C M st.2.2.2.2.1.toNatClampNeg)).map (fun o => (T, none, some o))) → MD (d + 2) z_findChoices 72 [(0, vr 0), (1, vi t), (2, vi (y.1 74 T)), (3, vi (y.1 0 84)), (4, vi o)] [] S2 z (Dv Fv) := by
          intro m
          induction m with
          | zero =>
            intro z S2 o o0 o1 hm qz hc
            have g25 : z.1 0 25 = x.1 0 25 := qz.1.1 25 (by decide)
            exact sd_findChoices_72 _ _ _ _ ⟨fun _ => enW z S2 (fC_mono (by omega) qz) (by rw [show o.toInt.toNat = C.2.1.length by omega] at hc; exact hc), fun c => absurd (t_le.mpr (by rw [g25]; omega)) c⟩
          | succ m ihm =>
            intro z S2 o o0 o1 hm qz hc
            have g25 : z.1 0 25 = x.1 0 25 := qz.1.1 25 (by decide)
            refine sd_findChoices_72 _ _ _ _ ⟨fun c2 => enW z S2 (fC_mono (by omega) qz) (by rw [t_le, g25] at c2; rw [show o.toInt.toNat = C.2.1.length by omega] at hc; exact hc), fun c2 => ?_⟩
            rw [t_le, g25] at c2
            have ov : vp_in o 6 := by rw [vp_in_iff]; omega
            have oi : (o + 1).toInt = o.toInt + 1 := by rw [t_add (by omega) (by omega), k1]
            have riz : RI z S2 := RI_md qz.1 rfl rfl qz.2.1 ri
            have raz := (riz.2 _ (vt ov)).1
            obtain ⟨O, eO⟩ : ∃ O, O = o.toNatClampNeg := ⟨_, rfl⟩
            have oO : o.toInt.toNat = O := by rw [eO, t_cl]
            have oI : o = Int32.ofNat O := i32_of (by omega)
            have O6 : O < 6 := by omega
            have rs : List.range (o + 1).toInt.toNat = List.range o.toInt.toNat ++ [O] := by rw [show (o + 1).toInt.toNat = o.toInt.toNat + 1 by omega, List.range_succ, oO]
            have rno : waP C M st.2.2.2.2.1.toNatClampNeg O = false → ((List.range (o + 1).toInt.toNat).filter (waP C M st.2.2.2.2.1.toNatClampNeg)).map (fun o => ((T, none, some o) : gCh)) = ((List.range o.toInt.toNat).filter (waP C M st.2.2.2.2.1.toNatClampNeg)).map (fun o => (T, none, some o)) := fun z => by
              rw [rs, List.filter_append]
              simp [z]
            have ryes : waP C M st.2.2.2.2.1.toNatClampNeg O = true → ((List.range (o + 1).toInt.toNat).filter (waP C M st.2.2.2.2.1.toNatClampNeg)).map (fun o => ((T, none, some o) : gCh)) = ((List.range o.toInt.toNat).filter (waP C M st.2.2.2.2.1.toNatClampNeg)).map (fun o => (T, none, some o)) ++ [(T, none, some O)] := fun z => by
              rw [rs, List.filter_append]
              simp [z]
            have nx : ∀ (z' : gd) (S' : gS), fC x S (14 * t.toInt + o.toInt + 1) z' S' → chE z' (prM C wa M T ++ ((List.range (o + 1).toInt.toNat).filter (waP C M st.2.2.2.2.1.toNatClampNeg)).map (fun o => (T, none, some o))) → MD (d + 2) z_findChoices 72 [(0, vr 0), (1, vi t), (2, vi (y.1 74 T)), (3, vi (y.1 0 84)), (4, vi (o + 1))] [] S' z' (Dv Fv) := fun z' S' q' hc' => ihm z' S' (o + 1) (by omega) (by omega) (by omega) (fC_mono (by omega) q') hc'
            have Mz : MM1 z C M := MM1_md qz.1 rfl hM
            have Kz : MK z C := MK_md qz.1 rfl rfl hK
            obtain ⟨n73, nl73, -, n74, n77, nl77, -⟩ := Mz.2.2 O O6
            obtain ⟨-, b1, -⟩ := wai_2 _ (show (M.2.2 O).2.2.2.1 < 3 by omega)
            rw [← n77] at b1
            rw [← eO]
            have nof : ¬ ((M.2.2 O).2.2.2.1 = 1 ∧ obM C (M.2.2 O).2.2.1 = st.2.2.2.2.1.toNatClampNeg) → waP C M st.2.2.2.2.1.toNatClampNeg O = false := fun n9 => by
              cases e9 : waP C M st.2.2.2.2.1.toNatClampNeg O with
              | false => rfl
              | true =>
                unfold waP at e9
                simp at e9
                exact absurd e9 n9
            have kz56 : z.1 56 (y.1 74 T).toNatClampNeg = st.2.2.2.2.1 := by rw [kK]; exact (Kz.1.2 _ st hst).2.2.1
            rw [kz56]
            refine ⟨ov, fun n1 => nx z S2 (fC_mono (by omega) qz) (by rw [rno (nof (fun z9 => n1 (b1.mpr z9.1)))]; exact hc), fun w1 => ⟨ov, by rw [← eO] at raz; rw [vp_in_iff]; exact ⟨raz.1, raz.2.1⟩, kv, ?_⟩⟩
            have g1z : z.1 73 O = 1 := by
              rcases (riz.2 O O6).2.1 with z9 | ⟨-, z9, -⟩
              · rw [w1] at z9; exact absurd z9 (by decide)
              · exact z9
            have g5z : z.1 55 (z.1 74 O).toNatClampNeg = 7 := by
              rcases (riz.2 O O6).2.1 with z9 | ⟨-, -, z9⟩
              · rw [w1] at z9; exact absurd z9 (by decide)
              · exact z9
            have avz := (RI_step riz O6 g1z).2.2.2
            rw [g5z] at avz
            have ob : z.1 56 (z.1 74 O).toNatClampNeg = st.2.2.2.2.1 ↔ obM C (M.2.2 O).2.2.1 = st.2.2.2.2.1.toNatClampNeg := by
              have lo : 0 ≤ (z.1 56 (z.1 74 O).toNatClampNeg).toInt := by
                rcases avz.2 with z9 | z9 | z9
                · exact z9.2.2.1
                · exact z9.2.2.1
                · exact absurd z9.1 (by decide)
              have l52z : (z.1 0 52).toInt = C.1.length := Kz.1.1
              have kl : (M.2.2 O).2.2.1 < C.1.length := by
                have := (RI_step riz O6 g1z).2.1
                omega
              obtain ⟨so, hso⟩ : ∃ so, C.1[(M.2.2 O).2.2.1]? = some so := ⟨_, List.getElem?_eq_getElem kl⟩
              obtain ⟨-, -, g56, -⟩ := Kz.1.2 _ so hso
              have ec : (z.1 74 O).toNatClampNeg = (M.2.2 O).2.2.1 := by rw [t_cl, n74]; rfl
              rw [ec, g56] at lo ⊢
              unfold obM
              rw [stN_is hso, t_cl, t_cl, t_eq]
              omega
            refine ⟨fun n9 => nx z S2 (fC_mono (by omega) qz) (by rw [rno (nof (fun z9 => n9 (ob.mpr z9.2)))]; exact hc), fun e9 => ds_choose3 (q0' := (T, none, some O)) t (-1) o (by omega) qz ho hc ⟨tTI, rfl, oI⟩ (fun y' S' q' hc' => nx y' S' q' (by rw [ryes (by unfold waP; simp; exact ⟨b1.mp w1, ob.mp e9⟩), ← List.append_assoc]; exact hc'))⟩
        exact p72 (x.1 0 25).toInt.toNat y S1 0 (by decide) (by rw [k0]; omega) (by rw [k0]; omega) (fC_mono (by rw [k0]; omega) q) (by rw [k0]; simpa using hl)
  refine sd_findChoices_0 (fun y e => ?_)
  have m := md_f x 84 0
  rw [← e] at m
  have e0 : y.1 0 84 = 0 := by rw [e, si_get, if_pos ⟨rfl, rfl⟩]
  refine p7 (x.1 0 25).toInt.toNat y _ 0 (by decide) (by rw [k0]; exact hT) (by rw [k0]; omega) ⟨md_w m (by decide) (by decide), ssub_ad _ _ _, Or.inl ⟨rfl, rfl⟩, by rw [e0]; decide, by rw [e0, k0]; omega, fun i hi => ?_⟩ ⟨by rw [e0]; rfl, fun i q hi => nomatch hi⟩
  rw [e0, k0] at hi
  omega
end DF3
