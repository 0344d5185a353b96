section
/-! the class: what is set -/
abbrev E0 : Nat → Prop := fun _ => False
section KSR
variable {G : kG} {q : kP} {d : Nat} {x x0 y z : gd} {F : Int32 → gd → Prop} {Fv : gd → Prop} {X : String → gd → Prop} {P : Option gv → gd → Prop} {M : Int} {E : Nat → Prop}
/-- changes that no invariant sees, and of uses that are nothing yet -/
theorem BB_use (hB : BB x0 x M E) {t : Nat} (ht : (t : Int) < nx x) (h0 : x.1 42 t = 0) (hv : ¬ z.1 42 t = 12) (f : fm (fun c k => c = 43 ∨ (86 ≤ c ∧ c ≤ 89) ∨ (c = 42 ∧ k = t)) x z) : BB x0 z M E := by
  obtain ⟨hS, hF, ⟨r1, r2, r3, ⟨r4, r6⟩, r7⟩, hC, r5, r0, hI⟩ := hB
  have e4 : nx z = nx x := by unfold nx; rw [f 100 4 (by omega)]
  have es : ssm z = ssm x := by unfold ssm; rw [f 80 9 (by omega)]
  have eo : om z = om x := by unfold om; rw [f 100 13 (by omega)]
  have z5 : z.1 100 5 = x.1 100 5 := f _ _ (by omega)
  have bu : BU x → BU z := by
    rintro ⟨j, j1, j2⟩
    have hj : j ≠ t := fun e => by rw [e, h0] at j2; revert j2; decide
    exact ⟨j, by omega, by rw [f 42 j (by omega)]; exact j2⟩
  have tt : ∀ (j : Nat) (u : Int32), ¬ u = 0 → x.1 42 j = u → z.1 42 j = u := by
    intro j u hu e
    have hj : j ≠ t := fun e2 => by rw [e2, h0] at e; exact hu e.symm
    rw [f 42 j (by omega)]; exact e
  refine ⟨?_, ?_, ⟨fun c => ?_, NM_fm r2 (fun c k q1 q2 q3 q4 => f c k (by omega)) (f _ _ (by omega)) (f _ _ (by omega)), ?_, ⟨by omega, fun i hi => ?_⟩, ?_⟩, fun i hi he => ?_, by rw [z5]; exact r5, fm_tr r0 (fm_w f (fun c k q => by unfold sR; omega)), TR_eq hI id (f _ _ (by omega)) (fun k => f _ _ (by omega))⟩
  · obtain ⟨⟨hT, b1, b2, b3⟩, ⟨u1, u2⟩, hp, hP⟩ := hS
    unfold SU SV US RB mt
    rw [f 20 7 (by omega), f 60 3 (by omega), e4]
    refine ⟨⟨kT_fm hT (fun c k q1 q2 => f c k (by omega)), b1, b2, b3⟩, ⟨fun j h1 h2 => ?_, fun j h1 h2 => ?_⟩, hp, fun i hi => ?_⟩
    · rw [f 42 j (by omega)]; exact u1 j h1 h2
    · have hj : j ≠ t := fun e => by rw [e] at h2; exact hv h2
      rw [f 42 j (by omega)] at h2
      obtain ⟨p1, p2⟩ := u2 j h1 h2
      exact ⟨p1, tt _ _ (by decide) p2⟩
    · have := hP i hi
      unfold PQ at this ⊢
      rw [f 62 i (by omega), f 63 i (by omega), e4]
      refine ⟨fun c => (this.1 c).imp id bu, fun c => ?_⟩
      obtain ⟨s, s1, s2, s3⟩ := this.2 c
      refine ⟨s, s1, s2, ?_⟩
      rcases s3 with s3 | ⟨s3, s4, s5, s6⟩
      · exact Or.inl (tt _ _ (by decide) s3)
      · exact Or.inr ⟨tt _ _ (by decide) s3, s4, tt _ _ (by decide) s5, by rw [f 23 _ (by omega)]; exact s6⟩
  · unfold FR at hF ⊢
    have b1 := hS.1.2.1
    rw [f 100 4 (by omega), f 42 _ (by
      have : (((x.1 100 4).toNatClampNeg : Nat) : Int) = nx x := by rw [t_cl]; unfold nx at *; omega
      omega)]
    exact hF
  · obtain ⟨k1, o1, o2, o3, o4⟩ := r1 r5
    refine ⟨KN_fm k1 (f _ _ (by omega)) (f _ _ (by omega)) (fun k => f _ _ (by omega)), ?_⟩
    unfold OPs
    rw [eo, f 100 9 (by omega), f 100 7 (by omega)]
    refine ⟨o1, fun k hk => OP1_eq (fun j => f _ _ (by omega)) (f _ _ (by omega)) (fun c j q1 q2 => f _ _ (by omega)) (f _ _ (by omega)) (o2 k hk), fun j k hj hk => ?_, o4⟩
    rw [f 113 j (by omega), f 113 k (by omega)]; exact o3 j k hj hk
  · unfold CD at r3 ⊢
    rw [f 60 6 (by omega), f 60 9 (by omega), f 60 10 (by omega), f 60 14 (by omega), f 60 16 (by omega), f 60 13 (by omega), z5, f 100 9 (by omega), f 40 8 (by omega), f 40 10 (by omega)]
    exact r3
  · have := r6 i (by omega)
    unfold SA sop stg at this ⊢
    rw [f 81 i (by omega), f 83 i (by omega), f 84 i (by omega), f 85 i (by omega), e4]
    refine ⟨this.1, this.2.1, fun c => ?_, fun c => (this.2.2.2 c).imp id bu⟩
    obtain ⟨s, s1, s2, s3, s4, s5⟩ := this.2.2.1 c
    refine ⟨s, s1, s2, fun c1 => ?_, fun c1 c2 => tt _ _ (by decide) (s4 c1 c2), fun c1 => tt _ _ (by decide) (s5 c1)⟩
    rcases s3 c1 with e | e | e | e
    · exact Or.inl (tt _ _ (by decide) e)
    · exact Or.inr (Or.inl (tt _ _ (by decide) e))
    · exact Or.inr (Or.inr (Or.inl (tt _ _ (by decide) e)))
    · exact Or.inr (Or.inr (Or.inr (tt _ _ (by decide) e)))
  · unfold TS at r7 ⊢
    rw [f 60 10 (by omega), z5, es]
    refine ⟨fun t ht => ?_, fun c => absurd c r5⟩
    rw [f 72 t (by omega)]; exact r7.1 t ht
  · exact SC_eq (fun j => f _ _ (by omega)) (f _ _ (by omega)) (f _ _ (by omega)) (f _ _ (by omega)) z5 (fun j => f _ _ (by omega)) (hC i (by omega) he)
/-- a cell's name -/
def PLc (y : gd) (a : Int32) : Prop := ∃ t : Nat, a.toInt = t ∧ (t : Int) < nx y ∧ (y.1 42 t = 6 ∨ y.1 42 t = 7 ∨ y.1 42 t = 8 ∨ y.1 42 t = 9)
theorem PLc_La {a : Int32} (la : La x y) (h : PLc x a) : PLc y a := by
  obtain ⟨t, t1, t2, t3⟩ := h
  have := la.2.1
  exact ⟨t, t1, by omega, by rw [la.2.2 t t2]; exact t3⟩
end KSR
end
section
/-! the class: what is set, its code while it is under way -/
def rgT (t : Option Nat) (tk : Nat) : gRg := match t with
  | none => ([], [], 0, false, none, tk)
  | some _ => rg0
def tkB (t : Option Nat) (tk : Nat) : Nat := match t with
  | none => tk
  | some t0 => t0
/-- the events N, from x to y: no step yet, the sums Su written (where, what), a place told -/
def PD (sN : Nat → Nat → Bool) (V K : Nat → Int32) (Ev : gV) (x y : gd) (t : Option Nat) (N : gU) (Su : List (Int32 × gU)) (pl : Nat) (ro : Bool) : Prop := still N ∧ (∀ d, ces K V N d = d) ∧ (∀ q ∈ Su, sEv false q.2) ∧ (∀ (Ec : gV) (S : List gSt) (k : List Nat) (w : List (Nat × Nat) × List (Nat × gU)) (tk : Nat), ¬ Ec.2.1 = [] → cds sN K N (Ec, S, k, rgT t tk, w) = (Ec, S, k, ([], Su.map Prod.snd, pl, ro, t, tkB t tk), w)) ∧ ∀ c d P, eqE c.1 Ev → CCp sN V K x c d P → CCp sN V K y c d (P ++ tPs sN V K N Ev) ∧ ∀ q ∈ Su, SUc (P ++ tPs sN V K N Ev) q.1 (sPs sN V K Ev q.2)
/-- all of it, with its step -/
def CGs (sN : Nat → Nat → Bool) (V K : Nat → Int32) (Ev : gV) (x z : gd) (t : Option Nat) (N : gU) : Prop := ∀ tk c d P, eqE c.1 Ev → c.2.2.2.1 = rgT t tk → CCp sN V K x c d P → CCp sN V K z (cds sN K N c) (ces K V N d) (P ++ tPs sN V K N Ev) ∧ eqE (cds sN K N c).1 (exs N Ev) ∧ (cds sN K N c).2.2.2.1 = rg0
/-- where it goes: a local by its number, or a cell by its name's token -/
def TGc (sN : Nat → Nat → Bool) (Ev : gV) (t : Option Nat) (a b : Int32) : Prop := (toL sN Ev.1 t = none ∧ a = -1 ∧ ∃ t0, t = some t0 ∧ b.toInt = (t0 : Nat)) ∨ ∃ p, toL sN Ev.1 t = some p ∧ ¬ a = -1 ∧ a.toInt = (p : Nat)
def inS (Su : List (Int32 × gU)) (v : Int32) (o : Option gU) : Prop := match o with
  | none => v = -1
  | some N => (v, N) ∈ Su
/-- behind a place: its index's sum, and the sums Q -/
def PDp (sN : Nat → Nat → Bool) (V K : Nat → Int32) (Ev : gV) (x y : gd) (t : Option Nat) (N : gU) (b2 i2 : Int32) (Q : List (Int32 × gU)) : Prop := ∃ pl ro Si, b2.toInt = ((pl : Nat) : Int) ∧ ((ro = false ∧ i2 = -1 ∧ Si = []) ∨ (ro = true ∧ ∃ N1, Si = [(i2, N1)])) ∧ PD sN V K Ev x y t N (Si ++ Q) pl ro
section KPD
variable {sN : Nat → Nat → Bool} {V K : Nat → Int32} {Ev : gV} {x y z w : gd} {N N' : gU} {v : Nat × Nat × Nat} {e i j pl : Nat} {o a b ob b2 i2 f2 e2 ix e9 f9 r : Int32} {t : Option Nat} {Su Q : List (Int32 × gU)} {ro : Bool}
theorem PD_0 (fr : ∀ c k, ccS c k → y.1 c k = x.1 c k) (hN : N = pme t ∨ N = pma t) : PD sN V K Ev x y t N [] 0 false := by
  have go : ∀ N0 : gU, tPs sN V K N0 Ev = [] → ∀ c d P, eqE c.1 Ev → CCp sN V K x c d P → CCp sN V K y c d (P ++ tPs sN V K N0 Ev) ∧ ∀ q ∈ ([] : List (Int32 × gU)), SUc (P ++ tPs sN V K N0 Ev) q.1 (sPs sN V K Ev q.2) := fun N0 e c d P he hc => by
    rw [e, List.append_nil]
    exact ⟨CCp_eq fr hc, fun q hq => by cases hq⟩
  cases t with
  | none =>
    have e : N = [] := by rcases hN with e | e <;> exact e
    rw [e]
    exact ⟨still_nil, fun d => rfl, fun q hq => (by cases hq), fun Ec S k w tk _ => rfl, go [] rfl⟩
  | some t0 =>
    rcases hN with e | e
    · have e : N = [(26, t0, 0)] := e
      rw [e]
      exact ⟨stl_k (by decide), fun d => rfl, fun q hq => (by cases hq), fun Ec S k w tk _ => rfl, go _ rfl⟩
    · have e : N = [(25, t0, 0)] := e
      rw [e]
      exact ⟨stl_k (by decide), fun d => rfl, fun q hq => (by cases hq), fun Ec S k w tk _ => rfl, go _ rfl⟩
theorem PD_fr (h : PD sN V K Ev x y t N Su pl ro) (fr : ∀ c k, ccS c k → z.1 c k = y.1 c k) : PD sN V K Ev x z t N Su pl ro := ⟨h.1, h.2.1, h.2.2.1, h.2.2.2.1, fun c d P he hc => ⟨CCp_eq fr (h.2.2.2.2 c d P he hc).1, (h.2.2.2.2 c d P he hc).2⟩⟩
theorem PD_6 (h : PD sN V K Ev x y t N Su pl ro) (hEv : ¬ Ev.2.1 = []) : PD sN V K Ev x y t (N ++ [(6, i, 0)]) Su i false := by
  obtain ⟨h1, h2, h3, h4, h5⟩ := h
  have ep : tPs sN V K (N ++ [(6, i, 0)]) Ev = tPs sN V K N Ev := by
    rw [tPs_app, exs_still h1]
    have : tPs sN V K [(6, i, 0)] Ev = [] := by
      show (if Ev.2.1 = [] then some ((6 : Int32), Int32.ofNat i) else none).toList ++ [] = []
      rw [if_neg hEv]; rfl
    rw [this, List.append_nil]
  refine ⟨still_app h1 (stl_k (by decide)), fun d => by rw [ces_app, h2]; rfl, h3, fun Ec S k w tk hE => ?_, fun c d P he hc => by rw [ep]; exact h5 c d P he hc⟩
  rw [cds_app, h4 _ _ _ _ _ hE, cds_one, cd_6 hE]
theorem PD_7 (h : PD sN V K Ev x y t N Su pl ro) (hEv : ¬ Ev.2.1 = []) : PD sN V K Ev x y t (N ++ [(7, i, 0)]) Su i true := by
  obtain ⟨h1, h2, h3, h4, h5⟩ := h
  have ep : tPs sN V K (N ++ [(7, i, 0)]) Ev = tPs sN V K N Ev := by
    rw [tPs_app, exs_still h1]
    have : tPs sN V K [(7, i, 0)] Ev = [] := by
      show (if Ev.2.1 = [] then some ((6 : Int32), Int32.ofNat i) else none).toList ++ [] = []
      rw [if_neg hEv]; rfl
    rw [this, List.append_nil]
  refine ⟨still_app h1 (stl_k (by decide)), fun d => by rw [ces_app, h2]; rfl, h3, fun Ec S k w tk hE => ?_, fun c d P he hc => by rw [ep]; exact h5 c d P he hc⟩
  rw [cds_app, h4 _ _ _ _ _ hE, cds_one, cd_7 hE]
/-- one more sum is written -/
theorem PD_x (h : PD sN V K Ev x y t N Su pl ro) (hs : sEv false N') (hp : CPl y z (sPs sN V K Ev (N' ++ [(54, 0, 0)]))) (fr : ∀ c k, ccS c k → ¬ (c = 60 ∧ k = 3) → ¬ c = 62 → ¬ c = 63 → z.1 c k = y.1 c k) (hr : r = y.1 60 3) : PD sN V K Ev x z t (N ++ (N' ++ [(54, 0, 0)])) (Su ++ [(r, N')]) pl ro := by
  obtain ⟨h1, h2, h3, h4, h5⟩ := h
  have ep : tPs sN V K (N ++ (N' ++ [(54, 0, 0)])) Ev = tPs sN V K N Ev ++ sPs sN V K Ev (N' ++ [(54, 0, 0)]) := by
    rw [tPs_app, exs_still h1, tPs_x hs]
  refine ⟨still_app h1 (still_54 (sEv_still hs)), fun d => by rw [ces_app, h2, ces_app, sEv_ce hs]; rfl, fun q hq => ?_, fun Ec S k w tk hE => ?_, fun c d P he hc => ?_⟩
  · rcases List.mem_append.mp hq with q1 | q1
    · exact h3 q q1
    · rw [List.mem_singleton.mp q1]; exact hs
  · rw [cds_app, h4 _ _ _ _ _ hE, cds_x hs hE, List.map_append]; rfl
  · obtain ⟨g1, g2⟩ := h5 c d P he hc
    obtain ⟨Ec, S, k, rr, ww⟩ := c
    rw [ep, ← List.append_assoc]
    refine ⟨CCp_sum (r' := rr) g1 hp fr, fun q hq => ?_⟩
    rcases List.mem_append.mp hq with q1 | q1
    · exact SUc_mono (g2 q q1) _
    · rw [List.mem_singleton.mp q1, sPs_54]
      exact SUc_next g1.1 hr _
theorem toL_eq {E E' : gV} (h : eqE E E') : toL sN E.1 t = toL sN E'.1 t := by
  cases t with
  | none => exact congrArg some (eqE_len h)
  | some t0 => exact kfi_len h.1
/-- the step -/
theorem PD_endt {op : Nat} {tf : Nat → Nat} {to obj : Option Nat} {fl : Bool} {ixs es fs : Option gU} (h : PD sN V K Ev x y t N Su pl ro) (hEv : ¬ Ev.2.1 = []) (hE : KV' K e y Ev) (ha : stK y z o (y.1 100 9) a ob ix e9 f9) (hcd : ∀ (Ec : gV) S k w tk, eqE Ec Ev → cdV sN K (Ec, S, k, ([], Su.map Prod.snd, pl, ro, t, tk), w) v = (Ec, S ++ [(op, tf tk, knw Ec, to, obj, fl, ixs, es, fs)], k, rg0, w)) (ho : o = Int32.ofNat op) (h8 : ¬ op = 8) (h13 : ¬ op = 13) (hto : (op = 0 ∨ (2 ≤ op ∧ op ≤ 4) ∨ op = 16 ∨ op = 17 ∨ op = 20) → tgI a to) (hob : ¬ op = 16 → tgI ob obj) (hix : inS Su ix ixs) (hes : inS Su e9 es) (hfs : inS Su f9 fs) (hv1 : still [v]) (hv2 : ∀ d, ces K V [v] d = d) (hv3 : tPs sN V K [v] Ev = []) : CGs sN V K Ev x z t (N ++ [v]) := by
  obtain ⟨h1, h2, h3, h4, h5⟩ := h
  intro tk c d P he hr hc
  obtain ⟨Ec, S, k, rr, ww⟩ := c
  have hr : rr = rgT t tk := hr
  have he : eqE Ec Ev := he
  obtain ⟨g1, g2⟩ := h5 _ d P he hc
  have hEc : ¬ Ec.2.1 = [] := by rw [he.2]; exact hEv
  have kl : (y.1 100 9).toInt = (Ec.1.length : Nat) := by rw [hE.1, eqE_len he]
  have su : ∀ (v9 : Int32) (o9 : Option gU), inS Su v9 o9 → cSu sN V K (P ++ tPs sN V K N Ev) Ec.1 v9 o9 := by
    intro v9 o9 hi
    cases o9 with
    | none => exact hi
    | some N9 =>
      have hi : (v9, N9) ∈ Su := hi
      have q1 := g2 _ hi
      have q2 : sPs sN V K Ev N9 = sPs sN V K (Ec.1, [0], 0) N9 := sPs_E (h3 _ hi) (fun t => kfi_len he.1.symm)
      show SUc _ _ (sPs sN V K (Ec.1, [0], 0) N9)
      rw [← q2]
      exact q1
  have q := CCp_add (st := (op, tf (tkB t tk), knw Ec, to, obj, fl, ixs, es, fs)) (r' := rg0) g1 ha ho kl hto (fun q => absurd q h8) (fun q => by
    have q : ¬ op = 16 := q
    have hob := hob q
    cases obj with
    | none => exact hob
    | some n =>
      show if op = 13 then ob = V n else ob.toInt = (n : Nat)
      rw [if_neg h13]
      exact hob) (su _ _ hix) (su _ _ hes) (su _ _ hfs)
  have ec : cds sN K (N ++ [v]) (Ec, S, k, rr, ww) = (Ec, S ++ [(op, tf (tkB t tk), knw Ec, to, obj, fl, ixs, es, fs)], k, rg0, ww) := by
    rw [hr, cds_app, h4 _ _ _ _ _ hEc, cds_one, hcd _ _ _ _ _ he]
  have ee : ces K V (N ++ [v]) d = d := by rw [ces_app, h2, hv2]
  have ep : tPs sN V K (N ++ [v]) Ev = tPs sN V K N Ev := by rw [tPs_app, exs_still h1, hv3, List.append_nil]
  rw [ec, ee, ep, exs_still (still_app h1 hv1)]
  exact ⟨q, he, rfl⟩
theorem PD_end {op : Nat} {to obj : Option Nat} {fl : Bool} {ixs es fs : Option gU} (h : PD sN V K Ev x y t N Su pl ro) (hEv : ¬ Ev.2.1 = []) (hE : KV' K e y Ev) (ha : stK y z o (y.1 100 9) a ob ix e9 f9) (hcd : ∀ (Ec : gV) S k w tk, eqE Ec Ev → cdV sN K (Ec, S, k, ([], Su.map Prod.snd, pl, ro, t, tk), w) v = (Ec, S ++ [(op, tk, knw Ec, to, obj, fl, ixs, es, fs)], k, rg0, w)) (ho : o = Int32.ofNat op) (h8 : ¬ op = 8) (h13 : ¬ op = 13) (hto : (op = 0 ∨ (2 ≤ op ∧ op ≤ 4) ∨ op = 16 ∨ op = 17 ∨ op = 20) → tgI a to) (hob : ¬ op = 16 → tgI ob obj) (hix : inS Su ix ixs) (hes : inS Su e9 es) (hfs : inS Su f9 fs) (hv1 : still [v]) (hv2 : ∀ d, ces K V [v] d = d) (hv3 : tPs sN V K [v] Ev = []) : CGs sN V K Ev x z t (N ++ [v]) := PD_endt (tf := fun n => n) h hEv hE ha hcd ho h8 h13 hto hob hix hes hfs hv1 hv2 hv3
theorem TGc_a (h : TGc sN Ev t a b) : tgI a (toL sN Ev.1 t) := by
  rcases h with ⟨e1, e2, -⟩ | ⟨p, e1, -, e2⟩
  · rw [e1]; exact e2
  · rw [e1]; exact e2
theorem opX_c (k : Int32) : 2 ≤ opX k ∧ opX k ≤ 4 := by
  unfold opX
  split
  · decide
  · split <;> decide
/-- reading -/
theorem PD_75 (h : PDp sN V K Ev x y t N b2 i2 []) (hEv : ¬ Ev.2.1 = []) (hE : KV' K e y Ev) (hT : TGc sN Ev t a b) (ha : stK y z 0 (y.1 100 9) a b2 i2 (-1) (-1)) : CGs sN V K Ev x z t (N ++ [(75, i, 0)]) := by
  obtain ⟨pl, ro, Si, eb, hS, h⟩ := h
  rw [List.append_nil] at h
  refine PD_end (op := 0) (to := toL sN Ev.1 t) (obj := some pl) (fl := ro) (ixs := if ro = true then some ((Si.map Prod.snd).getD 0 []) else none) (es := none) (fs := none) h hEv hE ha (fun Ec S k w tk he => ?_) rfl (by decide) (by decide) (fun _ => TGc_a hT) (fun _ => eb) ?_ rfl rfl (stl_k (by decide)) (fun d => rfl) rfl
  · rw [cd_75, toL_eq he]
  · rcases hS with ⟨e1, e2, e3⟩ | ⟨e1, N1, e3⟩
    · rw [e1]; exact e2
    · rw [e1, e3]
      exact List.mem_singleton.mpr rfl
/-- exchange, add -/
theorem PD_74 {N2 : gU} (h : PDp sN V K Ev x y t N b2 i2 [(f2, N2)]) (hEv : ¬ Ev.2.1 = []) (hE : KV' K e y Ev) (hT : TGc sN Ev t a b) (hK : ¬ K i = 16) (ho : o = Int32.ofNat (opX (K i))) (ha : stK y z o (y.1 100 9) a b2 i2 f2 (-1)) : CGs sN V K Ev x z t (N ++ [(74, i, 0)]) := by
  obtain ⟨pl, ro, Si, eb, hS, h⟩ := h
  have op := opX_c (K i)
  rcases hS with ⟨e1, e2, e3⟩ | ⟨e1, N1, e3⟩
  · rw [e1, e3] at h
    refine PD_end (op := opX (K i)) (to := toL sN Ev.1 t) (obj := some pl) (fl := false) (ixs := none) (es := some N2) (fs := none) h hEv hE ha (fun Ec S k w tk he => ?_) ho (by omega) (by omega) (fun _ => TGc_a hT) (fun _ => eb) e2 (List.mem_singleton.mpr rfl) rfl (stl_k (by decide)) (fun d => rfl) rfl
    rw [cd_74, ← toL_eq he]
    unfold cXc
    rw [if_neg (show ¬ false = true by decide), if_neg hK]
    rfl
  · rw [e1, e3] at h
    refine PD_end (op := opX (K i)) (to := toL sN Ev.1 t) (obj := some pl) (fl := true) (ixs := some N1) (es := some N2) (fs := none) h hEv hE ha (fun Ec S k w tk he => ?_) ho (by omega) (by omega) (fun _ => TGc_a hT) (fun _ => eb) List.mem_cons_self (List.mem_cons_of_mem _ (List.mem_singleton.mpr rfl)) rfl (stl_k (by decide)) (fun d => rfl) rfl
    rw [cd_74, ← toL_eq he]
    unfold cXc
    rw [if_pos rfl, if_neg hK]
    rfl
theorem PD_74c {N2 N3 : gU} (h : PDp sN V K Ev x y t N b2 i2 [(f2, N2), (e2, N3)]) (hEv : ¬ Ev.2.1 = []) (hE : KV' K e y Ev) (hT : TGc sN Ev t a b) (hK : K i = 16) (ha : stK y z 4 (y.1 100 9) a b2 i2 f2 e2) : CGs sN V K Ev x z t (N ++ [(74, i, 0)]) := by
  obtain ⟨pl, ro, Si, eb, hS, h⟩ := h
  rcases hS with ⟨e1, e3, e4⟩ | ⟨e1, N1, e4⟩
  · rw [e1, e4] at h
    refine PD_end (op := 4) (to := toL sN Ev.1 t) (obj := some pl) (fl := false) (ixs := none) (es := some N2) (fs := some N3) h hEv hE ha (fun Ec S k w tk he => ?_) rfl (by omega) (by omega) (fun _ => TGc_a hT) (fun _ => eb) e3 List.mem_cons_self (List.mem_cons_of_mem _ (List.mem_singleton.mpr rfl)) (stl_k (by decide)) (fun d => rfl) rfl
    rw [cd_74, ← toL_eq he]
    unfold cXc
    rw [if_neg (show ¬ false = true by decide), if_pos hK, hK]
    rfl
  · rw [e1, e4] at h
    refine PD_end (op := 4) (to := toL sN Ev.1 t) (obj := some pl) (fl := true) (ixs := some N1) (es := some N2) (fs := some N3) h hEv hE ha (fun Ec S k w tk he => ?_) rfl (by omega) (by omega) (fun _ => TGc_a hT) (fun _ => eb) List.mem_cons_self (List.mem_cons_of_mem _ List.mem_cons_self) (List.mem_cons_of_mem _ (List.mem_cons_of_mem _ (List.mem_singleton.mpr rfl))) (stl_k (by decide)) (fun d => rfl) rfl
    rw [cd_74, ← toL_eq he]
    unfold cXc
    rw [if_pos rfl, if_pos hK, hK]
    rfl
/-- a sum is set -/
theorem cSe_c {Ec : gV} {S : List gSt} {k : List Nat} {rr : gRg} {w : List (Nat × Nat) × List (Nat × gU)} {tk : Nat} {M : gU} (he : eqE Ec Ev) : cSe sN (Ec, S, k, rr, w) t tk M = (Ec, S ++ [((if toL sN Ev.1 t = none then 1 else 16 : Nat), tk, knw Ec, toL sN Ev.1 t, (if toL sN Ev.1 t = none then t else none), false, none, some M, none)], k, rg0, w) := by
  show (match toL sN Ec.1 t with | some p => cEm (Ec, S, k, rr, w) (16, tk, knw Ec, some p, none, false, none, some M, none) | none => cEm (Ec, S, k, rr, w) (1, tk, knw Ec, none, t, false, none, some M, none)) = _
  rw [toL_eq he]
  cases toL sN Ev.1 t <;> rfl
theorem PD_se {fl : Bool} (h : PD sN V K Ev x y t N Su pl ro) (hEv : ¬ Ev.2.1 = []) (hE : KV' K e y Ev) (hT : TGc sN Ev t a b) {N2 : gU} (hSu : (f2, N2) ∈ Su) (ha : stK y z (if a = -1 then 1 else 16) (y.1 100 9) a b (-1) f2 (-1)) (hcd : ∀ (Ec : gV) S k w tk, cdV sN K (Ec, S, k, ([], Su.map Prod.snd, pl, ro, t, tk), w) v = cSe sN (Ec, S, k, ([], Su.map Prod.snd, pl, ro, t, tk), w) t tk N2) (hv1 : still [v]) (hv2 : ∀ d, ces K V [v] d = d) (hv3 : tPs sN V K [v] Ev = []) : CGs sN V K Ev x z t (N ++ [v]) := by
  refine PD_end (op := if toL sN Ev.1 t = none then 1 else 16) (to := toL sN Ev.1 t) (obj := if toL sN Ev.1 t = none then t else none) (fl := false) (ixs := none) (es := some N2) (fs := none) h hEv hE ha (fun Ec S k w tk he => by rw [hcd, cSe_c he]) ?_ ?_ ?_ (fun _ => TGc_a hT) (fun q => ?_) rfl hSu rfl hv1 hv2 hv3
  · rcases hT with ⟨e1, e2, -⟩ | ⟨p, e1, e2, -⟩
    · rw [e1, if_pos rfl, if_pos e2]; rfl
    · rw [if_neg e2, e1]; rfl
  · split <;> decide
  · split <;> decide
  · rcases hT with ⟨e1, e2, t0, e3, e4⟩ | ⟨p, e1, e2, -⟩
    · rw [e1, if_pos rfl, e3]; exact e4
    · rw [e1, if_neg (by simp)] at q; exact absurd rfl q
theorem PD_76 {N2 : gU} (h : PD sN V K Ev x y t N [(f2, N2)] pl ro) (hEv : ¬ Ev.2.1 = []) (hE : KV' K e y Ev) (hT : TGc sN Ev t a b) (ha : stK y z (if a = -1 then 1 else 16) (y.1 100 9) a b (-1) f2 (-1)) : CGs sN V K Ev x z t (N ++ [(76, i, 0)]) :=
  PD_se (fl := false) h hEv hE hT (List.mem_singleton.mpr rfl) ha (fun Ec S k w tk => cd_76) (stl_k (by decide)) (fun d => rfl) rfl
/-- a row's cell is set -/
theorem PD_78 {N1 N2 : gU} (h : PD sN V K Ev x y none N [(ix, N1), (f2, N2)] pl true) (hEv : ¬ Ev.2.1 = []) (hE : KV' K e y Ev) (eb : b2.toInt = (pl : Nat)) (ha : stK y z 1 (y.1 100 9) a b2 ix f2 (-1)) : CG sN V K Ev x z (N ++ [(78, i, 0)]) := fun c d P he hr hc => PD_endt (tf := fun _ => i) (op := 1) (to := none) (obj := some pl) (fl := true) (ixs := some N1) (es := some N2) (fs := none) h hEv hE ha (fun Ec S k w tk he => cd_78) rfl (by decide) (by decide) (fun q => absurd q (by decide)) (fun _ => eb) List.mem_cons_self (List.mem_cons_of_mem _ (List.mem_singleton.mpr rfl)) rfl (stl_k (by decide)) (fun d => rfl) rfl 0 c d P he hr hc
/-- a name alone -/
theorem cds_al {Ec : gV} {S : List gSt} {k : List Nat} {w : List (Nat × Nat) × List (Nat × gU)} {tk : Nat} : cds sN K [pal t i] (Ec, S, k, rgT t tk, w) = cAl sN (Ec, S, k, rgT t tk, w) t (tkB t tk) i := by
  cases t with
  | none => rfl
  | some t0 => rfl
theorem tPs_al : tPs sN V K [pal t i] Ev = alP sN Ev i := by
  cases t with
  | none => exact List.append_nil _
  | some t0 => exact List.append_nil _
theorem ces_al {d : Nat × Int32 × List (Int32 × Bool)} : ces K V [pal t i] d = d := by
  cases t with
  | none => rfl
  | some t0 => rfl
theorem stl_al : still [pal t i] := by
  cases t with
  | none => exact stl_k (by decide)
  | some t0 => exact stl_k (by decide)
/-- of a cell -/
theorem PD_al (fr : ∀ c k, ccS c k → y.1 c k = x.1 c k) (hE : KV' K e y Ev) (hT : TGc sN Ev t a b) (hk : kfi sN Ev.1 i = none) (hoi : ob.toInt = (i : Nat)) (ha : stK y z 0 (y.1 100 9) a ob (-1) (-1) (-1)) : CGs sN V K Ev x z t [pal t i] := by
  intro tk c d P he hr hc
  obtain ⟨Ec, S, k, rr, ww⟩ := c
  have hr : rr = rgT t tk := hr
  have he : eqE Ec Ev := he
  have kl : (y.1 100 9).toInt = (Ec.1.length : Nat) := by rw [hE.1, eqE_len he]
  have q := CCp_add (st := (0, tkB t tk, knw Ec, toL sN Ev.1 t, some i, false, none, none, none)) (r' := rg0) (CCp_eq fr hc) ha rfl kl (fun _ => TGc_a hT) (fun q => absurd q (show ¬ 0 = 8 by decide)) (fun _ => hoi) rfl rfl rfl
  have ec : cds sN K [pal t i] (Ec, S, k, rr, ww) = (Ec, S ++ [(0, tkB t tk, knw Ec, toL sN Ev.1 t, some i, false, none, none, none)], k, rg0, ww) := by
    rw [hr, cds_al]
    show (match kfi sN Ec.1 i with | some _ => cSe sN (Ec, S, k, rgT t tk, ww) t (tkB t tk) [(3, i, 0)] | none => cEm (Ec, S, k, rgT t tk, ww) (0, tkB t tk, knw Ec, toL sN Ec.1 t, some i, false, none, none, none)) = _
    rw [kfi_len he.1, hk, toL_eq he]
    rfl
  have ep : tPs sN V K [pal t i] Ev = [] := by
    rw [tPs_al]; unfold alP; rw [hk]
  rw [ec, ces_al, ep, exs_still stl_al, List.append_nil]
  exact ⟨q, he, rfl⟩
/-- of a local: a sum -/
theorem PD_als (h : PD sN V K Ev x y t (pma t ++ ([(3, i, 0)] ++ [(54, 0, 0)])) [(f2, [(3, i, 0)])] 0 false) (hEv : ¬ Ev.2.1 = []) (hE : KV' K e y Ev) (hT : TGc sN Ev t a b) (hk : ¬ kfi sN Ev.1 i = none) (ha : stK y z (if a = -1 then 1 else 16) (y.1 100 9) a b (-1) f2 (-1)) : CGs sN V K Ev x z t [pal t i] := by
  have q := PD_76 (i := 0) h hEv hE hT ha
  obtain ⟨p, hp⟩ : ∃ p, kfi sN Ev.1 i = some p := by
    cases h9 : kfi sN Ev.1 i with
    | none => exact absurd h9 hk
    | some p => exact ⟨p, rfl⟩
  have hs : sEv false [(3, i, 0)] := sEv_one (Or.inr (Or.inr (Or.inr (Or.inr (Or.inl ⟨rfl, rfl⟩)))))
  intro tk c d P he hr hc
  obtain ⟨q1, q2, q3⟩ := q tk c d P he hr hc
  obtain ⟨Ec, S, k, rr, ww⟩ := c
  have hr : rr = rgT t tk := hr
  have he : eqE Ec Ev := he
  have hEc : ¬ Ec.2.1 = [] := by rw [he.2]; exact hEv
  have ec : cds sN K [pal t i] (Ec, S, k, rr, ww) = cds sN K (pma t ++ ([(3, i, 0)] ++ [(54, 0, 0)]) ++ [(76, 0, 0)]) (Ec, S, k, rr, ww) := by
    rw [hr, cds_al, cds_app, h.2.2.2.1 _ _ _ _ _ hEc, cds_one, cd_76]
    show (match kfi sN Ec.1 i with | some _ => cSe sN (Ec, S, k, rgT t tk, ww) t (tkB t tk) [(3, i, 0)] | none => cEm (Ec, S, k, rgT t tk, ww) (0, tkB t tk, knw Ec, toL sN Ec.1 t, some i, false, none, none, none)) = _
    rw [kfi_len he.1, hp]
    show cSe sN (Ec, S, k, rgT t tk, ww) t (tkB t tk) [(3, i, 0)] = _
    rw [cSe_c he, cSe_c he]
    rfl
  have ee : ces K V (pma t ++ ([(3, i, 0)] ++ [(54, 0, 0)]) ++ [(76, 0, 0)]) d = d := by
    rw [ces_app, h.2.1]; rfl
  have pm : tPs sN V K (pma t) Ev = [] ∧ still (pma t) := by
    cases t with
    | none => exact ⟨rfl, still_nil⟩
    | some t0 => exact ⟨rfl, stl_k (by decide)⟩
  have ep : tPs sN V K (pma t ++ ([(3, i, 0)] ++ [(54, 0, 0)]) ++ [(76, 0, 0)]) Ev = alP sN Ev i := by
    have e1 : tPs sN V K [(76, 0, 0)] Ev = [] := rfl
    rw [tPs_app, exs_still h.1, e1, List.append_nil, tPs_app, exs_still pm.2, pm.1, List.nil_append, tPs_x hs]
    show (some ((2 : Int32), match kfi sN Ev.1 i with | some p => Int32.ofNat p | none => -1)).toList ++ [(0, 0)] = _
    unfold alP
    rw [hp]
    rfl
  have ex : exs (pma t ++ ([(3, i, 0)] ++ [(54, 0, 0)]) ++ [(76, 0, 0)]) Ev = Ev := exs_still (still_app h.1 (stl_k (by decide)))
  rw [ee, ep] at q1
  rw [ex] at q2
  rw [ec, ces_al, tPs_al, exs_still stl_al]
  exact ⟨q1, q2, q3⟩
end KPD
section KPE
variable {G : kG} {q : kP} {d : Nat} {x x0 y z xs : gd} {F : Int32 → gd → Prop} {Fv : gd → Prop} {X : String → gd → Prop} {M : Int} {E : Nat → Prop}
/-- the step is added, with all its fields -/
theorem kf_233 (hq : kV q) (hB : BB x0 y M E0) (ha : 2 * ssm y ≤ nx y + 2) (o l a b i2 e1 f1 : Int32) (ho : o = 0 ∨ o = 1 ∨ o = 2 ∨ o = 3 ∨ o = 4 ∨ o = 16) (hb : o.toInt ≤ 4 → PLc y b) (ht : ¬ o = 1 → (0 ≤ a.toInt ∧ a.toInt < M) ∨ BU y) (h : ∀ z, BB x0 z M E0 → nx z = nx y → om z = om y → ssm z = ssm y + 1 → (∀ c k, c < 80 ∨ 89 < c → z.1 c k = y.1 c k) → stK y z o (y.1 100 9) a b i2 f1 e1 → Fv z) : KE G q (d + 7) zk_X7_source 233 [(0, vr 100), (1, vi l), (2, vi a), (6, vi b), (7, vi i2), (8, vi e1), (9, vi f1)] [vi o, vr 80] y (rv Fv) X := by
  obtain ⟨a1, a2, a3, a4, a5⟩ := BB_400 hB ha
  refine kg_X7_source_233 hq _ _ _ _ _ _ _ (kf_add hq _ _ _ a1 a2 (fun w hA vin hF9 => ⟨vin, fun x4 e4 => ⟨vin, fun x6 e6 => ⟨vin, fun x8 e8 => ⟨vin, fun x10 e10 => ⟨vin, fun z ez => rv_i ?_⟩⟩⟩⟩⟩))
  obtain ⟨g1, f2, f3, f4, f5⟩ := hA
  have fz : fm (fun c k => (81 ≤ c ∧ c ≤ 89 ∧ k = (y.1 80 9).toNatClampNeg) ∨ (c = 80 ∧ k = 9)) y z := by
    rw [ez, e10, e8, e6, e4]
    exact fm_si (fm_si (fm_si (fm_si (fm_si g1 (Or.inl ⟨by omega, by omega, rfl⟩)) (Or.inl ⟨by omega, by omega, rfl⟩)) (Or.inl ⟨by omega, by omega, rfl⟩)) (Or.inl ⟨by omega, by omega, rfl⟩)) (Or.inl ⟨by omega, by omega, rfl⟩)
  have es : ssm z = ssm y + 1 := by
    have : z.1 80 9 = w.1 80 9 := by rw [ez, e10, e8, e6, e4]; (simp only [si_get, sfl_get, Nat.reduceEqDiff, eq_self, and_false, false_and, and_true, true_and, if_true, if_false, reduceIte, reduceCtorEq])
    unfold ssm at *; rw [this]; exact f2
  have z81 : z.1 81 (y.1 80 9).toNatClampNeg = o := by rw [ez, e10, e8, e6, e4]; (simp only [si_get, sfl_get, Nat.reduceEqDiff, eq_self, and_false, false_and, and_true, true_and, if_true, if_false, reduceIte, reduceCtorEq]); exact f3
  have z83 : z.1 83 (y.1 80 9).toNatClampNeg = y.1 100 9 := by rw [ez, e10, e8, e6, e4]; (simp only [si_get, sfl_get, Nat.reduceEqDiff, eq_self, and_false, false_and, and_true, true_and, if_true, if_false, reduceIte, reduceCtorEq]); exact f4
  have z84 : z.1 84 (y.1 80 9).toNatClampNeg = a := by rw [ez, e10, e8, e6, e4]; (simp only [si_get, sfl_get, Nat.reduceEqDiff, eq_self, and_false, false_and, and_true, true_and, if_true, if_false, reduceIte, reduceCtorEq])
  have z85 : z.1 85 (y.1 80 9).toNatClampNeg = b := by rw [ez, e10, e8, e6, e4]; (simp only [si_get, sfl_get, Nat.reduceEqDiff, eq_self, and_false, false_and, and_true, true_and, if_true, if_false, reduceIte, reduceCtorEq])
  have e9 : nx z = nx y := by unfold nx; rw [fz 100 4 (by omega)]
  have e13 : om z = om y := by unfold om; rw [fz 100 13 (by omega)]
  have hoi : (0 ≤ o.toInt ∧ ¬ o.toInt = 15) ∧ ¬ o.toInt = 17 ∧ ¬ o.toInt = 20 ∧ (o.toInt ≤ 10 → o.toInt ≤ 4) := by rcases ho with rfl | rfl | rfl | rfl | rfl | rfl <;> decide
  have hSA : SA z M (y.1 80 9).toNatClampNeg := by
    unfold SA sop stg
    rw [z81, z83, z84, z85]
    refine ⟨hoi.1, ⟨a4, a5⟩, fun c => ?_, fun c => ?_⟩
    · obtain ⟨t, t1, t2, t3⟩ := hb (hoi.2.2.2 c)
      have := hoi.2.2.2 c
      exact ⟨t, t1, by omega, fun _ => by rw [fz 42 t (by omega)]; exact t3, fun c1 c2 => by omega, fun c1 => by omega⟩
    · have k1 : (1 : Int32).toInt = 1 := rfl
      rcases ht (fun e => by rw [e, k1] at c; omega) with g | g
      · exact Or.inl g
      · exact Or.inr (La_BU ⟨fun c k q1 q2 => fz c k (by omega), by omega, fun j _ => fz 42 j (by omega)⟩ g)
  have hBz := BB_add hB (n := (y.1 80 9).toNatClampNeg) (by omega) fz es hSA
  refine h z (BB_E hBz (fun e => e.elim id (fun e => by omega)) (fun i hi he hne => ?_)) e9 e13 es (fun c k hc => fz c k (by omega)) ⟨fun c k q q1 q2 => fz c k (fun w => w.elim q1 q2), es, z81, z83, z84, z85, by rw [ez, e10, e8, e6, e4]; (simp only [si_get, sfl_get, Nat.reduceEqDiff, eq_self, and_false, false_and, and_true, true_and, if_true, if_false, reduceIte, reduceCtorEq]), by rw [ez, e10, e8, e6, e4]; (simp only [si_get, sfl_get, Nat.reduceEqDiff, eq_self, and_false, false_and, and_true, true_and, if_true, if_false, reduceIte, reduceCtorEq]), by rw [ez, e10, e8, e6, e4]; (simp only [si_get, sfl_get, Nat.reduceEqDiff, eq_self, and_false, false_and, and_true, true_and, if_true, if_false, reduceIte, reduceCtorEq])⟩
  rcases he with he | he
  · exact absurd he hne
  · rw [he]
    refine SC_no ?_ ?_ <;> (unfold sop; rw [z81]; omega)
end KPE
end
section
/-! the class: what is set, as the grammar says -/
theorem pX_7 {K : Nat → Int32} {o : Bool} {f i : Nat} {L : gU} (h : 700 ≤ i) : pX K o f i L = none := by
  unfold pX
  rw [← dAk_1 (v := (50, 0, 0)), dA_7 h]
  rfl
theorem pR_7 {K : Nat → Int32} {f i : Nat} {t : Option Nat} {L : gU} (h : 700 ≤ i) : pR K f t i L = none := by
  unfold pR
  by_cases c1 : K i = 35 ∨ K i = 10 ∨ K i = 16
  · rw [if_pos c1, if_neg (by omega)]
  rw [if_neg c1, if_neg (fun q => absurd q.2.1 (by omega))]
  by_cases c2 : K i = 1 ∧ K (i + 1) = 67
  · rw [if_pos c2, if_neg (fun q => absurd q.1 (by omega))]
  rw [if_neg c2, pX_7 h]
  rfl
/-- a name alone is a sum -/
theorem pX_name {K : Nat → Int32} {f i : Nat} {L : gU} (h : K i = 1) (h2 : K (i + 1) = 67) (hi : i < 700) : pX K false (f + 1) i L = some (i + 1, L ++ [(3, i, 0)] ++ [(54, 0, 0)]) := by
  have e : pO (pE K false f) K false i L = some (i + 1, L ++ [(3, i, 0)]) := by
    unfold pO
    rw [if_neg (by omega), if_neg (by rw [h]; decide), if_neg (by rw [h]; decide), if_neg (by rw [h]; decide), if_pos h, if_neg (by decide)]
  unfold pX
  rw [← dAk_1 (v := (50, 0, 0)), dA_leaf (Or.inr (Or.inr (Or.inl h))) (by rw [h]; decide) e, dW_end (by show pst (K (i + 1)) ≤ 0; rw [h2]; decide)]
  rfl
theorem pX_f0 {K : Nat → Int32} {o : Bool} {i : Nat} {L : gU} : pX K o 0 i L = none := rfl
section KSRF
variable {G : kG} {q : kP} {d : Nat} {x x0 y z xs : gd} {F : Int32 → gd → Prop} {Fv : gd → Prop} {X : String → gd → Prop} {P : Option gv → gd → Prop} {M : Int} {E : Nat → Prop} {K V : Nat → Int32} {sN : Nat → Nat → Bool} {e : Nat} {Ev : gV} {Ml N : gU}
/-- what stands behind = -/
def SOP (K : Nat → Int32) (sN : Nat → Nat → Bool) (Ev : gV) (i : Nat) (r : Int32) : Prop := (r = 2 ∧ K i = 35) ∨ (r = 3 ∧ K i = 10) ∨ (r = 4 ∧ K i = 16) ∨ (r = 0 ∧ K i = 1 ∧ (i < 700 → K (i + 1) = 65 ∨ (K (i + 1) = 67 ∧ kfi sN Ev.1 i = none))) ∨ (r = 16 ∧ ¬ (K i = 35 ∨ K i = 10 ∨ K i = 16) ∧ (K i = 1 → i < 700 → ¬ K (i + 1) = 65 ∧ (K (i + 1) = 67 → ¬ kfi sN Ev.1 i = none)))
theorem kd_sourceOp (hq : kV q) (hB : BB x0 x M E) (hA : KA K V sN e x) (hn : nn x ≤ e) (hE : KV' K e x Ev) (h : ∀ r : Int32, SOP K sN Ev (nn x) r → F r x) : KT G q (d + 2) zk_X7_sourceOp 0 [(0, vr 100)] [] x (ri F) := by
  have hK := (hB.2.2.1.1 hB.2.2.2.2.1).1
  have kk : ∀ c : Int32, ¬ kc c = -1 → (x.1 23 (x.1 100 4).toNatClampNeg = c ↔ K (nn x) = kc c) := fun c hc => KA_k hA hn c hc
  have k65 := kk 65 (by decide)
  have k40 := kk 40 (by decide)
  have k46 := kk 46 (by decide)
  have k2 := kk 2 (by decide)
  have behind : K (nn x) = 1 → nn x < 700 → ∀ c : Int32, ¬ kc c = -1 → (x.1 23 ((x.1 100 4).toNatClampNeg + 1) = c ↔ K (nn x + 1) = kc c) := fun h1 h7 c hc => KA_k hA (KA_on hA hn h7 (by rw [h1]; decide) (by rw [h1]; decide)) c hc
  have p81 : K (nn x) = 1 → ∀ s : Int32, ((¬ s = 0 ∧ (nn x < 700 → K (nn x + 1) = 67 ∧ kfi sN Ev.1 (nn x) = none)) ∨ (s = 0 ∧ (nn x < 700 → K (nn x + 1) = 67 → ¬ kfi sN Ev.1 (nn x) = none))) → KT G q (d + 2) zk_X7_sourceOp 81 [(0, vr 100)] [vi s] x (ri F) := by
    intro c s hs
    have n35 : ¬ (K (nn x) = 35 ∨ K (nn x) = 10 ∨ K (nn x) = 16) := by rw [c]; decide
    refine kg_X7_sourceOp_81 hq _ ⟨fun c0 => ri_i (h _ (Or.inr (Or.inr (Or.inr (Or.inl ⟨rfl, c, fun h7 => ?_⟩))))), fun c0 => kp_sortBehind hq hB.1.1 ⟨fun c25 => ri_i (h _ (Or.inr (Or.inr (Or.inr (Or.inr ⟨rfl, n35, fun _ h7 => ⟨fun z => ?_, fun z => ?_⟩⟩))))), fun c25 => ri_i (h _ (Or.inr (Or.inr (Or.inr (Or.inl ⟨rfl, c, fun h7 => Or.inl ?_⟩)))))⟩⟩
    · rcases hs with ⟨-, e⟩ | ⟨e, -⟩
      · exact Or.inr (e h7)
      · exact absurd e c0
    · exact c25 ((behind c h7 25 (by decide)).mpr z)
    · rcases hs with ⟨e, -⟩ | ⟨-, e⟩
      · exact absurd c0 e
      · exact e h7 z
    · exact (behind c h7 25 (by decide)).mp c25
  refine kg_X7_sourceOp_0 hq (kp_sort hq hB.1.1 ⟨fun c => ri_i (h _ (Or.inl ⟨rfl, k65.mp c⟩)), fun c => ri_i (h _ (Or.inr (Or.inl ⟨rfl, k40.mp c⟩))), fun c => ri_i (h _ (Or.inr (Or.inr (Or.inl ⟨rfl, k46.mp c⟩)))), fun c => ?_, fun c => ri_i (h _ (Or.inr (Or.inr (Or.inr (Or.inr ⟨rfl, ?_, fun z => ?_⟩)))))⟩)
  · have c1 : K (nn x) = 1 := k2.mp c
    refine kp_sortBehind hq hB.1.1 ⟨fun c27 => p81 c1 _ (Or.inr ⟨rfl, fun h7 z => absurd ((behind c1 h7 27 (by decide)).mpr z) c27⟩), fun c27 => kf_knownFrom hq hB.1.1.1 hK hA hE _ _ (by decide) ⟨hB.1.1.2.1, RB_lt hB.1.1 (by rw [c]; decide)⟩ hn c1 (fun r hr => ⟨fun c9 => p81 c1 _ (Or.inr ⟨rfl, fun h7 z => ?_⟩), fun c9 => p81 c1 _ (Or.inl ⟨by decide, fun h7 => ⟨(behind c1 h7 27 (by decide)).mp c27, ?_⟩⟩)⟩)⟩
    · rcases hr with ⟨e, -⟩ | ⟨n, e1, e2, e3, e4, -⟩
      · exact absurd e c9
      · rw [show nn x = (x.1 100 4).toNatClampNeg from rfl, e4]; simp
    · rcases hr with ⟨-, e⟩ | ⟨n, e1, e2, e3, e4, -⟩
      · exact kfi_of e
      · exfalso
        rw [c9, tm1] at e1
        omega
  · rintro (z | z | z)
    · exact c 65 (by decide) (k65.mpr z)
    · exact c 40 (by decide) (k40.mpr z)
    · exact c 46 (by decide) (k46.mpr z)
  · exact absurd (k2.mpr z) (c 2 (by decide))
end KSRF
end
section
/-! the class: what is set, from the first sum on -/
def SFin (K V : Nat → Int32) (sN : Nat → Nat → Bool) (e : Nat) (Ev : gV) (x : gd) (t : Option Nat) (L : gU) (W : gOp) (y : gd) : Prop := KV' K e y Ev ∧ ∃ N, RIw K V sN e Ev x y N ∧ still N ∧ (∀ t0, t = some t0 → kfi sN Ev.1 t0 = none → HBs sN N Ev t0 6) ∧ W = some (nn y, L ++ N) ∧ CGs sN V K Ev x y t N
/-- all but the step o -/
def SFp (K V : Nat → Int32) (sN : Nat → Nat → Bool) (e : Nat) (Ev : gV) (x : gd) (t : Option Nat) (L : gU) (W : gOp) (o a b2 i2 e2 f2 : Int32) (y : gd) : Prop := KV' K e y Ev ∧ ∃ N, RIw K V sN e Ev x y N ∧ still N ∧ (∀ t0, t = some t0 → kfi sN Ev.1 t0 = none → HBs sN N Ev t0 6) ∧ W = some (nn y, L ++ N) ∧ ∀ z, stK y z o (y.1 100 9) a b2 i2 f2 e2 → CGs sN V K Ev x z t N
def sOp (o a : Int32) : Int32 := if o = 16 ∧ a = -1 then 1 else o
/-- before the second sum -/
def S189 (K V : Nat → Int32) (sN : Nat → Nat → Bool) (e : Nat) (Ev : gV) (x : gd) (t : Option Nat) (L : gU) (W : gOp) (f : Nat) (o a b2 i2 e2 f2 : Int32) (y : gd) : Prop := (¬ o = 4 ∧ SFp K V sN e Ev x t L W (sOp o a) a b2 i2 e2 f2 y) ∨ (o = 4 ∧ KV' K e y Ev ∧ ∃ N, RIw K V sN e Ev x y N ∧ still N ∧ (∀ t0, t = some t0 → kfi sN Ev.1 t0 = none → HBs sN N Ev t0 6) ∧ W = ((pt K 68 (nn y, L ++ N)).bind (pXq K f)).bind (pan (74, nn x, 0)) ∧ K (nn x) = 16 ∧ ∃ N2, PDp sN V K Ev x y t N b2 i2 [(f2, N2)])
/-- before the first -/
def S174 (K V : Nat → Int32) (sN : Nat → Nat → Bool) (e : Nat) (Ev : gV) (x : gd) (t : Option Nat) (L : gU) (W : gOp) (f : Nat) (o a b2 i2 e2 : Int32) (y : gd) : Prop := (o = 0 ∧ SFp K V sN e Ev x t L W (sOp o a) a b2 i2 e2 (-1) y) ∨ (¬ o = 0 ∧ KA K V sN e y ∧ nn y ≤ e ∧ KV' K e y Ev ∧ ∃ L1, (pX K false f (nn y) L1 = none → W = none) ∧ ∀ w N2 r, GS y w → RIw K V sN e Ev y w N2 → still N2 → KV' K e w Ev → pX K false f (nn y) L1 = some (nn w, L1 ++ N2) → CPl y w (sPs sN V K Ev N2) → r = y.1 60 3 → S189 K V sN e Ev x t L W f o a b2 i2 e2 r w)
/-- behind the place -/
def S163 (K V : Nat → Int32) (sN : Nat → Nat → Bool) (e : Nat) (Ev : gV) (x : gd) (t : Option Nat) (L : gU) (W : gOp) (f : Nat) (o a b2 i2 e2 : Int32) (y : gd) : Prop := (o = 0 ∧ SFp K V sN e Ev x t L W (sOp o a) a b2 i2 e2 (-1) y) ∨ (¬ o = 0 ∧ (o = 4 ↔ K (nn x) = 16) ∧ KV' K e y Ev ∧ ∃ N, RIw K V sN e Ev x y N ∧ still N ∧ (∀ t0, t = some t0 → kfi sN Ev.1 t0 = none → HBs sN N Ev t0 6) ∧ W = ((pt K 68 (nn y, L ++ N)).bind (pXq K f)).bind (fun q => (if K (nn x) = 16 then (pt K 68 q).bind (pXq K f) else some q).bind (pan (74, nn x, 0))) ∧ o = Int32.ofNat (opX (K (nn x))) ∧ e2 = -1 ∧ PDp sN V K Ev x y t N b2 i2 [])
section KSRG
variable {G : kG} {q : kP} {d : Nat} {x x0 y z xs : gd} {F : Int32 → gd → Prop} {Fv : gd → Prop} {X : String → gd → Prop} {P : Option gv → gd → Prop} {M : Int} {E : Nat → Prop} {K V : Nat → Int32} {sN : Nat → Nat → Bool} {e : Nat} {Ev : gV} {Ml N : gU} {t : Option Nat} {L : gU} {W : gOp} {f : Nat}
theorem OPe_89 (f : ∀ c k, c < 80 ∨ 89 < c → y.1 c k = x.1 c k) : OPe x y := ⟨⟨⟨fun c k q1 q2 => f c k (by omega), by unfold nx; rw [f 100 4 (by omega)]; exact Int.le_refl _, fun j _ => f 42 j (by omega)⟩, fun c k q => f c k (by unfold Tc at q; omega)⟩, fun c k q1 q2 => f c k (by omega), f 100 7 (by omega)⟩
theorem SF_st {o a b2 i2 e2 f2 : Int32} (h : SFp K V sN e Ev x t L W o a b2 i2 e2 f2 y) (hk : stK y z o (y.1 100 9) a b2 i2 f2 e2) (e4 : z.1 100 4 = y.1 100 4) (eu : ∀ j, z.1 42 j = y.1 42 j) (g : ∀ c k, 20 ≤ c → c < 40 → z.1 c k = y.1 c k) (e9 : z.1 100 9 = y.1 100 9) (e109 : ∀ k, z.1 109 k = y.1 109 k) : SFin K V sN e Ev x t L W z := by
  obtain ⟨h1, N, h2, h3, h4, h5, h6⟩ := h
  have en : nn z = nn y := by unfold nn; rw [e4]
  exact ⟨KV_fm h1 e9 e109, N, RI_st h2 e4 eu g, h3, h4, by rw [en]; exact h5, h6 z hk⟩
theorem GS_su (g : GS y z) : ∀ c k, ccS c k → ¬ (c = 60 ∧ k = 3) → ¬ c = 62 → ¬ c = 63 → z.1 c k = y.1 c k := fun c k q q1 q2 q3 => GS_at g c k (by unfold ccS at q; unfold sSum; omega)
/-- a sum that was read -/
theorem PD_xp {N N2 L1 : gU} {Su : List (Int32 × gU)} {pl i j : Nat} {ro : Bool} {r : Int32} (h : PD sN V K Ev x y t N Su pl ro) (hpX : pX K false f i L1 = some (j, L1 ++ N2)) (hp : CPl y z (sPs sN V K Ev N2)) (g : GS y z) (hr : r = y.1 60 3) : ∃ N', N2 = N' ++ [(54, 0, 0)] ∧ PD sN V K Ev x z t (N ++ N2) (Su ++ [(r, N')]) pl ro := by
  obtain ⟨N', e1, e2⟩ := pX_sE hpX
  refine ⟨N', e1, ?_⟩
  rw [e1] at hp ⊢
  exact PD_x h e2 hp (GS_su g) hr
theorem PDp_xp {N N2 L1 : gU} {Q : List (Int32 × gU)} {i j : Nat} {r b2 i2 : Int32} (h : PDp sN V K Ev x y t N b2 i2 Q) (hpX : pX K false f i L1 = some (j, L1 ++ N2)) (hp : CPl y z (sPs sN V K Ev N2)) (g : GS y z) (hr : r = y.1 60 3) : ∃ N', PDp sN V K Ev x z t (N ++ N2) b2 i2 (Q ++ [(r, N')]) := by
  obtain ⟨pl, ro, Si, h1, h2, h3⟩ := h
  obtain ⟨N', _, h4⟩ := PD_xp h3 hpX hp g hr
  exact ⟨N', pl, ro, Si, h1, h2, by rw [← List.append_assoc]; exact h4⟩
theorem PDp_fr {N : gU} {Q : List (Int32 × gU)} {b2 i2 : Int32} (h : PDp sN V K Ev x y t N b2 i2 Q) (fr : ∀ c k, ccS c k → z.1 c k = y.1 c k) : PDp sN V K Ev x z t N b2 i2 Q := by
  obtain ⟨pl, ro, Si, h1, h2, h3⟩ := h
  exact ⟨pl, ro, Si, h1, h2, PD_fr h3 fr⟩
theorem pt_yes {w : Int32} {j : Nat} (h : K j = w) (h7 : j < 700) : pt K w (j, L) = some (j + 1, L) := by unfold pt; rw [if_pos ⟨h, h7⟩]
theorem pt_no {w : Int32} {j : Nat} (h : ¬ (K j = w ∧ j < 700)) : pt K w (j, L) = none := by unfold pt; rw [if_neg h]
theorem kd_src174 (hq : kV q) (hx : W = none → RX x0 X) (hB : BB x0 x M E0) (hf : (f : Int) + om x = 16) (ha : 2 * ssm x ≤ nx x + 1) (l a b : Int32) (hl : (a = -1 ∧ PLc x b) ∨ (¬ a = -1 ∧ 0 ≤ a.toInt ∧ a.toInt < M)) (hEv : ¬ Ev.2.1 = []) (hTc : TGc sN Ev t a b) (h : ∀ y, BB x0 y M E0 → nx x < nx y → om y = om x → ssm y = ssm x + 1 → (y.1 100 9 = x.1 100 9 ∧ y.1 100 7 = x.1 100 7 ∧ y.1 60 13 = x.1 60 13 ∧ (∀ k, y.1 20 k = x.1 20 k) ∧ OPe x y) → La x y → SFin K V sN e Ev x t L W y → Fv y) (D : Int32) (eD : D.toInt = om x + 1) :
    ∀ (y : gd) (o b2 i2 e2 : Int32), S174 K V sN e Ev x t L W f o a b2 i2 e2 y → GS x y → BB x0 y M E0 → (o = 0 → nx x < nx y) → (o = 0 ∨ o = 2 ∨ o = 3 ∨ o = 4 ∨ o = 16) → (¬ o = 16 → PLc y b2) → (o = 16 → b2 = b) → (¬ a = -1 ∨ o = 16 ∨ BU y) → KE G q (d + 10) zk_X7_source 174 [(0, vr 100), (1, vi l), (2, vi a), (4, vi D), (5, vi o), (6, vi b2), (7, vi i2), (8, vi e2)] [] y (rv Fv) X := by
  have o1 := (BB_om hB).1
  have eF : 17 - D.toNatClampNeg = f := by
    have u := t_cl D
    omega
  have tail : ∀ (y : gd) (o b2 i2 e2 f2 : Int32), SFp K V sN e Ev x t L W o a b2 i2 e2 f2 y → GS x y → BB x0 y M E0 → nx x < nx y → (o = 0 ∨ o = 1 ∨ o = 2 ∨ o = 3 ∨ o = 4 ∨ o = 16) → (o.toInt ≤ 4 → PLc y b2) → (¬ o = 1 → (0 ≤ a.toInt ∧ a.toInt < M) ∨ BU y) → KE G q (d + 10) zk_X7_source 233 [(0, vr 100), (1, vi l), (2, vi a), (6, vi b2), (7, vi i2), (8, vi e2), (9, vi f2)] [vi o, vr 80] y (rv Fv) X := by
    intro y o b2 i2 e2 f2 hFy gy hBy ny h1 h2 h3
    have e1 := GS_sm gy
    exact kf_233 hq hBy (by omega) o l a b2 i2 e2 f2 h1 h2 h3 (fun z hBz nz oz sz fz hst => h z hBz (by omega) (by rw [oz, GS_om gy]) (by omega) ⟨by rw [fz _ _ (by omega), GS_at gy _ _ (by unfold sSum; omega)], by rw [fz _ _ (by omega), GS_at gy _ _ (by unfold sSum; omega)], by rw [fz _ _ (by omega), GS_at gy _ _ (by unfold sSum; omega)], fun k => by rw [fz _ _ (by omega), GS_at gy _ _ (by unfold sSum; omega)], OPe_tr (OPe_GS gy) (OPe_89 fz)⟩ (La_tr gy.1 ⟨fun c k q1 q2 => fz _ _ (by omega), by omega, fun j _ => fz _ _ (by omega)⟩) (SF_st hFy hst (fz _ _ (by omega)) (fun j => fz _ _ (by omega)) (fun c k q1 q2 => fz _ _ (by omega)) (fz _ _ (by omega)) (fun k => fz _ _ (by omega))))
  have p211 : ∀ (y : gd) (o b2 i2 e2 f2 : Int32), SFp K V sN e Ev x t L W (sOp o a) a b2 i2 e2 f2 y → GS x y → BB x0 y M E0 → nx x < nx y → (o = 0 ∨ o = 2 ∨ o = 3 ∨ o = 4 ∨ o = 16) → (¬ o = 16 → PLc y b2) → (o = 16 → b2 = b) → (¬ a = -1 ∨ o = 16 ∨ BU y) → KE G q (d + 10) zk_X7_source 211 [(0, vr 100), (1, vi l), (2, vi a), (5, vi o), (6, vi b2), (7, vi i2), (8, vi e2), (9, vi f2)] [] y (rv Fv) X := by
    intro y o b2 i2 e2 f2 hFy gy hBy ny h1 h2 h3 h4
    have hat : ¬ a = -1 → (0 ≤ a.toInt ∧ a.toInt < M) := fun na => by
      rcases hl with ⟨e, -⟩ | ⟨-, e⟩
      · exact absurd e na
      · exact e
    refine kg_X7_source_211 hq _ _ _ _ _ _ _ ⟨fun c => tail y o b2 i2 e2 f2 (by unfold sOp at hFy; rw [if_neg (fun q => c q.1)] at hFy; exact hFy) gy hBy ny ?_ (fun _ => h2 c) (fun _ => ?_), fun c => ⟨fun c2 => tail y o b2 i2 e2 f2 (by unfold sOp at hFy; rw [if_neg (fun q => c2 q.2)] at hFy; exact hFy) gy hBy ny ?_ (fun c3 => ?_) (fun _ => Or.inl (hat c2)), fun c2 => tail y 1 b2 i2 e2 f2 (by unfold sOp at hFy; rw [if_pos ⟨c, c2⟩] at hFy; exact hFy) gy hBy ny (by decide) (fun _ => ?_) (fun q => absurd rfl q)⟩⟩
    · rcases h1 with e | e | e | e | e
      · exact Or.inl e
      · exact Or.inr (Or.inr (Or.inl e))
      · exact Or.inr (Or.inr (Or.inr (Or.inl e)))
      · exact Or.inr (Or.inr (Or.inr (Or.inr (Or.inl e))))
      · exact absurd e c
    · rcases h4 with e | e | e
      · exact Or.inl (hat e)
      · exact absurd e c
      · exact Or.inr e
    · exact Or.inr (Or.inr (Or.inr (Or.inr (Or.inr c))))
    · rw [c] at c3; exact absurd c3 (by decide)
    · rw [h3 c]
      rcases hl with ⟨-, e⟩ | ⟨e, -⟩
      · exact PLc_La gy.1 e
      · exact absurd c2 e
  have p189 : ∀ (y : gd) (o b2 i2 e2 f2 : Int32), S189 K V sN e Ev x t L W f o a b2 i2 e2 f2 y → GS x y → BB x0 y M E0 → nx x < nx y → (o = 0 ∨ o = 2 ∨ o = 3 ∨ o = 4 ∨ o = 16) → (¬ o = 16 → PLc y b2) → (o = 16 → b2 = b) → (¬ a = -1 ∨ o = 16 ∨ BU y) → KE G q (d + 10) zk_X7_source 189 [(0, vr 100), (1, vi l), (2, vi a), (4, vi D), (5, vi o), (6, vi b2), (7, vi i2), (8, vi e2)] [vi f2] y (rv Fv) X := by
    intro y o b2 i2 e2 f2 hSy gy hBy ny h1 h2 h3 h4
    refine kg_X7_source_189 hq _ _ _ _ _ _ _ _ ⟨fun c => p211 y o b2 i2 e2 f2 ?_ gy hBy ny h1 h2 h3 h4, fun c => ?_⟩
    · rcases hSy with ⟨-, e⟩ | ⟨e, -⟩
      · exact e
      · exact absurd e c
    obtain ⟨hEy, N, hRy, hN, h6, hW, hK16, N20, hPy⟩ : KV' K e y Ev ∧ ∃ N, RIw K V sN e Ev x y N ∧ still N ∧ (∀ t0, t = some t0 → kfi sN Ev.1 t0 = none → HBs sN N Ev t0 6) ∧ W = ((pt K 68 (nn y, L ++ N)).bind (pXq K f)).bind (pan (74, nn x, 0)) ∧ K (nn x) = 16 ∧ ∃ N2, PDp sN V K Ev x y t N b2 i2 [(f2, N2)] := by
      rcases hSy with ⟨e, -⟩ | ⟨-, e⟩
      · exact absurd c e
      · exact e
    refine kd_need hq 28 68 (by decide) (by decide) (by decide) (fun no => hx (by rw [hW, pt_no no]; rfl)) hBy hRy (fun kk c7 z hBz nz gz en hRz _ hcz => ?_)
    rw [pt_yes kk c7] at hW
    have hW2 : W = (pX K false f (nn z) (L ++ N)).bind (pan (74, nn x, 0)) := by rw [hW, en]; rfl
    have bz0 := hBz.1.1.2.1
    refine kd_sum hq D (L ++ N) (fun q9 => hx (by rw [eF] at q9; rw [hW2, q9]; rfl)) hBz hRz.1 hRz.2.1 (KV_GS gz hEy) (by omega) (by omega) (fun r w hBw nw gw N2 hRw hN2 hpX hcp hrr => ?_)
    rw [eF] at hpX
    obtain ⟨N30, hPw⟩ := PDp_xp (PDp_fr hPy hcz) hpX hcp gw hrr
    have gg := GS_tr gz gw
    have hFw : SFp K V sN e Ev x t L W (sOp o a) a b2 i2 r f2 w := by
      refine ⟨KV_GS gg hEy, N ++ N2 ++ [(74, nn x, 0)], ?_, still_app (still_app hN hN2) (stl_k (by decide)), fun t0 e1 e2 => HBs_app.mpr (Or.inl (HBs_app.mpr (Or.inl (h6 t0 e1 e2)))), ?_, fun z9 hz9 => ?_⟩
      · have r1 := RI_app bz0 hN hRz gw.1 hRw
        exact ⟨r1.1, r1.2.1, UR_dull r1.2.2 (dull_k (by decide))⟩
      · rw [hW2, hpX]
        show some (nn w, L ++ N ++ N2 ++ [(74, nn x, 0)]) = _
        rw [List.append_assoc L, List.append_assoc L]
      · refine PD_74c hPw hEv (KV_GS gg hEy) hTc hK16 ?_
        have e16 : sOp o a = 4 := by unfold sOp; rw [c, if_neg (fun q => absurd q.1 (by decide))]
        rw [e16] at hz9
        exact hz9
    exact p211 w o b2 i2 r f2 hFw (GS_tr gy gg) hBw (by omega) h1 (fun c => PLc_La gg.1 (h2 c)) h3 (h4.imp id (fun e => e.imp id (La_BU gg.1)))
  intro y o b2 i2 e2 hSy gy hBy ny h1 h2 h3 h4
  have ln := gy.1.2.1
  refine kg_X7_source_174 hq _ _ _ _ _ _ _ ⟨fun c => ?_, fun c => p189 y o b2 i2 e2 _ ?_ gy hBy (ny c) h1 h2 h3 h4⟩
  · obtain ⟨hA, hn, hEy, L1, hno, hyes⟩ : KA K V sN e y ∧ nn y ≤ e ∧ KV' K e y Ev ∧ ∃ L1, (pX K false f (nn y) L1 = none → W = none) ∧ ∀ w N2 r, GS y w → RIw K V sN e Ev y w N2 → still N2 → KV' K e w Ev → pX K false f (nn y) L1 = some (nn w, L1 ++ N2) → CPl y w (sPs sN V K Ev N2) → r = y.1 60 3 → S189 K V sN e Ev x t L W f o a b2 i2 e2 r w := by
      rcases hSy with ⟨e, -⟩ | ⟨-, e⟩
      · exact absurd e c
      · exact e
    exact kd_sum hq D L1 (fun q9 => hx (hno (by rw [eF] at q9; exact q9))) hBy hA hn hEy (by omega) (by omega) (fun r w hBw nw gw N2 hRw hN2 hpX hcp hrr => p189 w o b2 i2 e2 r (hyes w N2 r gw hRw hN2 (KV_GS gw hEy) (by rw [eF] at hpX; exact hpX) hcp hrr) (GS_tr gy gw) hBw (by omega) h1 (fun c => PLc_La gw.1 (h2 c)) h3 (h4.imp id (fun e => e.imp id (La_BU gw.1))))
  · rcases hSy with ⟨-, e⟩ | ⟨e, -⟩
    · exact Or.inl ⟨by rw [c]; decide, e⟩
    · exact absurd c e
theorem kd_src163 (hq : kV q) (hx : W = none → RX x0 X) (hB : BB x0 x M E0) (hf : (f : Int) + om x = 16) (ha : 2 * ssm x ≤ nx x + 1) (l a b : Int32) (hl : (a = -1 ∧ PLc x b) ∨ (¬ a = -1 ∧ 0 ≤ a.toInt ∧ a.toInt < M)) (hEv : ¬ Ev.2.1 = []) (hTc : TGc sN Ev t a b) (h : ∀ y, BB x0 y M E0 → nx x < nx y → om y = om x → ssm y = ssm x + 1 → (y.1 100 9 = x.1 100 9 ∧ y.1 100 7 = x.1 100 7 ∧ y.1 60 13 = x.1 60 13 ∧ (∀ k, y.1 20 k = x.1 20 k) ∧ OPe x y) → La x y → SFin K V sN e Ev x t L W y → Fv y) (D : Int32) (eD : D.toInt = om x + 1) :
    ∀ (y : gd) (o b2 i2 e2 : Int32), S163 K V sN e Ev x t L W f o a b2 i2 e2 y → GS x y → BB x0 y M E0 → nx x < nx y → ¬ o = 16 → (o = 0 ∨ o = 2 ∨ o = 3 ∨ o = 4 ∨ o = 16) → PLc y b2 → (¬ a = -1 ∨ o = 16 ∨ BU y) → KE G q (d + 10) zk_X7_source 163 [(0, vr 100), (1, vi l), (2, vi a), (4, vi D), (5, vi o), (6, vi b2), (7, vi i2), (8, vi e2)] [] y (rv Fv) X := by
  intro y o b2 i2 e2 hSy gy hBy ny h0 h1 h2 h4
  have p174 := kd_src174 (d := d) (G := G) hq hx hB hf ha l a b hl hEv hTc h D eD
  refine kg_X7_source_163 hq _ _ _ _ _ _ _ ⟨fun c => p174 y o b2 i2 e2 ?_ gy hBy (fun _ => ny) h1 (fun _ => h2) (fun q => absurd q h0) h4, fun c => ?_⟩
  · rcases hSy with e | ⟨e, -⟩
    · exact Or.inl e
    · exact absurd c e
  obtain ⟨h16, hEy, N, hRy, hN, h6, hW, hop, he2, hPy⟩ : (o = 4 ↔ K (nn x) = 16) ∧ KV' K e y Ev ∧ ∃ N, RIw K V sN e Ev x y N ∧ still N ∧ (∀ t0, t = some t0 → kfi sN Ev.1 t0 = none → HBs sN N Ev t0 6) ∧ W = ((pt K 68 (nn y, L ++ N)).bind (pXq K f)).bind (fun q => (if K (nn x) = 16 then (pt K 68 q).bind (pXq K f) else some q).bind (pan (74, nn x, 0))) ∧ o = Int32.ofNat (opX (K (nn x))) ∧ e2 = -1 ∧ PDp sN V K Ev x y t N b2 i2 [] := by
    rcases hSy with ⟨e, -⟩ | ⟨-, e⟩
    · exact absurd e c
    · exact e
  refine kd_need hq 28 68 (by decide) (by decide) (by decide) (fun no => hx (by rw [hW, pt_no no]; rfl)) hBy hRy (fun kk c7 z hBz nz gz en hRz _ hcz => ?_)
  rw [pt_yes kk c7] at hW
  have hW2 : W = (pX K false f (nn z) (L ++ N)).bind (fun q => (if K (nn x) = 16 then (pt K 68 q).bind (pXq K f) else some q).bind (pan (74, nn x, 0))) := by rw [hW, en]; rfl
  have bz0 := hBz.1.1.2.1
  refine p174 z o b2 i2 e2 (Or.inr ⟨c, hRz.1, hRz.2.1, KV_GS gz hEy, L ++ N, fun q9 => by rw [hW2, q9]; rfl, fun w N2 r gw hRw hN2 hEw hpX hcp hrr => ?_⟩) (GS_tr gy gz) hBz (fun _ => by omega) h1 (fun _ => PLc_La gz.1 h2) (fun q => absurd q h0) (h4.imp id (fun e => e.imp id (La_BU gz.1)))
  obtain ⟨N20, hPw⟩ := PDp_xp (PDp_fr hPy hcz) hpX hcp gw hrr
  rw [hpX] at hW2
  have r1 := RI_app bz0 hN hRz gw.1 hRw
  have h62 : ∀ t0, t = some t0 → kfi sN Ev.1 t0 = none → HBs sN (N ++ N2) Ev t0 6 := fun t0 e1 e2 => HBs_app.mpr (Or.inl (h6 t0 e1 e2))
  by_cases c4 : o = 4
  · refine Or.inr ⟨c4, hEw, N ++ N2, r1, still_app hN hN2, h62, ?_, h16.mp c4, N20, hPw⟩
    have hW3 : W = (if K (nn x) = 16 then (pt K 68 (nn w, L ++ N ++ N2)).bind (pXq K f) else some (nn w, L ++ N ++ N2)).bind (pan (74, nn x, 0)) := hW2
    rw [hW3, if_pos (h16.mp c4), List.append_assoc]
  · refine Or.inl ⟨c4, hEw, N ++ N2 ++ [(74, nn x, 0)], ⟨r1.1, r1.2.1, UR_dull r1.2.2 (dull_k (by decide))⟩, still_app (still_app hN hN2) (stl_k (by decide)), fun t0 e1 e2 => HBs_app.mpr (Or.inl (h62 t0 e1 e2)), ?_, fun z9 hz9 => PD_74 hPw hEv hEw hTc (fun q => c4 (h16.mpr q)) hop (by
      have e16 : sOp o a = o := by unfold sOp; rw [if_neg (fun q => h0 q.1)]
      rw [e16, he2] at hz9
      exact hz9)⟩
    have hW3 : W = (if K (nn x) = 16 then (pt K 68 (nn w, L ++ N ++ N2)).bind (pXq K f) else some (nn w, L ++ N ++ N2)).bind (pan (74, nn x, 0)) := hW2
    rw [hW3, if_neg (fun q => c4 (h16.mpr q))]
    show some (nn w, L ++ N ++ N2 ++ [(74, nn x, 0)]) = _
    rw [List.append_assoc L, List.append_assoc L]
end KSRG
end
section
/-! the class: a place -/
section KPLC
variable {G : kG} {q : kP} {d : Nat} {x x0 y z xs : gd} {F : Int32 → gd → Prop} {Fv : gd → Prop} {X : String → gd → Prop} {P : Option gv → gd → Prop} {M : Int} {E : Nat → Prop} {K V : Nat → Int32} {sN : Nat → Nat → Bool} {e : Nat} {Ev : gV} {Np : gU} {L : gU} {W : gOp} {f : Nat} {kont : Nat × gU → gOp} {tg : Option Nat}
theorem kd_place (hq : kV q) (hx : W = none → RX x0 X) (hWp : W = (pP K f (nn y) (L ++ Np)).bind kont) (hBy : BB x0 y M E0) (hA : KA K V sN e y) (hn : nn y ≤ e) (hEy : KV' K e y Ev) (D : Int32) (eF : 17 - D.toNatClampNeg = f) (hD1 : 1 ≤ D.toInt) (hD2 : D.toInt ≤ 18) (u s9 i2 : Int32) (hu12 : ¬ u = 12) (h25 : ¬ s9 = 0 ↔ y.1 23 ((y.1 100 4).toNatClampNeg + 1) = 25) (hN : still Np) (hEv : ¬ Ev.2.1 = []) (hi2 : i2 = -1) (hPD : PD sN V K Ev x y tg Np [] 0 false) (h4 : (y.1 100 4).toInt = ((nn y : Nat) : Int))
    (hm6 : s9 = 0 → ∀ z, La y z → nn z = nn y + 1 → KA K V sN e z → nn z ≤ e → z.1 42 (nn y) = u → RIw K V sN e Ev x z (Np ++ [(6, nn y, 0)]))
    (hm7 : ¬ s9 = 0 → ∀ z, La y z → nn z = nn y + 1 → KA K V sN e z → nn z ≤ e → z.1 42 (nn y) = u → RIw K V sN e Ev x z (Np ++ [(7, nn y, 0)]))
    (C : Int32 → Int32 → gd → Prop)
    (hC : ∀ (i9 : Int32) (w : gd) (N3 : gU), BB x0 w M E0 → GS y w → nx y < nx w → w.1 42 (nn y) = u → RIw K V sN e Ev x w (Np ++ N3) → still (Np ++ N3) → KV' K e w Ev → W = kont (nn w, L ++ (Np ++ N3)) → PDp sN V K Ev x w tg (Np ++ N3) (y.1 100 4) i9 [] → C (y.1 100 4) i9 w) :
    KE G q (d + 9) zk_X7_needFor 0 [(0, vr 100), (1, vi 2), (2, vi u)] [] y (ri (fun r4 x3 => ((s9 = (0 : Int32) → C r4 i2 x3) ∧ (¬ (s9 = (0 : Int32)) → KE G q (d + 9) zk_X7_pass 0 [(0, vr 100)] [] x3 (rv (fun x6 => KE G q (d + 9) zk_X7_sum 0 [(0, vr 100), (1, vi D)] [] x6 (ri (fun r8 x7 => KE G q (d + 9) zk_X7_need 0 [(0, vr 100), (1, vi 26)] [] x7 (rv (fun x9 => C r4 r8 x9)) X)) X)) X)))) X := by
  refine kd_needFor hq 2 u 1 (by decide) (by decide) (by decide) hu12 (fun no => hx (by rw [hWp]; unfold pP; rw [if_neg no]; rfl)) hBy hA hn (fun kk c7 z hBz nz gz en hAz hnz eu ht hcz => ?_)
  have on1 : nn y + 1 ≤ e := by omega
  have k25 : y.1 23 (nn y + 1) = 25 ↔ K (nn y + 1) = 65 := KA_k hA on1 25 (by decide)
  have hW1 : W = (if K (nn y + 1) = 65 then (if nn y + 1 < 700 then (pX K false f (nn y + 2) (L ++ Np ++ [(7, nn y, 0)])).bind (pt K 66) else none) else some (nn y + 1, L ++ Np ++ [(6, nn y, 0)])).bind kont := by
    rw [hWp]; unfold pP; rw [if_pos ⟨kk, c7⟩]
  refine ⟨fun c => ?_, fun c => ?_⟩
  · have n65 : ¬ K (nn y + 1) = 65 := fun q => (h25.mpr (k25.mpr q)) c
    rw [if_neg n65] at hW1
    refine hC i2 z [(6, nn y, 0)] hBz gz (by omega) eu (hm6 c z gz.1 en hAz hnz eu) (still_app hN (stl_k (by decide))) (KV_GS gz hEy) ?_ ⟨nn y, false, [], h4, Or.inl ⟨rfl, hi2, rfl⟩, PD_6 (PD_fr hPD hcz) hEv⟩
    rw [hW1, en, ← List.append_assoc]
    rfl
  have h65 : K (nn y + 1) = 65 := k25.mp (h25.mp c)
  rw [if_pos h65] at hW1
  have hRz := hm7 c z gz.1 en hAz hnz eu
  refine kd_pass hq (fun c9 => hx ?_) hBz hRz (by rw [en, h65]; decide) (by rw [en, h65]; decide) (fun c9 w hBw nw gw enw hRw uw hcw => ?_)
  · rw [hW1, if_neg (by omega)]; rfl
  rw [if_pos (by omega)] at hW1
  have en2 : nn w = nn y + 2 := by omega
  have hEw := KV_GS gw (KV_GS gz hEy)
  refine kd_sum hq D (L ++ Np ++ [(7, nn y, 0)]) (fun q9 => hx ?_) hBw hRw.1 hRw.2.1 hEw hD1 hD2 (fun r v hBv nv gv N2 hRv hN2 hpX hcp hrr => ?_)
  · rw [eF, en2] at q9
    rw [hW1, q9]; rfl
  rw [eF, en2] at hpX
  obtain ⟨N20, -, hPv⟩ := PD_xp (PD_7 (i := nn y) (PD_fr (PD_fr hPD hcz) hcw) hEv) hpX hcp gv hrr
  rw [hpX] at hW1
  have hW2 : W = (pt K 66 (nn v, L ++ Np ++ [(7, nn y, 0)] ++ N2)).bind kont := hW1
  have bw0 := hBw.1.1.2.1
  have hst : still (Np ++ [(7, nn y, 0)]) := still_app hN (stl_k (by decide))
  have hRxv := RI_app bw0 hst hRw gv.1 hRv
  refine kd_need hq 26 66 (by decide) (by decide) (by decide) (fun no => hx (by rw [hW2, pt_no no]; rfl)) hBv hRxv (fun kk2 c72 t hBt nt gt ent hRt _ hct => ?_)
  rw [pt_yes kk2 c72] at hW2
  have bz0 := hBz.1.1.2.1
  have bv0 := hBv.1.1.2.1
  have gg := GS_tr (GS_tr gw gv) gt
  obtain ⟨-, la⟩ := La_nn bz0 gg.1
  refine hC r t ([(7, nn y, 0)] ++ N2) hBt (GS_tr gz gg) (by omega) (by rw [la _ (by omega)]; exact eu) (by rw [← List.append_assoc]; exact hRt) (by rw [← List.append_assoc]; exact still_app hst hN2) (KV_GS gt (KV_GS gv hEw)) ?_ ⟨nn y, true, [(r, N20)], h4, Or.inr ⟨rfl, N20, rfl⟩, by rw [← List.append_assoc]; exact PD_fr hPv hct⟩
  rw [hW2, ent, ← List.append_assoc, ← List.append_assoc]
  rfl
end KPLC
end
section
/-! the class: what stands behind = -/
section KSO2
variable {sN : Nat → Nat → Bool} {U : Nat → Int32} {n : Nat} {Ev : gV} {a b j : Nat} {u : Int32}
theorem HA_24 : HAw sN U n Ev (24, a, b) ↔ a < n ∧ (kfi sN Ev.1 a = none → U a = 6) := by unfold HAw; simp
theorem HA_25 : HAw sN U n Ev (25, a, b) ↔ a < n ∧ (kfi sN Ev.1 a = none → U a = 6) := by unfold HAw; simp
theorem HA_26 : HAw sN U n Ev (26, a, b) ↔ (kfi sN Ev.1 a = none → ∃ j, j < n ∧ (U j = 9 ∨ U j = 10)) := by unfold HAw; simp
theorem HA_27 : HAw sN U n Ev (27, a, b) ↔ (b < n ∧ (kfi sN Ev.1 b = none → (kfi sN Ev.1 a = none → U b = 8) ∧ (¬ kfi sN Ev.1 a = none → U b = 6))) ∧ a < n ∧ (kfi sN Ev.1 a = none → U a = 6) := by unfold HAw; simp
theorem HB_6 : HB sN Ev (6, a, b) a 6 := by unfold HB; simp
theorem HB_7 : HB sN Ev (7, a, b) a 7 := by unfold HB; simp
theorem HB_24 (h : kfi sN Ev.1 a = none) : HB sN Ev (24, a, b) a 6 := by unfold HB; simp [h]
theorem HB_25 (h : kfi sN Ev.1 a = none) : HB sN Ev (25, a, b) a 6 := by unfold HB; simp [h]
theorem HB_26 (h : kfi sN Ev.1 a = none) (hu : u = 6 ∨ u = 9 ∨ u = 10) : HB sN Ev (26, a, b) j u := by unfold HB; simp [h, hu]
theorem HB_27a (h : kfi sN Ev.1 b = none) (g : kfi sN Ev.1 a = none) : HB sN Ev (27, a, b) j 8 := by unfold HB; simp [h, g]
theorem HB_27b (h : kfi sN Ev.1 b = none) (g : ¬ kfi sN Ev.1 a = none) : HB sN Ev (27, a, b) b 6 := Or.inr (Or.inr (Or.inr (Or.inr (Or.inr (Or.inr (Or.inr (Or.inr (Or.inl ⟨rfl, rfl, rfl, h, g⟩))))))))
theorem HB_27c (g : kfi sN Ev.1 a = none) : HB sN Ev (27, a, b) a 6 := Or.inr (Or.inr (Or.inr (Or.inr (Or.inr (Or.inr (Or.inr (Or.inr (Or.inr (Or.inl ⟨rfl, rfl, rfl, g⟩)))))))))
theorem pme_still {t : Option Nat} : still (pme t) := by
  cases t with
  | none => exact still_nil
  | some t => exact stl_k (by decide)
theorem pma_still {t : Option Nat} : still (pma t) := by
  cases t with
  | none => exact still_nil
  | some t => exact stl_k (by decide)
theorem pal_still {t : Option Nat} {i : Nat} : still [pal t i] := by
  cases t with
  | none => exact stl_k (by decide)
  | some t => exact stl_k (by decide)
theorem pme_6 {t : Option Nat} {M : gU} : ∀ t0, t = some t0 → kfi sN Ev.1 t0 = none → HBs sN (pme t ++ M) Ev t0 6 := fun t0 e h => by
  rw [e]
  exact HBs_app.mpr (Or.inl (HBs_one.mpr (HB_26 h (Or.inl rfl))))
theorem pma_6 {t : Option Nat} {M : gU} : ∀ t0, t = some t0 → kfi sN Ev.1 t0 = none → HBs sN (pma t ++ M) Ev t0 6 := fun t0 e h => by
  rw [e]
  exact HBs_app.mpr (Or.inl (HBs_one.mpr (HB_25 h)))
theorem pal_6 {t : Option Nat} {i : Nat} : ∀ t0, t = some t0 → kfi sN Ev.1 t0 = none → HBs sN [pal t i] Ev t0 6 := fun t0 e h => by
  rw [e]
  exact HBs_one.mpr (HB_27c h)
end KSO2
/-- where it goes: a local, or a cell by its name -/
def TGT (sN : Nat → Nat → Bool) (Ev : gV) (x : gd) (t : Option Nat) (a : Int32) : Prop := (t = none ∧ ¬ a = -1) ∨ ∃ t0, t = some t0 ∧ t0 < nn x ∧ ((a = -1 ∧ kfi sN Ev.1 t0 = none ∧ x.1 42 t0 = 6) ∨ (¬ a = -1 ∧ ¬ kfi sN Ev.1 t0 = none))
section KSO3
variable {G : kG} {q : kP} {d : Nat} {x x0 y z xs : gd} {F : Int32 → gd → Prop} {Fv : gd → Prop} {X : String → gd → Prop} {P : Option gv → gd → Prop} {M : Int} {E : Nat → Prop} {K V : Nat → Int32} {sN : Nat → Nat → Bool} {e : Nat} {Ev : gV} {L : gU} {f : Nat} {t : Option Nat} {a : Int32}
theorem TGT_me (h : TGT sN Ev x t a) {U : Nat → Int32} {n : Nat} (h2 : a = -1 → ∃ j, j < n ∧ (U j = 9 ∨ U j = 10)) : HAs sN U n (pme t) Ev := by
  rcases h with ⟨e, -⟩ | ⟨t0, e, -, h⟩
  · rw [e]; exact trivial
  · rw [e]
    refine HAs_one.mpr (HA_26.mpr (fun hk => ?_))
    rcases h with ⟨ea, -⟩ | ⟨-, ek⟩
    · exact h2 ea
    · exact absurd hk ek
theorem TGT_meB (h : TGT sN Ev x t a) (ha : a = -1) {j : Nat} {u : Int32} (hu : u = 6 ∨ u = 9 ∨ u = 10) : HBs sN (pme t) Ev j u := by
  rcases h with ⟨-, e⟩ | ⟨t0, e, -, h⟩
  · exact absurd ha e
  · rw [e]
    rcases h with ⟨-, ek, -⟩ | ⟨ea, -⟩
    · exact HBs_one.mpr (HB_26 ek hu)
    · exact absurd ha ea
theorem TGT_ma (h : TGT sN Ev x t a) (h0 : 0 ≤ nx x) (l : La x y) : HAs sN (y.1 42) (nn y) (pma t) Ev := by
  obtain ⟨n1, n2⟩ := La_nn h0 l
  rcases h with ⟨e, -⟩ | ⟨t0, e, h1, h⟩
  · rw [e]; exact trivial
  · rw [e]
    refine HAs_one.mpr (HA_25.mpr ⟨by omega, fun hk => ?_⟩)
    rcases h with ⟨-, -, e6⟩ | ⟨-, ek⟩
    · rw [n2 _ h1]; exact e6
    · exact absurd hk ek
/-- a name alone: a cell's (use u), or a local's (u = 0) -/
theorem TGT_al (h : TGT sN Ev x t a) (h0 : 0 ≤ nx x) (l : La x y) (en : nn y = nn x + 1) {u : Int32} (hu : y.1 42 (nn x) = u) (hc : (kfi sN Ev.1 (nn x) = none ∧ ((a = -1 ∧ u = 8) ∨ (¬ a = -1 ∧ u = 6))) ∨ (¬ kfi sN Ev.1 (nn x) = none ∧ u = 0)) : UR sN Ev x y [pal t (nn x)] := by
  obtain ⟨n1, n2⟩ := La_nn h0 l
  have one : ∀ j, nn x ≤ j → j < nn y → j = nn x := fun j h1 h2 => by omega
  rcases h with ⟨e, na⟩ | ⟨t0, e, h1, h⟩
  · rw [e]
    refine ⟨HAs_one.mpr (HA_24.mpr ⟨by omega, fun hk => ?_⟩), fun j j1 j2 j3 => HBs_one.mpr ?_⟩
    · rcases hc with ⟨-, ⟨ea, -⟩ | ⟨-, eu⟩⟩ | ⟨ek, -⟩
      · exact absurd ea na
      · rw [hu]; exact eu
      · exact absurd hk ek
    · rw [one j j1 j2, hu] at j3 ⊢
      rcases hc with ⟨ek, ⟨ea, -⟩ | ⟨-, eu⟩⟩ | ⟨-, eu⟩
      · exact absurd ea na
      · rw [eu]; exact HB_24 ek
      · exact absurd eu j3
  · rw [e]
    have kt : a = -1 ↔ kfi sN Ev.1 t0 = none := by
      rcases h with ⟨e1, e2, -⟩ | ⟨e1, e2⟩
      · exact ⟨fun _ => e2, fun _ => e1⟩
      · exact ⟨fun q => absurd q e1, fun q => absurd q e2⟩
    refine ⟨HAs_one.mpr (HA_27.mpr ⟨⟨by omega, fun hk => ⟨fun hk2 => ?_, fun hk2 => ?_⟩⟩, by omega, fun hk => ?_⟩), fun j j1 j2 j3 => HBs_one.mpr ?_⟩
    · rw [hu]
      rcases hc with ⟨-, ⟨-, eu⟩ | ⟨ea, -⟩⟩ | ⟨ek, -⟩
      · exact eu
      · exact absurd (kt.mpr hk2) ea
      · exact absurd hk ek
    · rw [hu]
      rcases hc with ⟨-, ⟨ea, -⟩ | ⟨-, eu⟩⟩ | ⟨ek, -⟩
      · exact absurd (kt.mp ea) hk2
      · exact eu
      · exact absurd hk ek
    · rcases h with ⟨-, -, e6⟩ | ⟨-, ek⟩
      · rw [n2 _ h1]; exact e6
      · exact absurd hk ek
    · rw [one j j1 j2, hu] at j3 ⊢
      rcases hc with ⟨ek, ⟨ea, eu⟩ | ⟨ea, eu⟩⟩ | ⟨-, eu⟩
      · rw [eu]; exact HB_27a ek (kt.mp ea)
      · rw [eu]; exact HB_27b ek (fun q => ea (kt.mpr q))
      · exact absurd eu j3
end KSO3
end
section
/-! the class: what stands behind = , the whole -/
section KSO4
variable {G : kG} {q : kP} {d : Nat} {x x0 y z xs : gd} {F : Int32 → gd → Prop} {Fv : gd → Prop} {X : String → gd → Prop} {P : Option gv → gd → Prop} {M : Int} {E : Nat → Prop} {K V : Nat → Int32} {sN : Nat → Nat → Bool} {e : Nat} {Ev : gV} {L : gU} {f : Nat} {t : Option Nat} {W : gOp}
theorem sOp_16 {a : Int32} : sOp 16 a = if a = -1 then 1 else 16 := by
  unfold sOp
  by_cases c : a = -1
  · rw [if_pos ⟨rfl, c⟩, if_pos c]
  · rw [if_neg (fun q => c q.2), if_neg c]
theorem kd_srcS (hq : kV q) (hx : W = none → RX x0 X) (eW : W = pR K f t (nn x) L) (hB : BB x0 x M E0) (hf : (f : Int) + om x = 16) (ha : 2 * ssm x ≤ nx x + 1) (l a b : Int32) (hl : (a = -1 ∧ PLc x b) ∨ (¬ a = -1 ∧ 0 ≤ a.toInt ∧ a.toInt < M)) (hEv : ¬ Ev.2.1 = []) (hTc : TGc sN Ev t a b) (hT : TGT sN Ev x t a) (hA : KA K V sN e x) (hn : nn x ≤ e) (hE : KV' K e x Ev) (h : ∀ y, BB x0 y M E0 → nx x < nx y → om y = om x → ssm y = ssm x + 1 → (y.1 100 9 = x.1 100 9 ∧ y.1 100 7 = x.1 100 7 ∧ y.1 60 13 = x.1 60 13 ∧ (∀ k, y.1 20 k = x.1 20 k) ∧ OPe x y) → La x y → SFin K V sN e Ev x t L W y → Fv y) (D : Int32) (eD : D.toInt = om x + 1) (i2 e2 : Int32) (hi2 : i2 = -1) (he2 : e2 = -1) (hS : ¬ (K (nn x) = 35 ∨ K (nn x) = 10 ∨ K (nn x) = 16)) (hS2 : K (nn x) = 1 → nn x < 700 → ¬ K (nn x + 1) = 65 ∧ (K (nn x + 1) = 67 → ¬ kfi sN Ev.1 (nn x) = none)) : KE G q (d + 10) zk_X7_source 68 [(0, vr 100), (1, vi l), (2, vi a), (4, vi D), (5, vi (16 : Int32)), (6, vi b), (7, vi i2), (8, vi e2)] [] x (rv Fv) X := by
  have b0 := hB.1.1.2.1
  have he2' := he2
  have p174 := kd_src174 (d := d) (G := G) hq hx hB hf ha l a b hl hEv hTc h D eD
  refine kg_X7_source_68 hq _ _ _ _ _ _ _ ⟨fun _ => p174 x 16 b i2 e2 (Or.inr ⟨by decide, hA, hn, hE, ?_⟩) GS_rf hB (fun q => absurd q (by decide)) (by decide) (fun q => absurd rfl q) (fun _ => rfl) (Or.inr (Or.inl rfl)), fun q => absurd rfl q⟩
  by_cases c : K (nn x) = 1 ∧ nn x < 700 ∧ K (nn x + 1) = 67
  · obtain ⟨c1, c7, c67⟩ := c
    have hk := (hS2 c1 c7).2 c67
    have hW : W = if nn x < 700 ∧ 1 ≤ f then some (nn x + 1, L ++ [pal t (nn x)]) else none := by
      rw [eW]; unfold pR
      rw [if_neg hS, if_neg (fun z => (hS2 c1 c7).1 z.2.2), if_pos ⟨c1, c67⟩]
    refine ⟨L, fun q9 => ?_, fun w N2 r gw hRw hN2 hEw hpX hcp hrr => ?_⟩
    · cases f with
      | zero => rw [hW, if_neg (fun z => absurd z.2 (by decide))]
      | succ f => rw [pX_name c1 c67 c7] at q9; exact absurd q9 (by simp)
    · cases f with
      | zero => exact absurd hpX (by rw [pX_f0]; simp)
      | succ f =>
        rw [pX_name c1 c67 c7] at hpX
        have e1 := Option.some.inj hpX
        have e2 : nn x + 1 = nn w := congrArg Prod.fst e1
        have e3 : L ++ [(3, nn x, 0)] ++ [(54, 0, 0)] = L ++ N2 := congrArg Prod.snd e1
        rw [List.append_assoc] at e3
        have e4 : N2 = [(3, nn x, 0)] ++ [(54, 0, 0)] := (List.append_cancel_left e3).symm
        have u0 : w.1 42 (nn x) = 0 := by
          by_cases c0 : w.1 42 (nn x) = 0
          · exact c0
          · exfalso
            have g := hRw.2.2.2 (nn x) (Nat.le_refl _) (by omega) c0
            rw [e4] at g
            rcases HBs_app.mp g with g | g
            · have g := HBs_one.mp g
              unfold HB at g
              simp at g
              exact hk g.2
            · have g := HBs_one.mp g
              unfold HB at g
              simp at g
        refine Or.inl ⟨by decide, hEw, [pal t (nn x)], ⟨hRw.1, hRw.2.1, TGT_al hT b0 gw.1 e2.symm u0 (Or.inr ⟨hk, rfl⟩)⟩, pal_still, pal_6, ?_, fun z9 hz9 => ?_⟩
        · rw [hW, if_pos ⟨c7, by omega⟩, e2]
        · rw [sOp_16, hi2, he2'] at hz9
          rw [e4] at hcp
          exact PD_als (PD_x (PD_0 (fun c k _ => rfl) (Or.inr rfl)) (sEv_one (Or.inr (Or.inr (Or.inr (Or.inr (Or.inl ⟨rfl, rfl⟩)))))) hcp (GS_su gw) hrr) hEv hEw hTc hk hz9
  · have hW : W = (pX K false f (nn x) (L ++ pma t)).bind (pan (76, nn x, 0)) := by
      by_cases c7 : nn x < 700
      · rw [eW]; unfold pR
        rw [if_neg hS, if_neg (fun z => (hS2 z.1 c7).1 z.2.2), if_neg (fun z => c ⟨z.1, c7, z.2⟩)]
      · rw [eW, pR_7 (by omega), pX_7 (by omega)]; rfl
    refine ⟨L ++ pma t, fun q9 => by rw [hW, q9]; rfl, fun w N2 r gw hRw hN2 hEw hpX hcp hrr => ?_⟩
    obtain ⟨N20, -, hPw⟩ := PD_xp (PD_0 (x := x) (y := x) (t := t) (fun c k _ => rfl) (Or.inr rfl)) hpX hcp gw hrr
    have hu : UR sN Ev x w (pma t ++ N2) := ⟨HAs_app.mpr ⟨TGT_ma hT b0 gw.1, by rw [exs_still pma_still]; exact hRw.2.2.1⟩, fun j h1 h2 h3 => HBs_app.mpr (Or.inr (by rw [exs_still pma_still]; exact hRw.2.2.2 j h1 h2 h3))⟩
    refine Or.inl ⟨by decide, hEw, pma t ++ N2 ++ [(76, nn x, 0)], ⟨hRw.1, hRw.2.1, UR_dull hu (dull_k (by decide))⟩, still_app (still_app pma_still hN2) (stl_k (by decide)), fun t0 e1 e2 => HBs_app.mpr (Or.inl (pma_6 t0 e1 e2)), ?_, fun z9 hz9 => PD_76 hPw hEv hEw hTc (by
      rw [sOp_16, hi2, he2] at hz9
      exact hz9)⟩
    rw [hW, hpX]
    show some (nn w, L ++ pma t ++ N2 ++ [(76, nn x, 0)]) = _
    rw [List.append_assoc L, List.append_assoc L]
theorem kd_srcX (hq : kV q) (hx : W = none → RX x0 X) (eW : W = pR K f t (nn x) L) (hB : BB x0 x M E0) (hf : (f : Int) + om x = 16) (ha : 2 * ssm x ≤ nx x + 1) (l a b : Int32) (hl : (a = -1 ∧ PLc x b) ∨ (¬ a = -1 ∧ 0 ≤ a.toInt ∧ a.toInt < M)) (hEv : ¬ Ev.2.1 = []) (hTc : TGc sN Ev t a b) (hT : TGT sN Ev x t a) (hA : KA K V sN e x) (hn : nn x ≤ e) (hE : KV' K e x Ev) (h : ∀ y, BB x0 y M E0 → nx x < nx y → om y = om x → ssm y = ssm x + 1 → (y.1 100 9 = x.1 100 9 ∧ y.1 100 7 = x.1 100 7 ∧ y.1 60 13 = x.1 60 13 ∧ (∀ k, y.1 20 k = x.1 20 k) ∧ OPe x y) → La x y → SFin K V sN e Ev x t L W y → Fv y) (D : Int32) (eD : D.toInt = om x + 1) (o i2 e2 : Int32) (hi2 : i2 = -1) (he2 : e2 = -1) (hcy : ∀ c k, ccS c k → y.1 c k = x.1 c k) (ho : (o = 2 ∧ K (nn x) = 35) ∨ (o = 3 ∧ K (nn x) = 10) ∨ (o = 4 ∧ K (nn x) = 16)) (gy : GS x y) (hBy : BB x0 y M E0) (hRy : RIw K V sN e Ev x y (pme t)) (eny : nn y = nn x + 1) (c7 : nn x < 700) (hbu : ¬ a = -1 ∨ BU y) : KE G q (d + 10) zk_X7_source 68 [(0, vr 100), (1, vi l), (2, vi a), (4, vi D), (5, vi o), (6, vi b), (7, vi i2), (8, vi e2)] [] y (rv Fv) X := by
  have o1 := (BB_om hB).1
  have by0 := hBy.1.1.2.1
  have bx0 := hB.1.1.2.1
  have cy := nn_is by0
  have cx := nn_is bx0
  have p163 := kd_src163 (d := d) (G := G) hq hx hB hf ha l a b hl hEv hTc h D eD
  have eF : 17 - D.toNatClampNeg = f := by
    have u := t_cl D
    omega
  have hex : K (nn x) = 35 ∨ K (nn x) = 10 ∨ K (nn x) = 16 := ho.imp (fun z => z.2) (fun z => z.imp (fun z => z.2) (fun z => z.2))
  have n0 : ¬ o = 0 ∧ ¬ o = 16 := by rcases ho with ⟨e, -⟩ | ⟨e, -⟩ | ⟨e, -⟩ <;> rw [e] <;> decide
  have o5 : o = 0 ∨ o = 2 ∨ o = 3 ∨ o = 4 ∨ o = 16 := Or.inr (by rcases ho with ⟨e, -⟩ | ⟨e, -⟩ | ⟨e, -⟩ <;> rw [e] <;> decide)
  have hop : o = Int32.ofNat (opX (K (nn x))) := by rcases ho with ⟨e, k⟩ | ⟨e, k⟩ | ⟨e, k⟩ <;> rw [e, k] <;> rfl
  have h16 : o = 4 ↔ K (nn x) = 16 := by rcases ho with ⟨e, k⟩ | ⟨e, k⟩ | ⟨e, k⟩ <;> rw [e, k] <;> decide
  have hWp : W = (pP K f (nn y) (L ++ pme t)).bind (fun q => ((pt K 68 q).bind (pXq K f)).bind (fun q => (if K (nn x) = 16 then (pt K 68 q).bind (pXq K f) else some q).bind (pan (74, nn x, 0)))) := by
    rw [eW, eny]; unfold pR
    rw [if_pos hex, if_pos c7, Option.bind_assoc, Option.bind_assoc]
    congr 1
    funext r
    rw [Option.bind_assoc]
  have p132 : ∀ s9 : Int32, (¬ s9 = 0 ↔ y.1 23 ((y.1 100 4).toNatClampNeg + 1) = 25) → KE G q (d + 10) zk_X7_source 132 [(0, vr 100), (1, vi l), (2, vi a), (4, vi D), (5, vi o), (7, vi i2), (8, vi e2), (9, vi s9)] [vi 0, vi s9, vi 2, vr 100] y (rv Fv) X := by
    intro s9 h25
    have go : ∀ u : Int32, ((s9 = 0 ∧ u = 6) ∨ (¬ s9 = 0 ∧ u = 7)) → KE G q (d + 9) zk_X7_needFor 0 [(0, vr 100), (1, vi 2), (2, vi u)] [] y (ri (fun r4 x3 => ((s9 = (0 : Int32) → KE G q (d + 10) zk_X7_source 163 [(0, vr 100), (1, vi l), (2, vi a), (4, vi D), (5, vi o), (6, vi r4), (7, vi i2), (8, vi e2)] [] x3 (rv Fv) X) ∧ (¬ (s9 = (0 : Int32)) → KE G q (d + 9) zk_X7_pass 0 [(0, vr 100)] [] x3 (rv (fun x6 => KE G q (d + 9) zk_X7_sum 0 [(0, vr 100), (1, vi D)] [] x6 (ri (fun r8 x7 => KE G q (d + 9) zk_X7_need 0 [(0, vr 100), (1, vi 26)] [] x7 (rv (fun x9 => KE G q (d + 10) zk_X7_source 163 [(0, vr 100), (1, vi l), (2, vi a), (4, vi D), (5, vi o), (6, vi r4), (7, vi r8), (8, vi e2)] [] x9 (rv Fv) X)) X)) X)) X)))) X := by
      intro u hu
      have hu2 : u = 6 ∨ u = 7 := hu.imp (fun z => z.2) (fun z => z.2)
      refine kd_place (x := x) hq hx hWp hBy hRy.1 hRy.2.1 (KV_GS gy hE) D eF (by omega) (by omega) u s9 i2 (by rcases hu2 with e | e <;> rw [e] <;> decide) h25 pme_still hEv hi2 (PD_0 hcy (Or.inl rfl)) cy.symm (fun c z lz en hAz hnz eu => ?_) (fun c z lz en hAz hnz eu => ?_) (fun r4 i9 w => KE G q (d + 10) zk_X7_source 163 [(0, vr 100), (1, vi l), (2, vi a), (4, vi D), (5, vi o), (6, vi r4), (7, vi i9), (8, vi e2)] [] w (rv Fv) X) (fun i9 w N3 hBw gw nw uw hRw hNw hEw hWw hPw => ?_)
      · have e6 : u = 6 := by
          rcases hu with ⟨-, e⟩ | ⟨e, -⟩
          · exact e
          · exact absurd c e
        rw [e6] at eu
        exact RI_use hRy by0 lz hAz hnz en (HAs_one.mpr (HA_6.mpr ⟨by omega, eu⟩)) (fun _ => HBs_one.mpr (by rw [eu]; exact HB_6))
      · have e7 : u = 7 := by
          rcases hu with ⟨e, -⟩ | ⟨-, e⟩
          · exact absurd e c
          · exact e
        rw [e7] at eu
        exact RI_use hRy by0 lz hAz hnz en (HAs_one.mpr (HA_7.mpr ⟨by omega, Or.inl eu⟩)) (fun _ => HBs_one.mpr (by rw [eu]; exact HB_7))
      · refine p163 w o _ i9 e2 (Or.inr ⟨n0.1, h16, hEw, pme t ++ N3, hRw, hNw, pme_6, hWw, hop, he2, hPw⟩) (GS_tr gy gw) hBw (by omega) n0.2 o5 ⟨nn y, by rw [cy], by omega, ?_⟩ (hbu.imp id (fun z => Or.inr (La_BU gw.1 z)))
        rw [uw]
        exact hu2.imp id Or.inl
    exact kg_X7_source_132 hq _ _ _ _ _ _ _ _ _ _ (kg_X7_useOfCell_0 hq _ _ ⟨fun c => ⟨fun _ => ri_i (go _ (Or.inl ⟨c, rfl⟩)), fun z => absurd rfl z⟩, fun c => ⟨fun _ => ri_i (go _ (Or.inr ⟨c, rfl⟩)), fun z => absurd rfl z⟩⟩)
  have p89 : ∀ s9 : Int32, (¬ s9 = 0 ↔ y.1 23 ((y.1 100 4).toNatClampNeg + 1) = 25) → KE G q (d + 10) zk_X7_source 89 [(0, vr 100), (1, vi l), (2, vi a), (4, vi D), (5, vi o), (7, vi i2), (8, vi e2)] [vi s9] y (rv Fv) X := fun s9 h25 => kg_X7_source_89 hq _ _ _ _ _ _ _ ⟨fun _ => kg_X7_source_113 hq _ _ _ _ _ _ _ ⟨fun _ => p132 s9 h25, fun z => absurd z n0.1⟩, fun z => absurd z n0.1⟩
  exact kg_X7_source_68 hq _ _ _ _ _ _ _ ⟨fun z => absurd z n0.2, fun _ => kp_sortBehind hq hBy.1.1 ⟨fun c => p89 0 ⟨fun z => absurd rfl z, fun z => absurd z c⟩, fun c => p89 1 ⟨fun _ => c, fun _ => by decide⟩⟩⟩
end KSO4
end
section
/-! the class: what stands behind = , reading a cell; and all of it -/
section KSO5
variable {G : kG} {q : kP} {d : Nat} {x x0 y z xs : gd} {F : Int32 → gd → Prop} {Fv : gd → Prop} {X : String → gd → Prop} {P : Option gv → gd → Prop} {M : Int} {E : Nat → Prop} {K V : Nat → Int32} {sN : Nat → Nat → Bool} {e : Nat} {Ev : gV} {L : gU} {f : Nat} {t : Option Nat} {W : gOp}
theorem kd_srcR (hq : kV q) (hx : W = none → RX x0 X) (eW : W = pR K f t (nn x) L) (hB : BB x0 x M E0) (hf : (f : Int) + om x = 16) (ha : 2 * ssm x ≤ nx x + 1) (l a b : Int32) (hl : (a = -1 ∧ PLc x b) ∨ (¬ a = -1 ∧ 0 ≤ a.toInt ∧ a.toInt < M)) (hEv : ¬ Ev.2.1 = []) (hTc : TGc sN Ev t a b) (hT : TGT sN Ev x t a) (hA : KA K V sN e x) (hn : nn x ≤ e) (hE : KV' K e x Ev) (h : ∀ y, BB x0 y M E0 → nx x < nx y → om y = om x → ssm y = ssm x + 1 → (y.1 100 9 = x.1 100 9 ∧ y.1 100 7 = x.1 100 7 ∧ y.1 60 13 = x.1 60 13 ∧ (∀ k, y.1 20 k = x.1 20 k) ∧ OPe x y) → La x y → SFin K V sN e Ev x t L W y → Fv y) (D : Int32) (eD : D.toInt = om x + 1) (i2 e2 : Int32) (hi2 : i2 = -1) (he2 : e2 = -1) (hk1 : K (nn x) = 1) (hk2 : nn x < 700 → K (nn x + 1) = 65 ∨ (K (nn x + 1) = 67 ∧ kfi sN Ev.1 (nn x) = none)) : KE G q (d + 10) zk_X7_source 68 [(0, vr 100), (1, vi l), (2, vi a), (4, vi D), (5, vi (0 : Int32)), (6, vi b), (7, vi i2), (8, vi e2)] [] x (rv Fv) X := by
  have o1 := (BB_om hB).1
  have bx0 := hB.1.1.2.1
  have cx := nn_is bx0
  have k16 : (16 : Int32).toInt = 16 := rfl
  have p163 := kd_src163 (d := d) (G := G) hq hx hB hf ha l a b hl hEv hTc h D eD
  have so0 : sOp 0 a = 0 := by unfold sOp; rw [if_neg (fun q => absurd q.1 (by decide))]
  have eF : 17 - D.toNatClampNeg = f := by
    have u := t_cl D
    omega
  have nex : ¬ (K (nn x) = 35 ∨ K (nn x) = 10 ∨ K (nn x) = 16) := by rw [hk1]; decide
  have on1 : nn x < 700 → nn x + 1 ≤ e := fun c => KA_on hA hn c (by rw [hk1]; decide) (by rw [hk1]; decide)
  have k25 : nn x < 700 → (x.1 23 (nn x + 1) = 25 ↔ K (nn x + 1) = 65) := fun c => KA_k hA (on1 c) 25 (by decide)
  have bu : ∀ (u : Int32) (w : gd), ((¬ a = -1 ∧ (u = 6 ∨ u = 7)) ∨ (a = -1 ∧ (u = 8 ∨ u = 9))) → nx x < nx w → w.1 42 (nn x) = u → ¬ a = -1 ∨ (0 : Int32) = 16 ∨ BU w := by
    intro u w hu hw eu
    rcases hu with ⟨e, -⟩ | ⟨-, e⟩
    · exact Or.inl e
    · refine Or.inr (Or.inr ⟨nn x, by omega, ?_⟩)
      rw [eu]
      rcases e with e | e
      · exact Or.inr (Or.inl e)
      · exact Or.inr (Or.inr (Or.inl e))
  have row : ∀ s9 s0 : Int32, ¬ s9 = 0 → x.1 23 ((x.1 100 4).toNatClampNeg + 1) = 25 → ((¬ a = -1 ∧ s0 = 0) ∨ (a = -1 ∧ s0 = 1)) → KE G q (d + 10) zk_X7_source 132 [(0, vr 100), (1, vi l), (2, vi a), (4, vi D), (5, vi 0), (7, vi i2), (8, vi e2), (9, vi s9)] [vi s0, vi s9, vi 2, vr 100] x (rv Fv) X := by
    intro s9 s0 hs9 h25 hs0
    have hWp : W = (pP K f (nn x) (L ++ pme t)).bind (pan (75, nn x, 0)) := by
      by_cases c7 : nn x < 700
      · rw [eW]; unfold pR
        rw [if_neg nex, if_pos ⟨hk1, c7, (k25 c7).mp h25⟩]
      · rw [eW, pR_7 (by omega)]; unfold pP
        rw [if_neg (fun z => c7 z.2)]; rfl
    have go : ∀ u : Int32, ((¬ a = -1 ∧ u = 7) ∨ (a = -1 ∧ u = 9)) → KE G q (d + 9) zk_X7_needFor 0 [(0, vr 100), (1, vi 2), (2, vi u)] [] x (ri (fun r4 x3 => ((s9 = (0 : Int32) → KE G q (d + 10) zk_X7_source 163 [(0, vr 100), (1, vi l), (2, vi a), (4, vi D), (5, vi 0), (6, vi r4), (7, vi i2), (8, vi e2)] [] x3 (rv Fv) X) ∧ (¬ (s9 = (0 : Int32)) → KE G q (d + 9) zk_X7_pass 0 [(0, vr 100)] [] x3 (rv (fun x6 => KE G q (d + 9) zk_X7_sum 0 [(0, vr 100), (1, vi D)] [] x6 (ri (fun r8 x7 => KE G q (d + 9) zk_X7_need 0 [(0, vr 100), (1, vi 26)] [] x7 (rv (fun x9 => KE G q (d + 10) zk_X7_source 163 [(0, vr 100), (1, vi l), (2, vi a), (4, vi D), (5, vi 0), (6, vi r4), (7, vi r8), (8, vi e2)] [] x9 (rv Fv) X)) X)) X)) X)))) X := by
      intro u hu
      have hu2 : u = 7 ∨ u = 9 := hu.imp (fun z => z.2) (fun z => z.2)
      refine kd_place (x := x) hq hx hWp hB hA hn hE D eF (by omega) (by omega) u s9 i2 (by rcases hu2 with e | e <;> rw [e] <;> decide) ⟨fun _ => h25, fun _ => hs9⟩ pme_still hEv hi2 (PD_0 (fun c k _ => rfl) (Or.inl rfl)) cx.symm (fun c => absurd c hs9) (fun c z lz en hAz hnz eu => ?_) (fun r4 i9 w => KE G q (d + 10) zk_X7_source 163 [(0, vr 100), (1, vi l), (2, vi a), (4, vi D), (5, vi 0), (6, vi r4), (7, vi i9), (8, vi e2)] [] w (rv Fv) X) (fun i9 w N3 hBw gw nw uw hRw hNw hEw hWw hPw => ?_)
      · refine ⟨hAz, hnz, HAs_app.mpr ⟨TGT_me hT (fun ea => ⟨nn x, by omega, Or.inl ?_⟩), HAs_one.mpr (HA_7.mpr ⟨by omega, by rw [eu]; exact hu2⟩)⟩, fun j h1 h2 h3 => HBs_app.mpr ?_⟩
        · rcases hu with ⟨e, -⟩ | ⟨-, e⟩
          · exact absurd ea e
          · rw [eu]; exact e
        · have ej : j = nn x := by omega
          rw [ej, eu]
          rcases hu with ⟨-, e⟩ | ⟨ea, e⟩
          · rw [e]; exact Or.inr (HBs_one.mpr HB_7)
          · rw [e]; exact Or.inl (TGT_meB hT ea (Or.inr (Or.inl rfl)))
      · have hF : SFp K V sN e Ev x t L W (sOp 0 a) a (x.1 100 4) i9 e2 (-1) w := by
          refine ⟨hEw, pme t ++ N3 ++ [(75, nn x, 0)], ⟨hRw.1, hRw.2.1, UR_dull hRw.2.2 (dull_k (by decide))⟩, still_app hNw (stl_k (by decide)), fun t0 e1 e2 => HBs_app.mpr (Or.inl (pme_6 t0 e1 e2)), ?_, fun z9 hz9 => PD_75 hPw hEv hEw hTc (by rw [so0, he2] at hz9; exact hz9)⟩
          rw [hWw]
          show some (nn w, L ++ (pme t ++ N3) ++ [(75, nn x, 0)]) = _
          rw [List.append_assoc L]
        refine p163 w 0 _ i9 e2 (Or.inl ⟨rfl, hF⟩) gw hBw nw (by decide) (by decide) ⟨nn x, by rw [cx], by omega, ?_⟩ (bu u w (hu.imp (fun z => ⟨z.1, Or.inr z.2⟩) (fun z => ⟨z.1, Or.inr z.2⟩)) nw uw)
        rw [uw]
        rcases hu2 with e | e
        · exact Or.inr (Or.inl e)
        · exact Or.inr (Or.inr (Or.inr e))
    refine kg_X7_source_132 hq _ _ _ _ _ _ _ _ _ _ (kg_X7_useOfCell_0 hq _ _ ⟨fun c => absurd c hs9, fun c => ⟨fun c0 => ri_i (go _ (Or.inl ⟨?_, rfl⟩)), fun c0 => ri_i (go _ (Or.inr ⟨?_, rfl⟩))⟩⟩)
    · rcases hs0 with ⟨e, -⟩ | ⟨-, e⟩
      · exact e
      · rw [e] at c0; exact absurd c0 (by decide)
    · rcases hs0 with ⟨-, e⟩ | ⟨e, -⟩
      · exact absurd e c0
      · exact e
  have alone : ∀ s0 : Int32, ¬ x.1 23 ((x.1 100 4).toNatClampNeg + 1) = 25 → 1 ≤ f → ((¬ a = -1 ∧ s0 = 0) ∨ (a = -1 ∧ s0 = 1)) → KE G q (d + 10) zk_X7_source 132 [(0, vr 100), (1, vi l), (2, vi a), (4, vi D), (5, vi 0), (7, vi i2), (8, vi e2), (9, vi 0)] [vi s0, vi 0, vi 2, vr 100] x (rv Fv) X := by
    intro s0 h25 hf1 hs0
    have go : ∀ u : Int32, ((a = -1 ∧ u = 8) ∨ (¬ a = -1 ∧ u = 6)) → KE G q (d + 9) zk_X7_needFor 0 [(0, vr 100), (1, vi 2), (2, vi u)] [] x (ri (fun r4 x3 => (((0 : Int32) = (0 : Int32) → KE G q (d + 10) zk_X7_source 163 [(0, vr 100), (1, vi l), (2, vi a), (4, vi D), (5, vi 0), (6, vi r4), (7, vi i2), (8, vi e2)] [] x3 (rv Fv) X) ∧ (¬ ((0 : Int32) = (0 : Int32)) → KE G q (d + 9) zk_X7_pass 0 [(0, vr 100)] [] x3 (rv (fun x6 => KE G q (d + 9) zk_X7_sum 0 [(0, vr 100), (1, vi D)] [] x6 (ri (fun r8 x7 => KE G q (d + 9) zk_X7_need 0 [(0, vr 100), (1, vi 26)] [] x7 (rv (fun x9 => KE G q (d + 10) zk_X7_source 163 [(0, vr 100), (1, vi l), (2, vi a), (4, vi D), (5, vi 0), (6, vi r4), (7, vi r8), (8, vi e2)] [] x9 (rv Fv) X)) X)) X)) X)))) X := by
      intro u hu
      have hu2 : u = 8 ∨ u = 6 := hu.imp (fun z => z.2) (fun z => z.2)
      refine kd_needFor hq 2 u 1 (by decide) (by decide) (by decide) (by rcases hu2 with e | e <;> rw [e] <;> decide) (fun no => hx (by rw [eW]; exact pR_7 (by
        by_cases c7 : nn x < 700
        · exact absurd ⟨hk1, c7⟩ no
        · omega))) hB hA hn (fun kk c7 z hBz nz gz en hAz hnz eu ht hcz => ⟨fun _ => ?_, fun q => absurd rfl q⟩)
      have n65 : ¬ K (nn x + 1) = 65 := fun z => h25 ((k25 c7).mpr z)
      obtain ⟨h67, hk⟩ := (hk2 c7).resolve_left n65
      have hF : SFp K V sN e Ev x t L W (sOp 0 a) a (x.1 100 4) i2 e2 (-1) z := by
        refine ⟨KV_GS gz hE, [pal t (nn x)], ⟨hAz, hnz, TGT_al hT bx0 gz.1 en eu (Or.inl ⟨hk, hu⟩)⟩, pal_still, pal_6, ?_, fun z9 hz9 => PD_al hcz (KV_GS gz hE) hTc hk cx.symm (by rw [so0, hi2, he2] at hz9; exact hz9)⟩
        rw [eW]; unfold pR
        rw [if_neg nex, if_neg (fun z => n65 z.2.2), if_pos ⟨hk1, h67⟩, if_pos ⟨c7, hf1⟩, en]
      refine p163 z 0 _ i2 e2 (Or.inl ⟨rfl, hF⟩) gz hBz (by omega) (by decide) (by decide) ⟨nn x, by rw [cx], by omega, ?_⟩ (bu u z (hu.symm.imp (fun z => ⟨z.1, Or.inl z.2⟩) (fun z => ⟨z.1, Or.inl z.2⟩)) (by omega) eu)
      rw [eu]
      rcases hu2 with e | e
      · exact Or.inr (Or.inr (Or.inl e))
      · exact Or.inl e
    refine kg_X7_source_132 hq _ _ _ _ _ _ _ _ _ _ (kg_X7_useOfCell_0 hq _ _ ⟨fun _ => ⟨fun c0 => ri_i (go _ (Or.inr ⟨?_, rfl⟩)), fun c0 => ri_i (go _ (Or.inl ⟨?_, rfl⟩))⟩, fun c => absurd rfl c⟩)
    · rcases hs0 with ⟨e, -⟩ | ⟨-, e⟩
      · exact e
      · rw [e] at c0; exact absurd c0 (by decide)
    · rcases hs0 with ⟨-, e⟩ | ⟨e, -⟩
      · exact absurd e c0
      · exact e
  refine kg_X7_source_68 hq _ _ _ _ _ _ _ ⟨fun z => absurd z (by decide), fun _ => kp_sortBehind hq hB.1.1 ⟨fun c => kg_X7_source_89 hq _ _ _ _ _ _ _ ⟨fun z => absurd rfl z, fun _ => ⟨fun z => absurd rfl z, fun _ => ⟨fun cD => kg_X7_source_113 hq _ _ _ _ _ _ _ ⟨fun z => absurd rfl z, fun _ => ⟨fun ca => alone 0 c ?_ (Or.inl ⟨ca, rfl⟩), fun ca => alone 1 c ?_ (Or.inr ⟨ca, rfl⟩)⟩⟩, fun cD => kd_refuse hq (hx ?_) hB _⟩⟩⟩, fun c => kg_X7_source_89 hq _ _ _ _ _ _ _ ⟨fun z => absurd rfl z, fun _ => ⟨fun _ => kg_X7_source_113 hq _ _ _ _ _ _ _ ⟨fun z => absurd rfl z, fun _ => ⟨fun ca => row 1 0 (by decide) c (Or.inl ⟨ca, rfl⟩), fun ca => row 1 1 (by decide) c (Or.inr ⟨ca, rfl⟩)⟩⟩, fun z => absurd z (by decide)⟩⟩⟩⟩
  · rw [t_le, k16] at cD; omega
  · rw [t_le, k16] at cD; omega
  · rw [t_le, k16] at cD
    by_cases c7 : nn x < 700
    · have n65 : ¬ K (nn x + 1) = 65 := fun z => c ((k25 c7).mpr z)
      obtain ⟨h67, hk⟩ := (hk2 c7).resolve_left n65
      rw [eW]; unfold pR
      rw [if_neg nex, if_neg (fun z => n65 z.2.2), if_pos ⟨hk1, h67⟩, if_neg (by omega)]
    · rw [eW]; exact pR_7 (by omega)
theorem kd_source (hq : kV q) (hx : W = none → RX x0 X) (eW : W = pR K f t (nn x) L) (hB : BB x0 x M E0) (hf : (f : Int) + om x = 16) (ha : 2 * ssm x ≤ nx x + 1) (l a b : Int32) (hl : (a = -1 ∧ PLc x b) ∨ (¬ a = -1 ∧ 0 ≤ a.toInt ∧ a.toInt < M)) (hEv : ¬ Ev.2.1 = []) (hTc : TGc sN Ev t a b) (hT : TGT sN Ev x t a) (hA : KA K V sN e x) (hn : nn x ≤ e) (hE : KV' K e x Ev) (h : ∀ y, BB x0 y M E0 → nx x < nx y → om y = om x → ssm y = ssm x + 1 → (y.1 100 9 = x.1 100 9 ∧ y.1 100 7 = x.1 100 7 ∧ y.1 60 13 = x.1 60 13 ∧ (∀ k, y.1 20 k = x.1 20 k) ∧ OPe x y) → La x y → SFin K V sN e Ev x t L W y → Fv y) : KE G q (d + 10) zk_X7_source 0 [(0, vr 100), (1, vi l), (2, vi a), (3, vi b)] [] x (rv Fv) X := by
  obtain ⟨o1, o2⟩ := BB_om hB
  have bx0 := hB.1.1.2.1
  have cx := nn_is bx0
  have eD := o2 (by omega)
  obtain ⟨D, hD⟩ : ∃ D, D = x.1 100 13 + 1 := ⟨_, rfl⟩
  rw [← hD] at eD
  have p41 : ∀ (o i2 e2 : Int32), i2 = -1 → e2 = -1 → ((o = 2 ∧ K (nn x) = 35) ∨ (o = 3 ∧ K (nn x) = 10) ∨ (o = 4 ∧ K (nn x) = 16)) → KE G q (d + 10) zk_X7_source 41 [(0, vr 100), (1, vi l), (2, vi a), (4, vi D), (5, vi o), (6, vi b), (7, vi i2), (8, vi e2)] [] x (rv Fv) X := by
    intro o i2 e2 hi2 he2 ho
    have hkk : ¬ K (nn x) = 0 ∧ ¬ K (nn x) = 3 := by rcases ho with ⟨-, k⟩ | ⟨-, k⟩ | ⟨-, k⟩ <;> rw [k] <;> decide
    have p63 : ∀ u : Int32, ((u = 0 ∧ ¬ a = -1) ∨ (u = 10 ∧ a = -1)) → KE G q (d + 10) zk_X7_source 63 [(0, vr 100), (1, vi l), (2, vi a), (4, vi D), (5, vi o), (6, vi b), (7, vi i2), (8, vi e2)] [vi u, vi (x.1 100 4), vr 42] x (rv Fv) X := by
      intro u hu
      refine kg_X7_source_63 hq _ _ _ _ _ _ _ _ _ ⟨RB_at hB.1.1, fun x2 ex2 => ?_⟩
      have f2 : fm (fun c k => c = 42 ∧ k = (x.1 100 4).toNatClampNeg) x x2 := by rw [ex2]; exact fm_si (fm_rf _ _) ⟨rfl, rfl⟩
      have u2 : x2.1 42 (x.1 100 4).toNatClampNeg = u := by rw [ex2]; (simp only [si_get, sfl_get, Nat.reduceEqDiff, eq_self, and_false, false_and, and_true, true_and, if_true, if_false, reduceIte, reduceCtorEq])
      have q4 : x2.1 100 4 = x.1 100 4 := f2 _ _ (by omega)
      have eN := BB_N hB
      have n2 : nx x2 = nx x := by unfold nx; rw [q4]
      have la2 : La x x2 := ⟨fun c k q1 q2 => f2 c k (by omega), by omega, fun j hj => f2 42 j (by omega)⟩
      have S2 : SU x2 := by
        obtain ⟨⟨hT, b1, b2, b3⟩, ⟨u1, u2⟩, hp, hP⟩ := hB.1
        unfold SU SV US RB mt
        rw [f2 20 7 (by omega), f2 60 3 (by omega), n2]
        refine ⟨⟨kT_fm hT la2.1, b1, b2, b3⟩, ⟨fun j h1 h2 => ?_, fun j h1 h2 => ?_⟩, hp, fun i hi => La_PQ la2 (f2 _ _ (by omega)) (f2 _ _ (by omega)) (hP i hi)⟩
        · rw [f2 42 j (by omega)]; exact u1 j h1 h2
        · rw [f2 42 j (by omega)] at h2; rw [f2 42 _ (by omega)]; exact u2 j h1 h2
      have z2 : fm sR x0 x2 := fm_tr hB.2.2.2.2.2.1 (fm_w f2 (fun c k q => by unfold sR; omega))
      refine kf_pass hq z2 (fun c7 => hx (by rw [eW]; exact pR_7 (by omega))) S2 (by rw [q4, f2 23 _ (by omega)]; exact sort_n0 hA hn hkk.1) (by rw [q4, u2]; rcases hu with ⟨rfl, -⟩ | ⟨rfl, -⟩ <;> decide) (fun c7 y f n S fr la _ => ?_)
      have g : GS x y := ⟨La_tr la2 la, fm_tr (fm_w f2 (fun c k q => by unfold sSum; omega)) (fm_w f (fun c k q => by unfold sSum; omega))⟩
      have SUy : SU y := by unfold SU; rw [f 60 3 (by omega)]; exact S
      have i7 : nn x < 700 := by omega
      have ny : nn y = nn x + 1 := nn_up bx0 (by omega)
      have uy : y.1 42 (nn x) = u := by rw [f 42 _ (by omega)]; exact u2
      refine kd_srcX hq hx eW hB hf ha l a b hl hEv hTc hT hA hn hE h D eD o i2 e2 hi2 he2 (fun c k q9 => (f c k (by unfold ccS at q9; omega)).trans (f2 c k (by unfold ccS at q9; omega))) ho g (BB_on hB SUy fr g) ⟨KA_fm hA g.1.1, by rw [ny]; exact KA_on hA hn i7 hkk.1 hkk.2, TGT_me hT (fun ea => ⟨nn x, by omega, Or.inr ?_⟩), fun j h1 h2 h3 => ?_⟩ ny i7 ?_
      · rcases hu with ⟨-, e⟩ | ⟨e, -⟩
        · exact absurd ea e
        · rw [uy]; exact e
      · have ej : j = nn x := by omega
        rw [ej, uy] at h3 ⊢
        rcases hu with ⟨e, -⟩ | ⟨e, ea⟩
        · exact absurd e h3
        · exact TGT_meB hT ea (Or.inr (Or.inr e))
      · rcases hu with ⟨-, e⟩ | ⟨e, -⟩
        · exact Or.inl e
        · refine Or.inr ⟨nn x, by omega, ?_⟩
          rw [uy, e]
          decide
    exact kg_X7_source_41 hq _ _ _ _ _ _ _ ⟨fun c => p63 _ (Or.inl ⟨rfl, c⟩), fun c => p63 _ (Or.inr ⟨rfl, c⟩)⟩
  refine kg_X7_source_0 hq _ _ _ (kd_sourceOp hq hB hA hn hE (fun r hr => ?_))
  rw [← hD]
  have ex : (r = 2 ∨ r = 3 ∨ r = 4) → ((r = 2 ∧ K (nn x) = 35) ∨ (r = 3 ∧ K (nn x) = 10) ∨ (r = 4 ∧ K (nn x) = 16)) := by
    intro c
    rcases hr with e | e | e | ⟨e, -⟩ | ⟨e, -⟩
    · exact Or.inl e
    · exact Or.inr (Or.inl e)
    · exact Or.inr (Or.inr e)
    · rw [e] at c; exact absurd c (by decide)
    · rw [e] at c; exact absurd c (by decide)
  refine ⟨fun c => p41 r _ _ rfl rfl (ex (Or.inl c)), fun c2 => ⟨fun c => p41 r _ _ rfl rfl (ex (Or.inr (Or.inl c))), fun c3 => ⟨fun c4 => ?_, fun c => p41 r _ _ rfl rfl (ex (Or.inr (Or.inr c)))⟩⟩⟩
  rcases hr with ⟨e, -⟩ | ⟨e, -⟩ | ⟨e, -⟩ | ⟨e, e1, e2⟩ | ⟨e, e1, e2⟩
  · exact absurd e c2
  · exact absurd e c3
  · exact absurd e c4
  · rw [e]; exact kd_srcR hq hx eW hB hf ha l a b hl hEv hTc hT hA hn hE h D eD _ _ rfl rfl e1 e2
  · rw [e]; exact kd_srcS hq hx eW hB hf ha l a b hl hEv hTc hT hA hn hE h D eD _ _ rfl rfl e1 e2
end KSO5
end
section
/-! the class: locals, blocks -/
section KBL
variable {G : kG} {q : kP} {d : Nat} {x x0 y z : gd} {F : Int32 → gd → Prop} {Fv : gd → Prop} {X : String → gd → Prop} {P : Option gv → gd → Prop} {M : Int} {E : Nat → Prop}
/-- known locals, lets and most locals change -/
theorem BB_kn (hB : BB x0 x M E) {M' : Int} (hM : M ≤ M') (f : fm (fun c k => (c = 100 ∧ (k = 7 ∨ k = 9)) ∨ c = 109 ∨ (c = 60 ∧ k = 13)) x z) (hK : KN z) (h1 : (x.1 100 9).toInt ≤ (z.1 100 9).toInt) (h2 : (z.1 100 9).toInt ≤ (z.1 100 7).toInt ∧ (z.1 100 7).toInt ≤ 8) (h3 : 0 ≤ (z.1 60 13).toInt ∧ (z.1 60 13).toInt ≤ 8) (h4 : (z.1 100 9).toInt ≤ (z.1 60 13).toInt) : BB x0 z M' E := by
  obtain ⟨hS, hF, ⟨r1, r2, r3, ⟨r4, r6⟩, r7⟩, hC, r5, r0, hI⟩ := hB
  have e4 : nx z = nx x := by unfold nx; rw [f 100 4 (by omega)]
  have es : ssm z = ssm x := by unfold ssm; rw [f 80 9 (by omega)]
  have eo : om z = om x := by unfold om; rw [f 100 13 (by omega)]
  have z5 : z.1 100 5 = x.1 100 5 := f _ _ (by omega)
  have la : La x z := ⟨fun c k q1 q2 => f c k (by omega), by omega, fun j _ => f 42 j (by omega)⟩
  refine ⟨?_, ?_, ⟨fun c => ⟨hK, ?_⟩, NM_fm r2 (fun c k q1 q2 q3 q4 => f c k (by omega)) (f _ _ (by omega)) (f _ _ (by omega)), ?_, ⟨by omega, fun i hi => SA_La la (f _ _ (by omega)) (f _ _ (by omega)) (f _ _ (by omega)) (f _ _ (by omega)) hM (r6 i (by omega))⟩, ?_⟩, fun i hi he => ?_, by rw [z5]; exact r5, fm_tr r0 (fm_w f (fun c k q => by unfold sR; omega)), TR_eq hI id (f _ _ (by omega)) (fun k => f _ _ (by omega))⟩
  · obtain ⟨⟨hT, b1, b2, b3⟩, ⟨u1, u2⟩, hp, hP⟩ := hS
    unfold SU SV US RB mt
    rw [f 20 7 (by omega), f 60 3 (by omega), e4]
    refine ⟨⟨kT_fm hT la.1, b1, b2, b3⟩, ⟨fun j h1 h2 => ?_, fun j h1 h2 => ?_⟩, hp, fun i hi => La_PQ la (f _ _ (by omega)) (f _ _ (by omega)) (hP i hi)⟩
    · rw [f 42 j (by omega)]; exact u1 j h1 h2
    · rw [f 42 j (by omega)] at h2; rw [f 42 _ (by omega)]; exact u2 j h1 h2
  · unfold FR at hF ⊢
    rw [f 100 4 (by omega), f 42 _ (by omega)]; exact hF
  · obtain ⟨k1, o1, o2, o3, o4⟩ := r1 r5
    unfold OPs
    rw [eo]
    refine ⟨o1, fun k hk => ?_, fun j k hj hk => ?_, h2⟩
    · have := o2 k hk
      unfold OP1 sop ssm at this ⊢
      rw [f 111 k (by omega), f 112 k (by omega), f 113 k (by omega), f 80 9 (by omega)]
      refine ⟨this.1, fun c => ?_, this.2.2.1, by omega⟩
      obtain ⟨p1, s, p2, p3, p4⟩ := this.2.1 c
      exact ⟨p1, s, p2, p3, by rw [f 81 s (by omega)]; exact p4⟩
    · rw [f 113 j (by omega), f 113 k (by omega)]; exact o3 j k hj hk
  · unfold CD at r3 ⊢
    rw [f 60 6 (by omega), f 60 9 (by omega), f 60 10 (by omega), f 60 14 (by omega), f 60 16 (by omega), z5, f 40 8 (by omega), f 40 10 (by omega)]
    exact ⟨r3.1, r3.2.1, r3.2.2.1, r3.2.2.2.1, r3.2.2.2.2.1, h3, fun _ => h4⟩
  · unfold TS at r7 ⊢
    rw [f 60 10 (by omega), z5, es]
    refine ⟨fun t ht => ?_, fun c => absurd c r5⟩
    rw [f 72 t (by omega)]; exact r7.1 t ht
  · exact SC_eq (fun j => f _ _ (by omega)) (f _ _ (by omega)) (f _ _ (by omega)) (f _ _ (by omega)) z5 (fun j => f _ _ (by omega)) (hC i (by omega) he)
theorem BB_k (hB : BB x0 x M E) : KN x ∧ OPs x ∧ CD x := ⟨(hB.2.2.1.1 hB.2.2.2.2.1).1, (hB.2.2.1.1 hB.2.2.2.2.1).2, hB.2.2.1.2.2.1⟩
end KBL
end
section
/-! the class: the name before = -/
section KTG
variable {G : kG} {q : kP} {d : Nat} {x x0 y z xs : gd} {F : Int32 → gd → Prop} {Fv : gd → Prop} {X : String → gd → Prop} {P : Option gv → gd → Prop} {M : Int} {E : Nat → Prop} {K V : Nat → Int32} {sN : Nat → Nat → Bool} {e : Nat} {Ev : gV} {Ml N : gU}
theorem kd_setTarget (hq : kV q) (hx : ¬ ((K (nn x) = 1 ∧ nn x < 700) ∧ K (nn x + 1) = 50 ∧ nn x + 1 < 700) → RX x0 X) (hA : KA K V sN e x) (hn : nn x ≤ e) (hE : KV' K e x Ev) (hB : BB x0 x M E) (hM : (x.1 100 9).toInt ≤ M) (h : ∀ t y, BB x0 y M E → nx y = nx x + 2 → om y = om x → ssm y = ssm x → vp_in t 702 → ((y.1 43 t.toNatClampNeg = -1 ∧ PLc y t) ∨ (¬ y.1 43 t.toNatClampNeg = -1 ∧ 0 ≤ (y.1 43 t.toNatClampNeg).toInt ∧ (y.1 43 t.toNatClampNeg).toInt < M)) → y.1 60 13 = x.1 60 13 → t = x.1 100 4 → ((K (nn x) = 1 ∧ nn x < 700) ∧ K (nn x + 1) = 50 ∧ nn x + 1 < 700) → nn y = nn x + 2 → La x y → KA K V sN e y → nn y ≤ e → KV' K e y Ev → y.1 42 (nn x + 1) = 0 → ((y.1 43 (nn x) = -1 ∧ kfi sN Ev.1 (nn x) = none ∧ y.1 42 (nn x) = 6) ∨ (¬ y.1 43 (nn x) = -1 ∧ ¬ kfi sN Ev.1 (nn x) = none ∧ y.1 42 (nn x) = 0)) → OPe x y → TGc sN Ev (some (nn x)) (y.1 43 (nn x)) t → (∀ c k, ccS c k → y.1 c k = x.1 c k) → F t y) : KE G q (d + 8) zk_X7_setTarget 0 [(0, vr 100)] [] x (ri F) X := by
  refine kg_X7_setTarget_0 hq (kd_needFor hq 2 0 1 (by decide) (by decide) (by decide) (by decide) (fun no => hx (fun z => no z.1)) hB hA hn (fun kk c7 y hBy ny gy en hAy hny eu ht hcy => ?_))
  have eu : y.1 42 (x.1 100 4).toNatClampNeg = 0 := eu
  have bx0 := hB.1.1.2.1
  have cx := nn_is bx0
  obtain ⟨ky, oy, cy⟩ := BB_k hBy
  have vt := (kT_at hBy.1.1.1 ht).1
  have k0 : (0 : Int32).toInt = 0 := rfl
  have y9 : y.1 100 9 = x.1 100 9 := GS_at gy _ _ (by unfold sSum; omega)
  have eN := BB_N hB
  refine kf_knownFrom hq hBy.1.1.1 ky hAy (KV_GS gy hE) _ _ (by decide) ht hn kk (fun r hr9 => ⟨vt, fun z ez => ?_⟩)
  have e9 := hE.1
  have hr : (r = -1 ∧ kfi sN Ev.1 (nn x) = none) ∨ ((0 ≤ r.toInt ∧ r.toInt < (y.1 100 9).toInt) ∧ ¬ kfi sN Ev.1 (nn x) = none) := by
    rcases hr9 with ⟨e1, e2⟩ | ⟨n, e1, e2, e3, e4, -⟩
    · exact Or.inl ⟨e1, kfi_of e2⟩
    · exact Or.inr ⟨by rw [y9]; omega, by rw [show nn x = (x.1 100 4).toNatClampNeg from rfl, e4]; simp⟩
  have hTr : TGc sN Ev (some (nn x)) r (x.1 100 4) := by
    rcases hr9 with ⟨e1, e2⟩ | ⟨n, e1, e2, e3, e4, -⟩
    · exact Or.inl ⟨kfi_of e2, e1, nn x, rfl, cx.symm⟩
    · exact Or.inr ⟨n, e4, fun q => by rw [q, tm1] at e1; omega, e1⟩
  have z43 : z.1 43 (x.1 100 4).toNatClampNeg = r := by rw [ez]; (simp only [si_get, sfl_get, Nat.reduceEqDiff, eq_self, and_false, false_and, and_true, true_and, if_true, if_false, reduceIte, reduceCtorEq])
  have fz : fm (fun c k => c = 43) y z := by rw [ez]; exact fm_si (fm_rf _ _) rfl
  have fin : ∀ v, TGc sN Ev (some (nn x)) (v.1 43 (nn x)) (x.1 100 4) → ((v.1 43 (nn x) = -1 ∧ kfi sN Ev.1 (nn x) = none ∧ v.1 42 (nn x) = 6) ∨ (¬ v.1 43 (nn x) = -1 ∧ ¬ kfi sN Ev.1 (nn x) = none ∧ v.1 42 (nn x) = 0)) → (∀ j, ¬ j = nn x → v.1 42 j = y.1 42 j) → BB x0 v M E → fm (fun c k => c = 42 ∨ c = 43) y v → ((v.1 43 (x.1 100 4).toNatClampNeg = -1 ∧ PLc v (x.1 100 4)) ∨ (¬ v.1 43 (x.1 100 4).toNatClampNeg = -1 ∧ 0 ≤ (v.1 43 (x.1 100 4).toNatClampNeg).toInt ∧ (v.1 43 (x.1 100 4).toNatClampNeg).toInt < M)) → KE G q (d + 8) zk_X7_setTarget 46 [(0, vr 100), (1, vi (x.1 100 4))] [] v (ri F) X := by
    intro v hTv hm hj hBv fv hv
    have nv : nn v = nn x + 1 := by rw [← en]; unfold nn; rw [fv 100 4 (by omega)]
    have lav : La x v := ⟨fun c k q1 q2 => by rw [fv c k (by omega), gy.1.1 c k q1 q2], by unfold nx; rw [fv 100 4 (by omega)]; exact gy.1.2.1, fun j hjx => by rw [hj j (by omega), gy.1.2.2 j hjx]⟩
    have bv0 := hBv.1.1.2.1
    refine kg_X7_setTarget_46 hq _ (kd_need (xs := v) (Ml := []) (Ev := Ev) (V := V) (sN := sN) (e := e) hq 10 50 (by decide) (by decide) (by decide) (fun no => hx (fun z => no (by rw [nv]; exact z.2))) hBv ⟨KA_fm hA lav.1, by rw [nv, ← en]; exact hny, UR_0 rfl⟩ (fun kk2 c72 u hBu nu gu enu hRu u0 hcu => ri_i (h _ u hBu ?_ ?_ ?_ vt ?_ (by rw [GS_at gu 60 13 (by unfold sSum; omega), fv 60 13 (by omega), GS_at gy 60 13 (by unfold sSum; omega)]) rfl ⟨⟨kk, c7⟩, by rw [← nv]; exact kk2, by omega⟩ (by omega) (La_tr lav gu.1) hRu.1 hRu.2.1 (KV_GS gu (KV_fm (KV_GS gy hE) (fv _ _ (by omega)) (fun k => fv _ _ (by omega)))) (by rw [← nv]; exact u0) ?_ ⟨⟨La_tr lav gu.1, fun c k q => by rw [GS_at gu c k (by unfold Tc at q; unfold sSum; omega), fv c k (by unfold Tc at q; omega), GS_at gy c k (by unfold Tc at q; unfold sSum; omega)]⟩, fun c k q1 q2 => by rw [GS_at gu _ _ (by unfold sSum; omega), fv _ _ (by omega), GS_at gy _ _ (by unfold sSum; omega)], by rw [GS_at gu _ _ (by unfold sSum; omega), fv _ _ (by omega), GS_at gy _ _ (by unfold sSum; omega)]⟩ (by rw [GS_at gu 43 _ (by unfold sSum; omega)]; exact hTv) (fun c k q => (hcu c k q).trans ((fv c k (by unfold ccS at q; omega)).trans (hcy c k q))))))
    · have : nx v = nx y := by unfold nx; rw [fv 100 4 (by omega)]
      omega
    · rw [GS_om gu, ← GS_om gy]; unfold om; rw [fv 100 13 (by omega)]
    · rw [GS_sm gu, ← GS_sm gy]; unfold ssm; rw [fv 80 9 (by omega)]
    · rw [GS_at gu 43 _ (by unfold sSum; omega)]
      exact hv.imp (fun e => ⟨e.1, PLc_La gu.1 e.2⟩) id
    · obtain ⟨-, la⟩ := La_nn bv0 gu.1
      rw [GS_at gu 43 _ (by unfold sSum; omega), la _ (by omega)]
      exact hm
  have hBz : BB x0 z M E := BB_use hBy (t := (x.1 100 4).toNatClampNeg) (by omega) eu (by rw [fz 42 _ (by omega), eu]; decide) (fm_w fz (fun c k q => Or.inl q))
  refine ⟨vt, fun c => fin z (by rw [show z.1 43 (nn x) = r from z43]; exact hTr) (Or.inr ⟨c, ?_, by rw [fz 42 _ (by omega)]; exact eu⟩) (fun j _ => fz _ _ (by omega)) hBz (fm_w fz (fun c k q => Or.inr q)) (Or.inr ?_), fun c => ⟨vt, fun v ev => ?_⟩⟩
  · rw [z43] at c
    rcases hr with ⟨e, -⟩ | ⟨-, e⟩
    · exact absurd e c
    · exact e
  · rw [z43] at c ⊢
    rcases hr with ⟨e, -⟩ | ⟨⟨e1, e2⟩, -⟩
    · exact absurd e c
    · rw [y9] at e2
      exact ⟨c, e1, by omega⟩
  · have fv : fm (fun c k => c = 43 ∨ (86 ≤ c ∧ c ≤ 89) ∨ (c = 42 ∧ k = (x.1 100 4).toNatClampNeg)) y v := by rw [ev]; exact fm_si (fm_w fz (fun c k q => Or.inl q)) (Or.inr (Or.inr ⟨rfl, rfl⟩))
    have u6 : v.1 42 (x.1 100 4).toNatClampNeg = 6 := by rw [ev]; (simp only [si_get, sfl_get, Nat.reduceEqDiff, eq_self, and_false, false_and, and_true, true_and, if_true, if_false, reduceIte, reduceCtorEq])
    have c9 : r = -1 := by rw [z43] at c; exact c
    refine fin v (by rw [show v.1 43 (nn x) = r by rw [ev, si_cell (by decide)]; exact z43]; exact hTr) (Or.inl ⟨by rw [ev, si_cell (by decide)]; exact c, ?_, u6⟩) (fun j hj => by rw [ev, si_get, if_neg (fun q => hj q.2)]; exact fz _ _ (by omega)) (BB_use hBy (t := (x.1 100 4).toNatClampNeg) (by omega) eu (by rw [u6]; decide) fv) (by rw [ev]; exact fm_si (fm_w fz (fun c k q => Or.inr q)) (Or.inl rfl)) (Or.inl ⟨?_, (x.1 100 4).toNatClampNeg, eN.symm, ?_, Or.inl u6⟩)
    · rcases hr with ⟨-, e⟩ | ⟨⟨e, -⟩, -⟩
      · exact e
      · rw [c9, tm1] at e; omega
    · rw [ev, si_cell (by decide)]; exact c
    · have : nx v = nx y := by unfold nx; rw [fv 100 4 (by omega)]
      omega
end KTG
end
section
/-! the class: a row's cell is set -/
section KRW
variable {G : kG} {q : kP} {d : Nat} {x x0 y z xs : gd} {F : Int32 → gd → Prop} {Fv : gd → Prop} {X : String → gd → Prop} {P : Option gv → gd → Prop} {M : Int} {E : Nat → Prop} {K V : Nat → Int32} {sN : Nat → Nat → Bool} {e : Nat} {Ev : gV} {Ml N : gU} {W : gTs}
theorem kd_rowStatement (hq : kV q) (f c9 : Nat) (L : gU) (hx : W = none → RX x0 X) (hx7 : 700 ≤ nn x → RX x0 X) (eW : W = pS1 K f c9 (nn x) L) (hk1 : K (nn x) = 1) (hk65 : nn x < 700 → K (nn x + 1) = 65) (hf : (f : Int) + om x = 16) (hA : KA K V sN e x) (hn : nn x ≤ e) (hE : KV' K e x Ev) (hEv : ¬ Ev.2.1 = []) (hB : BB x0 x M E0) (ha : 2 * ssm x ≤ nx x + 1) (l : Int32) (h : ∀ y, BB x0 y M E0 → nx x + 2 ≤ nx y → om y = om x → ssm y = ssm x + 1 → y.1 60 13 = x.1 60 13 → KV' K e y Ev → La x y → ∀ N, RIw K V sN e Ev x y N → still N → W = pup c9 (78, nn x, 0) (pt K 67 (nn y, L ++ N)) → y.1 100 9 = x.1 100 9 → y.1 100 7 = x.1 100 7 → OPe x y → CG sN V K Ev x y (N ++ [(78, nn x, 0)]) → Fv y) : KE G q (d + 10) zk_X7_rowStatement 0 [(0, vr 100), (1, vi l)] [] x (rv Fv) X := by
  have bx0 := hB.1.1.2.1
  have cx := nn_is bx0
  have ox := (BB_om hB).1
  refine kg_X7_rowStatement_0 hq _ (kd_needFor hq 2 7 1 (by decide) (by decide) (by decide) (by decide) (fun no => hx7 (by
    by_cases c7 : nn x < 700
    · exact absurd ⟨hk1, c7⟩ no
    · omega)) hB hA hn (fun kk c7 y hBy ny gy en hAy hny eu ht hcy => ?_))
  have h65 := hk65 c7
  have hW1 : W = if nn x + 1 < 700 then pup c9 (78, nn x, 0) (((((pX K false f (nn x + 2) (L ++ [(7, nn x, 0)])).bind (pt K 66)).bind (pt K 50)).bind (pXq K f)).bind (pt K 67)) else none := by
    rw [eW]; unfold pS1
    rw [if_neg (by rw [hk1]; decide), if_pos hk1, if_pos h65]
  have hRy : RIw K V sN e Ev x y ([] ++ [(7, nn x, 0)]) := RI_use (⟨hA, hn, UR_0 rfl⟩ : RIw K V sN e Ev x x []) bx0 gy.1 hAy hny en (HAs_one.mpr (HA_7.mpr ⟨by omega, Or.inl eu⟩)) (fun _ => HBs_one.mpr (by rw [eu]; exact HB_7))
  have hRy : RIw K V sN e Ev x y [(7, nn x, 0)] := hRy
  have by0 := hBy.1.1.2.1
  refine kd_need hq 25 65 (by decide) (by decide) (by decide) (fun no => hx ?_) hBy hRy (fun kk3 c73 y3 hB3 n3 g3 en3 hR3 _ hc3 => ?_)
  · rw [hW1, if_neg (fun z => no (by rw [en]; exact ⟨h65, z⟩))]
  rw [if_pos (by omega)] at hW1
  have en3 : nn y3 = nn x + 2 := by omega
  have o3 : om y3 = om x := by rw [GS_om g3, GS_om gy]
  obtain ⟨p1, p2⟩ := BB_om hB3
  have eF3 : 17 - (y3.1 100 13 + 1).toNatClampNeg = f := by
    have u := t_cl (y3.1 100 13 + 1)
    rw [p2 (by omega)] at u
    omega
  have hE3 := KV_GS g3 (KV_GS gy hE)
  have b30 := hB3.1.1.2.1
  refine kd_sum hq _ (L ++ [(7, nn x, 0)]) (fun q9 => hx (by rw [eF3, en3] at q9; rw [hW1, q9]; rfl)) hB3 hR3.1 hR3.2.1 hE3 (by rw [p2 (by omega)]; omega) (by rw [p2 (by omega)]; omega) (fun r5 y4 hB4 n4 g4 N2 hR4 hN2 hpX hcp5 hr5 => ?_)
  rw [eF3, en3] at hpX
  obtain ⟨N20, -, hP4⟩ := PD_xp (PD_7 (i := nn x) (PD_fr (PD_fr (PD_0 (x := x) (y := x) (t := none) (N := []) (fun c k _ => rfl) (Or.inl rfl)) hcy) hc3) hEv) hpX hcp5 g4 hr5
  rw [hpX] at hW1
  have hW2 : W = pup c9 (78, nn x, 0) ((((pt K 66 (nn y4, L ++ [(7, nn x, 0)] ++ N2)).bind (pt K 50)).bind (pXq K f)).bind (pt K 67)) := hW1
  have hs7 : still [(7, nn x, 0)] := stl_k (by decide)
  have hRx4 := RI_app b30 hs7 hR3 g4.1 hR4
  refine kd_need hq 26 66 (by decide) (by decide) (by decide) (fun no => hx (by rw [hW2, pt_no no]; rfl)) hB4 hRx4 (fun kk6 c76 y6 hB6 n6 g6 en6 hR6 _ hc6 => ?_)
  rw [pt_yes kk6 c76] at hW2
  have hW3 : W = pup c9 (78, nn x, 0) (((pt K 50 (nn y6, L ++ [(7, nn x, 0)] ++ N2)).bind (pXq K f)).bind (pt K 67)) := by rw [hW2, en6]; rfl
  refine kd_need hq 10 50 (by decide) (by decide) (by decide) (fun no => hx (by rw [hW3, pt_no no]; rfl)) hB6 hR6 (fun kk7 c77 y7 hB7 n7 g7 en7 hR7 _ hc7 => ?_)
  rw [pt_yes kk7 c77] at hW3
  have hW4 : W = pup c9 (78, nn x, 0) ((pX K false f (nn y7) (L ++ [(7, nn x, 0)] ++ N2)).bind (pt K 67)) := by rw [hW3, en7]; rfl
  have o7 : om y7 = om x := by rw [GS_om g7, GS_om g6, GS_om g4, o3]
  obtain ⟨p3, p4⟩ := BB_om hB7
  have eF7 : 17 - (y7.1 100 13 + 1).toNatClampNeg = f := by
    have u := t_cl (y7.1 100 13 + 1)
    rw [p4 (by omega)] at u
    omega
  have hE7 := KV_GS g7 (KV_GS g6 (KV_GS g4 hE3))
  have b70 := hB7.1.1.2.1
  refine kd_sum hq _ (L ++ [(7, nn x, 0)] ++ N2) (fun q9 => hx (by rw [eF7] at q9; rw [hW4, q9]; rfl)) hB7 hR7.1 hR7.2.1 hE7 (by rw [p4 (by omega)]; omega) (by rw [p4 (by omega)]; omega) (fun r9 y8 hB8 n8 g8 N3 hR8 hN3 hpX8 hcp8 hr9 => ?_)
  rw [eF7] at hpX8
  obtain ⟨N30, -, hP8⟩ := PD_xp (PD_fr (PD_fr hP4 hc6) hc7) hpX8 hcp8 g8 hr9
  rw [hpX8] at hW4
  have hRx8 := RI_app b70 (still_app hs7 hN2) hR7 g8.1 hR8
  have hE8 := KV_GS g8 hE7
  have hW5 : W = pup c9 (78, nn x, 0) (pt K 67 (nn y8, L ++ ([(7, nn x, 0)] ++ N2 ++ N3))) := by
    rw [hW4, ← List.append_assoc, ← List.append_assoc]; rfl
  have gg : GS y y8 := GS_tr (GS_tr (GS_tr (GS_tr g3 g4) g6) g7) g8
  have s8 : ssm y8 = ssm x := by rw [GS_sm gg, GS_sm gy]
  obtain ⟨a1, a2, a3, a4, a5⟩ := BB_400 hB8 (by omega)
  refine kf_add hq _ _ _ a1 a2 (fun w hA vin hF9 => ⟨vin, fun z1 e1 => ⟨vin, fun z2 e2 => ⟨vin, fun z ez => rv_i ?_⟩⟩⟩)
  obtain ⟨f1, f2, f3, f4, f5⟩ := hA
  have fz : fm (fun c k => (81 ≤ c ∧ c ≤ 89 ∧ k = (y8.1 80 9).toNatClampNeg) ∨ (c = 80 ∧ k = 9)) y8 z := by
    rw [ez, e2, e1]
    exact fm_si (fm_si (fm_si f1 (Or.inl ⟨by omega, by omega, rfl⟩)) (Or.inl ⟨by omega, by omega, rfl⟩)) (Or.inl ⟨by omega, by omega, rfl⟩)
  have es : ssm z = ssm y8 + 1 := by
    have : z.1 80 9 = w.1 80 9 := by rw [ez, e2, e1]; (simp only [si_get, sfl_get, Nat.reduceEqDiff, eq_self, and_false, false_and, and_true, true_and, if_true, if_false, reduceIte, reduceCtorEq])
    unfold ssm at *; rw [this]; exact f2
  have z81 : z.1 81 (y8.1 80 9).toNatClampNeg = 1 := by rw [ez, e2, e1]; (simp only [si_get, sfl_get, Nat.reduceEqDiff, eq_self, and_false, false_and, and_true, true_and, if_true, if_false, reduceIte, reduceCtorEq]); exact f3
  have z83 : z.1 83 (y8.1 80 9).toNatClampNeg = y8.1 100 9 := by rw [ez, e2, e1]; (simp only [si_get, sfl_get, Nat.reduceEqDiff, eq_self, and_false, false_and, and_true, true_and, if_true, if_false, reduceIte, reduceCtorEq]); exact f4
  have z85 : z.1 85 (y8.1 80 9).toNatClampNeg = x.1 100 4 := by rw [ez, e2, e1]; (simp only [si_get, sfl_get, Nat.reduceEqDiff, eq_self, and_false, false_and, and_true, true_and, if_true, if_false, reduceIte, reduceCtorEq])
  have e9 : nx z = nx y8 := by unfold nx; rw [fz 100 4 (by omega)]
  have e13 : om z = om y8 := by unfold om; rw [fz 100 13 (by omega)]
  have eN := BB_N hB
  have k1 : (1 : Int32).toInt = 1 := rfl
  have hSA : SA z M (y8.1 80 9).toNatClampNeg := by
    unfold SA sop stg
    rw [z81, z83, z85, k1]
    refine ⟨by omega, ⟨a4, a5⟩, fun _ => ⟨(x.1 100 4).toNatClampNeg, eN.symm, by omega, fun _ => Or.inr (Or.inl ?_), fun c1 => by omega, fun c1 => by omega⟩, fun c => by omega⟩
    rw [fz 42 _ (by omega), gg.1.2.2 _ (by omega)]; exact eu
  have hBz := BB_add hB8 (n := (y8.1 80 9).toNatClampNeg) (by omega) fz es hSA
  refine h z (BB_E hBz (fun e => e.elim id (fun e => by omega)) (fun i hi he hne => ?_)) (by omega) (by rw [e13, GS_om g8, o7]) (by omega) (by rw [fz 60 13 (by omega), GS_at gg 60 13 (by unfold sSum; omega), GS_at gy 60 13 (by unfold sSum; omega)]) (KV_fm hE8 (fz _ _ (by omega)) (fun k => fz _ _ (by omega))) (La_tr (GS_tr gy gg).1 ⟨fun c k q1 q2 => fz _ _ (by omega), by omega, fun j _ => fz _ _ (by omega)⟩) ([(7, nn x, 0)] ++ N2 ++ N3) (RI_st hRx8 (fz _ _ (by omega)) (fun j => fz _ _ (by omega)) (fun c k q1 q2 => fz _ _ (by omega))) (still_app (still_app hs7 hN2) hN3) (by rw [show nn z = nn y8 by unfold nn; rw [fz 100 4 (by omega)]]; exact hW5) (by rw [fz _ _ (by omega), GS_at (GS_tr gy gg) _ _ (by unfold sSum; omega)]) (by rw [fz _ _ (by omega), GS_at (GS_tr gy gg) _ _ (by unfold sSum; omega)]) (OPe_tr (OPe_GS (GS_tr gy gg)) (OPe_st fz)) (PD_78 (i := nn x) hP8 hEv hE8 cx.symm ⟨fun c k q q1 q2 => fz c k (fun w => w.elim q1 q2), es, z81, z83, rfl, z85, by rw [ez, e2, e1]; (simp only [si_get, sfl_get, Nat.reduceEqDiff, eq_self, and_false, false_and, and_true, true_and, if_true, if_false, reduceIte, reduceCtorEq]), by rw [ez, e2, e1]; (simp only [si_get, sfl_get, Nat.reduceEqDiff, eq_self, and_false, false_and, and_true, true_and, if_true, if_false, reduceIte, reduceCtorEq]), by rw [ez, e2, e1]; (simp only [si_get, sfl_get, Nat.reduceEqDiff, eq_self, and_false, false_and, and_true, true_and, if_true, if_false, reduceIte, reduceCtorEq]); exact hF9.2.2.2⟩)
  rcases he with he | he
  · exact absurd he hne
  · rw [he]
    refine SC_no ?_ ?_ <;> (unfold sop; rw [z81]; decide)
end KRW
end
section
/-! the class: a new local -/
section KLT
variable {G : kG} {q : kP} {d : Nat} {x x0 y z xs : gd} {F : Int32 → gd → Prop} {Fv : gd → Prop} {X : String → gd → Prop} {P : Option gv → gd → Prop} {M : Int} {E : Nat → Prop} {K V : Nat → Int32} {sN : Nat → Nat → Bool} {e : Nat} {Ev : gV} {Ml N : gU}
theorem HA_23 {U : Nat → Int32} {n a b : Nat} : HAw sN U n Ev (23, a, b) ↔ a < n ∧ ((∃ k ∈ Ev.1.take (Ev.1.length - Ev.2.1.headD 0), sN k.1 a = true) → U a = 2) := by unfold HAw; simp
theorem HB_23 {a b j : Nat} (h : ∃ k ∈ Ev.1.take (Ev.1.length - Ev.2.1.headD 0), sN k.1 a = true) : HB sN Ev (23, a, b) j 2 := Or.inr (Or.inr (Or.inr (Or.inr (Or.inl ⟨rfl, rfl, h⟩))))
theorem kd_newLocal (hq : kV q) (hx : (¬ ((K (nn x + 1) = 1 ∧ nn x + 1 < 700) ∧ (x.1 100 7).toInt < 8 ∧ K (nn x + 2) = 50 ∧ nn x + 2 < 700) ∨ 700 ≤ nn x) → RX x0 X) (hk26 : K (nn x) = 26) (hA : KA K V sN e x) (hn : nn x ≤ e) (hE : KV' K e x Ev) (hHd : (x.1 113 ((om x).toNat - 1)).toNatClampNeg = Ev.2.1.headD 0) (hB : BB x0 x M E) (h1 : 1 ≤ om x) (h : ∀ t y, BB x0 y M E → nx y = nx x + 3 → om y = om x → ssm y = ssm x → tk y t → y.1 100 9 = x.1 100 9 → (y.1 100 9).toInt + 1 ≤ (y.1 100 7).toInt → y.1 60 13 = x.1 60 13 → t.toNatClampNeg = nn x + 1 → ((K (nn x + 1) = 1 ∧ nn x + 1 < 700) ∧ (x.1 100 7).toInt < 8 ∧ K (nn x + 2) = 50 ∧ nn x + 2 < 700) → (y.1 100 7).toInt = (x.1 100 7).toInt + 1 → nn y = nn x + 3 → Lb x y → KV' K e y Ev → RIw K V sN e Ev x y [(23, nn x + 1, 0)] → (∀ c k, 111 ≤ c → c ≤ 113 → y.1 c k = x.1 c k) → (∀ c k, ccS c k → y.1 c k = x.1 c k) → F t y) : KE G q (d + 8) zk_X7_newLocal 0 [(0, vr 100)] [] x (ri F) X := by
  have k8 : (8 : Int32).toInt = 8 := rfl
  have bx0 := hB.1.1.2.1
  have cx := nn_is bx0
  have p26 : ∀ y, nn y = nn x + 1 → RIw K V sN e Ev x y [] → y.1 42 (nn x) = 0 → nn x < 700 → BB x0 y M E → GS x y → (∀ c k, ccS c k → y.1 c k = x.1 c k) → nx y = nx x + 1 → (y.1 23 (y.1 100 4).toNatClampNeg = 2 → (y.1 100 7).toInt < 8) → KE G q (d + 8) zk_X7_newLocal 26 [(0, vr 100)] [] y (ri F) X := by
    intro y eny hRy ui i7 hBy gy hcy ny hl8
    have gy7 : y.1 100 7 = x.1 100 7 := GS_at gy _ _ (by unfold sSum; omega)
    refine kg_X7_newLocal_26 hq (kd_needFor hq 2 0 1 (by decide) (by decide) (by decide) (by decide) (fun no => hx (Or.inl (fun z => no (by rw [eny]; exact z.1)))) hBy hRy.1 hRy.2.1 (fun kk c7 z hBz nz gz enz hAz hnz eu ht hcz => ?_))
    have cw : y.1 23 (y.1 100 4).toNatClampNeg = 2 := (KA_k hRy.1 hRy.2.1 2 (by decide)).mpr kk
    have kk1 : K (nn x + 1) = 1 := by rw [← eny]; exact kk
    have myn : (y.1 100 4).toNatClampNeg = nn x + 1 := eny
    have eu : z.1 42 (y.1 100 4).toNatClampNeg = 0 := eu
    have hEz := KV_GS gz (KV_GS gy hE)
    intro w ew
    have fw : fm (fun c k => c = 100 ∧ k = 7) z w := by rw [ew]; exact fm_si (fm_rf _ _) ⟨rfl, rfl⟩
    have w7 : w.1 100 7 = z.1 100 7 + 1 := by rw [ew]; (simp only [si_get, sfl_get, Nat.reduceEqDiff, eq_self, and_false, false_and, and_true, true_and, if_true, if_false, reduceIte, reduceCtorEq])
    have gz7 : z.1 100 7 = y.1 100 7 := GS_at gz _ _ (by unfold sSum; omega)
    have hl := hl8 cw
    obtain ⟨kz, oz, cz⟩ := BB_k hBz
    have l0 := oz.2.2.2.1
    have kk0 := kz.1.1
    have t7 : (w.1 100 7).toInt = (z.1 100 7).toInt + 1 := by
      rw [w7, t_add (by show _ ≤ _ + (1 : Int); omega) (by show _ + (1 : Int) ≤ _; rw [gz7]; omega)]; rfl
    have w9 : w.1 100 9 = z.1 100 9 := fw _ _ (by omega)
    have hKw : KN w := KN_fm kz w9 (fw _ _ (by omega)) (fun k => fw _ _ (by omega))
    have hBw : BB x0 w M E := BB_kn hBz (Int.le_refl _) (fm_w fw (fun c k q => Or.inl ⟨q.1, Or.inl q.2⟩)) hKw (by rw [w9]; exact Int.le_refl _) (by rw [w9, t7]; rw [gz7] at l0 ⊢; omega) (by rw [fw 60 13 (by omega)]; exact cz.2.2.2.2.2.1) (by rw [w9, fw 60 13 (by omega)]; exact cz.2.2.2.2.2.2 hBz.2.2.2.2.1)
    have omw : om w = om x := by rw [← GS_om gy, ← GS_om gz]; unfold om; rw [fw 100 13 (by omega)]
    have o18 := (BB_om hBw).1
    have e13 : (w.1 100 13 - 1).toInt = om w - 1 := t_sub (by show _ ≤ _ - (1 : Int); unfold om at *; omega) (by show _ - (1 : Int) ≤ _; unfold om at *; omega)
    have nw : nx w = nx z := by unfold nx; rw [fw 100 4 (by omega)]
    have htw : tk w (y.1 100 4) := by unfold tk at ht ⊢; rw [fw 20 7 (by omega)]; exact ht
    obtain ⟨-, ow, -⟩ := BB_k hBw
    have hop := ow.2.1 ((w.1 100 13 - 1).toNatClampNeg) (by rw [t_cl, e13]; omega)
    have hEw : KV' K e w Ev := KV_fm hEz (fw _ _ (by omega)) (fun k => fw _ _ (by omega))
    have hAw : KA K V sN e w := KA_fm hAz (fun c k q1 q2 => fw _ _ (by omega))
    have e13c : (w.1 100 13 - 1).toNatClampNeg = (om x).toNat - 1 := by rw [t_cl, e13, omw]; omega
    have w113 : (w.1 113 (w.1 100 13 - 1).toNatClampNeg).toNatClampNeg = Ev.2.1.headD 0 := by
      rw [e13c, fw 113 _ (by omega), GS_at gz 113 _ (by unfold sSum; omega), GS_at gy 113 _ (by unfold sSum; omega)]; exact hHd
    refine ⟨by rw [vp_in_iff, e13]; omega, kf_knownFrom hq hBw.1.1.1 hKw hAw hEw _ _ hop.2.2.1 htw (by rw [myn, ← eny]; exact hRy.2.1) (by rw [myn]; exact kk1) (fun r hr => ?_)⟩
    have tk9 : (r = -1 ∧ ¬ ∃ k ∈ Ev.1.take (Ev.1.length - Ev.2.1.headD 0), sN k.1 (nn x + 1) = true) ∨ (¬ r = -1 ∧ ∃ k ∈ Ev.1.take (Ev.1.length - Ev.2.1.headD 0), sN k.1 (nn x + 1) = true) := by
      rw [w113, myn] at hr
      rcases hr with ⟨e1, e2⟩ | ⟨n, e1, -, -, -, p, k, e3, e4, e5⟩
      · exact Or.inl ⟨e1, fun z => by
          obtain ⟨p, k, z1, z2, z3⟩ := take_ex.mp z
          exact e2 p k z1 z2 z3⟩
      · exact Or.inr ⟨fun z => by rw [z, tm1] at e1; omega, take_ex.mpr ⟨p, k, e3, e4, e5⟩⟩
    have fin : ∀ v, ((v.1 42 (nn x + 1) = 0 ∧ ¬ ∃ k ∈ Ev.1.take (Ev.1.length - Ev.2.1.headD 0), sN k.1 (nn x + 1) = true) ∨ (v.1 42 (nn x + 1) = 2 ∧ ∃ k ∈ Ev.1.take (Ev.1.length - Ev.2.1.headD 0), sN k.1 (nn x + 1) = true)) → (∀ j, ¬ j = nn x + 1 → v.1 42 j = w.1 42 j) → BB x0 v M E → fm (fun c k => c = 42) w v → KE G q (d + 8) zk_X7_newLocal 73 [(0, vr 100), (1, vi (y.1 100 4))] [] v (ri F) X := by
      intro v hm hj hBv fv
      have nzx : nn z = nn x + 2 := by omega
      have nv : nn v = nn x + 2 := by rw [← nzx]; unfold nn; rw [fv 100 4 (by omega), fw 100 4 (by omega)]
      have vi0 : v.1 42 (nn x) = 0 := by
        obtain ⟨-, la⟩ := La_nn hBy.1.1.2.1 gz.1
        rw [hj _ (by omega), fw 42 _ (by omega), la _ (by omega)]; exact ui
      have lav : La x v := ⟨fun c k q1 q2 => by rw [fv c k (by omega), fw c k (by omega), gz.1.1 c k q1 q2, gy.1.1 c k q1 q2], by
        have e1 : nx v = nx z := by unfold nx; rw [fv 100 4 (by omega), fw 100 4 (by omega)]
        omega, fun j hjx => by rw [hj j (by omega), fw 42 _ (by omega), gz.1.2.2 j (by omega), gy.1.2.2 j hjx]⟩
      have hRv : RIw K V sN e Ev x v [(23, nn x + 1, 0)] := by
        refine ⟨KA_fm hA lav.1, by rw [nv, ← nzx]; exact hnz, HAs_one.mpr (HA_23.mpr ⟨by omega, fun hk => ?_⟩), fun j h1 h2 h3 => HBs_one.mpr ?_⟩
        · rcases hm with ⟨-, e⟩ | ⟨e, -⟩
          · exact absurd hk e
          · exact e
        · have hj9 : j = nn x ∨ j = nn x + 1 := by omega
          rcases hj9 with ej | ej
          · rw [ej] at h3; exact absurd vi0 h3
          · rw [ej] at h3 ⊢
            rcases hm with ⟨e, -⟩ | ⟨e, e2⟩
            · exact absurd e h3
            · rw [e]; exact HB_23 e2
      have hEv : KV' K e v Ev := KV_fm hEw (fv _ _ (by omega)) (fun k => fv _ _ (by omega))
      have x7 : (x.1 100 7).toInt < 8 := by rw [← gy7]; exact hl
      refine kg_X7_newLocal_73 hq _ (kd_need hq 10 50 (by decide) (by decide) (by decide) (fun no => hx (Or.inl (fun z => no (by rw [nv]; exact z.2.2)))) hBv hRv (fun kk2 c72 u hBu nu gu enu hRu _ hcu => ri_i (h _ u hBu ?_ ?_ ?_ ?_ ?_ ?_ ?_ myn ⟨⟨kk1, by omega⟩, x7, by rw [← nv]; exact kk2, by omega⟩ ?_ (by omega) ⟨La_tr lav gu.1, fun c k q => by rw [GS_at gu c k (by unfold Tc at q; unfold sSum; omega), fv c k (by unfold Tc at q; omega), fw c k (by unfold Tc at q; omega), GS_at gz c k (by unfold Tc at q; unfold sSum; omega), GS_at gy c k (by unfold Tc at q; unfold sSum; omega)]⟩ (KV_GS gu hEv) hRu (fun c k q1 q2 => by rw [GS_at gu c k (by unfold sSum; omega), fv c k (by omega), fw c k (by omega), GS_at gz c k (by unfold sSum; omega), GS_at gy c k (by unfold sSum; omega)]) (fun c k q => (hcu c k q).trans ((fv c k (by unfold ccS at q; omega)).trans ((fw c k (by unfold ccS at q; omega)).trans ((hcz c k q).trans (hcy c k q))))))))
      · have : nx v = nx w := by unfold nx; rw [fv 100 4 (by omega)]
        omega
      · rw [GS_om gu, ← omw]; unfold om; rw [fv 100 13 (by omega)]
      · rw [GS_sm gu]
        have : ssm v = ssm w := by unfold ssm; rw [fv 80 9 (by omega)]
        rw [this, ← GS_sm gy, ← GS_sm gz]; unfold ssm; rw [fw 80 9 (by omega)]
      · unfold tk at htw ⊢
        rw [GS_at gu 20 7 (by unfold sSum; omega), fv 20 7 (by omega)]; exact htw
      · rw [GS_at gu 100 9 (by unfold sSum; omega), fv 100 9 (by omega), w9, GS_at gz 100 9 (by unfold sSum; omega), GS_at gy 100 9 (by unfold sSum; omega)]
      · rw [GS_at gu 100 9 (by unfold sSum; omega), GS_at gu 100 7 (by unfold sSum; omega), fv 100 9 (by omega), fv 100 7 (by omega), t7, w9]; omega
      · rw [GS_at gu 60 13 (by unfold sSum; omega), fv 60 13 (by omega), fw 60 13 (by omega), GS_at gz 60 13 (by unfold sSum; omega), GS_at gy 60 13 (by unfold sSum; omega)]
      · rw [GS_at gu 100 7 (by unfold sSum; omega), fv 100 7 (by omega), t7, gz7, gy7]
    have eN := BB_N hBy
    have w42 : w.1 42 (nn x + 1) = 0 := by rw [← myn, fw 42 _ (by omega)]; exact eu
    refine ⟨fun c => fin w (Or.inl ⟨w42, ?_⟩) (fun _ _ => rfl) hBw (fm_rf _ _), fun c => ⟨(kT_at hBw.1.1.1 htw).1, fun v ev => fin v (Or.inr ⟨by rw [ev, ← myn]; (simp only [si_get, sfl_get, Nat.reduceEqDiff, eq_self, and_false, false_and, and_true, true_and, if_true, if_false, reduceIte, reduceCtorEq]), ?_⟩) (fun j hj => by rw [ev, si_get, if_neg (fun q => hj (by rw [← myn]; exact q.2))]) ?_ (by rw [ev]; exact fm_si (fm_rf _ _) rfl)⟩⟩
    · rcases tk9 with ⟨-, e⟩ | ⟨e, -⟩
      · exact e
      · exact absurd c e
    · rcases tk9 with ⟨e, -⟩ | ⟨-, e⟩
      · exact absurd e c
      · exact e
    refine BB_use hBw (t := (y.1 100 4).toNatClampNeg) (by omega) (by rw [fw 42 _ (by omega)]; exact eu) ?_ (by rw [ev]; exact fm_si (fm_rf _ _) (Or.inr (Or.inr ⟨rfl, rfl⟩)))
    have : v.1 42 (y.1 100 4).toNatClampNeg = 2 := by rw [ev]; (simp only [si_get, sfl_get, Nat.reduceEqDiff, eq_self, and_false, false_and, and_true, true_and, if_true, if_false, reduceIte, reduceCtorEq])
    rw [this]; decide
  refine kg_X7_newLocal_0 hq (kd_pass (xs := x) (Ml := []) (Ev := Ev) hq (fun c7 => hx (Or.inr c7)) hB ⟨hA, hn, UR_0 rfl⟩ (by rw [hk26]; decide) (by rw [hk26]; decide) (fun c7 y hBy ny gy eny hRy u0 hcy => kp_sort hq hBy.1.1 ⟨fun c => p26 y eny hRy u0 c7 hBy gy hcy ny (fun q => absurd q c), fun c => ⟨fun c2 => p26 y eny hRy u0 c7 hBy gy hcy ny (fun _ => by rw [t_lt, k8] at c2; exact c2), fun c2 => kd_refuse hq (hx (Or.inl (fun z => ?_))) hBy _⟩⟩))
  rw [t_lt, k8, GS_at gy 100 7 (by unfold sSum; omega)] at c2
  exact c2 z.2.1
end KLT
end
section
/-! the class: one local more is known -/
section KMK
variable {G : kG} {q : kP} {d : Nat} {x x0 y z xs : gd} {F : Int32 → gd → Prop} {Fv : gd → Prop} {X : String → gd → Prop} {P : Option gv → gd → Prop} {M : Int} {E : Nat → Prop} {K V : Nat → Int32} {sN : Nat → Nat → Bool} {e : Nat} {Ev : gV} {Ml N : gU}
theorem kd_makeKnown (hq : kV q) (hB : BB x0 x M E) (t : Int32) (ht : tk x t) (h1 : (x.1 100 9).toInt + 1 ≤ (x.1 100 7).toInt) (hM : M ≤ (x.1 60 13).toInt ∨ M ≤ (x.1 100 9).toInt + 1) (hE : KV' K e x Ev) (hk1 : K t.toNatClampNeg = 1) (hte : t.toNatClampNeg ≤ e) (b : Nat) (h : ∀ y, BB x0 y (y.1 60 13).toInt E → nx y = nx x → om y = om x → ssm y = ssm x → KV' K e y (exV Ev (22, t.toNatClampNeg, b)) → fm (fun c k => (c = 100 ∧ (k = 7 ∨ k = 9)) ∨ c = 109 ∨ (c = 60 ∧ k = 13)) x y → y.1 100 7 = x.1 100 7 → Fv y) : KT G q (d + 1) zk_X7_makeKnown 0 [(0, vr 100), (1, vi t)] [] x (rv Fv) := by
  have k8 : (8 : Int32).toInt = 8 := rfl
  obtain ⟨kx, ox, cx⟩ := BB_k hB
  have l8 := ox.2.2.2.2
  have k0 := kx.1.1
  have m0 := cx.2.2.2.2.2.1
  refine kg_X7_makeKnown_0 hq _ ⟨fun c => ?_, fun c => ⟨by rw [vp_in_iff]; omega, fun x3 e3 x4 e4 => ?_⟩⟩
  · exfalso; rw [t_le, k8] at c; omega
  refine kg_X7_makeKnown_29 hq (fun r hr r1 r2 z ez => rv_i ?_)
  have x39 : x3.1 100 9 = x.1 100 9 := by rw [e3]; (simp only [si_get, sfl_get, Nat.reduceEqDiff, eq_self, and_false, false_and, and_true, true_and, if_true, if_false, reduceIte, reduceCtorEq])
  have x49 : x4.1 100 9 = x.1 100 9 + 1 := by rw [e4, x39]; (simp only [si_get, sfl_get, Nat.reduceEqDiff, eq_self, and_false, false_and, and_true, true_and, if_true, if_false, reduceIte, reduceCtorEq])
  have t49 : (x4.1 100 9).toInt = (x.1 100 9).toInt + 1 := by rw [x49, t_add (by show _ ≤ _ + (1 : Int); omega) (by show _ + (1 : Int) ≤ _; omega)]; rfl
  have x413 : x4.1 60 13 = x.1 60 13 := by rw [e4, e3]; (simp only [si_get, sfl_get, Nat.reduceEqDiff, eq_self, and_false, false_and, and_true, true_and, if_true, if_false, reduceIte, reduceCtorEq])
  rw [x413] at hr r1
  have f : fm (fun c k => (c = 100 ∧ (k = 7 ∨ k = 9)) ∨ c = 109 ∨ (c = 60 ∧ k = 13)) x z := by
    rw [ez, e4, e3]; exact fm_si (fm_si (fm_si (fm_rf _ _) (Or.inr (Or.inl rfl))) (Or.inl ⟨rfl, Or.inr rfl⟩)) (Or.inr (Or.inr ⟨rfl, rfl⟩))
  have z9 : z.1 100 9 = x4.1 100 9 := by rw [ez]; (simp only [si_get, sfl_get, Nat.reduceEqDiff, eq_self, and_false, false_and, and_true, true_and, if_true, if_false, reduceIte, reduceCtorEq])
  have z7 : z.1 100 7 = x.1 100 7 := by rw [ez, e4, e3]; (simp only [si_get, sfl_get, Nat.reduceEqDiff, eq_self, and_false, false_and, and_true, true_and, if_true, if_false, reduceIte, reduceCtorEq])
  have z13 : z.1 60 13 = r := by rw [ez]; (simp only [si_get, sfl_get, Nat.reduceEqDiff, eq_self, and_false, false_and, and_true, true_and, if_true, if_false, reduceIte, reduceCtorEq])
  have eN : (((x.1 100 9).toNatClampNeg : Nat) : Int) = (x.1 100 9).toInt := by rw [t_cl]; omega
  have hKz : KN z := by
    unfold KN tk at kx ⊢
    rw [z9, t49, f 20 7 (by omega)]
    refine ⟨by omega, fun i hi => ?_⟩
    by_cases hi2 : i = (x.1 100 9).toNatClampNeg
    · have : z.1 109 i = t := by rw [hi2, ez, e4, e3]; (simp only [si_get, sfl_get, Nat.reduceEqDiff, eq_self, and_false, false_and, and_true, true_and, if_true, if_false, reduceIte, reduceCtorEq])
      rw [this]; exact ht
    · have : z.1 109 i = x.1 109 i := by
        rw [ez, e4, e3, si_get, if_neg (by omega), si_get, if_neg (by omega), si_get, if_neg (fun q => hi2 q.2)]
      rw [this]; exact kx.2 i (by omega)
  have hEz : KV' K e z (exV Ev (22, t.toNatClampNeg, b)) := by
    obtain ⟨e9, he⟩ := hE
    show (z.1 100 9).toInt = (((t.toNatClampNeg, Ev.2.2) :: Ev.1).length : Nat) ∧ ∀ (p : Nat) (k : Nat × Nat), ((t.toNatClampNeg, Ev.2.2) :: Ev.1)[p]? = some k → (z.1 109 (((t.toNatClampNeg, Ev.2.2) :: Ev.1).length - 1 - p)).toNatClampNeg = k.1 ∧ K k.1 = 1 ∧ k.1 ≤ e
    rw [List.length_cons]
    refine ⟨by rw [z9, t49]; omega, fun p k hp => ?_⟩
    cases p with
    | zero =>
      have ek : (t.toNatClampNeg, Ev.2.2) = k := Option.some.inj hp
      rw [← ek]
      have ei : Ev.1.length + 1 - 1 - 0 = (x.1 100 9).toNatClampNeg := by omega
      have : z.1 109 (x.1 100 9).toNatClampNeg = t := by rw [ez, e4, e3]; (simp only [si_get, sfl_get, Nat.reduceEqDiff, eq_self, and_false, false_and, and_true, true_and, if_true, if_false, reduceIte, reduceCtorEq])
      rw [ei, this]
      exact ⟨rfl, hk1, hte⟩
    | succ p =>
      have hp2 : Ev.1[p]? = some k := hp
      obtain ⟨hpl, -⟩ := List.getElem?_eq_some_iff.mp hp2
      have ei : Ev.1.length + 1 - 1 - (p + 1) = Ev.1.length - 1 - p := by omega
      have : z.1 109 (Ev.1.length - 1 - p) = x.1 109 (Ev.1.length - 1 - p) := by
        rw [ez, e4, e3, si_get, if_neg (by omega), si_get, if_neg (by omega), si_get, if_neg (by omega)]
      rw [ei, this]
      exact he p k hp2
  refine h z (BB_kn hB (M' := (z.1 60 13).toInt) (by rw [z13]; omega) f hKz (by rw [z9, t49]; omega) (by rw [z9, t49, z7]; omega) (by rw [z13]; omega) (by rw [z9, z13]; omega)) ?_ ?_ ?_ hEz f z7
  · unfold nx; rw [f 100 4 (by omega)]
  · unfold om; rw [f 100 13 (by omega)]
  · unfold ssm; rw [f 80 9 (by omega)]
end KMK
end
section
/-! the class: the open statements as the grammar's stack u of kinds, and where blocks' locals begin (B; an else-if's place is no block) -/
def SKs (x : gd) : Nat → List Nat → List Nat → Prop
  | 0, u, B => u = [] ∧ B = []
  | n + 1, u, B => ∃ z u', u = z :: u' ∧ (x.1 111 n).toInt = (z : Nat) ∧ ((z = 5 ∧ SKs x n u' B) ∨ (¬ z = 5 ∧ ∃ b B', B = b :: B' ∧ (x.1 113 n).toNatClampNeg = b ∧ SKs x n u' B'))
theorem SKs_eq {x y : gd} : ∀ {n : Nat} {u B : List Nat}, (∀ k, k < n → y.1 111 k = x.1 111 k ∧ y.1 113 k = x.1 113 k) → SKs x n u B → SKs y n u B := by
  intro n
  induction n with
  | zero => intro u B _ h; exact h
  | succ n ih =>
    intro u B g h
    obtain ⟨z, u', h1, h2, h3⟩ := h
    obtain ⟨e1, e2⟩ := g n (Nat.lt_succ_self _)
    have g' : ∀ k, k < n → y.1 111 k = x.1 111 k ∧ y.1 113 k = x.1 113 k := fun k hk => g k (Nat.lt_succ_of_lt hk)
    refine ⟨z, u', h1, by rw [e1]; exact h2, ?_⟩
    rcases h3 with ⟨a, b⟩ | ⟨a, b, B', c1, c2, c3⟩
    · exact Or.inl ⟨a, ih g' b⟩
    · exact Or.inr ⟨a, b, B', c1, by rw [e2]; exact c2, ih g' c3⟩
theorem SKs_len {x : gd} : ∀ {n : Nat} {u B : List Nat}, SKs x n u B → u.length = n := by
  intro n
  induction n with
  | zero => intro u B h; rw [h.1]; rfl
  | succ n ih =>
    intro u B h
    obtain ⟨z, u', h1, h2, h3⟩ := h
    rw [h1, List.length_cons]
    rcases h3 with ⟨a, b⟩ | ⟨a, b, B', c1, c2, c3⟩
    · rw [ih b]
    · rw [ih c3]
/-- the innermost block -/
theorem SKs_top {x : gd} {n : Nat} {u B : List Nat} (h : SKs x (n + 1) u B) (h5 : ¬ x.1 111 n = 5) : ∃ z u' B', u = z :: u' ∧ (x.1 111 n).toInt = (z : Nat) ∧ ¬ z = 5 ∧ (x.1 113 n).toNatClampNeg = B.headD 0 ∧ B = B.headD 0 :: B' ∧ SKs x n u' B' := by
  obtain ⟨z, u', h1, h2, h3⟩ := h
  have k5 : (5 : Int32).toInt = 5 := rfl
  rcases h3 with ⟨a, b⟩ | ⟨a, b, B', c1, c2, c3⟩
  · exfalso
    apply h5
    rw [t_eq, k5]
    omega
  · exact ⟨z, u', B', h1, h2, a, by rw [c1]; exact c2, by rw [c1]; rfl, c3⟩
/-- fewer locals are known -/
theorem KV_drop {K : Nat → Int32} {e : Nat} {x y : gd} {E : gV} {B : List Nat} {c : Nat} (h : KV' K e x E) {m : Nat} (hm : m ≤ E.1.length) (e9 : (y.1 100 9).toInt = m) (e109 : ∀ k, y.1 109 k = x.1 109 k) : KV' K e y (E.1.drop (E.1.length - m), B, c) := by
  obtain ⟨h1, h2⟩ := h
  have el : (E.1.drop (E.1.length - m)).length = m := by rw [List.length_drop]; omega
  show (y.1 100 9).toInt = ((E.1.drop (E.1.length - m)).length : Nat) ∧ ∀ (p : Nat) (k : Nat × Nat), (E.1.drop (E.1.length - m))[p]? = some k → (y.1 109 ((E.1.drop (E.1.length - m)).length - 1 - p)).toNatClampNeg = k.1 ∧ K k.1 = 1 ∧ k.1 ≤ e
  rw [el]
  refine ⟨e9, fun p k hp => ?_⟩
  rw [List.getElem?_drop] at hp
  obtain ⟨hl, -⟩ := List.getElem?_eq_some_iff.mp hp
  have := h2 _ k hp
  have ei : E.1.length - 1 - (E.1.length - m + p) = m - 1 - p := by omega
  rw [ei] at this
  rw [e109]
  exact this
end
section
/-! the class's code: the steps of open statements -/
/-- a statement is opened -/
def Pu (x y : gd) (k s : Int32) : Prop := (∀ c j, ccS c j → ¬ (c = 100 ∧ j = 13) → ¬ ((c = 111 ∨ c = 112) ∧ j = (x.1 100 13).toNatClampNeg) → y.1 c j = x.1 c j) ∧ (y.1 100 13).toNatClampNeg = (x.1 100 13).toNatClampNeg + 1 ∧ y.1 111 (x.1 100 13).toNatClampNeg = k ∧ y.1 112 (x.1 100 13).toNatClampNeg = s ∧ ¬ x.1 100 5 = 0
/-- one with the step t is closed -/
def Po (x y : gd) (t : Nat) : Prop := (∀ c j, ccS c j → ¬ (c = 100 ∧ j = 13) → y.1 c j = x.1 c j) ∧ (y.1 100 13).toNatClampNeg + 1 = (x.1 100 13).toNatClampNeg ∧ ¬ x.1 111 (y.1 100 13).toNatClampNeg = 0 ∧ (x.1 112 (y.1 100 13).toNatClampNeg).toInt = (t : Nat) ∧ ¬ x.1 100 5 = 0
/-- from x, where the innermost statement (step n) is closed already but not in the events, to y by the events N -/
def CGn (sN : Nat → Nat → Bool) (V K : Nat → Int32) (n : Nat) (Ev : gV) (x y : gd) (N : gU) : Prop := ∀ Ec S k w d P, eqE Ec Ev → CCp sN V K x (Ec, S, k, rg0, w) d P → CCp sN V K y (cds sN K N (Ec, S, n :: k, rg0, w)) (ces K V N d) (P ++ tPs sN V K N Ev) ∧ eqE (cds sN K N (Ec, S, n :: k, rg0, w)).1 (exs N Ev) ∧ (cds sN K N (Ec, S, n :: k, rg0, w)).2.2.2.1 = rg0
/-- an if ends, and those around it -/
def CE (sN : Nat → Nat → Bool) (V K : Nat → Int32) (n : Nat) (x y : gd) (N : gU) : Prop := ∀ Ec S k r w d P, CCp sN V K x (Ec, S, k, r, w) d P → ∃ S' k', cds sN K ([(63, 0, 0)] ++ N) (Ec, S, n :: k, r, w) = (Ec, S', k', r, w) ∧ CCp sN V K y (Ec, S', k', r, w) d P
section KCK
variable {sN : Nat → Nat → Bool} {V K : Nat → Int32} {Ev Ec Ec' : gV} {x y z w9 x1 x4 : gd} {M N N' : gU} {e i j n t z9 v9 : Nat} {d : Nat × Int32 × List (Int32 × Bool)} {P : List (Int32 × Int32)} {S : List gSt} {k k' : List Nat} {r r' : gRg} {w : List (Nat × Nat) × List (Nat × gU)} {kk s a b o v : Int32}
theorem CCp_stk (h : CCp sN V K x (Ec, S, k, r, w) d P) (g : ∀ c j, ccS c j → ¬ (c = 100 ∧ (j = 13 ∨ j = 5)) → ¬ c = 111 → ¬ c = 112 → y.1 c j = x.1 c j) (hs : (¬ y.1 100 5 = 0 → SKk y (y.1 100 13).toNatClampNeg k') ∧ (y.1 100 5 = 0 → k' = [])) : CCp sN V K y (Ec', S, k', r', w) d P := by
  obtain ⟨⟨p1, p2⟩, ⟨s1, s2⟩, -, ⟨b1, b2⟩, ⟨c1, c2⟩, ⟨a1, a2⟩, ⟨f1, f2⟩⟩ := h
  have g8 : ∀ c k, 61 ≤ c → c < 90 → y.1 c k = x.1 c k := fun c k q1 q2 => g c k (Or.inr (Or.inl ⟨q1, q2⟩)) (by omega) (by omega) (by omega)
  have g6 : ∀ k, k ≠ 13 → y.1 60 k = x.1 60 k := fun k q => g 60 k (Or.inl ⟨rfl, q⟩) (by omega) (by omega) (by omega)
  exact ⟨⟨by rw [g6 3 (by decide)]; exact p1, fun i q hi hq => by rw [g8 62 i (by decide) (by decide), g8 63 i (by decide) (by decide)]; exact p2 i q hi hq⟩, ⟨by rw [g8 80 9 (by decide) (by decide)]; exact s1, fun j st hj => kS_eq (fun k q1 q2 => g8 k j (by omega) q2) (s2 j st hj)⟩, hs, ⟨by rw [g6 10 (by decide)]; exact b1, fun t q hq => by rw [g8 72 t (by decide) (by decide), g8 73 t (by decide) (by decide)]; exact b2 t q hq⟩, ⟨by rw [g6 6 (by decide)]; exact c1, fun j q hq => by rw [g8 68 j (by decide) (by decide), g8 69 j (by decide) (by decide)]; exact c2 j q hq⟩, ⟨by rw [g6 14 (by decide)]; exact a1, fun k N hN => by rw [g8 76 k (by decide) (by decide)]; exact a2 k N hN⟩, ⟨by rw [g6 16 (by decide)]; exact f1, fun k N hN => by rw [g8 78 k (by decide) (by decide)]; exact f2 k N hN⟩⟩
theorem CCp_push (h : CCp sN V K x (Ec, S, k, r, w) d P) (g : Pu x y kk s) (hk : ¬ kk = 0) (hs : s.toInt = (j : Nat)) : CCp sN V K y (Ec', S, j :: k, r', w) d P := by
  obtain ⟨g1, g2, g3, g4, g5⟩ := g
  have e5 : y.1 100 5 = x.1 100 5 := g1 _ _ (Or.inr (Or.inr (Or.inl ⟨rfl, Or.inl rfl⟩))) (by omega) (by omega)
  refine CCp_stk h (fun c j q q1 q2 q3 => g1 c j q (by omega) (by omega)) ⟨fun _ => ?_, fun q => absurd (by rw [← e5]; exact q) g5⟩
  rw [g2]
  exact Or.inr ⟨by rw [g3]; exact hk, j, k, rfl, by rw [g4]; exact hs, SKk_eq (fun i hi => ⟨g1 111 i (Or.inr (Or.inr (Or.inr (Or.inl rfl)))) (by omega) (by omega), g1 112 i (Or.inr (Or.inr (Or.inr (Or.inr rfl)))) (by omega) (by omega)⟩) (h.2.2.1.1 g5)⟩
theorem CCp_pop (h : CCp sN V K x (Ec, S, k, r, w) d P) (g : Po x y t) : ∃ k', k = t :: k' ∧ ∀ Ec' r', CCp sN V K y (Ec', S, k', r', w) d P := by
  obtain ⟨g1, g2, g3, g4, g5⟩ := g
  have e5 : y.1 100 5 = x.1 100 5 := g1 _ _ (Or.inr (Or.inr (Or.inl ⟨rfl, Or.inl rfl⟩))) (by omega)
  have hs := h.2.2.1.1 g5
  rw [← g2] at hs
  rcases hs with ⟨q, -⟩ | ⟨-, j, k', q1, q2, q3⟩
  · exact absurd q g3
  have ej : j = t := by
    rw [g4] at q2
    omega
  rw [ej] at q1
  refine ⟨k', q1, fun Ec' r' => CCp_stk h (fun c j q q1 q2 q3 => g1 c j q (by omega)) ⟨fun _ => ?_, fun q => absurd (by rw [← e5]; exact q) g5⟩⟩
  exact SKk_eq (fun i hi => ⟨g1 111 i (Or.inr (Or.inr (Or.inr (Or.inl rfl)))) (by omega), g1 112 i (Or.inr (Or.inr (Or.inr (Or.inr rfl)))) (by omega)⟩) q3
/-- a step's target is set -/
theorem CCp_to (h : CCp sN V K x (Ec, S, k, r, w) d P) (ey : y = si x 84 j v) (hv : v.toInt = (n : Nat)) (h8 : ¬ x.1 81 j = 8) : CCp sN V K y (Ec', cTo S j n, k, r', w) d P := by
  obtain ⟨⟨p1, p2⟩, ⟨s1, s2⟩, ⟨k1, k2⟩, ⟨b1, b2⟩, ⟨c1, c2⟩, ⟨a1, a2⟩, ⟨f1, f2⟩⟩ := h
  have g : ∀ c i, ¬ c = 84 → y.1 c i = x.1 c i := fun c i q => by rw [ey, si_get, if_neg (fun z => q z.1)]
  refine ⟨⟨by rw [g 60 3 (by decide)]; exact p1, fun i q hi hq => by rw [g 62 i (by decide), g 63 i (by decide)]; exact p2 i q hi hq⟩, ⟨by rw [g 80 9 (by decide)]; show _ = ((cTo S j n).length : Int); rw [cTo_len]; exact s1, fun i st hi => ?_⟩, ⟨fun q => ?_, fun q => k2 (by rw [← g 100 5 (by decide)]; exact q)⟩, ⟨by rw [g 60 10 (by decide)]; exact b1, fun t q hq => by rw [g 72 t (by decide), g 73 t (by decide)]; exact b2 t q hq⟩, ⟨by rw [g 60 6 (by decide)]; exact c1, fun j q hq => by rw [g 68 j (by decide), g 69 j (by decide)]; exact c2 j q hq⟩, ⟨by rw [g 60 14 (by decide)]; exact a1, fun k N hN => by rw [g 76 k (by decide)]; exact a2 k N hN⟩, ⟨by rw [g 60 16 (by decide)]; exact f1, fun k N hN => by rw [g 78 k (by decide)]; exact f2 k N hN⟩⟩
  · have hi : (cTo S j n)[i]? = some st := hi
    rw [cTo_at] at hi
    obtain ⟨st0, h0, h1⟩ := Option.map_eq_some_iff.mp hi
    have hk := s2 i st0 h0
    by_cases c : i = j
    · rw [if_pos c] at h1
      obtain ⟨q1, q2, q3, q4, q5, q6, q7, q8⟩ := hk
      rw [← h1]
      unfold kS
      rw [g 81 i (by decide), g 83 i (by decide), g 85 i (by decide), g 87 i (by decide), g 88 i (by decide), g 89 i (by decide)]
      refine ⟨q1, q2, fun _ => ?_, fun q => ?_, q5, q6, q7, q8⟩
      · rw [ey, si_get, if_pos ⟨rfl, c⟩]
        exact hv
      · exfalso
        have q : st0.1 = 8 := q
        rw [q, c] at q1
        exact h8 q1
    · rw [if_neg c] at h1
      rw [← h1]
      have e84 : y.1 84 i = x.1 84 i := by rw [ey, si_get, if_neg (fun z => c z.2)]
      exact kS_eq (fun k q1 q2 => by
        by_cases ck : k = 84
        · rw [ck]; exact e84
        · exact g k i ck) hk
  · rw [g 100 13 (by decide)]
    exact SKk_eq (fun i _ => ⟨g 111 i (by decide), g 112 i (by decide)⟩) (k1 (by rw [← g 100 5 (by decide)]; exact q))
theorem CCp_sm (h : CCp sN V K x (Ec, S, k, r, w) d P) : (x.1 80 9).toInt = (S.length : Nat) := h.2.1.1
/-- if, while -/
theorem CG_test {N2 : gU} (h : PD sN V K Ev x y none N [(s, N2)] 0 false) (hEv : ¬ Ev.2.1 = []) (hE : KV' K e y Ev) (a : stK y z 17 (y.1 100 9) (-1) (-1) (-1) s (-1)) (fr : ∀ c k, ccS c k → w9.1 c k = z.1 c k) (p : Pu w9 x1 kk (y.1 80 9)) (hk : ¬ kk = 0) (hv : v9 = 60 ∨ v9 = 61) : CG sN V K Ev x x1 (N ++ [(v9, i, 0)] ++ [(20, z9, 0)]) := by
  obtain ⟨h1, h2, h3, h4, h5⟩ := h
  intro c d P he hr hc
  obtain ⟨Ec, S, k, rr, ww⟩ := c
  have hr : rr = rgT none 0 := hr
  have he : eqE Ec Ev := he
  obtain ⟨g1, g2⟩ := h5 _ d P he hc
  have hEc : ¬ Ec.2.1 = [] := by rw [he.2]; exact hEv
  have kl : (y.1 100 9).toInt = (Ec.1.length : Nat) := by rw [hE.1, eqE_len he]
  have su : cSu sN V K (P ++ tPs sN V K N Ev) Ec.1 s (some N2) := by
    have hm : (s, N2) ∈ [(s, N2)] := List.mem_singleton.mpr rfl
    have q1 := g2 _ hm
    have q2 : sPs sN V K Ev N2 = sPs sN V K (Ec.1, [0], 0) N2 := sPs_E (h3 _ hm) (fun t => kfi_len he.1.symm)
    show SUc _ _ (sPs sN V K (Ec.1, [0], 0) N2)
    rw [← q2]
    exact q1
  have q := CCp_add (st := (17, i, knw Ec, none, none, false, none, some N2, none)) (r' := rg0) g1 a rfl kl (fun _ => rfl) (fun q => absurd q (show ¬ 17 = 8 by decide)) (fun _ => rfl) rfl su rfl
  have q' := CCp_push (Ec' := exV Ec (20, z9, 0)) (r' := rg0) (CCp_eq fr q) p hk (CCp_sm g1)
  have ec : cds sN K (N ++ [(v9, i, 0)] ++ [(20, z9, 0)]) (Ec, S, k, rr, ww) = (exV Ec (20, z9, 0), S ++ [(17, i, knw Ec, none, none, false, none, some N2, none)], S.length :: k, rg0, ww) := by
    rw [hr, cds_app, cds_app, h4 _ _ _ _ _ hEc]
    rcases hv with e | e
    · rw [e]; rfl
    · rw [e]; rfl
  have ee : ces K V (N ++ [(v9, i, 0)] ++ [(20, z9, 0)]) d = d := by
    rw [ces_app, ces_app, h2]
    rcases hv with e | e <;> (rw [e]; rfl)
  have sv : still (N ++ [(v9, i, 0)]) := still_app h1 (by rcases hv with e | e <;> (rw [e]; exact stl_k (by decide)))
  have ep : tPs sN V K (N ++ [(v9, i, 0)] ++ [(20, z9, 0)]) Ev = tPs sN V K N Ev := by
    have e1 : tPs sN V K [(v9, i, 0)] Ev = [] := by rcases hv with e | e <;> (rw [e]; rfl)
    have e2 : tPs sN V K [(20, z9, 0)] Ev = [] := rfl
    rw [tPs_app, exs_still sv, e2, List.append_nil, tPs_app, exs_still h1, e1, List.append_nil]
  have ex : exs (N ++ [(v9, i, 0)] ++ [(20, z9, 0)]) Ev = exV Ev (20, z9, 0) := by rw [exs_app, exs_still sv]; rfl
  rw [ec, ee, ep, ex]
  exact ⟨q', exV_q he, rfl⟩
/-- a lock's block -/
theorem CG_lock (fr0 : ∀ c k, ccS c k → y.1 c k = x.1 c k) (hE : KV' K e y Ev) (hoi : a.toInt = (j : Nat)) (ha : stK y z 5 (y.1 100 9) b a (-1) (-1) (-1)) (fr : ∀ c k, ccS c k → w9.1 c k = z.1 c k) (p : Pu w9 x1 2 (y.1 80 9)) : CG sN V K Ev x x1 ([(65, i, j)] ++ [(20, 2, 0)]) := by
  intro c d P he hr hc
  obtain ⟨Ec, S, k, rr, ww⟩ := c
  have hr : rr = rg0 := hr
  have he : eqE Ec Ev := he
  have g1 := CCp_eq fr0 hc
  have kl : (y.1 100 9).toInt = (Ec.1.length : Nat) := by rw [hE.1, eqE_len he]
  have q := CCp_add (st := (5, i, knw Ec, none, some j, false, none, none, none)) (r' := rg0) g1 ha rfl kl (fun q => absurd q (show ¬ (5 = 0 ∨ (2 ≤ 5 ∧ 5 ≤ 4) ∨ 5 = 16 ∨ 5 = 17 ∨ 5 = 20) by decide)) (fun q => absurd q (show ¬ 5 = 8 by decide)) (fun _ => hoi) rfl rfl rfl
  have q' := CCp_push (Ec' := exV Ec (20, 2, 0)) (r' := rg0) (CCp_eq fr q) p (by decide) (CCp_sm g1)
  have ec : cds sN K ([(65, i, j)] ++ [(20, 2, 0)]) (Ec, S, k, rr, ww) = (exV Ec (20, 2, 0), S ++ [(5, i, knw Ec, none, some j, false, none, none, none)], S.length :: k, rg0, ww) := by
    rfl
  have ee : ces K V ([(65, i, j)] ++ [(20, 2, 0)]) d = d := rfl
  have ep : tPs sN V K ([(65, i, j)] ++ [(20, 2, 0)]) Ev = [] := rfl
  have ex : exs ([(65, i, j)] ++ [(20, 2, 0)]) Ev = exV Ev (20, 2, 0) := rfl
  rw [ec, ee, ep, ex, List.append_nil]
  exact ⟨q', exV_q he, rfl⟩
/-- an if ends -/
theorem CE_0 (ey : y = si x 84 n (x.1 80 9)) (h8 : ¬ x.1 81 n = 8) : CE sN V K n x y [] := fun Ec S k r w d P h => ⟨_, _, rfl, CCp_to h ey (CCp_sm h) h8⟩
theorem CE_more (h : CE sN V K n x y N) (p : Po y z t) (ey : w9 = si z 84 t (z.1 80 9)) (h8 : ¬ z.1 81 t = 8) : CE sN V K n x w9 (N ++ [(63, 0, 0)]) := by
  intro Ec S k r w d P hc
  obtain ⟨S', k', e1, q1⟩ := h Ec S k r w d P hc
  obtain ⟨k2, e2, q2⟩ := CCp_pop q1 p
  refine ⟨cTo S' t S'.length, k2, ?_, CCp_to (q2 Ec r) ey (CCp_sm (q2 Ec r)) h8⟩
  rw [← List.append_assoc, cds_app, e1, e2]
  rfl
theorem n63_tPs {E : gV} : ∀ {N : gU}, (∀ v ∈ N, v = ((63, 0, 0) : Nat × Nat × Nat)) → tPs sN V K N E = [] ∧ exs N E = E ∧ ∀ d, ces K V N d = d := by
  intro N
  induction N with
  | nil => intro _; exact ⟨rfl, rfl, fun d => rfl⟩
  | cons v N ih =>
    intro h
    obtain ⟨i1, i2, i3⟩ := ih (fun w hw => h w (List.mem_cons_of_mem _ hw))
    rw [h v List.mem_cons_self]
    exact ⟨i1, i2, i3⟩
theorem CE_n (h : CE sN V K n x y N) (hN : ∀ v ∈ N, v = ((63, 0, 0) : Nat × Nat × Nat)) : CGn sN V K n Ev x y ([(63, 0, 0)] ++ N) := by
  intro Ec S k w d P he hc
  obtain ⟨S', k', e1, q1⟩ := h Ec S k rg0 w d P hc
  obtain ⟨i1, i2, i3⟩ := n63_tPs (sN := sN) (V := V) (K := K) (E := Ev) (N := [(63, 0, 0)] ++ N) (fun v hv => (List.mem_append.mp hv).elim (fun q => List.mem_singleton.mp q) (hN v))
  rw [e1, i1, i2, i3, List.append_nil]
  exact ⟨q1, he, rfl⟩
/-- the end of an if's or else's block -/
theorem CG_21n (fr : ∀ c k, ccS c k → x1.1 c k = x.1 c k) (p : Po x1 x4 t) (hz : z9 = 3 ∨ z9 = 4) (h : CGn sN V K t (exV Ev (21, z9, 0)) x4 y N) : CG sN V K Ev x y ([(21, z9, 0)] ++ N) := by
  intro c d P he hr hc
  obtain ⟨Ec, S, k, rr, ww⟩ := c
  have hr : rr = rg0 := hr
  have he : eqE Ec Ev := he
  obtain ⟨k2, e2, q2⟩ := CCp_pop (CCp_eq fr hc) p
  have e1 : cds sN K [(21, z9, 0)] (Ec, S, k, rr, ww) = (exV Ec (21, z9, 0), S, t :: k2, rg0, ww) := by
    rw [cds_one, cd_21, hr, e2]
    rcases hz with q | q <;> (rw [q]; rfl)
  have e3 : tPs sN V K [(21, z9, 0)] Ev = [] := rfl
  have e4 : ces K V [(21, z9, 0)] d = d := rfl
  obtain ⟨g1, g2, g3⟩ := h _ S k2 ww d P (exV_q (v := (21, z9, 0)) he) (q2 _ _)
  rw [cds_app, e1, ces_app, e4, tPs_app, e3, List.nil_append, exs_app]
  exact ⟨g1, g2, g3⟩
/-- of a while's -/
theorem CG_21w (fr : ∀ c k, ccS c k → x1.1 c k = x.1 c k) (p : Po x1 x4 t) (hE : KV' K e x4 (exV Ev (21, 1, 0))) (hs : s.toInt = (t : Nat)) (a : stK x4 y 20 (x4.1 100 9) s (-1) (-1) (-1) (-1)) (ez : z = si y 84 t (y.1 80 9)) (h8 : ¬ y.1 81 t = 8) : CG sN V K Ev x z [(21, 1, 0)] := by
  intro c d P he hr hc
  obtain ⟨Ec, S, k, rr, ww⟩ := c
  have hr : rr = rg0 := hr
  have he : eqE Ec Ev := he
  obtain ⟨k2, e2, q2⟩ := CCp_pop (CCp_eq fr hc) p
  have he' := exV_q (v := (21, 1, 0)) he
  have kl : (x4.1 100 9).toInt = ((exV Ec (21, 1, 0)).1.length : Nat) := by rw [hE.1, eqE_len he']
  have q := CCp_add (st := (20, 0, knw (exV Ec (21, 1, 0)), some t, none, false, none, none, none)) (r' := rg0) (q2 (exV Ec (21, 1, 0)) rg0) a rfl kl (fun _ => hs) (fun q => absurd q (show ¬ 20 = 8 by decide)) (fun _ => rfl) rfl rfl rfl
  have q3 := CCp_to (Ec' := exV Ec (21, 1, 0)) (r' := rg0) q ez (CCp_sm q) h8
  have e1 : cds sN K [(21, 1, 0)] (Ec, S, k, rr, ww) = (exV Ec (21, 1, 0), cTo (S ++ [(20, 0, knw (exV Ec (21, 1, 0)), some t, none, false, none, none, none)]) t (S ++ [(20, 0, knw (exV Ec (21, 1, 0)), some t, none, false, none, none, none)]).length, k2, rg0, ww) := by
    rw [cds_one, cd_21, hr, e2, List.length_append]
    rfl
  have e3 : tPs sN V K [(21, 1, 0)] Ev = [] := rfl
  have e4 : ces K V [(21, 1, 0)] d = d := rfl
  rw [e1, e4, e3, List.append_nil]
  exact ⟨q3, he', rfl⟩
/-- of a lock's -/
theorem CG_21l (fr : ∀ c k, ccS c k → x1.1 c k = x.1 c k) (p : Po x1 x4 t) (hE : KV' K e x4 (exV Ev (21, 2, 0))) (ht : (t : Int) < (x4.1 80 9).toInt) (h5 : x4.1 81 t = 5) (a : stK x4 y 6 (x4.1 100 9) b (x4.1 85 t) (-1) (-1) (-1)) : CG sN V K Ev x y [(21, 2, 0)] := by
  intro c d P he hr hc
  obtain ⟨Ec, S, k, rr, ww⟩ := c
  have hr : rr = rg0 := hr
  have he : eqE Ec Ev := he
  obtain ⟨k2, e2, q2⟩ := CCp_pop (CCp_eq fr hc) p
  have he' := exV_q (v := (21, 2, 0)) he
  have kl : (x4.1 100 9).toInt = ((exV Ec (21, 2, 0)).1.length : Nat) := by rw [hE.1, eqE_len he']
  have c4 := q2 (exV Ec (21, 2, 0)) rg0
  rw [CCp_sm c4] at ht
  have ht : t < S.length := by omega
  obtain ⟨st, hst⟩ : ∃ st, S[t]? = some st := ⟨_, List.getElem?_eq_getElem ht⟩
  have ks := c4.2.1.2 t st hst
  have n16 : ¬ st.1 = 16 := fun q => by
    have := ks.1
    rw [h5, q] at this
    exact absurd this (by decide)
  have n13 : ¬ st.1 = 13 := fun q => by
    have := ks.1
    rw [h5, q] at this
    exact absurd this (by decide)
  have hob : obI V (x4.1 85 t) 6 st.2.2.2.2.1 := by
    have h9 := ks.2.2.2.2.1 n16
    cases h8 : st.2.2.2.2.1 with
    | none => rw [h8] at h9; exact h9
    | some t0 =>
      rw [h8] at h9
      have h9 : if st.1 = 13 then x4.1 85 t = V t0 else (x4.1 85 t).toInt = (t0 : Nat) := h9
      rw [if_neg n13] at h9
      exact h9
  have q := CCp_add (st := (6, st.2.1, knw (exV Ec (21, 2, 0)), none, st.2.2.2.2.1, false, none, none, none)) (r' := rg0) c4 a rfl kl (fun q => absurd q (show ¬ (6 = 0 ∨ (2 ≤ 6 ∧ 6 ≤ 4) ∨ 6 = 16 ∨ 6 = 17 ∨ 6 = 20) by decide)) (fun q => absurd q (show ¬ 6 = 8 by decide)) (fun _ => hob) rfl rfl rfl
  have e1 : cds sN K [(21, 2, 0)] (Ec, S, k, rr, ww) = (exV Ec (21, 2, 0), S ++ [(6, st.2.1, knw (exV Ec (21, 2, 0)), none, st.2.2.2.2.1, false, none, none, none)], k2, rg0, ww) := by
    rw [cds_one, cd_21, hr, e2]
    have eg : gtS S t = st := by unfold gtS; rw [hst]; rfl
    show (exV Ec (21, 2, 0), S ++ [(6, (gtS S t).2.1, knw (exV Ec (21, 2, 0)), none, (gtS S t).2.2.2.2.1, false, none, none, none)], k2, rg0, ww) = _
    rw [eg]
  have e3 : tPs sN V K [(21, 2, 0)] Ev = [] := rfl
  have e4 : ces K V [(21, 2, 0)] d = d := rfl
  rw [e1, e4, e3, List.append_nil]
  exact ⟨q, he', rfl⟩
/-- of a thread's -/
theorem CG_21t (fr : ∀ c k, ccS c k → x1.1 c k = x.1 c k) (f4 : ∀ c j, ccS c j → ¬ (c = 100 ∧ j = 13) → x4.1 c j = x1.1 c j) (h13 : (x1.1 100 13).toNatClampNeg = 1) (h111 : x1.1 111 0 = 0) (h5 : ¬ x1.1 100 5 = 0) (a : stK x4 y 21 0 (-1) (-1) (-1) (-1) (-1)) (fz : ∀ c k, ¬ (c = 100 ∧ k = 5) → z.1 c k = y.1 c k) (z5 : z.1 100 5 = 0) (o4 : (x4.1 100 13).toNatClampNeg = 0) (hE : (exV Ev (21, 0, 0)).1 = []) : CG sN V K Ev x z [(21, 0, 0)] := by
  intro c d P he hr hc
  obtain ⟨Ec, S, k, rr, ww⟩ := c
  have hr : rr = rg0 := hr
  have he : eqE Ec Ev := he
  have c1 := CCp_eq fr hc
  have hk := c1.2.2.1.1 h5
  rw [h13] at hk
  have hk : k = [] := by
    rcases hk with ⟨-, q⟩ | ⟨q, -⟩
    · exact q
    · exact absurd h111 q
  have e5 : x4.1 100 5 = x1.1 100 5 := f4 _ _ (Or.inr (Or.inr (Or.inl ⟨rfl, Or.inl rfl⟩))) (by omega)
  have c4 : CCp sN V K x4 (exV Ec (21, 0, 0), S, [], rg0, ww) d P := CCp_stk c1 (fun c j q q1 q2 q3 => f4 c j q (by omega)) ⟨fun _ => by rw [o4]; rfl, fun _ => rfl⟩
  have he' := exV_q (v := (21, 0, 0)) he
  have kl : (0 : Int32).toInt = ((exV Ec (21, 0, 0)).1.length : Nat) := by
    rw [eqE_len he', hE]; rfl
  have q := CCp_add (st := (21, 0, knw (exV Ec (21, 0, 0)), none, none, false, none, none, none)) (r' := rg0) c4 a rfl kl (fun q => absurd q (show ¬ (21 = 0 ∨ (2 ≤ 21 ∧ 21 ≤ 4) ∨ 21 = 16 ∨ 21 = 17 ∨ 21 = 20) by decide)) (fun q => absurd q (show ¬ 21 = 8 by decide)) (fun _ => rfl) rfl rfl rfl
  have q3 : CCp sN V K z (exV Ec (21, 0, 0), S ++ [(21, 0, knw (exV Ec (21, 0, 0)), none, none, false, none, none, none)], [], rg0, ww) d P := CCp_stk q (fun c j q q1 q2 q3 => fz c j (by omega)) ⟨fun q => absurd z5 q, fun _ => rfl⟩
  have e1 : cds sN K [(21, 0, 0)] (Ec, S, k, rr, ww) = (exV Ec (21, 0, 0), S ++ [(21, 0, knw (exV Ec (21, 0, 0)), none, none, false, none, none, none)], [], rg0, ww) := by
    rw [cds_one, cd_21, hr, hk]
    rfl
  have e3 : tPs sN V K [(21, 0, 0)] Ev = [] := rfl
  have e4 : ces K V [(21, 0, 0)] d = d := rfl
  rw [e1, e4, e3, List.append_nil]
  exact ⟨q3, he', rfl⟩
/-- else -/
theorem CG_62 (hE : KV' K e x Ev) (a : stK x y 20 (x.1 100 9) (-1) (-1) (-1) (-1) (-1)) (ez : z = si y 84 n (y.1 80 9)) (h8 : ¬ y.1 81 n = 8) (fr : ∀ c k, ccS c k → w9.1 c k = z.1 c k) (p : Pu w9 x1 kk (x.1 80 9)) (hk : ¬ kk = 0) : CGn sN V K n Ev x x1 [(62, i, 0)] := by
  intro Ec S k w d P he hc
  have kl : (x.1 100 9).toInt = (Ec.1.length : Nat) := by rw [hE.1, eqE_len he]
  have q := CCp_add (st := (20, 0, knw Ec, none, none, false, none, none, none)) (r' := rg0) hc a rfl kl (fun _ => rfl) (fun q => absurd q (show ¬ 20 = 8 by decide)) (fun _ => rfl) rfl rfl rfl
  have q3 := CCp_to (Ec' := Ec) (r' := rg0) q ez (CCp_sm q) h8
  have q' := CCp_push (Ec' := Ec) (r' := rg0) (CCp_eq fr q3) p hk (CCp_sm hc)
  have e1 : cds sN K [(62, i, 0)] (Ec, S, n :: k, rg0, w) = (Ec, cTo (S ++ [(20, 0, knw Ec, none, none, false, none, none, none)]) n (S ++ [(20, 0, knw Ec, none, none, false, none, none, none)]).length, S.length :: k, rg0, w) := by
    rw [cds_one, cd_62, List.length_append]
    rfl
  have e3 : tPs sN V K [(62, i, 0)] Ev = [] := rfl
  have e4 : ces K V [(62, i, 0)] d = d := rfl
  have ex : exs [(62, i, 0)] Ev = Ev := exs_still (stl_k (by decide))
  rw [e1, e4, e3, List.append_nil, ex]
  exact ⟨q', he, rfl⟩
theorem CGn_20 (h : CGn sN V K n Ev x y [(62, i, 0)]) : CGn sN V K n Ev x y ([(62, i, 0)] ++ [(20, z9, 0)]) := by
  intro Ec S k w d P he hc
  obtain ⟨g1, g2, g3⟩ := h Ec S k w d P he hc
  have e3 : tPs sN V K ([(62, i, 0)] ++ [(20, z9, 0)]) Ev = tPs sN V K [(62, i, 0)] Ev := rfl
  rw [cds_app, ces_app, e3, exs_app]
  refine ⟨?_, exV_q (v := (20, z9, 0)) g2, g3⟩
  exact g1
end KCK
end
section
/-! the class: blocks are opened and closed -/
section KOP
variable {G : kG} {q : kP} {d : Nat} {x x0 y z : gd} {F : Int32 → gd → Prop} {Fv : gd → Prop} {X : String → gd → Prop} {P : Option gv → gd → Prop} {M : Int} {E : Nat → Prop}
/-- the block that is opened -/
def NB (x : gd) (k s : Int32) : Prop := (om x = 0 → k = 0 ∧ s = -1) ∧ (0 < om x → (1 ≤ k.toInt ∧ k.toInt ≤ 5) ∧ ∃ n : Nat, s.toInt = n ∧ (n : Int) < ssm x ∧ (k = 1 ∨ k = 3 → sop x n = 17) ∧ (k = 2 → sop x n = 5) ∧ (k = 4 ∨ k = 5 → sop x n = 20))
theorem NB_GS {k s : Int32} (g : GS x y) (h : NB x k s) : NB y k s := by
  unfold NB at h ⊢
  rw [GS_om g, GS_sm g]
  refine ⟨h.1, fun c => ?_⟩
  obtain ⟨p1, n, p2, p3, p4⟩ := h.2 c
  refine ⟨p1, n, p2, p3, ?_⟩
  unfold sop at p4 ⊢
  rw [GS_at g 81 n (by unfold sSum; omega)]; exact p4
/-- where a step jumps is set -/
theorem BB_tg (hB : BB x0 x M E) (hsm : ssm x < 1000) {n : Nat} (hn : (n : Int) < ssm x) (ho : sop x n = 17 ∨ sop x n = 20) {v : Int32} (ez : z = si x 84 n v) (hv : 0 ≤ v.toInt ∧ v.toInt ≤ ssm x ∧ (sop x n = 20 → (n : Int) < v.toInt ∨ sop x v.toInt.toNat = 17)) : BB x0 z M (fun i => E i ∧ i ≠ n) := by
  have f : fm (fun c k => c = 84 ∧ k = n) x z := by rw [ez]; exact fm_si (fm_rf _ _) ⟨rfl, rfl⟩
  have zv : z.1 84 n = v := by rw [ez]; (simp only [si_get, sfl_get, Nat.reduceEqDiff, eq_self, and_false, false_and, and_true, true_and, if_true, if_false, reduceIte, reduceCtorEq])
  obtain ⟨hS, hF, ⟨r1, r2, r3, ⟨r4, r6⟩, r7⟩, hC, r5, r0, hI⟩ := hB
  have e4 : nx z = nx x := by unfold nx; rw [f 100 4 (by omega)]
  have es : ssm z = ssm x := by unfold ssm; rw [f 80 9 (by omega)]
  have eo : om z = om x := by unfold om; rw [f 100 13 (by omega)]
  have z5 : z.1 100 5 = x.1 100 5 := f _ _ (by omega)
  have la : La x z := ⟨fun c k q1 q2 => f c k (by omega), by omega, fun j _ => f 42 j (by omega)⟩
  refine ⟨?_, ?_, ⟨fun c => ?_, NM_fm r2 (fun c k q1 q2 q3 q4 => f c k (by omega)) (f _ _ (by omega)) (f _ _ (by omega)), ?_, ⟨by omega, fun i hi => ?_⟩, ?_⟩, fun i hi he => ?_, by rw [z5]; exact r5, fm_tr r0 (fm_w f (fun c k q => by unfold sR; omega)), TR_eq hI (fun e => ⟨e, fun e2 => ?_⟩) (f _ _ (by omega)) (fun k => f _ _ (by omega))⟩
  · obtain ⟨⟨hT, b1, b2, b3⟩, ⟨u1, u2⟩, hp, hP⟩ := hS
    unfold SU SV US RB mt
    rw [f 20 7 (by omega), f 60 3 (by omega), e4]
    refine ⟨⟨kT_fm hT la.1, b1, b2, b3⟩, ⟨fun j h1 h2 => ?_, fun j h1 h2 => ?_⟩, hp, fun i hi => La_PQ la (f _ _ (by omega)) (f _ _ (by omega)) (hP i hi)⟩
    · rw [f 42 j (by omega)]; exact u1 j h1 h2
    · rw [f 42 j (by omega)] at h2; rw [f 42 _ (by omega)]; exact u2 j h1 h2
  · unfold FR at hF ⊢
    rw [f 100 4 (by omega), f 42 _ (by omega)]; exact hF
  · obtain ⟨k1, o1, o2, o3, o4⟩ := r1 r5
    refine ⟨KN_fm k1 (f _ _ (by omega)) (f _ _ (by omega)) (fun k => f _ _ (by omega)), ?_⟩
    unfold OPs
    rw [eo, f 100 9 (by omega), f 100 7 (by omega)]
    refine ⟨o1, fun k hk => OP1_eq (fun j => f _ _ (by omega)) (f _ _ (by omega)) (fun c j q1 q2 => f _ _ (by omega)) (f _ _ (by omega)) (o2 k hk), fun j k hj hk => ?_, o4⟩
    rw [f 113 j (by omega), f 113 k (by omega)]; exact o3 j k hj hk
  · unfold CD at r3 ⊢
    rw [f 60 6 (by omega), f 60 9 (by omega), f 60 10 (by omega), f 60 14 (by omega), f 60 16 (by omega), f 60 13 (by omega), z5, f 100 9 (by omega), f 40 8 (by omega), f 40 10 (by omega)]
    exact r3
  · by_cases hi2 : i = n
    · have g := r6 i (by omega)
      rw [hi2] at g ⊢
      unfold SA at g ⊢
      have ep : sop z n = sop x n := by unfold sop; rw [f 81 _ (by omega)]
      rw [ep, f 83 _ (by omega), f 85 _ (by omega), e4]
      refine ⟨g.1, g.2.1, fun c => by clear g; omega, fun c => by clear g; omega⟩
    · exact SA_La la (f _ _ (by omega)) (f _ _ (by omega)) (f _ _ (by omega)) (f _ _ (by omega)) (Int.le_refl _) (r6 i (by omega))
  · unfold TS at r7 ⊢
    rw [f 60 10 (by omega), z5, es]
    refine ⟨fun t ht => ?_, fun c => absurd c r5⟩
    rw [f 72 t (by omega)]; exact r7.1 t ht
  · by_cases hi2 : i = n
    · rw [hi2]
      intro _
      have e2 : stg z n = v.toInt := by unfold stg; rw [zv]
      have ep : ∀ j, sop z j = sop x j := fun j => by unfold sop; rw [f 81 _ (by omega)]
      rw [e2, es, z5, ep, ep]
      exact Or.inr ⟨hv.1, hv.2.1, fun c => absurd c r5, hv.2.2⟩
    · exact SC_eq (fun j => f _ _ (by omega)) (f _ _ (by omega)) (f _ _ (by omega)) (f _ _ (by omega)) z5 (fun j => f _ _ (by omega)) (hC i (by omega) (fun e => he ⟨e, hi2⟩))
  · omega
/-- the innermost block is left -/
theorem BB_pop (hB : BB x0 x M E) (h1 : 1 ≤ om x) (f : fm (fun c k => c = 100 ∧ (k = 9 ∨ k = 13)) x z) (ho : om z = om x - 1) (hk : 0 ≤ (z.1 100 9).toInt ∧ (z.1 100 9).toInt ≤ (x.1 100 9).toInt) (hj : ∀ j : Nat, (j : Int) < om z → (x.1 113 j).toInt ≤ (z.1 100 9).toInt) : BB x0 z M (fun i => E i ∨ (i : Int) = (x.1 112 ((om x).toNat - 1)).toInt ∨ i = 1000000) := by
  obtain ⟨hS, hF, ⟨r1, r2, r3, ⟨r4, r6⟩, r7⟩, hC, r5, r0, hI⟩ := hB
  have e4 : nx z = nx x := by unfold nx; rw [f 100 4 (by omega)]
  have es : ssm z = ssm x := by unfold ssm; rw [f 80 9 (by omega)]
  have z5 : z.1 100 5 = x.1 100 5 := f _ _ (by omega)
  have la : La x z := ⟨fun c k q1 q2 => f c k (by omega), by omega, fun j _ => f 42 j (by omega)⟩
  refine ⟨?_, ?_, ⟨fun c => ?_, NM_fm r2 (fun c k q1 q2 q3 q4 => f c k (by omega)) (f _ _ (by omega)) (f _ _ (by omega)), ?_, ⟨by omega, fun i hi => SA_La la (f _ _ (by omega)) (f _ _ (by omega)) (f _ _ (by omega)) (f _ _ (by omega)) (Int.le_refl _) (r6 i (by omega))⟩, ?_⟩, fun i hi he => ?_, by rw [z5]; exact r5, fm_tr r0 (fm_w f (fun c k q => by unfold sR; omega)), ⟨fun he => absurd (Or.inr (Or.inr rfl)) he, fun j hj9 c => ?_⟩⟩
  · obtain ⟨⟨hT, b1, b2, b3⟩, ⟨u1, u2⟩, hp, hP⟩ := hS
    unfold SU SV US RB mt
    rw [f 20 7 (by omega), f 60 3 (by omega), e4]
    refine ⟨⟨kT_fm hT la.1, b1, b2, b3⟩, ⟨fun j h1 h2 => ?_, fun j h1 h2 => ?_⟩, hp, fun i hi => La_PQ la (f _ _ (by omega)) (f _ _ (by omega)) (hP i hi)⟩
    · rw [f 42 j (by omega)]; exact u1 j h1 h2
    · rw [f 42 j (by omega)] at h2; rw [f 42 _ (by omega)]; exact u2 j h1 h2
  · unfold FR at hF ⊢
    rw [f 100 4 (by omega), f 42 _ (by omega)]; exact hF
  · obtain ⟨k1, o1, o2, o3, o4, o5⟩ := r1 r5
    refine ⟨?_, ?_⟩
    · unfold KN tk at k1 ⊢
      rw [f 20 7 (by omega)]
      refine ⟨by omega, fun i hi => ?_⟩
      rw [f 109 i (by omega)]; exact k1.2 i (by omega)
    · unfold OPs
      rw [ho, f 100 7 (by omega)]
      refine ⟨by omega, fun k hk2 => ?_, fun j k hj hk => ?_, by omega, o5⟩
      · have := o2 k (by omega)
        unfold OP1 at this ⊢
        rw [f 111 k (by omega), f 112 k (by omega), f 113 k (by omega), es]
        refine ⟨this.1, fun c => ?_, this.2.2.1, hj k (by omega)⟩
        obtain ⟨p1, n, p2, p3, p4⟩ := this.2.1 c
        refine ⟨p1, n, p2, p3, ?_⟩
        unfold sop at p4 ⊢
        rw [f 81 n (by omega)]; exact p4
      · rw [f 113 j (by omega), f 113 k (by omega)]; exact o3 j k hj (by omega)
  · unfold CD at r3 ⊢
    rw [f 60 6 (by omega), f 60 9 (by omega), f 60 10 (by omega), f 60 14 (by omega), f 60 16 (by omega), f 60 13 (by omega), z5, f 40 8 (by omega), f 40 10 (by omega)]
    exact ⟨r3.1, r3.2.1, r3.2.2.1, r3.2.2.2.1, r3.2.2.2.2.1, r3.2.2.2.2.2.1, fun c => Int.le_trans hk.2 (r3.2.2.2.2.2.2 c)⟩
  · unfold TS at r7 ⊢
    rw [f 60 10 (by omega), z5, es]
    refine ⟨fun t ht => ?_, fun c => absurd c r5⟩
    rw [f 72 t (by omega)]; exact r7.1 t ht
  · have ep : ∀ j, sop z j = sop x j := fun j => by unfold sop; rw [f 81 j (by omega)]
    have et : stg z i = stg x i := by unfold stg; rw [f 84 i (by omega)]
    have := hC i (by omega) (fun e => he (Or.inl e))
    unfold SC at this ⊢
    rw [ep, et, z5, es, ep]
    intro c
    rcases this c with ⟨p1, p2, j, p3, p4⟩ | p
    · refine Or.inl ⟨p1, p2, j, ?_, by rw [f 112 j (by omega)]; exact p4⟩
      by_cases hjl : (j : Int) < om z
      · exact hjl
      · exfalso
        refine he (Or.inr (Or.inl ?_))
        have : j = (om x).toNat - 1 := by omega
        rw [← this]; exact p4.symm
    · exact Or.inr p
  · rw [f 111 _ (by omega)] at c ⊢
    exact hI.2 j (by omega) c
end KOP
end
section
/-! the class: a block is opened -/
section KOPF
variable {G : kG} {q : kP} {d : Nat} {x x0 y z xs : gd} {F : Int32 → gd → Prop} {Fv : gd → Prop} {X : String → gd → Prop} {P : Option gv → gd → Prop} {M : Int} {E : Nat → Prop} {K V : Nat → Int32} {sN : Nat → Nat → Bool} {e : Nat} {Ev Ev9 : gV} {Ml N : gU}
theorem kd_enter (hq : kV q) (hB : BB x0 x M E) (ho : om x ≤ 17) (hsm : ssm x < 1000) (k s : Int32) (h5 : TIk x ∨ k = 3 ∨ k = 4 ∨ k = 5) (hn : NB x k s) (hE : ∀ i : Nat, (i : Int) < ssm x → E i → (i : Int) = s.toInt → stg x i = -1) (h : ∀ y, BB x0 y M (fun i => (i = 1000000 ∧ k = 5) ∨ (i ≠ 1000000 ∧ E i ∧ ¬ (i : Int) = s.toInt)) → nx y = nx x → ssm y = ssm x → om y = om x + 1 → (∀ c j, c < 100 → y.1 c j = x.1 c j) → y.1 100 4 = x.1 100 4 → fm (fun c j => (c = 100 ∧ j = 13) ∨ (111 ≤ c ∧ c ≤ 113 ∧ j = (x.1 100 13).toNatClampNeg)) x y → y.1 111 (x.1 100 13).toNatClampNeg = k → y.1 113 (x.1 100 13).toNatClampNeg = x.1 100 9 → Pu x y k s → Fv y) : KT G q d zk_X7_enter 0 [(0, vr 100), (1, vi k), (2, vi s)] [] x (rv Fv) := by
  have k20 : (20 : Int32).toInt = 20 := rfl
  have o0 := (BB_om hB).1.1
  have vin : vp_in (x.1 100 13) 20 := by rw [vp_in_iff]; unfold om at *; omega
  refine kg_X7_enter_0 hq _ _ ⟨fun c => ?_, fun c => ⟨vin, fun x3 e3 => ?_⟩⟩
  · exfalso; rw [t_le, k20] at c; unfold om at *; omega
  have q3 : x3.1 100 13 = x.1 100 13 := by rw [e3]; (simp only [si_get, sfl_get, Nat.reduceEqDiff, eq_self, and_false, false_and, and_true, true_and, if_true, if_false, reduceIte, reduceCtorEq])
  refine ⟨by rw [q3]; exact vin, fun x5 e5 => ?_⟩
  rw [q3] at e5
  have q5 : x5.1 100 13 = x.1 100 13 := by rw [e5, ← q3]; (simp only [si_get, sfl_get, Nat.reduceEqDiff, eq_self, and_false, false_and, and_true, true_and, if_true, if_false, reduceIte, reduceCtorEq])
  refine ⟨by rw [q5]; exact vin, fun x7 e7 z ez => rv_i ?_⟩
  have x59 : x5.1 100 9 = x.1 100 9 := by rw [e5, e3]; (simp only [si_get, sfl_get, Nat.reduceEqDiff, eq_self, and_false, false_and, and_true, true_and, if_true, if_false, reduceIte, reduceCtorEq])
  rw [q5, x59] at e7
  have q7 : x7.1 100 13 = x.1 100 13 := by rw [e7, ← q5]; (simp only [si_get, sfl_get, Nat.reduceEqDiff, eq_self, and_false, false_and, and_true, true_and, if_true, if_false, reduceIte, reduceCtorEq])
  rw [q7] at ez
  have f : fm (fun c j => (c = 100 ∧ j = 13) ∨ (111 ≤ c ∧ c ≤ 113 ∧ j = (x.1 100 13).toNatClampNeg)) x z := by
    rw [ez, e7, e5, e3]
    exact fm_si (fm_si (fm_si (fm_si (fm_rf _ _) (Or.inr ⟨by omega, by omega, rfl⟩)) (Or.inr ⟨by omega, by omega, rfl⟩)) (Or.inr ⟨by omega, by omega, rfl⟩)) (Or.inl ⟨rfl, rfl⟩)
  have eO : om z = om x + 1 := by
    have : z.1 100 13 = x.1 100 13 + 1 := by rw [ez]; (simp only [si_get, sfl_get, Nat.reduceEqDiff, eq_self, and_false, false_and, and_true, true_and, if_true, if_false, reduceIte, reduceCtorEq])
    unfold om at *
    rw [this, t_add (by show _ ≤ _ + (1 : Int); omega) (by show _ + (1 : Int) ≤ _; omega)]; rfl
  have eN : (((x.1 100 13).toNatClampNeg : Nat) : Int) = om x := by rw [t_cl]; unfold om at *; omega
  have z1 : z.1 111 (x.1 100 13).toNatClampNeg = k := by rw [ez, e7, e5, e3]; (simp only [si_get, sfl_get, Nat.reduceEqDiff, eq_self, and_false, false_and, and_true, true_and, if_true, if_false, reduceIte, reduceCtorEq])
  have z2 : z.1 112 (x.1 100 13).toNatClampNeg = s := by rw [ez, e7, e5, e3]; (simp only [si_get, sfl_get, Nat.reduceEqDiff, eq_self, and_false, false_and, and_true, true_and, if_true, if_false, reduceIte, reduceCtorEq])
  have z3 : z.1 113 (x.1 100 13).toNatClampNeg = x.1 100 9 := by rw [ez, e7, e5, e3]; (simp only [si_get, sfl_get, Nat.reduceEqDiff, eq_self, and_false, false_and, and_true, true_and, if_true, if_false, reduceIte, reduceCtorEq])
  obtain ⟨hS, hF, ⟨r1, r2, r3, ⟨r4, r6⟩, r7⟩, hC, r5, r0, hI⟩ := hB
  have e4 : nx z = nx x := by unfold nx; rw [f 100 4 (by omega)]
  have es : ssm z = ssm x := by unfold ssm; rw [f 80 9 (by omega)]
  have z5 : z.1 100 5 = x.1 100 5 := f _ _ (by omega)
  have la : La x z := ⟨fun c k q1 q2 => f c k (by omega), by omega, fun j _ => f 42 j (by omega)⟩
  refine h z ⟨?_, ?_, ⟨fun c => ?_, NM_fm r2 (fun c k q1 q2 q3 q4 => f c k (by omega)) (f _ _ (by omega)) (f _ _ (by omega)), ?_, ⟨by omega, fun i hi => SA_La la (f _ _ (by omega)) (f _ _ (by omega)) (f _ _ (by omega)) (f _ _ (by omega)) (Int.le_refl _) (r6 i (by omega))⟩, ?_⟩, fun i hi he => ?_, by rw [z5]; exact r5, fm_tr r0 (fm_w f (fun c k q => by unfold sR; omega)), ⟨fun he j hj => ?_, fun j hj c => ?_⟩⟩ e4 es eO (fun c j hc => f c j (by omega)) (f _ _ (by omega)) f z1 z3 ⟨fun c j q q1 q2 => f c j (by unfold ccS at q; omega), by rw [t_cl, t_cl]; show (om z).toNat = (om x).toNat + 1; omega, z1, z2, r5⟩
  · obtain ⟨⟨hT, b1, b2, b3⟩, ⟨u1, u2⟩, hp, hP⟩ := hS
    unfold SU SV US RB mt
    rw [f 20 7 (by omega), f 60 3 (by omega), e4]
    refine ⟨⟨kT_fm hT la.1, b1, b2, b3⟩, ⟨fun j h1 h2 => ?_, fun j h1 h2 => ?_⟩, hp, fun i hi => La_PQ la (f _ _ (by omega)) (f _ _ (by omega)) (hP i hi)⟩
    · rw [f 42 j (by omega)]; exact u1 j h1 h2
    · rw [f 42 j (by omega)] at h2; rw [f 42 _ (by omega)]; exact u2 j h1 h2
  · unfold FR at hF ⊢
    rw [f 100 4 (by omega), f 42 _ (by omega)]; exact hF
  · obtain ⟨k1, o1, o2, o3, o4⟩ := r1 r5
    refine ⟨KN_fm k1 (f _ _ (by omega)) (f _ _ (by omega)) (fun k => f _ _ (by omega)), ?_⟩
    unfold OPs
    rw [eO, f 100 9 (by omega), f 100 7 (by omega)]
    refine ⟨by omega, fun j hj => ?_, fun i j hij hj => ?_, o4⟩
    · by_cases hj2 : j = (x.1 100 13).toNatClampNeg
      · subst hj2
        unfold OP1
        rw [z1, z2, z3, f 100 9 (by omega)]
        refine ⟨fun c => hn.1 (by omega), fun c => ?_, k1.1.1, Int.le_refl _⟩
        obtain ⟨p1, n, p2, p3, p4⟩ := hn.2 (by omega)
        refine ⟨p1, n, p2, by omega, ?_⟩
        unfold sop at p4 ⊢
        rw [f 81 n (by omega)]; exact p4
      · have := o2 j (by omega)
        unfold OP1 at this ⊢
        rw [f 111 j (by omega), f 112 j (by omega), f 113 j (by omega), f 100 9 (by omega), es]
        refine ⟨this.1, fun c => ?_, this.2.2⟩
        obtain ⟨p1, n, p2, p3, p4⟩ := this.2.1 c
        refine ⟨p1, n, p2, p3, ?_⟩
        unfold sop at p4 ⊢
        rw [f 81 n (by omega)]; exact p4
    · by_cases hj2 : j = (x.1 100 13).toNatClampNeg
      · by_cases hi2 : i = (x.1 100 13).toNatClampNeg
        · rw [hi2, hj2]; exact Int.le_refl _
        · rw [hj2, z3, f 113 i (by omega)]
          exact (o2 i (by omega)).2.2.2
      · rw [f 113 i (by omega), f 113 j (by omega)]; exact o3 i j hij (by omega)
  · unfold CD at r3 ⊢
    rw [f 60 6 (by omega), f 60 9 (by omega), f 60 10 (by omega), f 60 14 (by omega), f 60 16 (by omega), f 60 13 (by omega), z5, f 100 9 (by omega), f 40 8 (by omega), f 40 10 (by omega)]
    exact r3
  · unfold TS at r7 ⊢
    rw [f 60 10 (by omega), z5, es]
    refine ⟨fun t ht => ?_, fun c => absurd c r5⟩
    rw [f 72 t (by omega)]; exact r7.1 t ht
  · have ep : sop z i = sop x i := by unfold sop; rw [f 81 i (by omega)]
    have et : stg z i = stg x i := by unfold stg; rw [f 84 i (by omega)]
    by_cases hEi : E i
    · by_cases hi6 : i = 1000000
      · exfalso; omega
      · have heq : (i : Int) = s.toInt := by
          by_cases h9 : (i : Int) = s.toInt
          · exact h9
          · exact absurd (Or.inr ⟨hi6, hEi, h9⟩) he
        intro _
        refine Or.inl ⟨by rw [et]; exact hE i (by omega) hEi heq, by rw [z5]; exact r5, (x.1 100 13).toNatClampNeg, by omega, by rw [z2]; omega⟩
    · have := hC i (by omega) hEi
      unfold SC at this ⊢
      rw [ep, et, z5, es]
      intro c
      rcases this c with ⟨p1, p2, j, p3, p4⟩ | ⟨p1, p2, p3, p4⟩
      · exact Or.inl ⟨p1, p2, j, by omega, by rw [f 112 j (by omega)]; exact p4⟩
      · refine Or.inr ⟨p1, p2, p3, fun c2 => (p4 c2).imp id (fun e => ?_)⟩
        unfold sop at e ⊢
        rw [f 81 _ (by omega)]; exact e
  · have : j = (x.1 100 13).toNatClampNeg := by omega
    rw [this, z1]
    intro c
    exact he (Or.inl ⟨rfl, c⟩)
  · by_cases hj2 : j + 1 = (x.1 100 13).toNatClampNeg
    · rw [hj2, z1]
      rcases h5 with e | e
      · rw [f 111 j (by omega)] at c
        exact absurd c (e j (by omega))
      · exact e
    · rw [f 111 j (by omega)] at c
      rw [f 111 (j + 1) (by omega)]
      exact hI.2 j (by omega) c
theorem kd_openBlock (hq : kV q) (k s : Int32) (hx : ¬ (K (nn x) = 63 ∧ nn x < 700) → RX x0 X) (hR : RIw K V sN e Ev xs x Ml) (hV : KV' K e x Ev9) {u B : List Nat} {z9 : Nat} (hz : k.toInt = (z9 : Nat)) (hS : SKs x (om x).toNat u B) (hB : BB x0 x M E) (ho : om x ≤ 17) (hsm : ssm x < 1000) (hk5 : ¬ k = 5) (h5 : TIk x ∨ k = 3 ∨ k = 4 ∨ k = 5) (hn : NB x k s) (hE : ∀ i : Nat, (i : Int) < ssm x → E i → i = 1000000 ∨ ((i : Int) = s.toInt ∧ stg x i = -1)) (h : ∀ y, BB x0 y M E0 → nx y = nx x + 1 → ssm y = ssm x → om y = om x + 1 → y.1 60 13 = x.1 60 13 → K (nn x) = 63 → nn x < 700 → nn y = nn x + 1 → Lb x y → RIw K V sN e Ev xs y Ml → KV' K e y Ev9 → SKs y (om y).toNat (z9 :: u) ((x.1 100 9).toNatClampNeg :: B) → y.1 100 7 = x.1 100 7 → (∃ w, (∀ c k, ccS c k → w.1 c k = x.1 c k) ∧ Pu w y k s) → Fv y) : KE G q (d + 8) zk_X7_openBlock 0 [(0, vr 100), (1, vi k), (2, vi s)] [] x (rv Fv) X := by
  refine kg_X7_openBlock_0 hq _ _ (kd_need hq 23 63 (by decide) (by decide) (by decide) hx hB hR (fun kk c7 y hBy ny gy en hRy _ hcy => ?_))
  have e1 := GS_om gy
  have e2 := GS_sm gy
  refine kd_enter hq hBy (by omega) (by omega) k s (h5.imp (fun e => TI_eq e (GS_at gy _ _ (by unfold sSum; omega)) (fun k => GS_at gy _ _ (by unfold sSum; omega))) id) (NB_GS gy hn) (fun i hi he hs => ?_) (fun z hBz nz sz oz fz z4 ff t1 t3 hpu => rv_i (h z (BB_E hBz ?_ ?_) (by omega) (by omega) (by omega) (by rw [fz 60 13 (by omega), GS_at gy 60 13 (by unfold sSum; omega)]) kk c7 (by rw [← en]; unfold nn; rw [z4]) (Lb_tr (Lb_GS gy) (Lb_fm ff (fun c k q => by unfold Tc; omega))) (RI_st hRy z4 (fun j => fz _ _ (by omega)) (fun c k q1 q2 => fz _ _ (by omega))) (KV_fm (KV_GS gy hV) (ff _ _ (by omega)) (fun k => ff _ _ (by omega))) ?_ (by rw [ff 100 7 (by omega), GS_at gy 100 7 (by unfold sSum; omega)]) ⟨y, hcy, hpu⟩))
  · have : stg y i = stg x i := by unfold stg; rw [GS_at gy 84 i (by unfold sSum; omega)]
    rw [this]
    rcases hE i (by omega) he with e | e
    · omega
    · exact e.2
  · rintro (⟨-, e⟩ | ⟨e, -⟩)
    · exact absurd e hk5
    · exact absurd rfl e
  · rintro i hi (⟨e, -⟩ | ⟨e0, e, e2⟩) _
    · omega
    · rcases hE i (by omega) e with g | g
      · exact absurd g e0
      · exact absurd g.1 e2
  · have o0 := (BB_om hB).1.1
    have ey : (y.1 100 13).toNatClampNeg = (om x).toNat := by rw [t_cl]; show (om y).toNat = _; rw [e1]
    have ez : (om z).toNat = (om x).toNat + 1 := by omega
    rw [ey] at t1 t3 ff
    rw [ez]
    refine ⟨z9, u, rfl, by rw [t1]; exact hz, Or.inr ⟨?_, (x.1 100 9).toNatClampNeg, B, rfl, ?_, SKs_eq (fun k hk => ⟨?_, ?_⟩) hS⟩⟩
    · intro q5
      apply hk5
      have k5 : (5 : Int32).toInt = 5 := rfl
      rw [t_eq, k5, hz, q5]; rfl
    · rw [t3, GS_at gy 100 9 (by unfold sSum; omega)]
    · rw [ff 111 k (by omega), GS_at gy 111 k (by unfold sSum; omega)]
    · rw [ff 113 k (by omega), GS_at gy 113 k (by unfold sSum; omega)]
end KOPF
end
section
/-! the class: if and while -/
section KTF2
variable {G : kG} {q : kP} {d : Nat} {x x0 y z xs : gd} {F : Int32 → gd → Prop} {Fv : gd → Prop} {X : String → gd → Prop} {P : Option gv → gd → Prop} {M : Int} {E : Nat → Prop} {K V : Nat → Int32} {sN : Nat → Nat → Bool} {e : Nat} {Ev : gV} {Ml N : gU} {W : gTs}
theorem kd_test (hq : kV q) (k : Int32) (f c9 z9 v9 : Nat) (L : gU) {u B : List Nat} (hx : W = none → RX x0 X) (eW : W = eX K u c9 (nn x) L) (hf : (f : Int) + om x = 16) (hkz : (k = 1 ∧ K (nn x) = 41 ∧ z9 = 1 ∧ v9 = 61) ∨ (k = 3 ∧ K (nn x) = 24 ∧ z9 = 3 ∧ v9 = 60)) (hA : KA K V sN e x) (hn : nn x ≤ e) (hV : KV' K e x Ev) (hEv : ¬ Ev.2.1 = []) (hS : SKs x (om x).toNat u B) (hB : BB x0 x M E) (hE : ∀ i, E i → i = 1000000) (h1 : 1 ≤ om x) (ho : om x ≤ 16) (ha : 2 * ssm x + om x ≤ nx x) (hk : k = 1 ∨ k = 3) (h5 : TIk x ∨ k = 3) (h : ∀ y, BB x0 y M E0 → nx x < nx y → om y = om x + 1 → 2 * ssm y + om y ≤ nx y → y.1 60 13 = x.1 60 13 → Lb x y → KV' K e y Ev → SKs y (om y).toNat (z9 :: u) (Ev.1.length :: B) → y.1 100 7 = x.1 100 7 → ∀ N, RIw K V sN e Ev x y (N ++ [(20, z9, 0)]) → still N → W = eS K (z9 :: u) c9 (nn y) (L ++ (N ++ [(20, z9, 0)])) → CG sN V K Ev x y (N ++ [(20, z9, 0)]) → Fv y) : KE G q (d + 10) zk_X7_testStatement 0 [(0, vr 100), (1, vi k)] [] x (rv Fv) X := by
  have bx0 := hB.1.1.2.1
  have cx := nn_is bx0
  have o0 := (BB_om hB).1.1
  have ul := SKs_len hS
  have hf1 : 17 - u.length = f + 1 := by omega
  have hk0 : ¬ K (nn x) = 0 ∧ ¬ K (nn x) = 3 := by rcases hkz with ⟨-, e, -⟩ | ⟨-, e, -⟩ <;> rw [e] <;> decide
  have z5 : ¬ z9 = 5 := by rcases hkz with ⟨-, -, e, -⟩ | ⟨-, -, e, -⟩ <;> omega
  have hkz9 : k.toInt = (z9 : Nat) := by rcases hkz with ⟨e1, -, e2, -⟩ | ⟨e1, -, e2, -⟩ <;> rw [e1, e2] <;> rfl
  have hv9 : dull (v9, nn x, 0) ∧ still [(v9, nn x, 0)] := by rcases hkz with ⟨-, -, -, e⟩ | ⟨-, -, -, e⟩ <;> rw [e] <;> exact ⟨dull_k (by decide), stl_k (by decide)⟩
  have d20 : dull (20, z9, 0) := dull_k (by decide)
  refine kg_X7_testStatement_0 hq _ ⟨RB_at hB.1.1, kd_pass (xs := x) (Ml := []) (Ev := Ev) hq (fun c7 => hx ?_) hB ⟨hA, hn, UR_0 rfl⟩ hk0.1 hk0.2 (fun c7 y hBy ny gy eny hRy u0 hcy => ?_)⟩
  · rw [eW]
    refine eX_0 ?_
    rw [hf1, pS, if_pos c7]
  have hW1 : W = (pX K false f (nn x + 1) L).bind (fun q => (pBk (pS K f) K z9 c9 q.1 (q.2 ++ [(v9, nn x, 0)])).bind (fun q => eC K z9 u q.1 q.2.1 q.2.2)) := by
    rw [eW]
    cases hp : pX K false f (nn x + 1) L with
    | none =>
      refine eX_0 ?_
      rw [hf1, pS, if_neg (by omega)]
      rcases hkz with ⟨-, e, -⟩ | ⟨-, e, -⟩
      · rw [if_neg (by rw [e]; decide), if_pos e, hp]; rfl
      · rw [if_pos e, hp]; rfl
    | some q9 =>
      rcases hkz with ⟨-, e, e2, e3⟩ | ⟨-, e, e2, e3⟩
      · rw [e2, e3, eX_while hf1 c7 e hp]; rfl
      · rw [e2, e3, eX_if hf1 c7 e hp]; rfl
  have by0 := hBy.1.1.2.1
  have e1 := GS_om gy
  have e2 := GS_sm gy
  obtain ⟨p1, p2⟩ := BB_om hBy
  have eF : 17 - (y.1 100 13 + 1).toNatClampNeg = f := by
    have u := t_cl (y.1 100 13 + 1)
    rw [p2 (by omega)] at u
    omega
  have hVy := KV_GS gy hV
  refine kd_sum hq _ L (fun q9 => hx (by rw [eF, eny] at q9; rw [hW1, q9]; rfl)) hBy hRy.1 hRy.2.1 hVy (by rw [p2 (by omega)]; omega) (by rw [p2 (by omega)]; omega) (fun r z hBz nz gz N2 hRz hN2 hpX hcp hrr => ?_)
  rw [eF, eny] at hpX
  obtain ⟨N20, -, hPz⟩ := PD_xp (PD_0 (x := x) (t := none) (N := []) hcy (Or.inl rfl)) hpX hcp gz hrr
  rw [hpX] at hW1
  have hW2 : W = (pBk (pS K f) K z9 c9 (nn z) (L ++ N2 ++ [(v9, nn x, 0)])).bind (fun q => eC K z9 u q.1 q.2.1 q.2.2) := hW1
  have hRxz : RIw K V sN e Ev x z (N2 ++ [(v9, nn x, 0)]) := by
    have r1 := RI_app by0 still_nil hRy gz.1 hRz
    exact ⟨r1.1, r1.2.1, UR_dull r1.2.2 hv9.1⟩
  have hVz := KV_GS gz hVy
  have e3 := GS_om gz
  have e4 := GS_sm gz
  obtain ⟨a1, a2, a3, a4, a5⟩ := BB_400 hBz (by omega)
  refine kf_add hq _ _ _ a1 a2 (fun w hA vin hF9 => ⟨vin, fun v ev => ?_⟩)
  obtain ⟨f1, f2, f3, f4, f5⟩ := hA
  have fz : fm (fun c k => (81 ≤ c ∧ c ≤ 89 ∧ k = (z.1 80 9).toNatClampNeg) ∨ (c = 80 ∧ k = 9)) z v := by rw [ev]; exact fm_si f1 (Or.inl ⟨by omega, by omega, rfl⟩)
  have es : ssm v = ssm z + 1 := by
    have : v.1 80 9 = w.1 80 9 := by rw [ev]; (simp only [si_get, sfl_get, Nat.reduceEqDiff, eq_self, and_false, false_and, and_true, true_and, if_true, if_false, reduceIte, reduceCtorEq])
    unfold ssm at *; rw [this]; exact f2
  have z81 : v.1 81 (z.1 80 9).toNatClampNeg = 17 := by rw [ev]; (simp only [si_get, sfl_get, Nat.reduceEqDiff, eq_self, and_false, false_and, and_true, true_and, if_true, if_false, reduceIte, reduceCtorEq]); exact f3
  have z83 : v.1 83 (z.1 80 9).toNatClampNeg = z.1 100 9 := by rw [ev]; (simp only [si_get, sfl_get, Nat.reduceEqDiff, eq_self, and_false, false_and, and_true, true_and, if_true, if_false, reduceIte, reduceCtorEq]); exact f4
  have z84 : v.1 84 (z.1 80 9).toNatClampNeg = -1 := by rw [ev]; (simp only [si_get, sfl_get, Nat.reduceEqDiff, eq_self, and_false, false_and, and_true, true_and, if_true, if_false, reduceIte, reduceCtorEq]); exact f5
  have k17 : (17 : Int32).toInt = 17 := rfl
  have hstK : stK z v 17 (z.1 100 9) (-1) (-1) (-1) r (-1) := ⟨fun c k q q1 q2 => fz c k (fun w => w.elim q1 q2), es, z81, z83, z84, by rw [ev]; (simp only [si_get, sfl_get, Nat.reduceEqDiff, eq_self, and_false, false_and, and_true, true_and, if_true, if_false, reduceIte, reduceCtorEq]); exact hF9.1, by rw [ev]; (simp only [si_get, sfl_get, Nat.reduceEqDiff, eq_self, and_false, false_and, and_true, true_and, if_true, if_false, reduceIte, reduceCtorEq]); exact hF9.2.1, by rw [ev]; (simp only [si_get, sfl_get, Nat.reduceEqDiff, eq_self, and_false, false_and, and_true, true_and, if_true, if_false, reduceIte, reduceCtorEq]), by rw [ev]; (simp only [si_get, sfl_get, Nat.reduceEqDiff, eq_self, and_false, false_and, and_true, true_and, if_true, if_false, reduceIte, reduceCtorEq]); exact hF9.2.2.2⟩
  have hv60 : v9 = 60 ∨ v9 = 61 := by rcases hkz with ⟨-, -, -, e⟩ | ⟨-, -, -, e⟩ <;> omega
  have hk00 : ¬ k = 0 := by rcases hk with e | e <;> rw [e] <;> decide
  have hSA : SA v M (z.1 80 9).toNatClampNeg := by
    unfold SA sop stg
    rw [z81, z83, k17]
    exact ⟨by omega, ⟨a4, a5⟩, fun c => by omega, fun c => by omega⟩
  have hBv := BB_add hBz (n := (z.1 80 9).toNatClampNeg) (by omega) fz es hSA
  have n4 : nx v = nx z := by unfold nx; rw [fz 100 4 (by omega)]
  have n13 : om v = om z := by unfold om; rw [fz 100 13 (by omega)]
  have hk' : (1 ≤ k.toInt ∧ k.toInt ≤ 5) ∧ ¬ k = 5 ∧ ¬ k = 2 ∧ ¬ k = 4 := by rcases hk with rfl | rfl <;> decide
  have nvz : nn v = nn z := by unfold nn; rw [fz 100 4 (by omega)]
  have hRv : RIw K V sN e Ev x v (N2 ++ [(v9, nn x, 0)]) := RI_st hRxz (fz _ _ (by omega)) (fun j => fz _ _ (by omega)) (fun c k q1 q2 => fz _ _ (by omega))
  have hVv : KV' K e v Ev := KV_fm hVz (fz _ _ (by omega)) (fun k => fz _ _ (by omega))
  have hSv : SKs v (om v).toNat u B := by
    rw [n13, e3, e1]
    exact SKs_eq (fun k _ => ⟨by rw [fz 111 k (by omega), GS_at gz 111 k (by unfold sSum; omega), GS_at gy 111 k (by unfold sSum; omega)], by rw [fz 113 k (by omega), GS_at gz 113 k (by unfold sSum; omega), GS_at gy 113 k (by unfold sSum; omega)]⟩) hS
  have v9c : (v.1 100 9).toNatClampNeg = Ev.1.length := by rw [t_cl, hVv.1]; rfl
  refine kd_openBlock hq k _ (fun no => hx (by rw [hW2, pBk, if_neg (by rw [← nvz]; exact no)]; rfl)) hRv hVv hkz9 hSv hBv (by omega) (by omega) hk'.2.1 (h5.imp (fun e => TI_eq (TI_eq (TI_eq e (GS_at gy _ _ (by unfold sSum; omega)) (fun k => GS_at gy _ _ (by unfold sSum; omega))) (GS_at gz _ _ (by unfold sSum; omega)) (fun k => GS_at gz _ _ (by unfold sSum; omega))) (fz _ _ (by omega)) (fun k => fz _ _ (by omega))) Or.inl) ⟨fun c => by omega, fun _ => ⟨hk'.1, (z.1 80 9).toNatClampNeg, a3.symm, by omega, fun _ => by unfold sop; rw [z81]; rfl, fun c => absurd c hk'.2.2.1, fun c => ?_⟩⟩ (fun i hi he => ?_) (fun w9 hBu nu su ou u13 kk c79 enu lau hRu hVu hSu u7 hpu => rv_i (h w9 hBu (by omega) (by omega) (by omega) (by rw [u13, fz 60 13 (by omega), GS_at gz 60 13 (by unfold sSum; omega), GS_at gy 60 13 (by unfold sSum; omega)]) (Lb_tr (Lb_tr (Lb_GS (GS_tr gy gz)) (Lb_fm fz (fun c k q => by unfold Tc; omega))) lau) hVu (by rw [v9c] at hSu; exact hSu) (by rw [u7, fz 100 7 (by omega), GS_at gz 100 7 (by unfold sSum; omega), GS_at gy 100 7 (by unfold sSum; omega)]) (N2 ++ [(v9, nn x, 0)]) ⟨hRu.1, hRu.2.1, UR_dull hRu.2.2 d20⟩ (still_app hN2 hv9.2) (by rw [nvz] at kk c79 enu; rw [hW2, eS_block z5 (by omega) kk c79, enu, List.append_assoc L, List.append_assoc L]) (hpu.elim (fun w0 q0 => CG_test hPz hEv hVz hstK q0.1 q0.2 hk00 hv60))))
  · rcases c with c | c
    · exact absurd c hk'.2.2.2
    · exact absurd c hk'.2.1
  · rcases he with he | he
    · exact Or.inl (hE i he)
    · refine Or.inr ⟨by rw [he]; exact a3, ?_⟩
      rw [he]; unfold stg; rw [z84]; rfl
end KTF2
end
section
/-! the class: blocks are closed; statements -/
abbrev E1 : Nat → Prop := fun i => i = 1000000
/-- outside a thread -/
def OT (x0 x : gd) : Prop := SU x ∧ FR x ∧ RI0 x (x.1 60 13).toInt ∧ SCs x E0 ∧ x.1 100 5 = 0 ∧ fm sR x0 x ∧ 2 * ssm x ≤ nx x
/-- within a thread, between statements -/
def IT (x0 x : gd) : Prop := (BB x0 x (x.1 60 13).toInt E0 ∨ (BB x0 x (x.1 60 13).toInt E1 ∧ x.1 23 (x.1 100 4).toNatClampNeg = 54)) ∧ 1 ≤ om x ∧ om x ≤ 17 ∧ 2 * ssm x + om x ≤ nx x
section KCL
variable {G : kG} {q : kP} {d : Nat} {x x0 y z : gd} {F : Int32 → gd → Prop} {Fv : gd → Prop} {X : String → gd → Prop} {P : Option gv → gd → Prop} {M : Int} {E : Nat → Prop}
end KCL
end
section
/-! the class: an if ends -/
def n63 (N : gU) : Prop := ∀ v ∈ N, v = (63, 0, 0)
theorem n63_still {N : gU} (h : n63 N) : still N := fun v hv => by rw [h v hv]; decide
theorem n63_dull {v : Nat × Nat × Nat} (h : v = (63, 0, 0)) : dull v := by
  intro k hk c
  rw [h] at c
  have c : 63 = k := c
  rw [← c] at hk
  exact absurd hk (by decide)
theorem UR_63 {sN : Nat → Nat → Bool} {E : gV} {x y : gd} : ∀ {N M : gU}, UR sN E x y M → n63 N → UR sN E x y (M ++ N) := by
  intro N
  induction N with
  | nil => intro M h _; rw [List.append_nil]; exact h
  | cons v N ih =>
    intro M h g
    have := ih (UR_dull h (n63_dull (g v List.mem_cons_self))) (fun w hw => g w (List.mem_cons_of_mem _ hw))
    rw [List.append_assoc] at this
    exact this
section KEF
variable {G : kG} {q : kP} {d : Nat} {x x0 y z : gd} {F : Int32 → gd → Prop} {Fv : gd → Prop} {X : String → gd → Prop} {P : Option gv → gd → Prop} {M : Int} {E : Nat → Prop} {sN : Nat → Nat → Bool} {V : Nat → Int32}
theorem kd_endIf (hq : kV q) (K : Nat → Int32) (u B : List Nat) (c9 j9 : Nat) (L : gU) (hS : SKs x (om x).toNat u B) (hB : BB x0 x M E) (s : Int32) {n : Nat} (es : s.toInt = n) (hn : (n : Int) < ssm x) (hsm : ssm x < 400) (hop : sop x n = 17 ∨ sop x n = 20) (hE : ∀ i : Nat, (i : Int) < ssm x → E i → i = n) (h : ∀ y, BB x0 y M E0 → nx y = nx x → ssm y = ssm x → om y ≤ om x → (1 ≤ om x → 1 ≤ om y) → y.1 60 13 = x.1 60 13 → fm (fun c k => c = 84 ∨ (c = 100 ∧ k = 13)) x y → ∀ uy N, SKs y (om y).toNat uy B → n63 N → eS K u c9 j9 L = eS K uy c9 j9 (L ++ N) → CE sN V K n x y N → Fv y) : KT G q d zk_X7_endIf 0 [(0, vr 100), (1, vi s)] [] x (rv Fv) := by
  have eN : s.toNatClampNeg = n := by rw [t_cl, es]; rfl
  have k0 : (0 : Int32).toInt = 0 := rfl
  have k20 : (20 : Int32).toInt = 20 := rfl
  refine kg_X7_endIf_0 hq _ ⟨by rw [vp_in_iff]; omega, fun x2 e2 => ?_⟩
  rw [eN] at e2
  have hB2 : BB x0 x2 M E1 := BB_E (BB_tg hB (by omega) hn hop e2 ⟨hB.2.2.1.2.2.2.1.1, Int.le_refl _, fun _ => Or.inl hn⟩) (fun _ => rfl) (fun i hi he _ => by
    have : ssm x2 = ssm x := by unfold ssm; rw [e2, si_cell (by decide)]
    exact absurd (hE i (by omega) he.1) he.2)
  have h8 : ∀ (g : gd) (i : Nat), (sop g i = 17 ∨ sop g i = 20) → ¬ g.1 81 i = 8 := fun g i hg q => by
    unfold sop at hg
    rw [q] at hg
    exact absurd hg (by decide)
  have f2 : fm (fun c k => c = 84) x x2 := by rw [e2]; exact fm_si (fm_rf _ _) rfl
  have loop : ∀ (m : Nat) (k : Int32) (y : gd) (uy : List Nat) (N : gU), SKs y (om y).toNat uy B → n63 N → eS K u c9 j9 L = eS K uy c9 j9 (L ++ N) → CE sN V K n x y N → BB x0 y M E1 → fm (fun c k => c = 84 ∨ (c = 100 ∧ k = 13)) x y → om y ≤ om x → (1 ≤ om x → 1 ≤ om y) → 0 ≤ k.toInt → k.toInt + om y ≤ 18 → om y ≤ m → KT G q d zk_X7_endIf 18 [(0, vr 100), (2, vi k)] [] y (rv Fv) := by
    intro m
    induction m with
    | zero =>
      intro k y uy N hSy hN hWy hCy hBy fy o1 o2 hk0 hk hm
      have o0 := (BB_om hBy).1.1
      refine kg_X7_endIf_18 hq _ ⟨fun c => ?_, fun c => ⟨fun c2 => rv_i (h y ?_ ?_ ?_ o1 o2 (fy _ _ (by omega)) fy uy N hSy hN hWy hCy), fun c2 => ?_⟩⟩
      · exfalso; rw [t_le, k20] at c; omega
      · refine ⟨hBy.1, hBy.2.1, hBy.2.2.1, fun i hi he => hBy.2.2.2.1 i hi (fun e => ?_), hBy.2.2.2.2.1, hBy.2.2.2.2.2.1, fun _ k hk2 => by omega, hBy.2.2.2.2.2.2.2⟩
        have : ssm y = ssm x := by unfold ssm; rw [fy 80 9 (by omega)]
        have e' : i = 1000000 := e
        omega
      · unfold nx; rw [fy 100 4 (by omega)]
      · unfold ssm; rw [fy 80 9 (by omega)]
      · exfalso; rw [t_le, k0] at c2; unfold om at *; omega
    | succ m ih =>
      intro k y uy N hSy hN hWy hCy hBy fy o1 o2 hk0 hk hm
      have o0 := (BB_om hBy).1.1
      have esm : ssm y = ssm x := by unfold ssm; rw [fy 80 9 (by omega)]
      have out : (TIk y) → Fv y := fun hT => by
        refine h y ⟨hBy.1, hBy.2.1, hBy.2.2.1, fun i hi he => hBy.2.2.2.1 i hi (fun e => ?_), hBy.2.2.2.2.1, hBy.2.2.2.2.2.1, fun _ => hT, hBy.2.2.2.2.2.2.2⟩ ?_ esm o1 o2 (fy _ _ (by omega)) fy uy N hSy hN hWy hCy
        · have e' : i = 1000000 := e
          omega
        · unfold nx; rw [fy 100 4 (by omega)]
      refine kg_X7_endIf_18 hq _ ⟨fun c => ?_, fun c => ⟨fun c2 => rv_i (out (fun k hk2 => ?_)), fun c2 => ?_⟩⟩
      · exfalso; rw [t_le, k20] at c; omega
      · rw [t_le, k0] at c2; unfold om at *; omega
      rw [t_le, k0] at c2
      have o1' : 1 ≤ om y := by unfold om at *; omega
      have e13 : (y.1 100 13 - 1).toInt = om y - 1 := t_sub (by show _ ≤ _ - (1 : Int); unfold om at *; omega) (by show _ - (1 : Int) ≤ _; unfold om at *; omega)
      have n13 : (y.1 100 13 - 1).toNatClampNeg = (om y).toNat - 1 := by rw [t_cl, e13]; omega
      refine ⟨by rw [vp_in_iff, e13]; omega, fun c3 => rv_i (out (fun k hk2 => ?_)), fun c3 x5 e5 => ?_⟩
      · rw [n13] at c3
        have : k = (om y).toNat - 1 := by omega
        rw [this]; exact c3
      rw [n13] at c3
      obtain ⟨ky, oy, cy⟩ := BB_k hBy
      have hop1 := oy.2.1 ((om y).toNat - 1) (by omega)
      have hpos : 0 < (om y).toNat - 1 := by
        refine Nat.pos_of_ne_zero (fun e => ?_)
        have := (hop1.1 e).1
        rw [c3] at this
        exact absurd this (by decide)
      obtain ⟨-, t, t1, t2, -, -, t5⟩ := hop1.2.1 hpos
      have t20 := t5 (Or.inr c3)
      have f5 : fm (fun c k => c = 100 ∧ k = 13) y x5 := by rw [e5]; exact fm_si (fm_rf _ _) ⟨rfl, rfl⟩
      have q5 : om x5 = om y - 1 := by
        have : x5.1 100 13 = y.1 100 13 - 1 := by rw [e5]; (simp only [si_get, sfl_get, Nat.reduceEqDiff, eq_self, and_false, false_and, and_true, true_and, if_true, if_false, reduceIte, reduceCtorEq])
        unfold om at *; rw [this]; exact e13
      have hB5 := BB_pop hBy o1' (fm_w f5 (fun c k q => ⟨q.1, Or.inr q.2⟩)) q5 (by rw [f5 100 9 (by omega)]; exact ⟨ky.1.1, Int.le_refl _⟩) (fun j hj => by rw [f5 100 9 (by omega)]; exact (oy.2.1 j (by omega)).2.2.2)
      have m5 : (x5.1 100 13).toNatClampNeg = (om y).toNat - 1 := by
        rw [t_cl]; show (om x5).toNat = _; omega
      have s5 : x5.1 112 ((om y).toNat - 1) = y.1 112 ((om y).toNat - 1) := f5 _ _ (by omega)
      have tN : (y.1 112 ((om y).toNat - 1)).toNatClampNeg = t := by rw [t_cl, t1]; rfl
      have sm5 : ssm x5 = ssm y := by unfold ssm; rw [f5 80 9 (by omega)]
      refine ⟨by rw [vp_in_iff]; show 0 ≤ om x5 ∧ om x5 < _; omega, ?_⟩
      rw [m5, s5]
      refine ⟨by rw [vp_in_iff]; omega, fun x8 e8 => ?_⟩
      rw [tN] at e8
      have p5 : sop x5 t = 20 := by unfold sop at t20 ⊢; rw [f5 81 t (by omega)]; exact t20
      have hB8 : BB x0 x8 M E1 := BB_E (BB_tg hB5 (by omega) (n := t) (by omega) (Or.inr p5) e8 ⟨hB5.2.2.1.2.2.2.1.1, Int.le_refl _, fun _ => Or.inl (by show (t : Int) < ssm x5; omega)⟩) (fun _ => rfl) (fun i hi he hne => by
        rcases he with ⟨e | e | e, e2⟩
        · exact absurd e hne
        · exact absurd (by omega) e2
        · exact absurd e hne)
      have f8 : fm (fun c k => c = 84) x5 x8 := by rw [e8]; exact fm_si (fm_rf _ _) rfl
      have o8 : om x8 = om x5 := by unfold om; rw [f8 100 13 (by omega)]
      have ek : (k + 1).toInt = k.toInt + 1 := t_add (by show _ ≤ _ + (1 : Int); omega) (by show _ + (1 : Int) ≤ _; omega)
      have k5 : (5 : Int32).toInt = 5 := rfl
      have nS : (om y).toNat = ((om y).toNat - 1) + 1 := by omega
      have e8n : (om x8).toNat = (om y).toNat - 1 := by omega
      have v1 : om x8 ≤ om x := by omega
      have v2 : 1 ≤ om x8 := by omega
      have v3 : 0 ≤ (k + 1).toInt := by omega
      have v4 : (k + 1).toInt + om x8 ≤ 18 := by omega
      have v5 : om x8 ≤ (m : Int) := by omega
      rw [nS] at hSy
      obtain ⟨z9, u', q1, q2, q3⟩ := hSy
      rw [c3, k5] at q2
      have z5 : z9 = 5 := by clear q3; omega
      have hS' : SKs y ((om y).toNat - 1) u' B := by
        rcases q3 with ⟨-, q⟩ | ⟨q, -⟩
        · exact q
        · exact absurd z5 q
      have hS8 : SKs x8 (om x8).toNat u' B := by
        rw [e8n]
        exact SKs_eq (fun k _ => ⟨by rw [f8 _ _ (by omega), f5 _ _ (by omega)], by rw [f8 _ _ (by omega), f5 _ _ (by omega)]⟩) hS'
      exact ih (k + 1) x8 u' (N ++ [(63, 0, 0)]) hS8 (fun v hv => (List.mem_append.mp hv).elim (hN v) (fun q => List.mem_singleton.mp q)) (by rw [hWy, q1, z5, eS_5, List.append_assoc]) (CE_more hCy ⟨fun c j _ q => f5 c j q, by rw [m5, t_cl]; show _ = (om y).toNat; omega, by rw [m5, c3]; decide, by rw [m5]; exact t1, hBy.2.2.2.2.1⟩ e8 (h8 _ _ (Or.inr p5))) hB8 (fm_tr fy (fm_tr (fm_w f5 (fun c k q => Or.inr q)) (fm_w f8 (fun c k q => Or.inl q)))) v1 (fun _ => v2) v3 v4 v5
  have o2 : om x2 = om x := by unfold om; rw [f2 100 13 (by omega)]
  have o18 := (BB_om hB).1
  exact loop 18 _ x2 u [] (by rw [o2]; exact SKs_eq (fun k _ => ⟨f2 _ _ (by omega), f2 _ _ (by omega)⟩) hS) (fun v hv => by cases hv) (by rw [List.append_nil]) (CE_0 e2 (h8 _ _ hop)) hB2 (fm_w f2 (fun c k q => Or.inl q)) (by omega) (by omega) (by decide) (by rw [k0]; omega) (by omega)
end KEF
end
section
/-! the class: blocks are closed -/
section KCLF
variable {G : kG} {q : kP} {d : Nat} {x x0 y z xs : gd} {F : Int32 → gd → Prop} {Fv : gd → Prop} {X : String → gd → Prop} {P : Option gv → gd → Prop} {M : Int} {E : Nat → Prop} {K V : Nat → Int32} {sN : Nat → Nat → Bool} {e : Nat} {Ev : gV} {Ml N : gU} {W : gTs}
theorem RI_on (h0 : 0 ≤ nx y) (h : RIw K V sN e Ev x y Ml) (l : La y z) (g : RIw K V sN e (exs Ml Ev) y z N) : RIw K V sN e Ev x z (Ml ++ N) := ⟨g.1, g.2.1, UR_app h0 h.2.2 l g.2.2⟩
theorem RI_dull {v : Nat × Nat × Nat} (h : RIw K V sN e Ev x y Ml) (hv : dull v) : RIw K V sN e Ev x y (Ml ++ [v]) := ⟨h.1, h.2.1, UR_dull h.2.2 hv⟩
theorem RI_63 (h : RIw K V sN e Ev x y Ml) (hv : n63 N) : RIw K V sN e Ev x y (Ml ++ N) := ⟨h.1, h.2.1, UR_63 h.2.2 hv⟩
theorem eC_12 {z c j : Nat} {s : List Nat} {L : gU} (hz : z = 1 ∨ z = 2) : eC K z s c j L = eS K s c j L := by
  rw [eC, if_neg (by omega), if_neg (by omega), if_neg (by omega)]
theorem eC_4 {c j : Nat} {s : List Nat} {L : gU} : eC K 4 s c j L = eS K s c j (L ++ [(63, 0, 0)]) := by
  rw [eC, if_neg (by decide), if_neg (by decide), if_pos rfl]
theorem eC_0 {c j : Nat} {s : List Nat} {L : gU} : eC K 0 s c j L = some (c, j, L) := by
  rw [eC, if_pos rfl]
/-- the outermost block has no locals before it -/
def LBo (B : List Nat) : Prop := ∃ B', B = B' ++ [0]
theorem LBo_push {b : Nat} {B : List Nat} (h : LBo B) : LBo (b :: B) := by
  obtain ⟨B', e⟩ := h
  exact ⟨b :: B', by rw [e]; rfl⟩
theorem LBo_pop {B : List Nat} (h : LBo B) (h2 : ¬ B.tail = []) : LBo B.tail := by
  obtain ⟨B', e⟩ := h
  cases B' with
  | nil => rw [e] at h2; exact absurd rfl h2
  | cons b B' => exact ⟨B', by rw [e]; rfl⟩
theorem LBo_end {B : List Nat} (h : LBo B) (h2 : B.tail = []) : B.headD 0 = 0 := by
  obtain ⟨B', e⟩ := h
  cases B' with
  | nil => rw [e]; rfl
  | cons b B' => rw [e] at h2; exact absurd h2 (by simp)
/-- within a thread: what is known and open -/
def EN (K : Nat → Int32) (e : Nat) (x : gd) (u : List Nat) (Ev : gV) : Prop := KV' K e x Ev ∧ SKs x (om x).toNat u Ev.2.1 ∧ LBo Ev.2.1
theorem SKs_B0 : ∀ {n : Nat} {u B : List Nat}, SKs x n u B → (∀ k, k < n → 0 < k ∨ ¬ x.1 111 k = 5) → 1 ≤ n → ¬ B = [] := by
  intro n
  induction n with
  | zero => intro u B _ _ h; omega
  | succ n ih =>
    intro u B h g _
    obtain ⟨z, u', h1, h2, h3⟩ := h
    rcases h3 with ⟨a, b⟩ | ⟨a, b, B', c1, c2, c3⟩
    · by_cases hn : n = 0
      · rcases g n (Nat.lt_succ_self _) with g1 | g1
        · omega
        · exfalso
          apply g1
          have k5 : (5 : Int32).toInt = 5 := rfl
          rw [t_eq, k5]; omega
      · exact ih b (fun k hk => g k (Nat.lt_succ_of_lt hk)) (by omega)
    · rw [c1]; exact fun q => by cases q
theorem kd_openElse (hq : kV q) (c9 : Nat) (L : gU) {u : List Nat} (hx : W = none → RX x0 X) (eW : W = eC K 3 u c9 (nn x) L) (hul : (u.length : Int) = om x) (hA : KA K V sN e x) (hn0 : nn x ≤ e) (hN9 : EN K e x u Ev) (hB : BB x0 x M E) (s : Int32) {n : Nat} (es : s.toInt = n) (hn : (n : Int) < ssm x) (h1 : 1 ≤ om x) (ho : om x ≤ 16) (ha : 2 * ssm x + om x ≤ nx x) (hop : sop x n = 17) (hE : ∀ i : Nat, (i : Int) < ssm x → E i → i = n) (hs : x.1 23 (x.1 100 4).toNatClampNeg = 48) (h : ∀ y N u9, (BB x0 y M E0 ∧ W = eS K u9 c9 (nn y) (L ++ N) ∨ (BB x0 y M E1 ∧ y.1 23 (y.1 100 4).toNatClampNeg = 54) ∧ W = eX K u9 c9 (nn y) (L ++ N)) → RIw K V sN e Ev x y N → EN K e y u9 (exs N Ev) → Lb x y → y.1 100 7 = x.1 100 7 → nx x < nx y → ssm y = ssm x + 1 → om y = om x + 1 → 2 * ssm y + om y ≤ nx y + 2 → y.1 60 13 = x.1 60 13 → CGn sN V K n Ev x y N → Fv y) : KE G q (d + 9) zk_X7_openElse 0 [(0, vr 100), (1, vi s)] [] x (rv Fv) X := by
  have eN : s.toNatClampNeg = n := by rw [t_cl, es]; rfl
  have bx0 := hB.1.1.2.1
  have kk18 : K (nn x) = 18 := by rw [← hA.1 _ hn0, show x.1 23 (nn x) = 48 from hs]; decide
  obtain ⟨a1, a2, a3, a4, a5⟩ := BB_400 hB (by omega)
  have vs : vp_in s 400 := by rw [vp_in_iff]; omega
  refine kg_X7_openElse_0 hq _ ⟨vs, kf_add hq _ _ _ a1 a2 (fun w hAd vin hF9 => ⟨vs, fun z ez => ?_⟩)⟩
  obtain ⟨f1, f2, f3, f4, f5⟩ := hAd
  have hst : stK x w 20 (x.1 100 9) (-1) (-1) (-1) (-1) (-1) := ⟨fun c k q q1 q2 => f1 c k (fun z => z.elim q1 q2), f2, f3, f4, f5, hF9.1, hF9.2.1, hF9.2.2.1, hF9.2.2.2⟩
  rw [eN] at ez
  have k20 : (20 : Int32).toInt = 20 := rfl
  have hSA : SA w M (x.1 80 9).toNatClampNeg := by
    unfold SA sop stg
    rw [f3, f4, k20]
    exact ⟨by omega, ⟨a4, a5⟩, fun c => by omega, fun c => by omega⟩
  have hBw := BB_add hB (n := (x.1 80 9).toNatClampNeg) (by omega) f1 f2 hSA
  have pn : sop w n = 17 := by unfold sop at hop ⊢; rw [f1 81 n (by omega)]; exact hop
  have h8 : ¬ w.1 81 n = 8 := fun q => by
    unfold sop at pn
    rw [q] at pn
    exact absurd pn (by decide)
  have hBz := BB_tg hBw (by omega) (n := n) (by omega) (Or.inl pn) ez ⟨by show 0 ≤ ssm w; omega, Int.le_refl _, fun c => by omega⟩
  have fz : fm (fun c k => c = 84) w z := by rw [ez]; exact fm_si (fm_rf _ _) rfl
  have nz : nx z = nx x := by unfold nx; rw [fz 100 4 (by omega), f1 100 4 (by omega)]
  have sz : ssm z = ssm x + 1 := by
    have : ssm z = ssm w := by unfold ssm; rw [fz 80 9 (by omega)]
    omega
  have oz : om z = om x := by unfold om; rw [fz 100 13 (by omega), f1 100 13 (by omega)]
  have z4 : z.1 100 4 = x.1 100 4 := by rw [fz 100 4 (by omega), f1 100 4 (by omega)]
  have t84 : ¬ (x.1 80 9).toNatClampNeg = n := by omega
  have z84 : z.1 84 (x.1 80 9).toNatClampNeg = -1 := by rw [ez, si_get, if_neg (fun q => t84 q.2)]; exact f5
  have z81 : z.1 81 (x.1 80 9).toNatClampNeg = 20 := by rw [ez, si_cell (by decide)]; exact f3
  have nnz : nn z = nn x := by unfold nn; rw [z4]
  have hRz : RIw K V sN e Ev x z [] := RI_st ⟨hA, hn0, UR_0 rfl⟩ z4 (fun j => by rw [fz 42 j (by omega), f1 42 j (by omega)]) (fun c k q1 q2 => by rw [fz c k (by omega), f1 c k (by omega)])
  refine kd_pass (xs := x) (Ml := []) (Ev := Ev) hq (fun c7 => hx (by rw [eW]; exact eC_else7 kk18 (by omega))) hBz hRz (by rw [nnz, kk18]; decide) (by rw [nnz, kk18]; decide) (fun c7 y hBy ny gy eny hRy u0 hcy => kp_sort hq hBy.1.1 ?_)
  have ey := GS_om gy
  have sy := GS_sm gy
  have y81 : y.1 81 (x.1 80 9).toNatClampNeg = 20 := by rw [GS_at gy _ _ (by unfold sSum; omega)]; exact z81
  have y84 : y.1 84 (x.1 80 9).toNatClampNeg = -1 := by rw [GS_at gy _ _ (by unfold sSum; omega)]; exact z84
  have y13 : y.1 60 13 = x.1 60 13 := by rw [GS_at gy _ _ (by unfold sSum; omega), fz 60 13 (by omega), f1 60 13 (by omega)]
  have hEE : ∀ i : Nat, (i : Int) < ssm y → (E i ∨ i = (x.1 80 9).toNatClampNeg) ∧ i ≠ n → (i : Int) = ssm x ∧ stg y i = -1 := by
    rintro i hi ⟨e | e, e2⟩
    · by_cases hi3 : (i : Int) < ssm x
      · exact absurd (hE i hi3 e) e2
      · have : i = (x.1 80 9).toNatClampNeg := by omega
        rw [this]; exact ⟨a3, by unfold stg; rw [y84]; rfl⟩
    · rw [e]; exact ⟨a3, by unfold stg; rw [y84]; rfl⟩
  have nb : ∀ k : Int32, (k = 4 ∨ k = 5) → NB y k (x.1 80 9) := by
    intro k hk
    have hk' : (1 ≤ k.toInt ∧ k.toInt ≤ 5) ∧ ¬ k = 1 ∧ ¬ k = 3 ∧ ¬ k = 2 := by rcases hk with rfl | rfl <;> decide
    refine ⟨fun c => by omega, fun _ => ⟨hk'.1, (x.1 80 9).toNatClampNeg, a3.symm, by omega, fun c => ?_, fun c => absurd c hk'.2.2.2, fun _ => by unfold sop; rw [y81]; rfl⟩⟩
    rcases c with c | c
    · exact absurd c hk'.2.1
    · exact absurd c hk'.2.2.1
  rw [nnz] at c7 eny
  have hVy : KV' K e y Ev := KV_GS gy (KV_fm hN9.1 (by rw [fz _ _ (by omega), f1 _ _ (by omega)]) (fun k => by rw [fz _ _ (by omega), f1 _ _ (by omega)]))
  have hSy : SKs y (om y).toNat u Ev.2.1 := by
    rw [ey, oz]
    exact SKs_eq (fun k _ => ⟨by rw [GS_at gy 111 k (by unfold sSum; omega), fz 111 k (by omega), f1 111 k (by omega)], by rw [GS_at gy 113 k (by unfold sSum; omega), fz 113 k (by omega), f1 113 k (by omega)]⟩) hN9.2.1
  have lay : Lb x y := Lb_tr (Lb_tr (Lb_fm f1 (fun c k q => by unfold Tc; omega)) (Lb_fm fz (fun c k q => by unfold Tc; omega))) (Lb_GS gy)
  have y7 : y.1 100 7 = x.1 100 7 := by rw [GS_at gy 100 7 (by unfold sSum; omega), fz 100 7 (by omega), f1 100 7 (by omega)]
  have hRy2 : RIw K V sN e Ev x y [(62, nn x, 0)] := RI_dull hRy (dull_k (by decide))
  have st62 : still [(62, nn x, 0)] := stl_k (by decide)
  have y9c : (y.1 100 9).toNatClampNeg = Ev.1.length := by rw [t_cl, hVy.1]; rfl
  have k24 : y.1 23 (nn y) = 54 ↔ K (nn y) = 24 := KA_k hRy.1 hRy.2.1 54 (by decide)
  have hfu : 16 - u.length = 16 - u.length := rfl
  refine ⟨fun cne => ?_, fun c => ?_⟩
  · have hW4 : W = (pBk (pS K (16 - u.length)) K 4 c9 (nn y) (L ++ [(62, nn x, 0)])).bind (fun q => eC K 4 u q.1 q.2.1 q.2.2) := by
      rw [eW, eny]
      exact eC_else kk18 c7 (fun q => cne (k24.mpr (by rw [eny]; exact q)))
    refine kd_openBlock hq 4 _ (fun no => hx (by rw [hW4, pBk, if_neg no]; rfl)) hRy2 hVy (z9 := 4) (by decide) hSy hBy (by omega) (by omega) (by decide) (Or.inr (by decide)) (nb 4 (Or.inl rfl)) (fun i hi he => Or.inr (hEE i hi he)) (fun w9 hBu nu su ou u13 kk c79 enu lau hRu hVu hSu u7 hpu => rv_i (h w9 ([(62, nn x, 0)] ++ [(20, 4, 0)]) (4 :: u) (Or.inl ⟨hBu, ?_⟩) (RI_dull hRu (dull_k (by decide))) ?_ (Lb_tr lay lau) (by rw [u7, y7]) (by omega) (by omega) (by omega) (by omega) (by rw [u13]; exact y13) (hpu.elim (fun w0 q0 => CGn_20 (CG_62 hN9.1 hst ez h8 (fun c k q9 => (q0.1 c k q9).trans (hcy c k q9)) q0.2 (by decide))))))
    · rw [hW4, eS_block (by decide) rfl kk c79, enu, List.append_assoc]
    · have ex : exs ([(62, nn x, 0)] ++ [(20, 4, 0)]) Ev = (Ev.1, Ev.1.length :: Ev.2.1, Ev.2.2) := by
        rw [exs_app, exs_still st62]; rfl
      rw [ex]
      rw [y9c] at hSu
      exact ⟨hVu, hSu, LBo_push hN9.2.2⟩
  · have c24 := k24.mp c
    refine kd_enter hq hBy (by omega) (by omega) 5 _ (Or.inr (by decide)) (nb 5 (Or.inr rfl)) (fun i hi he _ => (hEE i hi he).2) (fun w9 hBu nu su ou fu u4 ff t1 t3 hpu => rv_i (h w9 [(62, nn x, 0)] (5 :: u) (Or.inr ⟨⟨BB_E hBu (fun _ => rfl) (fun i hi he hne => ?_), ?_⟩, ?_⟩) (RI_st hRy2 u4 (fun j => fu _ _ (by omega)) (fun c k q1 q2 => fu _ _ (by omega))) ?_ (Lb_tr lay (Lb_fm ff (fun c k q => by unfold Tc; omega))) (by rw [ff 100 7 (by omega), y7]) (by omega) (by omega) (by omega) (by omega) (by rw [fu 60 13 (by omega)]; exact y13) (CG_62 hN9.1 hst ez h8 hcy hpu (by decide))))
    rotate_left 2
    · have en9 : nn w9 = nn x + 1 := by rw [← eny]; unfold nn; rw [u4]
      rw [eW, en9]
      exact eC_elif kk18 c7 (by rw [← eny]; exact c24)
    · rw [exs_still st62]
      refine ⟨KV_fm hVy (ff _ _ (by omega)) (fun k => ff _ _ (by omega)), ?_, hN9.2.2⟩
      have o0 := (BB_om hBy).1.1
      have ey9 : (y.1 100 13).toNatClampNeg = (om y).toNat := by rw [t_cl]
      have ez : (om w9).toNat = (om y).toNat + 1 := by omega
      rw [ey9] at t1 t3 ff
      rw [ez]
      exact ⟨5, u, rfl, by rw [t1]; rfl, Or.inl ⟨rfl, SKs_eq (fun k hk => ⟨ff 111 k (by omega), ff 113 k (by omega)⟩) hSy⟩⟩
    · rcases he with ⟨e, -⟩ | ⟨-, e, e2⟩
      · exact absurd e hne
      · exact absurd (hEE i (by omega) e).1 e2
    · rw [u4, fu 23 _ (by omega)]; exact c
theorem kd_endThread (hq : kV q) (hB : BB x0 x M E) (ho : om x = 0) (hM : M ≤ (x.1 60 13).toInt) (hE : ∀ i : Nat, (i : Int) < ssm x → ¬ E i) (ha : 2 * ssm x + 2 ≤ nx x) (h : ∀ y, OT x0 y → nx y = nx x → fm (fun c k => (81 ≤ c ∧ c ≤ 89 ∧ k = (x.1 80 9).toNatClampNeg) ∨ (c = 80 ∧ k = 9) ∨ (c = 100 ∧ k = 5)) x y → (∃ w, stK x w 21 0 (-1) (-1) (-1) (-1) (-1) ∧ (∀ c k, ¬ (c = 100 ∧ k = 5) → y.1 c k = w.1 c k) ∧ y.1 100 5 = 0) → Fv y) : KT G q (d + 1) zk_X7_endThread 0 [(0, vr 100)] [] x (rv Fv) := by
  obtain ⟨a1, a2, a3, a4, a5⟩ := BB_400 hB (by omega)
  refine kg_X7_endThread_0 hq (kf_add hq _ _ _ a1 a2 (fun w hA vin hF9 z ez => rv_i ?_))
  obtain ⟨f1, f2, f3, f4, f5⟩ := hA
  obtain ⟨hS, hF, ⟨r1, r2, r3, ⟨r4, r6⟩, r7⟩, hC, r5, r0, hI⟩ := hB
  have f : fm (fun c k => (81 ≤ c ∧ c ≤ 89 ∧ k = (x.1 80 9).toNatClampNeg) ∨ (c = 80 ∧ k = 9) ∨ (c = 100 ∧ k = 5)) x z := by rw [ez]; exact fm_si (fm_w f1 (fun c k q => by omega)) (Or.inr (Or.inr ⟨rfl, rfl⟩))
  have z5 : z.1 100 5 = 0 := by rw [ez]; (simp only [si_get, sfl_get, Nat.reduceEqDiff, eq_self, and_false, false_and, and_true, true_and, if_true, if_false, reduceIte, reduceCtorEq])
  have es : ssm z = ssm x + 1 := by
    have : z.1 80 9 = w.1 80 9 := by rw [ez]; (simp only [si_get, sfl_get, Nat.reduceEqDiff, eq_self, and_false, false_and, and_true, true_and, if_true, if_false, reduceIte, reduceCtorEq])
    unfold ssm at *; rw [this]; exact f2
  have z81 : z.1 81 (x.1 80 9).toNatClampNeg = 21 := by rw [ez]; (simp only [si_get, sfl_get, Nat.reduceEqDiff, eq_self, and_false, false_and, and_true, true_and, if_true, if_false, reduceIte, reduceCtorEq]); exact f3
  have z83 : z.1 83 (x.1 80 9).toNatClampNeg = 0 := by rw [ez]; (simp only [si_get, sfl_get, Nat.reduceEqDiff, eq_self, and_false, false_and, and_true, true_and, if_true, if_false, reduceIte, reduceCtorEq]); exact f4
  have e4 : nx z = nx x := by unfold nx; rw [f 100 4 (by omega)]
  have la : La x z := ⟨fun c k q1 q2 => f c k (by omega), by omega, fun j _ => f 42 j (by omega)⟩
  have k21 : (21 : Int32).toInt = 21 := rfl
  have k0 : (0 : Int32).toInt = 0 := rfl
  have z13 : z.1 60 13 = x.1 60 13 := f _ _ (by omega)
  refine h z ⟨?_, ?_, ⟨fun c => absurd z5 c, NM_fm r2 (fun c k q1 q2 q3 q4 => f c k (by omega)) (f _ _ (by omega)) (f _ _ (by omega)), ?_, ⟨by omega, fun i hi => ?_⟩, ?_⟩, fun i hi _ => ?_, z5, fm_tr r0 (fm_w f (fun c k q => by unfold sR; omega)), by omega⟩ e4 f ⟨w, ⟨fun c k q q1 q2 => f1 c k (fun z => z.elim q1 q2), f2, f3, f4, f5, hF9.1, hF9.2.1, hF9.2.2.1, hF9.2.2.2⟩, fun c k q => by rw [ez, si_get, if_neg q], z5⟩
  · obtain ⟨⟨hT, b1, b2, b3⟩, ⟨u1, u2⟩, hp, hP⟩ := hS
    unfold SU SV US RB mt
    rw [f 20 7 (by omega), f 60 3 (by omega), e4]
    refine ⟨⟨kT_fm hT la.1, b1, b2, b3⟩, ⟨fun j h1 h2 => ?_, fun j h1 h2 => ?_⟩, hp, fun i hi => La_PQ la (f _ _ (by omega)) (f _ _ (by omega)) (hP i hi)⟩
    · rw [f 42 j (by omega)]; exact u1 j h1 h2
    · rw [f 42 j (by omega)] at h2; rw [f 42 _ (by omega)]; exact u2 j h1 h2
  · unfold FR at hF ⊢
    rw [f 100 4 (by omega), f 42 _ (by omega)]; exact hF
  · unfold CD at r3 ⊢
    rw [f 60 6 (by omega), f 60 9 (by omega), f 60 10 (by omega), f 60 14 (by omega), f 60 16 (by omega), z13, f 40 8 (by omega), f 40 10 (by omega)]
    exact ⟨r3.1, r3.2.1, r3.2.2.1, r3.2.2.2.1, r3.2.2.2.2.1, r3.2.2.2.2.2.1, fun c => absurd z5 c⟩
  · by_cases hi2 : i = (x.1 80 9).toNatClampNeg
    · rw [hi2]
      unfold SA sop stg
      rw [z81, z83, k21, k0]
      exact ⟨by omega, by omega, fun c => by omega, fun c => by omega⟩
    · exact SA_La la (f _ _ (by omega)) (f _ _ (by omega)) (f _ _ (by omega)) (f _ _ (by omega)) (by rw [z13]; exact hM) (r6 i (by omega))
  · unfold TS at r7 ⊢
    rw [f 60 10 (by omega)]
    refine ⟨fun t ht => ?_, fun _ => Or.inr ?_⟩
    · rw [f 72 t (by omega)]
      obtain ⟨p1, p2, -⟩ := r7.1 t ht
      exact ⟨p1, by omega, fun _ => by omega⟩
    · have : (ssm z).toNat - 1 = (x.1 80 9).toNatClampNeg := by omega
      rw [this]; exact z81
  · by_cases hi2 : i = (x.1 80 9).toNatClampNeg
    · rw [hi2]
      refine SC_no ?_ ?_ <;> (unfold sop; rw [z81]; decide)
    · have := hC i (by omega) (hE i (by omega))
      unfold SC at this ⊢
      have ep : sop z i = sop x i := by unfold sop; rw [f 81 i (by omega)]
      have et : stg z i = stg x i := by unfold stg; rw [f 84 i (by omega)]
      rw [ep, et]
      intro c
      rcases this c with ⟨p1, p2, j, p3, p4⟩ | ⟨p1, p2, p3, p4⟩
      · omega
      · refine Or.inr ⟨p1, by omega, fun _ => by omega, fun c20 => ?_⟩
        rcases p4 c20 with g1 | g1
        · exact Or.inl g1
        · by_cases hlt : (i : Int) < stg x i
          · exact Or.inl hlt
          · refine Or.inr ?_
            unfold sop at g1 ⊢
            rw [f 81 _ (by omega)]; exact g1
end KCLF
end
section
/-! the class: a block is closed -/
section KCLG
variable {G : kG} {q : kP} {d : Nat} {x x0 y z xs : gd} {F : Int32 → gd → Prop} {Fv : gd → Prop} {X : String → gd → Prop} {P : Option gv → gd → Prop} {M : Int} {E : Nat → Prop} {K V : Nat → Int32} {sN : Nat → Nat → Bool} {e : Nat} {Ev : gV} {Ml N : gU} {W : gTs}
theorem kd_closeBlock (hq : kV q) (c9 : Nat) (L : gU) {u : List Nat} (hx : W = none → RX x0 X) (eW : W = eS K u c9 (nn x) L) (hk64 : K (nn x) = 64) (hA : KA K V sN e x) (hn0 : nn x ≤ e) (hN9 : EN K e x u Ev) (hB : BB x0 x (x.1 60 13).toInt E0) (h1 : 1 ≤ om x) (ho : om x ≤ 17) (ha : 2 * ssm x + om x ≤ nx x) (h : ∀ y N u9, (BB x0 y (y.1 60 13).toInt E0 ∧ W = eS K u9 c9 (nn y) (L ++ N) ∨ (BB x0 y (y.1 60 13).toInt E1 ∧ y.1 23 (y.1 100 4).toNatClampNeg = 54) ∧ W = eX K u9 c9 (nn y) (L ++ N)) → 1 ≤ om y → om y ≤ 17 → 2 * ssm y + om y ≤ nx y → RIw K V sN e Ev x y N → EN K e y u9 (exs N Ev) → Lb x y → y.1 100 7 = x.1 100 7 → nx x < nx y → CG sN V K Ev x y N → Fv y) (hOT : ∀ y N, OT x0 y → RIw K V sN e Ev x y N → (exs N Ev).1 = [] → (exs N Ev).2.1 = [] → Lb x y → W = some (c9, nn y, L ++ N) → nx x < nx y → CG sN V K Ev x y N → Fv y) : KE G q (d + 10) zk_X7_closeBlock 0 [(0, vr 100)] [] x (rv Fv) X := by
  have bx0 := hB.1.1.2.1
  have oS : (om x).toNat = ((om x).toNat - 1) + 1 := by omega
  have hSx := hN9.2.1
  rw [oS] at hSx
  obtain ⟨z9, u2, B2, eu, ez9, z95, eb, eB, hS2⟩ := SKs_top hSx (hB.2.2.2.2.2.2.1 (fun e => e) ((om x).toNat - 1) (by omega))
  rw [eu] at eW
  have hR0 : RIw K V sN e Ev x x [] := ⟨hA, hn0, UR_0 rfl⟩
  refine kg_X7_closeBlock_0 hq (kd_need (xs := x) (Ml := []) (Ev := Ev) hq 24 64 (by decide) (by decide) (by decide) (fun no => hx (by rw [eW]; exact eS_close7 z95 hk64 (Nat.le_of_not_lt (fun z => no ⟨hk64, z⟩)))) hB hR0 (fun kk c7 x1 hB1 n1 g1 en1 hR1 u0 hc1 x2 e2 => ?_))
  have hW1 : W = eC K z9 u2 c9 (nn x1) (L ++ [(21, z9, 0)]) := by rw [eW, eS_close z95 kk c7, en1]
  have o1 := GS_om g1
  have s1 := GS_sm g1
  have m13 : x1.1 60 13 = x.1 60 13 := GS_at g1 _ _ (by unfold sSum; omega)
  have e13 : (x1.1 100 13 - 1).toInt = om x1 - 1 := t_sub (by show _ ≤ _ - (1 : Int); unfold om at *; omega) (by show _ - (1 : Int) ≤ _; unfold om at *; omega)
  have q2 : x2.1 100 13 = x1.1 100 13 - 1 := by rw [e2]; (simp only [si_get, sfl_get, Nat.reduceEqDiff, eq_self, and_false, false_and, and_true, true_and, if_true, if_false, reduceIte, reduceCtorEq])
  have N2 : (x2.1 100 13).toNatClampNeg = (om x1).toNat - 1 := by rw [q2, t_cl, e13]; omega
  have v2 : vp_in (x2.1 100 13) 20 := by rw [q2, vp_in_iff, e13]; omega
  refine ⟨v2, fun x4 e4 => ?_⟩
  rw [N2] at e4
  have f2 : fm (fun c k => c = 100 ∧ k = 13) x1 x2 := by rw [e2]; exact fm_si (fm_rf _ _) ⟨rfl, rfl⟩
  rw [f2 113 _ (by omega)] at e4
  have q4 : x4.1 100 13 = x2.1 100 13 := by rw [e4]; (simp only [si_get, sfl_get, Nat.reduceEqDiff, eq_self, and_false, false_and, and_true, true_and, if_true, if_false, reduceIte, reduceCtorEq])
  have f4 : fm (fun c k => c = 100 ∧ (k = 9 ∨ k = 13)) x1 x4 := by rw [e4]; exact fm_si (fm_w f2 (fun c k q => ⟨q.1, Or.inr q.2⟩)) ⟨rfl, Or.inl rfl⟩
  have k4 : x4.1 100 9 = x1.1 113 ((om x1).toNat - 1) := by rw [e4]; (simp only [si_get, sfl_get, Nat.reduceEqDiff, eq_self, and_false, false_and, and_true, true_and, if_true, if_false, reduceIte, reduceCtorEq])
  have o4 : om x4 = om x1 - 1 := by unfold om at *; rw [q4, q2]; exact e13
  obtain ⟨kk, oo, cc⟩ := BB_k hB1
  have hop := oo.2.1 ((om x1).toNat - 1) (by omega)
  have hB4 := BB_pop hB1 (by omega) f4 o4 (by rw [k4]; exact hop.2.2) (fun j hj => by rw [k4]; exact oo.2.2.1 j _ (by omega) (by omega))
  have n4 : nx x4 = nx x1 := by unfold nx; rw [f4 100 4 (by omega)]
  have s4 : ssm x4 = ssm x1 := by unfold ssm; rw [f4 80 9 (by omega)]
  have m4 : x4.1 60 13 = x.1 60 13 := by rw [f4 60 13 (by omega)]; exact m13
  have g113 : ∀ k, x1.1 113 k = x.1 113 k := fun k => GS_at g1 113 k (by unfold sSum; omega)
  have g111 : ∀ k, x1.1 111 k = x.1 111 k := fun k => GS_at g1 111 k (by unfold sSum; omega)
  have hV1 := KV_GS g1 hN9.1
  have hd : (x1.1 113 ((om x1).toNat - 1)).toNatClampNeg = Ev.2.1.headD 0 := by rw [g113, o1]; exact eb
  have hd2 : ((Ev.2.1.headD 0 : Nat) : Int) = (x1.1 113 ((om x1).toNat - 1)).toInt := by
    have u := t_cl (x1.1 113 ((om x1).toNat - 1))
    have := hop.2.2.1
    rw [hd] at u
    omega
  have hm : Ev.2.1.headD 0 ≤ Ev.1.length := by
    have a := hop.2.2.2
    have b := hV1.1
    omega
  have hV4 : KV' K e x4 (exV Ev (21, z9, 0)) := KV_drop hV1 hm (by rw [k4]; exact hd2.symm) (fun k => f4 109 k (by omega))
  have o4x : (om x4).toNat = (om x).toNat - 1 := by omega
  have hS4 : SKs x4 (om x4).toNat u2 Ev.2.1.tail := by
    rw [o4x, eB]
    exact SKs_eq (fun k _ => ⟨by rw [f4 111 k (by omega), g111], by rw [f4 113 k (by omega), g113]⟩) hS2
  have hR4 : RIw K V sN e Ev x x4 [(21, z9, 0)] := RI_dull (RI_st hR1 (f4 _ _ (by omega)) (fun j => f4 _ _ (by omega)) (fun c k q1 q2 => f4 _ _ (by omega))) (dull_k (by decide))
  have n41 : nn x4 = nn x1 := by unfold nn; rw [f4 100 4 (by omega)]
  have l4 : Lb x x4 := Lb_tr (Lb_GS g1) (Lb_fm f4 (fun c k q => by unfold Tc; omega))
  have x47 : x4.1 100 7 = x.1 100 7 := by rw [f4 100 7 (by omega), GS_at g1 100 7 (by unfold sSum; omega)]
  have ul2 := SKs_len hS4
  have ez1 : (x1.1 111 ((om x1).toNat - 1)).toInt = (z9 : Nat) := by rw [g111, o1]; exact ez9
  have hLB : 1 ≤ om x4 → LBo Ev.2.1.tail := fun h1 => LBo_pop hN9.2.2 (SKs_B0 hS4 (fun k hk => by
    by_cases k0 : 0 < k
    · exact Or.inl k0
    · refine Or.inr ?_
      have k00 : k = 0 := by omega
      rw [k00, f4 111 0 (by omega)]
      have := ((oo.2.1 0 (by omega)).1 rfl).1
      rw [this]; decide) (by omega))
  rw [← n41] at hW1
  refine ⟨by rw [q4]; exact v2, by rw [q4]; exact v2, ?_⟩
  rw [q4, N2, f4 111 _ (by omega), f4 112 _ (by omega)]
  have hpo : ∀ (k : Int32) (t : Nat), x1.1 111 ((om x1).toNat - 1) = k → ¬ k = 0 → (x1.1 112 ((om x1).toNat - 1)).toInt = (t : Nat) → Po x1 x4 t := fun k t ek hk et => ⟨fun c j q q1 => f4 c j (by unfold ccS at q; omega), by rw [q4, N2, t_cl]; show _ = (om x1).toNat; omega, by rw [q4, N2, ek]; exact hk, by rw [q4, N2]; exact et, hB1.2.2.2.2.1⟩
  -- the block's step
  have step : ∀ k : Int32, x1.1 111 ((om x1).toNat - 1) = k → ¬ k = 0 → ∃ t : Nat, (x1.1 112 ((om x1).toNat - 1)).toInt = t ∧ (t : Int) < ssm x1 ∧ 1 ≤ om x4 ∧ (k = 1 ∨ k = 3 → sop x4 t = 17) ∧ (k = 2 → sop x4 t = 5) ∧ (k = 4 ∨ k = 5 → sop x4 t = 20) := by
    intro k ek hk
    have hpos : 0 < (om x1).toNat - 1 := by
      refine Nat.pos_of_ne_zero (fun e => hk ?_)
      rw [← ek]; exact (hop.1 e).1
    obtain ⟨-, t, t1, t2, t3⟩ := hop.2.1 hpos
    refine ⟨t, t1, t2, by omega, ?_⟩
    rw [← ek]
    unfold sop at t3 ⊢
    rw [f4 81 t (by omega)]; exact t3
  have hR5 : ∀ k : Int32, x1.1 111 ((om x1).toNat - 1) = k → (k = 1 ∨ k = 2) → ∀ y, om y = om x4 → (∀ j, y.1 111 j = x1.1 111 j) → TIk y := by
    intro k ek hk y oy fy j hj
    rw [fy j]
    intro c
    have := hB1.2.2.2.2.2.2.2 j (by omega) c
    have hj1 : j + 1 = (om x1).toNat - 1 := by omega
    rw [hj1, ek] at this
    rcases hk with rfl | rfl <;> revert this <;> decide
  have hE4 : ∀ (t : Nat), (x1.1 112 ((om x1).toNat - 1)).toInt = t → ∀ i : Nat, (i : Int) < ssm x4 → (E0 i ∨ (i : Int) = (x1.1 112 ((om x1).toNat - 1)).toInt ∨ i = 1000000) → i = t := by
    intro t et i hi he
    have b2 := hB1.1.1.2.2.1
    rcases he with e | e | e
    · exact absurd e (fun e => e)
    · omega
    · omega
  have endI : ∀ (y : gd), BB x0 y (x.1 60 13).toInt E0 → nx y = nx x4 → ssm y = ssm x4 → om y ≤ om x4 → (1 ≤ om x4 → 1 ≤ om y) → y.1 60 13 = x4.1 60 13 → fm (fun c k => c = 84 ∨ (c = 100 ∧ k = 13)) x4 y → ∀ (uy : List Nat) (N : gU), SKs y (om y).toNat uy Ev.2.1.tail → n63 N → ∀ k : Nat, z9 = k → (k = 3 ∨ k = 4) → (∃ t, Po x1 x4 t ∧ CE sN V K t x4 y N) → 1 ≤ om x4 → W = eS K uy c9 (nn x4) (L ++ [(21, k, 0)] ++ [(63, 0, 0)] ++ N) → Fv y := by
    intro y hBy ny sy oy oy1 y13 fy uy N hSy hN k zk hk34 hce t3 hWy
    rw [zk] at hR4 hV4
    have nny : nn y = nn x4 := by unfold nn; rw [fy 100 4 (by omega)]
    have st6 : still ([(63, 0, 0)] ++ N) := still_app (stl_k (by decide)) (n63_still hN)
    have ex : exs ([(21, k, 0)] ++ ([(63, 0, 0)] ++ N)) Ev = exV Ev (21, k, 0) := by rw [exs_app, exs_still st6]; rfl
    have hRy : RIw K V sN e Ev x y ([(21, k, 0)] ++ [(63, 0, 0)] ++ N) := RI_63 (RI_dull (RI_st hR4 (fy _ _ (by omega)) (fun j => fy _ _ (by omega)) (fun c k q1 q2 => fy _ _ (by omega))) (dull_k (by decide))) hN
    rw [List.append_assoc] at hRy
    refine h y ([(21, k, 0)] ++ ([(63, 0, 0)] ++ N)) uy (Or.inl ⟨by rw [y13, m4]; exact hBy, ?_⟩) (oy1 t3) (by omega) (by omega) hRy ?_ (Lb_tr l4 (Lb_fm fy (fun c k q => by unfold Tc; omega))) (by rw [fy 100 7 (by omega), x47]) (by omega) (hce.elim (fun t9 q9 => CG_21n hc1 q9.1 hk34 (CE_n q9.2 hN)))
    · rw [nny, hWy, List.append_assoc L, List.append_assoc L, List.append_assoc [(21, k, 0)]]
    · rw [ex]
      exact ⟨KV_fm hV4 (fy _ _ (by omega)) (fun k => fy _ _ (by omega)), hSy, hLB t3⟩
  obtain ⟨a1, a2, a3, a4, a5⟩ := BB_400 hB4 (by omega)
  refine ⟨fun c => ?_, fun c => ?_, fun c => ?_, fun c => ?_, fun c => ?_⟩
  · -- while
    obtain ⟨t, t1, t2, t3, t4, -⟩ := step 1 c (by decide)
    have p17 := t4 (Or.inl rfl)
    have tN : (x1.1 112 ((om x1).toNat - 1)).toNatClampNeg = t := by rw [t_cl, t1]; rfl
    have vt : vp_in (x1.1 112 ((om x1).toNat - 1)) 400 := by rw [vp_in_iff]; omega
    refine ⟨vt, kf_add hq _ _ _ a1 a2 (fun w hAd vin hF9 => ⟨vin, fun x12 e12 => ⟨vt, fun x14 e14 => rv_i ?_⟩⟩)⟩
    obtain ⟨f1, g2, g3, g4, g5⟩ := hAd
    rw [tN] at e14
    have k20 : (20 : Int32).toInt = 20 := rfl
    have hSA : SA w (x.1 60 13).toInt (x4.1 80 9).toNatClampNeg := by
      unfold SA sop stg
      rw [g3, g4, k20]
      exact ⟨by omega, ⟨a4, a5⟩, fun c => by omega, fun c => by omega⟩
    have hBw := BB_add hB4 (n := (x4.1 80 9).toNatClampNeg) (by omega) f1 g2 hSA
    have pw : sop w t = 17 := by unfold sop at p17 ⊢; rw [f1 81 t (by omega)]; exact p17
    have pn : sop w (x4.1 80 9).toNatClampNeg = 20 := by unfold sop; rw [g3]; rfl
    have hB12 := BB_tg hBw (by omega) (n := (x4.1 80 9).toNatClampNeg) (by omega) (Or.inr pn) e12 ⟨by omega, by omega, fun _ => Or.inr (by rw [t1]; exact pw)⟩
    have f12 : fm (fun c k => c = 84) w x12 := by rw [e12]; exact fm_si (fm_rf _ _) rfl
    have s12 : ssm x12 = ssm w := by unfold ssm; rw [f12 80 9 (by omega)]
    have p12 : sop x12 t = 17 := by unfold sop at pw ⊢; rw [f12 81 t (by omega)]; exact pw
    have hB14 := BB_tg hB12 (by omega) (n := t) (by omega) (Or.inl p12) e14 ⟨by show 0 ≤ ssm x12; omega, Int.le_refl _, fun c => by omega⟩
    have f14 : fm (fun c k => c = 84) x12 x14 := by rw [e14]; exact fm_si (fm_rf _ _) rfl
    have F : fm (fun c k => (81 ≤ c ∧ c ≤ 89) ∨ (c = 80 ∧ k = 9)) x4 x14 := fm_tr (fm_tr (fm_w f1 (fun c k q => by omega)) (fm_w f12 (fun c k q => by omega))) (fm_w f14 (fun c k q => by omega))
    have s14 : ssm x14 = ssm x4 + 1 := by
      have : ssm x14 = ssm x12 := by unfold ssm; rw [f14 80 9 (by omega)]
      omega
    have n14 : nx x14 = nx x4 := by unfold nx; rw [F 100 4 (by omega)]
    have o14 : om x14 = om x4 := by unfold om; rw [F 100 13 (by omega)]
    have hT : TIk x14 := hR5 1 c (Or.inl rfl) x14 o14 (fun j => by rw [F 111 j (by omega), f4 111 j (by omega)])
    have z1 : z9 = 1 := by
      rw [c] at ez1
      have k1 : (1 : Int32).toInt = 1 := rfl
      omega
    have nn14 : nn x14 = nn x4 := by unfold nn; rw [F 100 4 (by omega)]
    refine h x14 [(21, z9, 0)] u2 (Or.inl ⟨?_, ?_⟩) (by omega) (by omega) (by omega) (RI_st hR4 (F _ _ (by omega)) (fun j => F _ _ (by omega)) (fun c k q1 q2 => F _ _ (by omega))) ⟨KV_fm hV4 (F _ _ (by omega)) (fun k => F _ _ (by omega)), ?_, hLB t3⟩ (Lb_tr l4 (Lb_fm F (fun c k q => by unfold Tc; omega))) (by rw [F 100 7 (by omega), x47]) (by omega) (by
      rw [z1] at hV4 ⊢
      exact CG_21w hc1 (hpo 1 t c (by decide) t1) hV4 t1 (stK_84 ⟨fun c k q q1 q2 => f1 c k (fun z => z.elim q1 q2), g2, g3, g4, g5, hF9.1, hF9.2.1, hF9.2.2.1, hF9.2.2.2⟩ e12) e14 (fun q => by
        unfold sop at p12
        rw [q] at p12
        exact absurd p12 (by decide)))
    rotate_left 1
    · rw [hW1, z1, eC_12 (Or.inl rfl), nn14]
    · rw [o14]; exact SKs_eq (fun k _ => ⟨F _ _ (by omega), F _ _ (by omega)⟩) hS4
    rw [F 60 13 (by omega), m4]
    refine ⟨hB14.1, hB14.2.1, hB14.2.2.1, fun i hi _ => ?_, hB14.2.2.2.2.1, hB14.2.2.2.2.2.1, fun _ => hT, hB14.2.2.2.2.2.2.2⟩
    refine hB14.2.2.2.1 i hi (fun e => ?_)
    obtain ⟨⟨e | e, e2⟩, e3⟩ := e
    · by_cases hi4 : (i : Int) < ssm x4
      · exact e3 (hE4 t t1 i hi4 e)
      · exact e2 (by omega)
    · exact e2 e
  · -- lock
    obtain ⟨t, t1, t2, t3, -, t4, -⟩ := step 2 c (by decide)
    have p5 := t4 rfl
    have tN : (x1.1 112 ((om x1).toNat - 1)).toNatClampNeg = t := by rw [t_cl, t1]; rfl
    have vt : vp_in (x1.1 112 ((om x1).toNat - 1)) 400 := by rw [vp_in_iff]; omega
    refine ⟨vt, kf_add hq _ _ _ a1 a2 (fun w hAd vin hF9 => ⟨vt, vin, fun x14 e14 => rv_i ?_⟩)⟩
    obtain ⟨f1, g2, g3, g4, g5⟩ := hAd
    rw [tN, f1 85 t (by omega)] at e14
    have fz : fm (fun c k => (81 ≤ c ∧ c ≤ 89 ∧ k = (x4.1 80 9).toNatClampNeg) ∨ (c = 80 ∧ k = 9)) x4 x14 := by rw [e14]; exact fm_si f1 (Or.inl ⟨by omega, by omega, rfl⟩)
    have es : ssm x14 = ssm x4 + 1 := by
      have : x14.1 80 9 = w.1 80 9 := by rw [e14]; (simp only [si_get, sfl_get, Nat.reduceEqDiff, eq_self, and_false, false_and, and_true, true_and, if_true, if_false, reduceIte, reduceCtorEq])
      unfold ssm at *; rw [this]; exact g2
    have z81 : x14.1 81 (x4.1 80 9).toNatClampNeg = 6 := by rw [e14]; (simp only [si_get, sfl_get, Nat.reduceEqDiff, eq_self, and_false, false_and, and_true, true_and, if_true, if_false, reduceIte, reduceCtorEq]); exact g3
    have z83 : x14.1 83 (x4.1 80 9).toNatClampNeg = x4.1 100 9 := by rw [e14]; (simp only [si_get, sfl_get, Nat.reduceEqDiff, eq_self, and_false, false_and, and_true, true_and, if_true, if_false, reduceIte, reduceCtorEq]); exact g4
    have z85 : x14.1 85 (x4.1 80 9).toNatClampNeg = x4.1 85 t := by rw [e14]; (simp only [si_get, sfl_get, Nat.reduceEqDiff, eq_self, and_false, false_and, and_true, true_and, if_true, if_false, reduceIte, reduceCtorEq])
    have k6 : (6 : Int32).toInt = 6 := rfl
    have n14 : nx x14 = nx x4 := by unfold nx; rw [fz 100 4 (by omega)]
    have o14 : om x14 = om x4 := by unfold om; rw [fz 100 13 (by omega)]
    have hSA : SA x14 (x.1 60 13).toInt (x4.1 80 9).toNatClampNeg := by
      have g := hB4.2.2.1.2.2.2.1.2 t (by omega)
      unfold SA at g
      rw [p5] at g
      obtain ⟨u, u1, u2, -, u4, -⟩ := g.2.2.1 (by omega)
      unfold SA sop stg
      rw [z81, z83, z85, k6]
      refine ⟨by omega, ⟨a4, a5⟩, fun _ => ⟨u, u1, by omega, fun c => by omega, fun _ _ => ?_, fun c => by omega⟩, fun c => by omega⟩
      rw [fz 42 u (by omega)]; exact u4 (by omega) (by omega)
    have hB14 := BB_add hB4 (n := (x4.1 80 9).toNatClampNeg) (by omega) fz es hSA
    have hT : TIk x14 := hR5 2 c (Or.inr rfl) x14 o14 (fun j => by rw [fz 111 j (by omega), f4 111 j (by omega)])
    have z2 : z9 = 2 := by
      rw [c] at ez1
      have k2 : (2 : Int32).toInt = 2 := rfl
      omega
    have nn14 : nn x14 = nn x4 := by unfold nn; rw [fz 100 4 (by omega)]
    refine h x14 [(21, z9, 0)] u2 (Or.inl ⟨?_, ?_⟩) (by omega) (by omega) (by omega) (RI_st hR4 (fz _ _ (by omega)) (fun j => fz _ _ (by omega)) (fun c k q1 q2 => fz _ _ (by omega))) ⟨KV_fm hV4 (fz _ _ (by omega)) (fun k => fz _ _ (by omega)), ?_, hLB t3⟩ (Lb_tr l4 (Lb_fm fz (fun c k q => by unfold Tc; omega))) (by rw [fz 100 7 (by omega), x47]) (by omega) (by
      rw [z2] at hV4 ⊢
      exact CG_21l hc1 (hpo 2 t c (by decide) t1) hV4 (by show (t : Int) < ssm x4; omega) (by rw [t_eq]; exact p5) ⟨fun c k q q1 q2 => fz c k (fun z => z.elim q1 q2), es, z81, z83, rfl, z85, by rw [e14]; (simp only [si_get, sfl_get, Nat.reduceEqDiff, eq_self, and_false, false_and, and_true, true_and, if_true, if_false, reduceIte, reduceCtorEq]); exact hF9.2.1, by rw [e14]; (simp only [si_get, sfl_get, Nat.reduceEqDiff, eq_self, and_false, false_and, and_true, true_and, if_true, if_false, reduceIte, reduceCtorEq]); exact hF9.2.2.1, by rw [e14]; (simp only [si_get, sfl_get, Nat.reduceEqDiff, eq_self, and_false, false_and, and_true, true_and, if_true, if_false, reduceIte, reduceCtorEq]); exact hF9.2.2.2⟩)
    rotate_left 1
    · rw [hW1, z2, eC_12 (Or.inr rfl), nn14]
    · rw [o14]; exact SKs_eq (fun k _ => ⟨fz _ _ (by omega), fz _ _ (by omega)⟩) hS4
    rw [fz 60 13 (by omega), m4]
    refine ⟨hB14.1, hB14.2.1, hB14.2.2.1, fun i hi _ => ?_, hB14.2.2.2.2.1, hB14.2.2.2.2.2.1, fun _ => hT, hB14.2.2.2.2.2.2.2⟩
    by_cases hin : i = (x4.1 80 9).toNatClampNeg
    · rw [hin]
      refine SC_no ?_ ?_ <;> (unfold sop; rw [z81]; decide)
    · by_cases hit : i = t
      · rw [hit]
        refine SC_no ?_ ?_ <;> (unfold sop at p5 ⊢; rw [fz 81 t (by omega)]; omega)
      · refine hB14.2.2.2.1 i hi (fun e => ?_)
        rcases e with e | e
        · exact hit (hE4 t t1 i (by omega) e)
        · exact hin e
  · -- if
    obtain ⟨t, t1, t2, t3, t4, -⟩ := step 3 c (by decide)
    have p17 := t4 (Or.inr rfl)
    have z3 : z9 = 3 := by
      rw [c] at ez1
      have k3 : (3 : Int32).toInt = 3 := rfl
      omega
    have k18 : x4.1 23 (nn x4) = 48 ↔ K (nn x4) = 18 := KA_k hR4.1 hR4.2.1 48 (by decide)
    rw [z3] at hW1 hR4 hV4
    refine kp_sort hq hB4.1.1 ⟨fun cne => ?_, fun c48 => ?_⟩
    · rw [eC_if (fun q => cne (k18.mpr q))] at hW1
      refine kd_endIf hq K u2 Ev.2.1.tail c9 (nn x4) (L ++ [(21, 3, 0)] ++ [(63, 0, 0)]) hS4 hB4 _ t1 (by omega) (by omega) (Or.inl p17) (hE4 t t1) (fun y hBy ny sy oy oy1 y13 fy uy N hSy hN hWy hCE => rv_i (endI y hBy ny sy oy oy1 y13 fy uy N hSy hN 3 z3 (Or.inl rfl) ⟨t, hpo 3 t c (by decide) t1, hCE⟩ t3 (by rw [hW1, hWy])))
    · refine kd_openElse hq c9 (L ++ [(21, 3, 0)]) hx hW1 (by omega) hR4.1 hR4.2.1 (Ev := exV Ev (21, 3, 0)) ⟨hV4, hS4, hLB t3⟩ hB4 _ t1 (by omega) t3 (by omega) (by omega) p17 (hE4 t t1) c48 (fun y N u9 hy hRy hNy ly y7 ny sy oy acc y13 hcn => rv_i (h y ([(21, 3, 0)] ++ N) u9 ?_ (by omega) (by omega) (by omega) (RI_on (by omega) hR4 ly.1 hRy) hNy (Lb_tr l4 ly) (by rw [y7, x47]) (by omega) (CG_21n hc1 (hpo 3 t c (by decide) t1) (Or.inl rfl) hcn)))
      rw [y13, m4, ← List.append_assoc]; exact hy
  · -- else
    obtain ⟨t, t1, t2, t3, -, -, t4⟩ := step 4 c (by decide)
    have p20 := t4 (Or.inl rfl)
    have z4 : z9 = 4 := by
      rw [c] at ez1
      have k4 : (4 : Int32).toInt = 4 := rfl
      omega
    rw [z4, eC_4] at hW1
    exact kd_endIf hq K u2 Ev.2.1.tail c9 (nn x4) (L ++ [(21, 4, 0)] ++ [(63, 0, 0)]) hS4 hB4 _ t1 (by omega) (by omega) (Or.inr p20) (hE4 t t1) (fun y hBy ny sy oy oy1 y13 fy uy N hSy hN hWy hCE => rv_i (endI y hBy ny sy oy oy1 y13 fy uy N hSy hN 4 z4 (Or.inr rfl) ⟨t, hpo 4 t c (by decide) t1, hCE⟩ t3 (by rw [hW1, hWy])))
  · -- the thread's end
    have b2 := hB1.1.1.2.2.1
    by_cases h0 : (om x1).toNat - 1 = 0
    · refine kd_endThread hq hB4 (by omega) (by rw [m4]; exact Int.le_refl _) (fun i hi e => ?_) (by omega) (fun y hy ny fy hte => rv_i ?_)
      rotate_left 1
      · have z0 : z9 = 0 := by
          have := (hop.1 h0).1
          rw [this] at ez1
          have k0 : (0 : Int32).toInt = 0 := rfl
          omega
        have o40 : (om x4).toNat = 0 := by omega
        rw [o40] at hS4
        have bt : Ev.2.1.tail = [] := hS4.2
        have b0 := LBo_end hN9.2.2 bt
        have nny : nn y = nn x4 := by unfold nn; rw [fy 100 4 (by omega)]
        refine hOT y [(21, z9, 0)] hy (RI_st hR4 (fy _ _ (by omega)) (fun j => fy _ _ (by omega)) (fun c k q1 q2 => fy _ _ (by omega))) ?_ bt (Lb_tr l4 (Lb_fm fy (fun c k q => by unfold Tc; omega))) (by rw [hW1, z0, eC_0, nny]) (by omega) (by
          obtain ⟨w9, a9, fz9, z59⟩ := hte
          have h1110 := (hop.1 h0).1
          rw [h0] at h1110
          rw [z0]
          refine CG_21t hc1 (fun c j q q1 => f4 c j (by unfold ccS at q; omega)) (by rw [t_cl]; show (om x1).toNat = 1; omega) h1110 hB1.2.2.2.2.1 a9 fz9 z59 (by rw [t_cl]; exact o40) ?_
          show Ev.1.drop (Ev.1.length - Ev.2.1.headD 0) = []
          rw [b0, Nat.sub_zero, List.drop_length])
        show Ev.1.drop (Ev.1.length - Ev.2.1.headD 0) = []
        rw [b0, Nat.sub_zero, List.drop_length]
      have g := (hop.1 h0).2
      rcases e with e | e | e
      · exact e
      · rw [g, tm1] at e; omega
      · omega
    · exfalso
      obtain ⟨⟨p1, p5⟩, -⟩ := hop.2.1 (Nat.pos_of_ne_zero h0)
      have c1 := c 1 (by decide)
      have c2 := c 2 (by decide)
      have c3 := c 3 (by decide)
      have c4 := c 4 (by decide)
      have hT := hB1.2.2.2.2.2.2.1 (fun e => e) ((om x1).toNat - 1) (by omega)
      clear h hE4 hR5 step c
      ((try simp only [t_lt, t_le, t_eq, t_cl, tm1, vp_in_iff, Int32.toInt_add, Int32.toInt_sub, Int32.toInt_mul, Int32.reduceToInt, Nat.reducePow] at *) <;> (try simp (disch := omega) only [bm] at *) <;> omega)
end KCLG
end
section
/-! the class: a statement -/
section KSA
variable {G : kG} {q : kP} {d : Nat} {x x0 y z : gd} {F : Int32 → gd → Prop} {Fv : gd → Prop} {X : String → gd → Prop} {P : Option gv → gd → Prop} {M : Int} {E : Nat → Prop}
end KSA
end
section
/-! the class: a statement -/
def OPK (s r : Int32) : Prop := (r = -1 ∧ ∀ k ∈ [(2 : Int32), (56 : Int32), (54 : Int32), (71 : Int32), (57 : Int32), (66 : Int32), (52 : Int32), (68 : Int32), (69 : Int32), (70 : Int32), (63 : Int32), (55 : Int32), (50 : Int32), (61 : Int32), (45 : Int32), (44 : Int32), (43 : Int32), (49 : Int32)], ¬ s = k) ∨ (¬ r = -1 ∧ (s = 2 ∨ s = 56 ∨ s = 54 ∨ s = 71 ∨ (s = 57 ∧ r = 5) ∨ (5 ≤ r.toInt ∧ r.toInt ≤ 8 ∧ (s = 66 ∨ s = 52 ∨ s = 68 ∨ s = 69 ∨ s = 70)) ∨ (9 ≤ r.toInt ∧ r.toInt ≤ 10 ∧ (s = 63 ∨ s = 55)) ∨ (r = 13 ∧ s = 45) ∨ ((r = 14 ∨ r = 18) ∧ (s = 43 ∨ s = 44)) ∨ ((r = 11 ∨ r = 12 ∨ r = 19) ∧ (s = 50 ∨ s = 61 ∨ s = 49))) ∧ ((s = 2 ∨ s = 56 ∨ s = 54 ∨ s = 71 ∨ s = 57) ∨ r = Int32.ofNat (opQ (kc s))))
section KSF
variable {G : kG} {q : kP} {d : Nat} {x x0 y z xs : gd} {F : Int32 → gd → Prop} {Fv : gd → Prop} {X : String → gd → Prop} {P : Option gv → gd → Prop} {M : Int} {E : Nat → Prop} {K V : Nat → Int32} {sN : Nat → Nat → Bool} {e : Nat} {Ev : gV} {Ml N : gU} {W : gTs}
theorem kd_opOf (hq : kV q) (s : Int32) (h : ∀ r : Int32, OPK s r → F r x) : KT G q d zk_X7_opOf 0 [(0, vi s)] [] x (ri F) := by
  refine kg_X7_opOf_0 hq _ ⟨fun c => ri_i (h _ (Or.inr ?_)), fun c => ri_i (h _ (Or.inr ?_)), fun c => ri_i (h _ (Or.inr ?_)), fun c => ri_i (h _ (Or.inr ?_)), fun c => ri_i (h _ (Or.inr ?_)), fun c => ri_i (h _ (Or.inr ?_)), fun c => ri_i (h _ (Or.inr ?_)), fun c => ri_i (h _ (Or.inr ?_)), fun c => ri_i (h _ (Or.inr ?_)), fun c => ri_i (h _ (Or.inr ?_)), fun c => ri_i (h _ (Or.inr ?_)), fun c => ri_i (h _ (Or.inr ?_)), fun c => ri_i (h _ (Or.inr ?_)), fun c => ri_i (h _ (Or.inr ?_)), fun c => ri_i (h _ (Or.inl ⟨rfl, c⟩))⟩
  · rcases c with rfl | rfl <;> decide
  · rcases c with rfl | rfl <;> decide
  · rcases c with rfl | rfl <;> decide
  · subst c; decide
  · subst c; decide
  · rcases c with rfl | rfl <;> decide
  all_goals (subst c; decide)
theorem pS1_none {f c i : Nat} {L : gU} (h : ∀ k ∈ [(1 : Int32), (26 : Int32), (24 : Int32), (41 : Int32), (27 : Int32), (36 : Int32), (22 : Int32), (38 : Int32), (39 : Int32), (40 : Int32), (33 : Int32), (25 : Int32), (20 : Int32), (31 : Int32), (15 : Int32), (14 : Int32), (13 : Int32), (19 : Int32)], ¬ K i = k) : pS1 K f c i L = none := by
  have n : ∀ k : Int32, k ∈ [(1 : Int32), (26 : Int32), (24 : Int32), (41 : Int32), (27 : Int32), (36 : Int32), (22 : Int32), (38 : Int32), (39 : Int32), (40 : Int32), (33 : Int32), (25 : Int32), (20 : Int32), (31 : Int32), (15 : Int32), (14 : Int32), (13 : Int32), (19 : Int32)] → K i = k → False := fun k hk c => h k hk c
  unfold pS1
  rw [if_neg (n 26 (by decide)), if_neg (n 1 (by decide)), if_neg (fun z => z.elim (n 20 (by decide)) (fun z => z.elim (n 31 (by decide)) (n 19 (by decide)))), if_neg (fun z => z.elim (n 13 (by decide)) (n 14 (by decide))), if_neg (n 15 (by decide)), if_neg (fun z => z.elim (n 36 (by decide)) (fun z => z.elim (n 22 (by decide)) (fun z => z.elim (n 38 (by decide)) (fun z => z.elim (n 39 (by decide)) (n 40 (by decide)))))), if_neg (fun z => z.elim (n 33 (by decide)) (n 25 (by decide)))]
theorem pS_none {c i : Nat} {L : gU} (h : ∀ k ∈ [(1 : Int32), (26 : Int32), (24 : Int32), (41 : Int32), (27 : Int32), (36 : Int32), (22 : Int32), (38 : Int32), (39 : Int32), (40 : Int32), (33 : Int32), (25 : Int32), (20 : Int32), (31 : Int32), (15 : Int32), (14 : Int32), (13 : Int32), (19 : Int32)], ¬ K i = k) : ∀ f, pS K f c i L = none := by
  intro f
  cases f with
  | zero => rfl
  | succ f =>
    rw [pS]
    split
    · rfl
    · rw [if_neg (h 24 (by decide)), if_neg (h 41 (by decide)), if_neg (h 27 (by decide))]
      exact pS1_none h
theorem eX_7 {u : List Nat} {c i f : Nat} {L : gU} (hu : 17 - u.length = f + 1) (hi : 700 ≤ i) : eX K u c i L = none := eX_0 (by rw [hu, pS, if_pos hi])
theorem eX_1S {u : List Nat} {c i f : Nat} {L : gU} (hu : 17 - u.length = f + 1) (hi : i < 700) (hK : ¬ K i = 24 ∧ ¬ K i = 41 ∧ ¬ K i = 27) : eX K u c i L = (pS1 K f c i L).bind (fun q => eS K u q.1 q.2.1 q.2.2) := by
  rw [eX, hu, pS, if_neg (by omega), if_neg hK.1, if_neg hK.2.1, if_neg hK.2.2]
theorem HA_65 {U : Nat → Int32} {n a b : Nat} : HAw sN U n Ev (65, a, b) ↔ b < n ∧ U b = 4 := by unfold HAw; simp
theorem HB_65 {a b : Nat} : HB sN Ev (65, a, b) b 4 := by unfold HB; simp
theorem EN_st {u : List Nat} (h : EN K e x u Ev) (hV : KV' K e y Ev) (oy : om y = om x) (op : OPe x y) (hN : still N) : EN K e y u (exs N Ev) := by
  rw [exs_still hN]
  refine ⟨hV, ?_, h.2.2⟩
  rw [oy]
  exact SKs_eq (fun k _ => ⟨op.2.1 _ _ (by omega) (by omega), op.2.1 _ _ (by omega) (by omega)⟩) h.2.1
theorem CG_77 {i : Nat} : CG sN V K Ev x x [(77, i, 0)] := fun c d P he hr hc => by
  have e3 : tPs sN V K [(77, i, 0)] Ev = [] := rfl
  have e4 : ces K V [(77, i, 0)] d = d := rfl
  rw [cds_one, cd_77, e3, e4, List.append_nil]
  exact ⟨hc, by rw [exs_still (stl_k (by decide))]; exact he, hr⟩
theorem CG_some {t0 : Nat} (h : CGs sN V K Ev x y (some t0) N) : CG sN V K Ev x y N := fun c d P he hr hc => h 0 c d P he hr hc
/-- let -/
theorem CG_let {i j : Nat} (fr0 : ∀ c k, ccS c k → y.1 c k = x.1 c k) (h : CGs sN V K Ev y z none N) (hN : still N) (fr : ∀ c k, ccS c k → xs.1 c k = z.1 c k) : CG sN V K Ev x xs ([(23, i, 0)] ++ N ++ [(22, i, j)]) := by
  intro c d P he hr hc
  obtain ⟨Ec, S, k, rr, ww⟩ := c
  have hr : rr = rg0 := hr
  have he : eqE Ec Ev := he
  obtain ⟨g1, g2, g3⟩ := h (i - 1) (Ec, S, k, ([], [], 0, false, none, i - 1), ww) d P he rfl (CCp_eq fr0 hc)
  have e1 : cds sN K [(23, i, 0)] (Ec, S, k, rr, ww) = (Ec, S, k, ([], [], 0, false, none, i - 1), ww) := by
    rw [hr]; rfl
  have st : still ([(23, i, 0)] ++ N) := still_app (stl_k (by decide)) hN
  have e2 : exs ([(23, i, 0)] ++ N ++ [(22, i, j)]) Ev = exV Ev (22, i, j) := by rw [exs_app, exs_still st]; rfl
  have e3 : tPs sN V K ([(23, i, 0)] ++ N ++ [(22, i, j)]) Ev = tPs sN V K N Ev := by
    have a1 : tPs sN V K [(22, i, j)] Ev = [] := rfl
    have a2 : tPs sN V K [(23, i, 0)] Ev = [] := rfl
    rw [tPs_app, exs_still st, a1, List.append_nil, tPs_app, a2, List.nil_append, exs_still (stl_k (by decide))]
  have e4 : ces K V ([(23, i, 0)] ++ N ++ [(22, i, j)]) d = ces K V N d := by rw [ces_app, ces_app]; rfl
  rw [cds_app, cds_app, e1, e4, e3, e2]
  rw [exs_still hN] at g2
  obtain ⟨c', hc'⟩ : ∃ c', c' = cds sN K N (Ec, S, k, ([], [], 0, false, none, i - 1), ww) := ⟨_, rfl⟩
  rw [← hc'] at g1 g2 g3 ⊢
  obtain ⟨E', S', k', r', w'⟩ := c'
  exact ⟨CCp_eq fr g1, exV_q (v := (22, i, j)) g2, g3⟩
theorem kd_statement (hq : kV q) (c9 : Nat) (L : gU) {u : List Nat} (hx : W = none → RX x0 X) (eW : W = eX K u c9 (nn x) L) (hc9 : (x.1 100 7).toInt = (c9 : Nat)) (hA : KA K V sN e x) (hn0 : nn x ≤ e) (hN9 : EN K e x u Ev) (hI : IT x0 x) (h : ∀ y N u9 (c8 : Nat), BB x0 y (y.1 60 13).toInt E0 → 1 ≤ om y → om y ≤ 17 → 2 * ssm y + om y ≤ nx y → RIw K V sN e Ev x y N → EN K e y u9 (exs N Ev) → Lb x y → (y.1 100 7).toInt = (c8 : Nat) → W = eS K u9 c8 (nn y) (L ++ N) → nx x < nx y → CG sN V K Ev x y N → Fv y) : KE G q (d + 12) zk_X7_statement 0 [(0, vr 100)] [] x (rv Fv) X := by
  have k16 : (16 : Int32).toInt = 16 := rfl
  obtain ⟨hB, o1, o17, acc⟩ := hI
  have hRB : RB x := by
    rcases hB with e | e
    · exact e.1.1
    · exact e.1.1.1
  have bx0 := hRB.2.1
  have ul := SKs_len hN9.2.1
  have hEv : ¬ Ev.2.1 = [] := by
    obtain ⟨B', e⟩ := hN9.2.2
    rw [e]
    simp
  have rs : ∀ {P : Option gv → gd → Prop} {v : Int32} (hv9 : ¬ v = 0 := by decide), W = none → KE G q (d + 11) zk_X7_refuse 0 [(0, vr 100), (1, vi v)] [] x P X := by
    intro P v hv9 hW
    rcases hB with e | e
    · exact kb_refuse hq (hx hW) e v hv9
    · exact kb_refuse hq (hx hW) e.1 v hv9
  have p35 : W = none → ∀ l o : Int32, KE G q (d + 12) zk_X7_statement 35 [(0, vr 100), (1, vi l), (2, vi o)] [] x (rv Fv) X := fun hW l o => kg_X7_statement_35 hq _ _ ⟨fun _ => kg_X7_statement_46 hq _ _ _ (rs (by decide) hW), fun _ => kg_X7_statement_46 hq _ _ _ (rs (by decide) hW)⟩
  have hKs : K (nn x) = kc (x.1 23 (nn x)) := (hA.1 _ hn0).symm
  have ki : ∀ s k : Int32, kc s = k → x.1 23 (x.1 100 4).toNatClampNeg = s → K (nn x) = k := fun s k e1 e2 => by rw [hKs, ← e1]; exact congrArg kc e2
  have ik : ∀ s k : Int32, kc s = k → ¬ k = -1 → K (nn x) = k → x.1 23 (x.1 100 4).toNatClampNeg = s := fun s k e1 e2 e3 => kc_i (by rw [e1, ← e3]; exact hA.1 _ hn0) (by rw [e1]; exact e2)
  refine kg_X7_statement_0 hq ⟨RB_at hRB, kp_sort hq hRB (kd_opOf hq _ (fun o hop => ⟨fun cm => p35 ?_ _ _, fun cn => ⟨fun c16 => ?_, fun c16 => p35 ?_ _ _⟩⟩))⟩
  · rw [eW]
    refine eX_0 (pS_none ?_ _)
    rcases hop with ⟨-, g⟩ | ⟨g, -⟩
    · intro k hk ck
      have g2 : ∀ s : Int32, s ∈ [(2 : Int32), (56 : Int32), (54 : Int32), (71 : Int32), (57 : Int32), (66 : Int32), (52 : Int32), (68 : Int32), (69 : Int32), (70 : Int32), (63 : Int32), (55 : Int32), (50 : Int32), (61 : Int32), (45 : Int32), (44 : Int32), (43 : Int32), (49 : Int32)] → kc s = k → False := fun s hs es => g s hs (ik s k es (by
        intro e9
        rw [e9] at hk
        exact absurd hk (by decide)) ck)
      have hk2 : k = 1 ∨ k = 26 ∨ k = 24 ∨ k = 41 ∨ k = 27 ∨ k = 36 ∨ k = 22 ∨ k = 38 ∨ k = 39 ∨ k = 40 ∨ k = 33 ∨ k = 25 ∨ k = 20 ∨ k = 31 ∨ k = 15 ∨ k = 14 ∨ k = 13 ∨ k = 19 := by
        simpa using hk
      rcases hk2 with e | e | e | e | e | e | e | e | e | e | e | e | e | e | e | e | e | e
      · exact g2 2 (by decide) (by rw [e]; decide)
      · exact g2 56 (by decide) (by rw [e]; decide)
      · exact g2 54 (by decide) (by rw [e]; decide)
      · exact g2 71 (by decide) (by rw [e]; decide)
      · exact g2 57 (by decide) (by rw [e]; decide)
      · exact g2 66 (by decide) (by rw [e]; decide)
      · exact g2 52 (by decide) (by rw [e]; decide)
      · exact g2 68 (by decide) (by rw [e]; decide)
      · exact g2 69 (by decide) (by rw [e]; decide)
      · exact g2 70 (by decide) (by rw [e]; decide)
      · exact g2 63 (by decide) (by rw [e]; decide)
      · exact g2 55 (by decide) (by rw [e]; decide)
      · exact g2 50 (by decide) (by rw [e]; decide)
      · exact g2 61 (by decide) (by rw [e]; decide)
      · exact g2 45 (by decide) (by rw [e]; decide)
      · exact g2 44 (by decide) (by rw [e]; decide)
      · exact g2 43 (by decide) (by rw [e]; decide)
      · exact g2 49 (by decide) (by rw [e]; decide)
    · exact absurd cm g
  rotate_left 1
  · rw [t_le, k16] at c16
    rw [eW]
    refine eX_0 ?_
    have : 17 - u.length = 0 := by unfold om at ul; omega
    rw [this]; rfl
  have hopq : (x.1 23 (x.1 100 4).toNatClampNeg = 2 ∨ x.1 23 (x.1 100 4).toNatClampNeg = 56 ∨ x.1 23 (x.1 100 4).toNatClampNeg = 54 ∨ x.1 23 (x.1 100 4).toNatClampNeg = 71 ∨ x.1 23 (x.1 100 4).toNatClampNeg = 57) ∨ o = Int32.ofNat (opQ (kc (x.1 23 (x.1 100 4).toNatClampNeg))) := by
    rcases hop with ⟨g, -⟩ | g
    · exact absurd g cn
    · exact g.2.2
  obtain ⟨-, hop⟩ : ¬ o = -1 ∧ (x.1 23 (x.1 100 4).toNatClampNeg = 2 ∨ x.1 23 (x.1 100 4).toNatClampNeg = 56 ∨ x.1 23 (x.1 100 4).toNatClampNeg = 54 ∨ x.1 23 (x.1 100 4).toNatClampNeg = 71 ∨ (x.1 23 (x.1 100 4).toNatClampNeg = 57 ∧ o = 5) ∨ (5 ≤ o.toInt ∧ o.toInt ≤ 8 ∧ (x.1 23 (x.1 100 4).toNatClampNeg = 66 ∨ x.1 23 (x.1 100 4).toNatClampNeg = 52 ∨ x.1 23 (x.1 100 4).toNatClampNeg = 68 ∨ x.1 23 (x.1 100 4).toNatClampNeg = 69 ∨ x.1 23 (x.1 100 4).toNatClampNeg = 70)) ∨ (9 ≤ o.toInt ∧ o.toInt ≤ 10 ∧ (x.1 23 (x.1 100 4).toNatClampNeg = 63 ∨ x.1 23 (x.1 100 4).toNatClampNeg = 55)) ∨ (o = 13 ∧ x.1 23 (x.1 100 4).toNatClampNeg = 45) ∨ ((o = 14 ∨ o = 18) ∧ (x.1 23 (x.1 100 4).toNatClampNeg = 43 ∨ x.1 23 (x.1 100 4).toNatClampNeg = 44)) ∨ ((o = 11 ∨ o = 12 ∨ o = 19) ∧ (x.1 23 (x.1 100 4).toNatClampNeg = 50 ∨ x.1 23 (x.1 100 4).toNatClampNeg = 61 ∨ x.1 23 (x.1 100 4).toNatClampNeg = 49))) := by
    rcases hop with ⟨g, -⟩ | g
    · exact absurd g cn
    · exact ⟨g.1, g.2.1⟩
  rw [t_le, k16] at c16
  have ho : om x ≤ 16 := c16
  obtain ⟨f, ef⟩ : ∃ f : Nat, f = 16 - u.length := ⟨_, rfl⟩
  have hf : (f : Int) + om x = 16 := by omega
  have hu1 : 17 - u.length = f + 1 := by omega
  generalize x.1 25 (x.1 100 4).toNatClampNeg = l
  have hR0 : RIw K V sN e Ev x x [] := ⟨hA, hn0, UR_0 rfl⟩
  have fin : ∀ y N, BB x0 y (y.1 60 13).toInt E0 → om y = om x → 2 * ssm y + om y ≤ nx y → RIw K V sN e Ev x y N → still N → KV' K e y Ev → OPe x y → W = eS K u c9 (nn y) (L ++ N) → nx x < nx y → CG sN V K Ev x y N → Fv y := fun y N hBy oy ay hRy hN hVy op hWy ny hCy => h y N u c9 hBy (by omega) (by omega) ay hRy (EN_st hN9 hVy oy op hN) op.1 (by rw [op.2.2]; exact hc9) hWy ny hCy
  have p197 : ∀ (k : Int32) (z9 v9 : Nat), ((k = 1 ∧ K (nn x) = 41 ∧ z9 = 1 ∧ v9 = 61) ∨ (k = 3 ∧ K (nn x) = 24 ∧ z9 = 3 ∧ v9 = 60)) → (k = 1 ∧ ¬ x.1 23 (x.1 100 4).toNatClampNeg = 54 ∨ k = 3) → KE G q (d + 12) zk_X7_statement 197 [] [vi k, vr 100] x (rv Fv) X := by
    intro k z9 v9 hkz hk
    have hk' : k = 1 ∨ k = 3 := hk.imp (fun e => e.1) id
    have go : ∀ y, BB x0 y (x.1 60 13).toInt E0 → nx x < nx y → om y = om x + 1 → 2 * ssm y + om y ≤ nx y → y.1 60 13 = x.1 60 13 → Lb x y → KV' K e y Ev → SKs y (om y).toNat (z9 :: u) (Ev.1.length :: Ev.2.1) → y.1 100 7 = x.1 100 7 → ∀ N, RIw K V sN e Ev x y (N ++ [(20, z9, 0)]) → still N → W = eS K (z9 :: u) c9 (nn y) (L ++ (N ++ [(20, z9, 0)])) → CG sN V K Ev x y (N ++ [(20, z9, 0)]) → Fv y := by
      intro y hBy ny oy ay y13 ly hVy hSy y7 N hRy hN hWy hCy
      refine h y (N ++ [(20, z9, 0)]) (z9 :: u) c9 (by rw [y13]; exact hBy) (by omega) (by omega) ay hRy ?_ ly (by rw [y7]; exact hc9) hWy ny hCy
      have ex : exs (N ++ [(20, z9, 0)]) Ev = (Ev.1, Ev.1.length :: Ev.2.1, Ev.2.2) := by rw [exs_app, exs_still hN]; rfl
      rw [ex]
      exact ⟨hVy, hSy, LBo_push hN9.2.2⟩
    refine kg_X7_statement_197 hq _ ?_
    rcases hB with e | ⟨e, e54⟩
    · exact kd_test hq k f c9 z9 v9 L hx eW hf hkz hA hn0 hN9.1 hEv hN9.2.1 e (fun i hi => absurd hi (fun e => e)) o1 ho acc hk' (Or.inl (e.2.2.2.2.2.2.1 (fun e => e))) (fun y hBy ny oy ay y13 ly hVy hSy y7 N hRy hN hWy hCy => rv_i (go y hBy ny oy ay y13 ly hVy hSy y7 N hRy hN hWy hCy))
    · refine kd_test hq k f c9 z9 v9 L hx eW hf hkz hA hn0 hN9.1 hEv hN9.2.1 e (fun i hi => hi) o1 ho acc hk' (Or.inr ?_) (fun y hBy ny oy ay y13 ly hVy hSy y7 N hRy hN hWy hCy => rv_i (go y hBy ny oy ay y13 ly hVy hSy y7 N hRy hN hWy hCy))
      rcases hk with ⟨-, g⟩ | g
      · exact absurd e54 g
      · exact g
  have hB0 : ¬ x.1 23 (x.1 100 4).toNatClampNeg = 54 → BB x0 x (x.1 60 13).toInt E0 := fun c => by
    rcases hB with e | ⟨-, e⟩
    · exact e
    · exact absurd e c
  have p173 : ∀ (y : gd) (N : gU) (v : Nat × Nat × Nat), BB x0 y (x.1 60 13).toInt E0 → nx x < nx y → om y = om x → 2 * ssm y + om y ≤ nx y + 1 → y.1 60 13 = x.1 60 13 → RIw K V sN e Ev x y N → still N → dull v → still [v] → KV' K e y Ev → OPe x y → W = (pup c9 v (pt K 67 (nn y, L ++ N))).bind (fun q => eS K u q.1 q.2.1 q.2.2) → CG sN V K Ev x y (N ++ [v]) → KE G q (d + 12) zk_X7_statement 173 [(0, vr 100)] [] y (rv Fv) X := by
    intro y N v hBy ny oy ay y13 hRy hN hvd hvs hVy op hWy hCy
    refine kg_X7_statement_173 hq (kd_need hq 27 67 (by decide) (by decide) (by decide) (fun no => hx (by rw [hWy, pt_no no]; rfl)) hBy hRy (fun kk c7 z hBz nz gz en hRz _ hcz => rv_i (fin z (N ++ [v]) ?_ (by rw [GS_om gz]; exact oy) (by rw [GS_om gz, GS_sm gz]; omega) (RI_dull hRz hvd) (still_app hN hvs) (KV_GS gz hVy) (OPe_tr op (OPe_GS gz)) ?_ (by omega) (CG_st hCy hcz))))
    · rw [GS_at gz 60 13 (by unfold sSum; omega), y13]; exact hBz
    · rw [hWy, pt_yes kk c7, en, ← List.append_assoc]; rfl
  refine kg_X7_statement_49 hq _ _ (kp_sort hq hRB ⟨fun c => ?_, fun c => ?_, fun c => ?_, fun c => ?_, fun c => ?_⟩)
  · -- let
    have hBe := hB0 (by rw [c]; decide)
    have k26 := ki 56 26 (by decide) c
    have oS : (om x).toNat = ((om x).toNat - 1) + 1 := by omega
    have hSx := hN9.2.1
    rw [oS] at hSx
    obtain ⟨-, -, -, -, -, -, eb, -, -⟩ := SKs_top hSx (hBe.2.2.2.2.2.2.1 (fun e => e) ((om x).toNat - 1) (by omega))
    have hWl : nn x < 700 → W = (if (K (nn x + 1) = 1 ∧ nn x + 1 < 700) ∧ c9 < 8 ∧ K (nn x + 2) = 50 ∧ nn x + 2 < 700 then pup (c9 + 1) (22, nn x + 1, nn x) ((pR K f none (nn x + 3) (L ++ [(23, nn x + 1, 0)])).bind (pt K 67)) else none).bind (fun q => eS K u q.1 q.2.1 q.2.2) := fun h7 => by
      rw [eW, eX_1S hu1 h7 ⟨by rw [k26]; decide, by rw [k26]; decide, by rw [k26]; decide⟩]
      unfold pS1
      rw [if_pos k26]
    refine kd_newLocal hq (fun no => hx ?_) k26 hA hn0 hN9.1 eb hBe o1 (fun t y hBy ny oy sy ht y9 yl y13 etn hcd y7 eny lay hVy hRy y113 hcy => ?_)
    · by_cases h7 : 700 ≤ nn x
      · rw [eW]; exact eX_7 hu1 h7
      · rw [hWl (by omega)]
        rcases no with no | no
        · rw [if_neg (fun z => no ⟨z.1, by omega, z.2.2⟩)]; rfl
        · exact absurd no h7
    have hWl2 := hWl (by omega)
    rw [if_pos ⟨hcd.1, by omega, hcd.2.2⟩, ← eny] at hWl2
    clear hWl
    obtain ⟨W1, eW1⟩ : ∃ W1, W1 = pR K f none (nn y) (L ++ [(23, nn x + 1, 0)]) := ⟨_, rfl⟩
    rw [← eW1] at hWl2
    obtain ⟨ky, oy', cy⟩ := BB_k hBy
    obtain ⟨M', m1, m2, m3⟩ : ∃ M' : Int, (x.1 60 13).toInt ≤ M' ∧ (y.1 100 9).toInt + 1 ≤ M' ∧ (M' ≤ (x.1 60 13).toInt ∨ M' ≤ (y.1 100 9).toInt + 1) := by
      by_cases hm : (y.1 100 9).toInt + 1 ≤ (x.1 60 13).toInt
      · exact ⟨_, Int.le_refl _, hm, Or.inl (Int.le_refl _)⟩
      · exact ⟨_, by omega, Int.le_refl _, Or.inr (Int.le_refl _)⟩
    have k0 := ky.1.1
    have na : ¬ y.1 100 9 = -1 := fun e => by rw [e, tm1] at k0; omega
    refine kd_source hq (t := none) (W := W1) (fun no => hx (by rw [hWl2, no]; rfl)) eW1 (BB_M m1 hBy) (by omega) (by omega) l _ _ (Or.inr ⟨na, k0, by omega⟩) hEv (Or.inr ⟨Ev.1.length, rfl, na, hVy.1⟩) (Or.inl ⟨rfl, na⟩) hRy.1 hRy.2.1 hVy (fun z hBz nz oz sz ⟨z9, z7, z13, z20, opz⟩ laz hSz => ?_)
    obtain ⟨hVz, N2, hRz, hN2, -, hWz, hCz⟩ := hSz
    have st23 : still [(23, nn x + 1, 0)] := stl_k (by decide)
    have by0 : 0 ≤ nx y := by omega
    have hRxz : RIw K V sN e Ev x z ([(23, nn x + 1, 0)] ++ N2) := RI_app by0 st23 hRy laz hRz
    rw [hWz] at hWl2
    refine kd_need hq 27 67 (by decide) (by decide) (by decide) (fun no => hx (by rw [hWl2]; show (pup (c9 + 1) (22, nn x + 1, nn x) (pt K 67 (nn z, L ++ [(23, nn x + 1, 0)] ++ N2))).bind _ = none; rw [pt_no no]; rfl)) hBz hRxz (fun kk c7 w hBw nw gw enw hRw _ hcw => ?_)
    have w9 : w.1 100 9 = y.1 100 9 := by rw [GS_at gw 100 9 (by unfold sSum; omega)]; exact z9
    have w7 : w.1 100 7 = y.1 100 7 := by rw [GS_at gw 100 7 (by unfold sSum; omega)]; exact z7
    have w13 : w.1 60 13 = x.1 60 13 := by rw [GS_at gw 60 13 (by unfold sSum; omega), z13, y13]
    have w20 : w.1 20 7 = y.1 20 7 := by rw [GS_at gw 20 7 (by unfold sSum; omega)]; exact z20 7
    have ow := GS_om gw
    have sw := GS_sm gw
    have ente : t.toNatClampNeg ≤ e := by
      have := hRy.2.1
      omega
    refine kd_makeKnown hq hBw t (by unfold tk at ht ⊢; rw [w20]; exact ht) (by rw [w9, w7]; exact yl) (by rw [w13, w9]; exact m3) (KV_GS gw hVz) (by rw [etn]; exact hcd.1.1) ente (nn x) (fun v hBv nv ov sv hVv fv v7 => rv_i (h v ([(23, nn x + 1, 0)] ++ N2 ++ [(22, nn x + 1, nn x)]) u (c9 + 1) hBv (by omega) (by omega) (by omega) ?_ ?_ ?_ ?_ ?_ (by omega) (CG_let hcy hCz hN2 (fun c k q => (fv c k (by unfold ccS at q; omega)).trans (hcw c k q)))))
    · exact RI_dull (RI_st hRw (fv _ _ (by omega)) (fun j => fv _ _ (by omega)) (fun c k q1 q2 => fv _ _ (by omega))) (dull_k (by decide))
    · have ex : exs ([(23, nn x + 1, 0)] ++ N2 ++ [(22, nn x + 1, nn x)]) Ev = exV Ev (22, nn x + 1, nn x) := by rw [exs_app, exs_still (still_app st23 hN2)]; rfl
      rw [ex, ← etn]
      refine ⟨hVv, ?_, hN9.2.2⟩
      have ovx : om v = om x := by omega
      rw [ovx]
      exact SKs_eq (fun k _ => ⟨by rw [fv 111 k (by omega), GS_at gw 111 k (by unfold sSum; omega), opz.2.1 _ _ (by omega) (by omega), y113 _ _ (by omega) (by omega)], by rw [fv 113 k (by omega), GS_at gw 113 k (by unfold sSum; omega), opz.2.1 _ _ (by omega) (by omega), y113 _ _ (by omega) (by omega)]⟩) hN9.2.1
    · exact Lb_tr (Lb_tr (Lb_tr lay opz.1) (Lb_GS gw)) (Lb_fm fv (fun c k q => by unfold Tc; omega))
    · rw [v7, w7, y7, hc9]; rfl
    · have env : nn v = nn w := by unfold nn; rw [fv 100 4 (by omega)]
      rw [hWl2]
      show (pup (c9 + 1) (22, nn x + 1, nn x) (pt K 67 (nn z, L ++ [(23, nn x + 1, 0)] ++ N2))).bind _ = _
      rw [pt_yes kk c7, env, enw]
      show eS K u (c9 + 1) (nn z + 1) (L ++ [(23, nn x + 1, 0)] ++ N2 ++ [(22, nn x + 1, nn x)]) = _
      rw [List.append_assoc L, List.append_assoc L]
  · -- a name
    have hBe := hB0 (by rw [c]; decide)
    have k1 := ki 2 1 (by decide) c
    have hWn : nn x < 700 → W = (pS1 K f c9 (nn x) L).bind (fun q => eS K u q.1 q.2.1 q.2.2) := fun h7 => by
      rw [eW, eX_1S hu1 h7 ⟨by rw [k1]; decide, by rw [k1]; decide, by rw [k1]; decide⟩]
    have k65 : nn x < 700 → (x.1 23 ((x.1 100 4).toNatClampNeg + 1) = 25 ↔ K (nn x + 1) = 65) := fun h7 => KA_k hA (KA_on hA hn0 h7 (by rw [k1]; decide) (by rw [k1]; decide)) 25 (by decide)
    obtain ⟨kx, ox, cx⟩ := BB_k hBe
    refine kp_sortBehind hq hRB ⟨fun cb => ?_, fun cb => ?_⟩
    · have hW2 : nn x < 700 → W = (if K (nn x + 1) = 50 ∧ nn x + 1 < 700 then pup c9 (77, nn x, 0) ((pR K f (some (nn x)) (nn x + 2) L).bind (pt K 67)) else none).bind (fun q => eS K u q.1 q.2.1 q.2.2) := fun h7 => by
        rw [hWn h7]
        unfold pS1
        rw [if_neg (by rw [k1]; decide), if_pos k1, if_neg (fun z => cb ((k65 h7).mpr z))]
      refine kd_setTarget hq (fun no => hx ?_) hA hn0 hN9.1 hBe (cx.2.2.2.2.2.2 hBe.2.2.2.2.1) (fun t y hBy ny oy sy vt hl y13 et hcd eny lay hAy hny hVy u1 hm op hTc hcy => ⟨vt, ?_⟩)
      · by_cases h7 : 700 ≤ nn x
        · rw [eW]; exact eX_7 hu1 h7
        · rw [hW2 (by omega), if_neg (fun z => no ⟨⟨k1, by omega⟩, z⟩)]; rfl
      have hW3 := hW2 hcd.1.2
      rw [if_pos hcd.2, ← eny] at hW3
      clear hW2 hWn
      obtain ⟨W1, eW1⟩ : ∃ W1, W1 = pR K f (some (nn x)) (nn y) L := ⟨_, rfl⟩
      rw [← eW1] at hW3
      have etn : t.toNatClampNeg = nn x := by rw [et]
      have by0 : 0 ≤ nx y := by omega
      have hTG : TGT sN Ev y (some (nn x)) (y.1 43 t.toNatClampNeg) := by
        rw [etn]
        refine Or.inr ⟨nn x, rfl, by omega, ?_⟩
        rcases hm with g | g
        · exact Or.inl g
        · exact Or.inr ⟨g.1, g.2.1⟩
      refine kd_source hq (t := some (nn x)) (W := W1) (fun no => hx (by rw [hW3, no]; rfl)) eW1 hBy (by omega) (by omega) l _ _ hl hEv (by rw [etn]; exact hTc) hTG hAy hny hVy (fun z hBz nz oz sz ⟨z9, z7, z13, z20, opz⟩ laz hSz => ?_)
      obtain ⟨hVz, N2, hRz, hN2, h6, hWz, hCz⟩ := hSz
      rw [hWz] at hW3
      obtain ⟨ln1, ln2⟩ := La_nn by0 laz
      have hRxz : RIw K V sN e Ev x z N2 := by
        refine ⟨hRz.1, hRz.2.1, hRz.2.2.1, fun j h1 h2 h3 => ?_⟩
        by_cases hj : nn y ≤ j
        · exact hRz.2.2.2 j hj h2 h3
        · have ej : j = nn x ∨ j = nn x + 1 := by omega
          rw [ln2 j (by omega)] at h3 ⊢
          rcases ej with ej | ej
          · rw [ej] at h3 ⊢
            rcases hm with ⟨-, g1, g2⟩ | ⟨-, -, g2⟩
            · rw [g2]; exact h6 _ rfl g1
            · exact absurd g2 h3
          · rw [ej] at h3; exact absurd u1 h3
      exact p173 z N2 (77, nn x, 0) hBz (by omega) (by omega) (by omega) (by rw [z13, y13]) hRxz hN2 (dull_k (by decide)) (stl_k (by decide)) hVz (OPe_tr op opz) hW3 (CG_app (CG_pre hcy (CG_some hCz)) CG_77)
    · obtain ⟨W1, eW1⟩ : ∃ W1, W1 = pS1 K f c9 (nn x) L := ⟨_, rfl⟩
      rw [← eW1] at hWn
      have hx7 : 700 ≤ nn x → RX x0 X := fun h7 => hx (by rw [eW]; exact eX_7 hu1 h7)
      have hx1 : W1 = none → RX x0 X := fun no => by
        by_cases h7 : 700 ≤ nn x
        · exact hx7 h7
        · exact hx (by rw [hWn (by omega), no]; rfl)
      refine kd_rowStatement hq f c9 L hx1 hx7 eW1 k1 (fun h7 => (k65 h7).mp cb) hf hA hn0 hN9.1 hEv hBe (by omega) l (fun y hBy ny oy sy y13 hVy lay N2 hRy hN2 hWy y9 y7 op hCy => p173 y N2 (78, nn x, 0) hBy (by omega) oy (by omega) y13 hRy hN2 (dull_k (by decide)) (stl_k (by decide)) hVy op ?_ hCy)
      have h7 : nn x < 700 := by
        by_cases h7 : nn x < 700
        · exact h7
        · exfalso
          have a := hRy.2.1
          have b := hRy.1.2.2.2.1
          have cx := nn_is bx0
          have cy := nn_is (x := y) (by omega)
          omega
      rw [hWn h7, hWy]
  · -- if, while
    refine kp_sort hq hRB ⟨fun c2 => p197 _ 1 61 (Or.inl ⟨rfl, ?_, rfl, rfl⟩) (Or.inl ⟨rfl, c2⟩), fun c2 => p197 _ 3 60 (Or.inr ⟨rfl, ki 54 24 (by decide) c2, rfl, rfl⟩) (Or.inr rfl)⟩
    rcases c with c | c
    · exact absurd c c2
    · exact ki 71 41 (by decide) c
  · -- lock
    have hBe := hB0 (by rw [c]; decide)
    have k27 := ki 57 27 (by decide) c
    have o5 : o = 5 := by
      rw [c] at hop
      rcases hop with g | g | g | g | ⟨-, g⟩ | ⟨-, -, g⟩ | ⟨-, -, g⟩ | ⟨-, g⟩ | ⟨-, g⟩ | ⟨-, g⟩
      · exact absurd g (by decide)
      · exact absurd g (by decide)
      · exact absurd g (by decide)
      · exact absurd g (by decide)
      · exact g
      · exact absurd g (by decide)
      · exact absurd g (by decide)
      · exact absurd g (by decide)
      · exact absurd g (by decide)
      · exact absurd g (by decide)
    rw [o5]
    refine kd_pass (xs := x) (Ml := []) (Ev := Ev) hq (fun h7 => hx (by rw [eW]; exact eX_7 hu1 h7)) hBe hR0 (by rw [k27]; decide) (by rw [k27]; decide) (fun c7 y hBy ny gy eny hRy u0 hcy => ?_)
    have oy := GS_om gy
    have sy := GS_sm gy
    have by0 : 0 ≤ nx y := by omega
    refine kd_nameStep hq (fun no => hx ?_) hRy.1 hRy.2.1 hBy (by omega) 5 l (by decide) (by decide) (fun z hBz nz sz oz opz vin z13 kk c72 enz hAz hnz laz huz z9 z109 opz9 hsk => ?_)
    · rw [eW]
      refine eX_0 ?_
      rw [hu1, pS, if_neg (by omega), if_neg (by rw [k27]; decide), if_neg (by rw [k27]; decide), if_pos k27, if_neg (fun z => no (by rw [eny]; exact z))]
    rw [eny] at kk c72
    have hWk : W = (pBk (pS K f) K 2 c9 (nn x + 2) (L ++ [(65, nn x, nn x + 1)])).bind (fun q => eC K 2 u q.1 q.2.1 q.2.2) := by rw [eW, eX_lock hu1 c72 k27 kk]
    have hu4 : z.1 42 (nn y) = 4 := by
      rcases huz with ⟨-, g⟩ | ⟨g, -⟩
      · exact g
      · exact absurd g (by decide)
    have enz2 : nn z = nn x + 2 := by omega
    have hRz : RIw K V sN e Ev x z ([] ++ [(65, nn x, nn x + 1)]) := RI_use hRy by0 laz hAz hnz enz (HAs_one.mpr (HA_65.mpr ⟨by omega, by rw [← eny]; exact hu4⟩)) (fun _ => HBs_one.mpr (by rw [hu4, eny]; exact HB_65))
    have hRz : RIw K V sN e Ev x z [(65, nn x, nn x + 1)] := hRz
    have hVz : KV' K e z Ev := KV_fm (KV_GS gy hN9.1) z9 z109
    have opx : OPe x z := OPe_tr (OPe_GS gy) opz9
    have hSz : SKs z (om z).toNat u Ev.2.1 := by
      rw [oz, oy]
      exact SKs_eq (fun k _ => ⟨opx.2.1 _ _ (by omega) (by omega), opx.2.1 _ _ (by omega) (by omega)⟩) hN9.2.1
    have z9c : (z.1 100 9).toNatClampNeg = Ev.1.length := by rw [t_cl, hVz.1]; rfl
    obtain ⟨a1, a2, a3, -⟩ := BB_400 hBy (by omega)
    refine kd_openBlock hq 2 _ (fun no => hx (by rw [hWk, ← enz2, pBk, if_neg no]; rfl)) hRz hVz (z9 := 2) (by decide) hSz hBz (by omega) (by omega) (by decide) (Or.inl (hBz.2.2.2.2.2.2.1 (fun e => e))) ⟨fun c => by omega, fun _ => ⟨by decide, (y.1 80 9).toNatClampNeg, a3.symm, by omega, fun c => absurd c (by decide), fun _ => opz, fun c => absurd c (by decide)⟩⟩ (fun i hi he => absurd he (fun e => e)) (fun w hBw nw sw ow w13 kk2 c73 enw law hRw hVw hSw w7 hpu => rv_i (h w ([(65, nn x, nn x + 1)] ++ [(20, 2, 0)]) (2 :: u) c9 ?_ (by omega) (by omega) (by omega) (RI_dull hRw (dull_k (by decide))) ?_ (Lb_tr opx.1 law) (by rw [w7, opx.2.2]; exact hc9) ?_ (by omega) (hpu.elim (fun w0 q0 => CG_lock hcy (KV_GS gy hN9.1) (by rw [← eny]; exact (nn_is by0).symm) hsk q0.1 q0.2))))
    · rw [w13, z13, GS_at gy 60 13 (by unfold sSum; omega)]; exact hBw
    · have ex : exs ([(65, nn x, nn x + 1)] ++ [(20, 2, 0)]) Ev = (Ev.1, Ev.1.length :: Ev.2.1, Ev.2.2) := by rw [exs_app, exs_still (L := [(65, nn x, nn x + 1)]) (stl_k (by decide))]; rfl
      rw [ex]
      rw [z9c] at hSw
      exact ⟨hVw, hSw, LBo_push hN9.2.2⟩
    · rw [enz2] at kk2 c73 enw
      rw [hWk, eS_block (by decide) ef.symm kk2 c73, enw, List.append_assoc]
  · -- the others
    have n56 := c 56 (by decide)
    have n2 := c 2 (by decide)
    have n54 := c 54 (by decide)
    have n71 := c 71 (by decide)
    have n57 := c 57 (by decide)
    have hop2 : (5 ≤ o.toInt ∧ o.toInt ≤ 8 ∧ (x.1 23 (x.1 100 4).toNatClampNeg = 66 ∨ x.1 23 (x.1 100 4).toNatClampNeg = 52 ∨ x.1 23 (x.1 100 4).toNatClampNeg = 68 ∨ x.1 23 (x.1 100 4).toNatClampNeg = 69 ∨ x.1 23 (x.1 100 4).toNatClampNeg = 70)) ∨ (9 ≤ o.toInt ∧ o.toInt ≤ 10 ∧ (x.1 23 (x.1 100 4).toNatClampNeg = 63 ∨ x.1 23 (x.1 100 4).toNatClampNeg = 55)) ∨ (o = 13 ∧ x.1 23 (x.1 100 4).toNatClampNeg = 45) ∨ ((o = 14 ∨ o = 18) ∧ (x.1 23 (x.1 100 4).toNatClampNeg = 43 ∨ x.1 23 (x.1 100 4).toNatClampNeg = 44)) ∨ ((o = 11 ∨ o = 12 ∨ o = 19) ∧ (x.1 23 (x.1 100 4).toNatClampNeg = 50 ∨ x.1 23 (x.1 100 4).toNatClampNeg = 61 ∨ x.1 23 (x.1 100 4).toNatClampNeg = 49)) := by
      rcases hop with g | g | g | g | ⟨g, -⟩ | g
      · exact absurd g n2
      · exact absurd g n56
      · exact absurd g n54
      · exact absurd g n71
      · exact absurd g n57
      · exact g
    have hko : (o.toInt ≤ 8 ∧ (K (nn x) = 36 ∨ K (nn x) = 22 ∨ K (nn x) = 38 ∨ K (nn x) = 39 ∨ K (nn x) = 40)) ∨ (9 ≤ o.toInt ∧ o.toInt ≤ 10 ∧ (K (nn x) = 33 ∨ K (nn x) = 25)) ∨ (o = 13 ∧ K (nn x) = 15) ∨ ((o = 14 ∨ o = 18) ∧ (K (nn x) = 13 ∨ K (nn x) = 14)) ∨ ((o = 11 ∨ o = 12 ∨ o = 19) ∧ (K (nn x) = 20 ∨ K (nn x) = 31 ∨ K (nn x) = 19)) := by
      rcases hop2 with ⟨-, g, g2⟩ | ⟨g, g1, g2⟩ | ⟨g, g2⟩ | ⟨g, g2⟩ | ⟨g, g2⟩
      · refine Or.inl ⟨g, ?_⟩
        rcases g2 with g2 | g2 | g2 | g2 | g2
        · exact Or.inl (ki 66 36 (by decide) g2)
        · exact Or.inr (Or.inl (ki 52 22 (by decide) g2))
        · exact Or.inr (Or.inr (Or.inl (ki 68 38 (by decide) g2)))
        · exact Or.inr (Or.inr (Or.inr (Or.inl (ki 69 39 (by decide) g2))))
        · exact Or.inr (Or.inr (Or.inr (Or.inr (ki 70 40 (by decide) g2))))
      · exact Or.inr (Or.inl ⟨g, g1, g2.imp (ki 63 33 (by decide)) (ki 55 25 (by decide))⟩)
      · exact Or.inr (Or.inr (Or.inl ⟨g, ki 45 15 (by decide) g2⟩))
      · exact Or.inr (Or.inr (Or.inr (Or.inl ⟨g, g2.imp (ki 43 13 (by decide)) (ki 44 14 (by decide))⟩)))
      · exact Or.inr (Or.inr (Or.inr (Or.inr ⟨g, g2.imp (ki 50 20 (by decide)) (fun g2 => g2.imp (ki 61 31 (by decide)) (ki 49 19 (by decide)))⟩)))
    have hkn : ¬ K (nn x) = 24 ∧ ¬ K (nn x) = 41 ∧ ¬ K (nn x) = 27 := by
      rcases hko with ⟨-, e | e | e | e | e⟩ | ⟨-, -, e | e⟩ | ⟨-, e⟩ | ⟨-, e | e⟩ | ⟨-, e | e | e⟩ <;> rw [e] <;> decide
    have h56 : 5 ≤ o.toInt ∧ ¬ o.toInt = 15 ∧ ¬ o.toInt = 16 ∧ ¬ o.toInt = 17 ∧ ¬ o.toInt = 20 := by
      rcases hop2 with ⟨g1, g2, -⟩ | ⟨g1, g2, -⟩ | ⟨g, -⟩ | ⟨g, -⟩ | ⟨g, -⟩
      · omega
      · omega
      · rw [g]; decide
      · rcases g with g | g <;> rw [g] <;> decide
      · rcases g with g | g | g <;> rw [g] <;> decide
    have hx1 : (pS1 K f c9 (nn x) L = none ∨ 700 ≤ nn x) → RX x0 X := fun no => hx (by
      by_cases h7 : 700 ≤ nn x
      · rw [eW]; exact eX_7 hu1 h7
      · rcases no with no | no
        · rw [eW, eX_1S hu1 (by omega) hkn, no]; rfl
        · exact absurd no h7)
    have hopK : o = Int32.ofNat (opQ (K (nn x))) := by
      rcases hopq with (g | g | g | g | g) | g
      · exact absurd g n2
      · exact absurd g n56
      · exact absurd g n54
      · exact absurd g n71
      · exact absurd g n57
      · rw [hKs]; exact g
    refine kd_plain hq f c9 L hx1 hf hA hn0 hN9.1 (hB0 n54) acc (by omega) o l h56.1 h56.2 hEv hopK hko (fun y hBy ny oy ay y13 hVy op N2 hRy hN2 hWy hCy => rv_i (fin y N2 ?_ oy ay hRy hN2 hVy op ?_ ny hCy))
    · rw [y13]; exact hBy
    · have h7 : nn x < 700 := by
        have a := hRy.2.1
        have b := hRy.1.2.2.2.1
        have cx := nn_is bx0
        have cy := nn_is (x := y) (by omega)
        omega
      rw [eW, eX_1S hu1 h7 hkn, hWy]
      rfl
end KSF
end
section
/-! the class: definitions, all is read -/
def OTb (x0 x : gd) : Prop := SU x ∧ FR x ∧ RI0 x (x.1 60 13).toInt ∧ SCs x E0 ∧ x.1 100 5 = 0 ∧ fm sR x0 x
section KDF
variable {G : kG} {q : kP} {d : Nat} {x x0 y z : gd} {F : Int32 → gd → Prop} {Fv : gd → Prop} {X : String → gd → Prop} {P : Option gv → gd → Prop}
theorem OT_b (h : OT x0 x) : OTb x0 x := ⟨h.1, h.2.1, h.2.2.1, h.2.2.2.1, h.2.2.2.2.1, h.2.2.2.2.2.1⟩
theorem OT_of (h : OTb x0 x) (a : 2 * ssm x ≤ nx x) : OT x0 x := ⟨h.1, h.2.1, h.2.2.1, h.2.2.2.1, h.2.2.2.2.1, h.2.2.2.2.2, a⟩
theorem OTb_on (hB : OTb x0 x) (hS : SU y) (hF : FR y) (g : GS x y) : OTb x0 y := ⟨hS, hF, by rw [g.2 60 13 (by unfold sSum; omega)]; exact RI0_La hB.2.2.1 g.1 g.2, SCs_La hB.2.2.2.1 g.2, by rw [g.2 100 5 (by unfold sSum; omega)]; exact hB.2.2.2.2.1, fm_tr hB.2.2.2.2.2 (fm_w g.2 (fun c k q => sSum_R q))⟩
/-- what is told changes -/
theorem OTb_nm (hB : OTb x0 x) (f : fm (fun c k => (40 ≤ c ∧ c < 60 ∧ c ≠ 42) ∨ (c = 60 ∧ k ≠ 3 ∧ k ≠ 13) ∨ (64 ≤ c ∧ c < 80)) x z) (hN : NM z) (hC : CD z) (hT : TS z) : OTb x0 z := by
  obtain ⟨hS, hF, ⟨r1, r2, r3, ⟨r4, r6⟩, r7⟩, hC9, r5, r0⟩ := hB
  have e4 : nx z = nx x := by unfold nx; rw [f 100 4 (by omega)]
  have es : ssm z = ssm x := by unfold ssm; rw [f 80 9 (by omega)]
  have z5 : z.1 100 5 = x.1 100 5 := f _ _ (by omega)
  have la : La x z := ⟨fun c k q1 q2 => f c k (by omega), by omega, fun j _ => f 42 j (by omega)⟩
  refine ⟨?_, ?_, ⟨fun c => absurd (by rw [z5]; exact r5) c, hN, hC, ⟨by omega, fun i hi => ?_⟩, hT⟩, fun i hi he => ?_, by rw [z5]; exact r5, fm_tr r0 (fm_w f (fun c k q => by unfold sR; omega))⟩
  · obtain ⟨⟨hT, b1, b2, b3⟩, ⟨u1, u2⟩, hp, hP⟩ := hS
    unfold SU SV US RB mt
    rw [f 20 7 (by omega), f 60 3 (by omega), e4]
    refine ⟨⟨kT_fm hT la.1, b1, b2, b3⟩, ⟨fun j h1 h2 => ?_, fun j h1 h2 => ?_⟩, hp, fun i hi => La_PQ la (f _ _ (by omega)) (f _ _ (by omega)) (hP i hi)⟩
    · rw [f 42 j (by omega)]; exact u1 j h1 h2
    · rw [f 42 j (by omega)] at h2; rw [f 42 _ (by omega)]; exact u2 j h1 h2
  · unfold FR at hF ⊢
    rw [f 100 4 (by omega), f 42 _ (by omega)]; exact hF
  · rw [f 60 13 (by omega)]
    exact SA_La la (f _ _ (by omega)) (f _ _ (by omega)) (f _ _ (by omega)) (f _ _ (by omega)) (Int.le_refl _) (r6 i (by omega))
  · exact SC_eq (fun j => f _ _ (by omega)) (f _ _ (by omega)) (f _ _ (by omega)) (f _ _ (by omega)) z5 (fun j => f _ _ (by omega)) (hC9 i (by omega) he)
theorem kp_rowAhead (hq : kV q) (hR : RB x) (h : ∀ r : Int32, 0 ≤ r.toInt → r.toInt ≤ 8 → (0 < r.toInt → x.1 23 ((x.1 100 4).toNatClampNeg + 1) = 25) → F r x) : KT G q (d + 1) zk_X7_rowAhead 0 [(0, vr 100)] [] x (ri F) := by
  have k2 : (2 : Int32).toInt = 2 := rfl
  have k700 : (700 : Int32).toInt = 700 := rfl
  have b1 := hR.2.1
  have b2 := hR.2.2.1
  have e2 : (x.1 100 4 + 2).toInt = nx x + 2 := by rw [t_add (by rw [k2]; unfold nx at *; omega) (by rw [k2]; unfold nx at *; omega), k2]
  refine kg_X7_rowAhead_0 hq (kp_sortBehind hq hR ⟨fun c => ⟨fun _ => ri_i (h _ (by decide) (by decide) (fun _ => c)), fun c7 => ?_⟩, fun _ => ri_i (h _ (by decide) (by decide) (fun q => absurd q (by decide)))⟩)
  rw [t_lt, k700, e2] at c7
  have v : vp_in (x.1 100 4 + 2) 702 := by rw [vp_in_iff]; omega
  exact ⟨v, fun _ => ⟨v, kp_isRowSize hq _ (fun r hr => ⟨fun _ => ri_i (h _ (by decide) (by decide) (fun _ => c)), fun c0 => ⟨v, ri_i (h _ (by have := (hr c0).1; omega) (hr c0).2 (fun _ => c))⟩⟩)⟩, fun _ => ri_i (h _ (by decide) (by decide) (fun _ => c))⟩
end KDF
end
section
/-! the class's code: definitions -/
/-- no statement is under way (a claim's sort may stand there) -/
def rgO (r : gRg) : Prop := ∃ p, r = ([], [], p, false, none, 0)
/-- outside a thread, from x to y by the events M -/
def CGo (sN : Nat → Nat → Bool) (V K : Nat → Int32) (E : gV) (x y : gd) (M : gU) : Prop := ∀ c d P, eqE c.1 E → rgO c.2.2.2.1 → CCp sN V K x c d P → CCp sN V K y (cds sN K M c) (ces K V M d) (P ++ tPs sN V K M E) ∧ eqE (cds sN K M c).1 (exs M E) ∧ rgO (cds sN K M c).2.2.2.1
/-- a thread begins -/
def CGb (sN : Nat → Nat → Bool) (V K : Nat → Int32) (E : gV) (x y : gd) (M : gU) : Prop := ∀ c d P, eqE c.1 E → rgO c.2.2.2.1 → CCp sN V K x c d P → CCp sN V K y (cds sN K M c) (ces K V M d) (P ++ tPs sN V K M E) ∧ eqE (cds sN K M c).1 (exs M E) ∧ (cds sN K M c).2.2.2.1 = rg0
/-- cells -/
def CEl (x : gd) (l : List (Int32 × Bool)) : Prop := (x.1 60 6).toInt = l.length ∧ ∀ j q, l[j]? = some q → x.1 68 j = q.1 ∧ x.1 69 j = if q.2 = true then 1 else 0
section KCDF
variable {G : kG} {q9 : kP} {dd : Nat} {Fv : gd → Prop}
variable {sN : Nat → Nat → Bool} {V K : Nat → Int32} {Ev Ec Ec' E E' : gV} {x y z w9 : gd} {M N N' : gU} {e i j n t b9 : Nat} {d d' : Nat × Int32 × List (Int32 × Bool)} {P Q : List (Int32 × Int32)} {S : List gSt} {k k' : List Nat} {r r' : gRg} {w w' : List (Nat × Nat) × List (Nat × gU)} {s m v : Int32}
theorem CCp_gen (h : CCp sN V K x (Ec, S, k, r, w) d P) (hp : PR y (P ++ Q)) (g : ∀ c j, 80 ≤ c → c < 90 → y.1 c j = x.1 c j) (hs : (¬ y.1 100 5 = 0 → SKk y (y.1 100 13).toNatClampNeg k') ∧ (y.1 100 5 = 0 → k' = [])) (hb : (y.1 60 10).toInt = w'.1.length ∧ ∀ (t : Nat) (q : Nat × Nat), w'.1[t]? = some q → (y.1 72 t).toInt = q.1 ∧ y.1 73 t = Int32.ofNat q.2) (hc : CEl y d'.2.2) (h5 : (y.1 60 14).toInt = (clF 35 w'.2).length ∧ ∀ k N, (clF 35 w'.2)[k]? = some N → SUc (P ++ Q) (y.1 76 k) (sPs sN V K E0v N)) (h6 : (y.1 60 16).toInt = (clF 36 w'.2).length ∧ ∀ k N, (clF 36 w'.2)[k]? = some N → SUc (P ++ Q) (y.1 78 k) (sPs sN V K E0v N)) : CCp sN V K y (Ec', S, k', r', w') d' (P ++ Q) := by
  obtain ⟨-, ⟨s1, s2⟩, -⟩ := h
  exact ⟨hp, ⟨by rw [g 80 9 (by decide) (by decide)]; exact s1, fun j st hj => kS_mono (kS_eq (fun k q1 q2 => g k j (by omega) q2) (s2 j st hj)) Q⟩, hs, hb, hc, h5, h6⟩
theorem sPs_Eo (h : sEv true N) (h1 : E.2.1 = []) (h2 : E'.2.1 = []) : sPs sN V K E N = sPs sN V K E' N := by
  induction N with
  | nil => rfl
  | cons v N ih =>
    have e : cPt sN V K E v = cPt sN V K E' v := by
      unfold cPt
      rw [if_pos h1, if_pos h2]
      have hv := h v List.mem_cons_self
      by_cases c : v.1 = 3
      · exfalso
        rcases hv with q | q | q | q | q | q
        · omega
        · omega
        · omega
        · omega
        · exact absurd q.1 (by decide)
        · omega
      · rw [if_neg c, if_neg c]
    show (v :: N).filterMap _ = (v :: N).filterMap _
    rw [List.filterMap_cons, List.filterMap_cons, e]
    have := ih (fun w hw => h w (List.mem_cons_of_mem _ hw))
    unfold sPs at this
    rw [this]
/-- cells are told -/
theorem CGo_cell (fr : ∀ c k, ccS c k → ¬ (c = 60 ∧ k = 6) → ¬ c = 68 → ¬ c = 69 → y.1 c k = x.1 c k) (hc : ∀ c, cds sN K N c = c) (ht : tPs sN V K N Ev = []) (hN : still N) (hl : ∀ d, CEl x d.2.2 → CEl y (ces K V N d).2.2) : CGo sN V K Ev x y N := by
  intro c d P he hr h
  obtain ⟨Ec, S, k, rr, ww⟩ := c
  rw [hc, ht, exs_still hN]
  refine ⟨?_, he, hr⟩
  have g8 : ∀ c j, 61 ≤ c → c < 90 → ¬ c = 68 → ¬ c = 69 → y.1 c j = x.1 c j := fun c j q1 q2 q3 q4 => fr c j (Or.inr (Or.inl ⟨q1, q2⟩)) (by omega) q3 q4
  have g6 : ∀ k, k ≠ 13 → k ≠ 6 → y.1 60 k = x.1 60 k := fun k q q2 => fr 60 k (Or.inl ⟨rfl, q⟩) (by omega) (by omega) (by omega)
  have e5 : y.1 100 5 = x.1 100 5 := fr _ _ (Or.inr (Or.inr (Or.inl ⟨rfl, Or.inl rfl⟩))) (by omega) (by omega) (by omega)
  have e13 : y.1 100 13 = x.1 100 13 := fr _ _ (Or.inr (Or.inr (Or.inl ⟨rfl, Or.inr rfl⟩))) (by omega) (by omega) (by omega)
  obtain ⟨⟨p1, p2⟩, -, ⟨k1, k2⟩, ⟨b1, b2⟩, hce, ⟨a1, a2⟩, ⟨f1, f2⟩⟩ := id h
  refine CCp_gen (Q := []) h (by rw [List.append_nil]; exact ⟨by rw [g6 3 (by decide) (by decide)]; exact p1, fun i q hi hq => by rw [g8 62 i (by decide) (by decide) (by decide) (by decide), g8 63 i (by decide) (by decide) (by decide) (by decide)]; exact p2 i q hi hq⟩) (fun c j q1 q2 => g8 c j (by omega) q2 (by omega) (by omega)) ⟨fun q => ?_, fun q => k2 (by rw [← e5]; exact q)⟩ ⟨by rw [g6 10 (by decide) (by decide)]; exact b1, fun t q hq => by rw [g8 72 t (by decide) (by decide) (by decide) (by decide), g8 73 t (by decide) (by decide) (by decide) (by decide)]; exact b2 t q hq⟩ (hl d hce) ⟨by rw [g6 14 (by decide) (by decide)]; exact a1, fun k N hN => by rw [g8 76 k (by decide) (by decide) (by decide) (by decide), List.append_nil]; exact a2 k N hN⟩ ⟨by rw [g6 16 (by decide) (by decide)]; exact f1, fun k N hN => by rw [g8 78 k (by decide) (by decide) (by decide) (by decide), List.append_nil]; exact f2 k N hN⟩
  rw [e13]
  exact SKk_eq (fun i _ => ⟨fr _ _ (Or.inr (Or.inr (Or.inr (Or.inl rfl)))) (by omega) (by omega) (by omega), fr _ _ (Or.inr (Or.inr (Or.inr (Or.inr rfl)))) (by omega) (by omega) (by omega)⟩) (k1 (by rw [← e5]; exact q))
/-- a lock is told -/
theorem CGo_lock (fr : ∀ c k, ccS c k → ¬ (c = 60 ∧ k = 9) → y.1 c k = x.1 c k) : CGo sN V K Ev x y [(33, i, j)] := by
  intro c d P he hr h
  obtain ⟨Ec, S, k, rr, ww⟩ := c
  have e1 : cds sN K [(33, i, j)] (Ec, S, k, rr, ww) = (Ec, S, k, rr, ww) := rfl
  have e2 : tPs sN V K [(33, i, j)] Ev = [] := rfl
  have e3 : ces K V [(33, i, j)] d = d := rfl
  rw [e1, e2, e3, exs_still (stl_k (by decide))]
  refine ⟨?_, he, hr⟩
  have g8 : ∀ c j, 61 ≤ c → c < 90 → y.1 c j = x.1 c j := fun c j q1 q2 => fr c j (Or.inr (Or.inl ⟨q1, q2⟩)) (by omega)
  have g6 : ∀ k, k ≠ 13 → k ≠ 9 → y.1 60 k = x.1 60 k := fun k q q2 => fr 60 k (Or.inl ⟨rfl, q⟩) (by omega)
  have e5 : y.1 100 5 = x.1 100 5 := fr _ _ (Or.inr (Or.inr (Or.inl ⟨rfl, Or.inl rfl⟩))) (by omega)
  have e13 : y.1 100 13 = x.1 100 13 := fr _ _ (Or.inr (Or.inr (Or.inl ⟨rfl, Or.inr rfl⟩))) (by omega)
  obtain ⟨⟨p1, p2⟩, -, ⟨k1, k2⟩, ⟨b1, b2⟩, ⟨c1, c2⟩, ⟨a1, a2⟩, ⟨f1, f2⟩⟩ := id h
  refine CCp_gen (Q := []) h (by rw [List.append_nil]; exact ⟨by rw [g6 3 (by decide) (by decide)]; exact p1, fun i q hi hq => by rw [g8 62 i (by decide) (by decide), g8 63 i (by decide) (by decide)]; exact p2 i q hi hq⟩) (fun c j q1 q2 => g8 c j (by omega) q2) ⟨fun q => ?_, fun q => k2 (by rw [← e5]; exact q)⟩ ⟨by rw [g6 10 (by decide) (by decide)]; exact b1, fun t q hq => by rw [g8 72 t (by decide) (by decide), g8 73 t (by decide) (by decide)]; exact b2 t q hq⟩ ⟨by rw [g6 6 (by decide) (by decide)]; exact c1, fun j q hq => by rw [g8 68 j (by decide) (by decide), g8 69 j (by decide) (by decide)]; exact c2 j q hq⟩ ⟨by rw [g6 14 (by decide) (by decide)]; exact a1, fun k N hN => by rw [g8 76 k (by decide) (by decide), List.append_nil]; exact a2 k N hN⟩ ⟨by rw [g6 16 (by decide) (by decide)]; exact f1, fun k N hN => by rw [g8 78 k (by decide) (by decide), List.append_nil]; exact f2 k N hN⟩
  rw [e13]
  exact SKk_eq (fun i _ => ⟨fr _ _ (Or.inr (Or.inr (Or.inr (Or.inl rfl)))) (by omega), fr _ _ (Or.inr (Or.inr (Or.inr (Or.inr rfl)))) (by omega)⟩) (k1 (by rw [← e5]; exact q))
theorem clF_y {u : Nat} {l : List (Nat × gU)} : clF u (l ++ [(u, N)]) = clF u l ++ [N] := by
  unfold clF
  rw [List.filterMap_append]
  simp
theorem clF_n {u u' : Nat} {l : List (Nat × gU)} (h : ¬ u' = u) : clF u (l ++ [(u', N)]) = clF u l := by
  unfold clF
  rw [List.filterMap_append]
  simp [h]
/-- a claim is told -/
theorem CGo_claim {u : Nat} (fr0 : ∀ c k, ccS c k → y.1 c k = x.1 c k) (hE2 : Ev.2.1 = []) (hs : sEv true N') (hp : CPl y z (sPs sN V K Ev (N' ++ [(54, 0, 0)]))) (fr : ∀ c k, ccS c k → ¬ (c = 60 ∧ k = 3) → ¬ c = 62 → ¬ c = 63 → z.1 c k = y.1 c k) (hsr : s = y.1 60 3) (hu : (u = 35 ∧ w9.1 76 (x.1 60 14).toNatClampNeg = s ∧ (w9.1 60 14).toInt = (x.1 60 14).toInt + 1 ∧ ∀ c k, ccS c k → ¬ (c = 60 ∧ k = 14) → ¬ (c = 76 ∧ k = (x.1 60 14).toNatClampNeg) → w9.1 c k = z.1 c k) ∨ (u = 36 ∧ w9.1 78 (x.1 60 16).toNatClampNeg = s ∧ (w9.1 60 16).toInt = (x.1 60 16).toInt + 1 ∧ ∀ c k, ccS c k → ¬ (c = 60 ∧ k = 16) → ¬ (c = 78 ∧ k = (x.1 60 16).toNatClampNeg) → w9.1 c k = z.1 c k)) : CGo sN V K Ev x w9 ([(u, i, 0)] ++ (N' ++ [(54, 0, 0)])) := by
  intro c d P he hr h
  obtain ⟨Ec, S, k, rr, ww⟩ := c
  obtain ⟨p0, hr⟩ := hr
  have hr : rr = ([], [], p0, false, none, 0) := hr
  have he : eqE Ec Ev := he
  have hEc : Ec.2.1 = [] := by rw [he.2]; exact hE2
  have hu35 : u = 35 ∨ u = 36 := hu.imp (fun q => q.1) (fun q => q.1)
  have e1 : cds sN K ([(u, i, 0)] ++ (N' ++ [(54, 0, 0)])) (Ec, S, k, rr, ww) = (Ec, S, k, ([], [], u, false, none, 0), ww.1, ww.2 ++ [(u, N')]) := by
    have a1 : cds sN K [(u, i, 0)] (Ec, S, k, rr, ww) = (Ec, S, k, ([], [], u, false, none, 0), ww) := by
      rw [hr]
      rcases hu35 with q | q <;> (rw [q]; rfl)
    rw [cds_app, a1, cds_app, cds_sum (r := ([], [], u, false, none, 0)) hs (fun _ => hEc), List.nil_append, cds_one]
    unfold cdV
    rw [if_neg (by decide), if_neg (by decide), if_pos rfl, if_pos hEc]
  have su : still [(u, i, 0)] := by rcases hu35 with q | q <;> (rw [q]; exact stl_k (by decide))
  have sN2 : still (N' ++ [(54, 0, 0)]) := still_54 (sEv_still hs)
  have e2 : tPs sN V K ([(u, i, 0)] ++ (N' ++ [(54, 0, 0)])) Ev = sPs sN V K Ev N' ++ [(0, 0)] := by
    have a1 : tPs sN V K [(u, i, 0)] Ev = [] := by rcases hu35 with q | q <;> (rw [q]; rfl)
    rw [tPs_app, a1, List.nil_append, exs_still su, tPs_x hs, sPs_54]
  have e3 : ces K V ([(u, i, 0)] ++ (N' ++ [(54, 0, 0)])) d = d := by
    have a1 : ces K V [(u, i, 0)] d = d := by rcases hu35 with q | q <;> (rw [q]; rfl)
    rw [ces_app, a1, ces_app, sEv_ce hs]; rfl
  rw [e1, e2, e3, exs_still (still_app su sN2)]
  refine ⟨?_, he, u, rfl⟩
  have hy := CCp_eq fr0 h
  have hz := CCp_sum (r' := rr) hy hp fr
  rw [sPs_54] at hz
  have hss : SUc (P ++ (sPs sN V K Ev N' ++ [(0, 0)])) s (sPs sN V K E0v N') := by
    rw [← sPs_Eo (E := Ev) (E' := E0v) hs hE2 rfl]
    exact SUc_next hy.1 hsr _
  obtain ⟨⟨p1, p2⟩, -, ⟨k1, k2⟩, ⟨b1, b2⟩, ⟨c1, c2⟩, ⟨a1, a2⟩, ⟨f1, f2⟩⟩ := id hz
  have m14 : x.1 60 14 = z.1 60 14 := by rw [fr 60 14 (Or.inl ⟨rfl, by decide⟩) (by omega) (by omega) (by omega), fr0 60 14 (Or.inl ⟨rfl, by decide⟩)]
  have m16 : x.1 60 16 = z.1 60 16 := by rw [fr 60 16 (Or.inl ⟨rfl, by decide⟩) (by omega) (by omega) (by omega), fr0 60 16 (Or.inl ⟨rfl, by decide⟩)]
  have a1 : (z.1 60 14).toInt = (clF 35 ww.2).length := a1
  have f1 : (z.1 60 16).toInt = (clF 36 ww.2).length := f1
  have fin : (∀ c k, ccS c k → ¬ (c = 60 ∧ (k = 14 ∨ k = 16)) → ¬ c = 76 → ¬ c = 78 → w9.1 c k = z.1 c k) → ((w9.1 60 14).toInt = (clF 35 (ww.2 ++ [(u, N')])).length ∧ ∀ k N, (clF 35 (ww.2 ++ [(u, N')]))[k]? = some N → SUc (P ++ (sPs sN V K Ev N' ++ [(0, 0)])) (w9.1 76 k) (sPs sN V K E0v N)) → ((w9.1 60 16).toInt = (clF 36 (ww.2 ++ [(u, N')])).length ∧ ∀ k N, (clF 36 (ww.2 ++ [(u, N')]))[k]? = some N → SUc (P ++ (sPs sN V K Ev N' ++ [(0, 0)])) (w9.1 78 k) (sPs sN V K E0v N)) → CCp sN V K w9 (Ec, S, k, ([], [], u, false, none, 0), ww.1, ww.2 ++ [(u, N')]) d (P ++ (sPs sN V K Ev N' ++ [(0, 0)])) := by
    intro g q5 q6
    have g8 : ∀ c j, 61 ≤ c → c < 90 → ¬ c = 76 → ¬ c = 78 → w9.1 c j = z.1 c j := fun c j q1 q2 q3 q4 => g c j (Or.inr (Or.inl ⟨q1, q2⟩)) (by omega) q3 q4
    have g6 : ∀ k, k ≠ 13 → k ≠ 14 → k ≠ 16 → w9.1 60 k = z.1 60 k := fun k q q2 q3 => g 60 k (Or.inl ⟨rfl, q⟩) (by omega) (by omega) (by omega)
    have e5 : w9.1 100 5 = z.1 100 5 := g _ _ (Or.inr (Or.inr (Or.inl ⟨rfl, Or.inl rfl⟩))) (by omega) (by omega) (by omega)
    have e13 : w9.1 100 13 = z.1 100 13 := g _ _ (Or.inr (Or.inr (Or.inl ⟨rfl, Or.inr rfl⟩))) (by omega) (by omega) (by omega)
    have q := CCp_gen (Q := []) (w' := (ww.1, ww.2 ++ [(u, N')])) (d' := d) (k' := k) (Ec' := Ec) (r' := ([], [], u, false, none, 0)) hz (y := w9) (by rw [List.append_nil]; exact ⟨by rw [g6 3 (by decide) (by decide) (by decide)]; exact p1, fun i q hi hq => by rw [g8 62 i (by decide) (by decide) (by decide) (by decide), g8 63 i (by decide) (by decide) (by decide) (by decide)]; exact p2 i q hi hq⟩) (fun c j q1 q2 => g8 c j (by omega) q2 (by omega) (by omega)) ⟨fun q => (by rw [e13]; exact SKk_eq (fun i _ => ⟨g _ _ (Or.inr (Or.inr (Or.inr (Or.inl rfl)))) (by omega) (by omega) (by omega), g _ _ (Or.inr (Or.inr (Or.inr (Or.inr rfl)))) (by omega) (by omega) (by omega)⟩) (k1 (by rw [← e5]; exact q))), fun q => k2 (by rw [← e5]; exact q)⟩ ⟨by rw [g6 10 (by decide) (by decide) (by decide)]; exact b1, fun t q hq => by rw [g8 72 t (by decide) (by decide) (by decide) (by decide), g8 73 t (by decide) (by decide) (by decide) (by decide)]; exact b2 t q hq⟩ ⟨by rw [g6 6 (by decide) (by decide) (by decide)]; exact c1, fun j q hq => by rw [g8 68 j (by decide) (by decide) (by decide) (by decide), g8 69 j (by decide) (by decide) (by decide) (by decide)]; exact c2 j q hq⟩ (by rw [List.append_nil]; exact q5) (by rw [List.append_nil]; exact q6)
    rw [List.append_nil] at q
    exact q
  rcases hu with ⟨ue, h76, h14, g⟩ | ⟨ue, h78, h16, g⟩
  · rw [m14] at h76 h14 g
    refine fin (fun c k q q1 q2 q3 => g c k q (by omega) (by omega)) ?_ ?_
    · rw [ue, clF_y]
      refine ⟨by rw [h14, a1, List.length_append]; rfl, fun k N hN => ?_⟩
      have en : (z.1 60 14).toNatClampNeg = (clF 35 ww.2).length := by rw [t_cl, a1]; omega
      rcases Nat.lt_or_ge k (clF 35 ww.2).length with hk | hk
      · rw [List.getElem?_append_left hk] at hN
        rw [g 76 k (Or.inr (Or.inl ⟨by decide, by decide⟩)) (by omega) (by omega)]
        exact a2 k N hN
      · rw [List.getElem?_append_right hk] at hN
        have hk0 : k - (clF 35 ww.2).length = 0 := by
          obtain ⟨hl, -⟩ := List.getElem?_eq_some_iff.mp hN
          simp at hl
          omega
        rw [hk0] at hN
        have eN : N' = N := Option.some.inj hN
        have ek : k = (z.1 60 14).toNatClampNeg := by omega
        rw [ek, h76, ← eN]
        exact hss
    · rw [ue, clF_n (by decide), g 60 16 (Or.inl ⟨rfl, by decide⟩) (by omega) (by omega)]
      exact ⟨f1, fun k N hN => by rw [g 78 k (Or.inr (Or.inl ⟨by decide, by decide⟩)) (by omega) (by omega)]; exact f2 k N hN⟩
  · rw [m16] at h78 h16 g
    refine fin (fun c k q q1 q2 q3 => g c k q (by omega) (by omega)) ?_ ?_
    · rw [ue, clF_n (by decide), g 60 14 (Or.inl ⟨rfl, by decide⟩) (by omega) (by omega)]
      exact ⟨a1, fun k N hN => by rw [g 76 k (Or.inr (Or.inl ⟨by decide, by decide⟩)) (by omega) (by omega)]; exact a2 k N hN⟩
    · rw [ue, clF_y]
      refine ⟨by rw [h16, f1, List.length_append]; rfl, fun k N hN => ?_⟩
      have en : (z.1 60 16).toNatClampNeg = (clF 36 ww.2).length := by rw [t_cl, f1]; omega
      rcases Nat.lt_or_ge k (clF 36 ww.2).length with hk | hk
      · rw [List.getElem?_append_left hk] at hN
        rw [g 78 k (Or.inr (Or.inl ⟨by decide, by decide⟩)) (by omega) (by omega)]
        exact f2 k N hN
      · rw [List.getElem?_append_right hk] at hN
        have hk0 : k - (clF 36 ww.2).length = 0 := by
          obtain ⟨hl, -⟩ := List.getElem?_eq_some_iff.mp hN
          simp at hl
          omega
        rw [hk0] at hN
        have eN : N' = N := Option.some.inj hN
        have ek : k = (z.1 60 16).toNatClampNeg := by omega
        rw [ek, h78, ← eN]
        exact hss
/-- a thread begins: its number, whether it is idle, its first step -/
theorem CGb_thread (fr : ∀ c k, ccS c k → ¬ (c = 60 ∧ k = 10) → ¬ (c = 72 ∧ k = (x.1 60 10).toNatClampNeg) → ¬ (c = 73 ∧ k = (x.1 60 10).toNatClampNeg) → ¬ c = 100 → y.1 c k = x.1 c k) (h10 : (y.1 60 10).toInt = (x.1 60 10).toInt + 1) (h72 : y.1 72 (x.1 60 10).toNatClampNeg = x.1 80 9) (h73 : y.1 73 (x.1 60 10).toNatClampNeg = Int32.ofNat b9) (h13 : y.1 100 13 = 0) (x5 : x.1 100 5 = 0) (hE1 : Ev.1 = []) (hE2 : Ev.2.1 = []) (fr2 : ∀ c k, ccS c k → z.1 c k = y.1 c k) (p : Pu z w9 0 s) : CGb sN V K Ev x w9 ([(34, i, b9)] ++ [(20, 0, 0)]) := by
  intro c d P he hr h
  obtain ⟨Ec, S, k, rr, ww⟩ := c
  have he : eqE Ec Ev := he
  obtain ⟨⟨p1, p2⟩, ⟨s1, s2⟩, ⟨k1, k2⟩, ⟨b1, b2⟩, ⟨c1, c2⟩, ⟨a1, a2⟩, ⟨f1, f2⟩⟩ := id h
  have hk : k = [] := k2 x5
  have b1 : (x.1 60 10).toInt = ww.1.length := b1
  have s1 : (x.1 80 9).toInt = S.length := s1
  have e1 : cds sN K ([(34, i, b9)] ++ [(20, 0, 0)]) (Ec, S, k, rr, ww) = (exV E0v (20, 0, 0), S, [], rg0, ww.1 ++ [(S.length, b9)], ww.2) := by rw [hk]; rfl
  have e2 : tPs sN V K ([(34, i, b9)] ++ [(20, 0, 0)]) Ev = [] := rfl
  have e3 : ces K V ([(34, i, b9)] ++ [(20, 0, 0)]) d = d := rfl
  have e4 : exs ([(34, i, b9)] ++ [(20, 0, 0)]) Ev = exV Ev (20, 0, 0) := rfl
  rw [e1, e2, e3, e4]
  refine ⟨?_, exV_q (v := (20, 0, 0)) ⟨by rw [hE1], by rw [hE2]⟩, rfl⟩
  obtain ⟨g1, g2, g3, g4, g5⟩ := p
  have en : (x.1 60 10).toNatClampNeg = ww.1.length := by rw [t_cl, b1]; omega
  rw [en] at fr h72 h73
  have z13 : z.1 100 13 = 0 := by rw [fr2 100 13 (Or.inr (Or.inr (Or.inl ⟨rfl, Or.inr rfl⟩)))]; exact h13
  have n13 : (z.1 100 13).toNatClampNeg = 0 := by rw [z13]; rfl
  rw [n13] at g1 g2 g3 g4
  have o : ∀ c j, ccS c j → ¬ c = 100 → ¬ c = 111 → ¬ c = 112 → w9.1 c j = y.1 c j := fun c j q q1 q2 q3 => by rw [g1 c j q (by omega) (by omega), fr2 c j q]
  have o8 : ∀ c j, 61 ≤ c → c < 90 → ¬ (c = 72 ∧ j = ww.1.length) → ¬ (c = 73 ∧ j = ww.1.length) → w9.1 c j = x.1 c j := fun c j q1 q2 q3 q4 => by rw [o c j (Or.inr (Or.inl ⟨q1, q2⟩)) (by omega) (by omega) (by omega), fr c j (Or.inr (Or.inl ⟨q1, q2⟩)) (by omega) q3 q4 (by omega)]
  have o6 : ∀ k, k ≠ 13 → k ≠ 10 → w9.1 60 k = x.1 60 k := fun k q q2 => by rw [o 60 k (Or.inl ⟨rfl, q⟩) (by omega) (by omega) (by omega), fr 60 k (Or.inl ⟨rfl, q⟩) (by omega) (by omega) (by omega) (by omega)]
  have w5 : w9.1 100 5 = z.1 100 5 := g1 100 5 (Or.inr (Or.inr (Or.inl ⟨rfl, Or.inl rfl⟩))) (by omega) (by omega)
  refine CCp_gen (Q := []) h (by rw [List.append_nil]; exact ⟨by rw [o6 3 (by decide) (by decide)]; exact p1, fun i q hi hq => by rw [o8 62 i (by decide) (by decide) (by omega) (by omega), o8 63 i (by decide) (by decide) (by omega) (by omega)]; exact p2 i q hi hq⟩) (fun c j q1 q2 => o8 c j (by omega) q2 (by omega) (by omega)) ⟨fun q => ?_, fun _ => rfl⟩ ⟨?_, fun t q hq => ?_⟩ ⟨by rw [o6 6 (by decide) (by decide)]; exact c1, fun j q hq => by rw [o8 68 j (by decide) (by decide) (by omega) (by omega), o8 69 j (by decide) (by decide) (by omega) (by omega)]; exact c2 j q hq⟩ ⟨by rw [o6 14 (by decide) (by decide)]; exact a1, fun k N hN => by rw [o8 76 k (by decide) (by decide) (by omega) (by omega), List.append_nil]; exact a2 k N hN⟩ ⟨by rw [o6 16 (by decide) (by decide)]; exact f1, fun k N hN => by rw [o8 78 k (by decide) (by decide) (by omega) (by omega), List.append_nil]; exact f2 k N hN⟩
  · rw [g2]
    exact Or.inl ⟨g3, rfl⟩
  · rw [o 60 10 (Or.inl ⟨rfl, by decide⟩) (by omega) (by omega) (by omega), h10, b1]
    show _ = ((ww.1 ++ [(S.length, b9)]).length : Int)
    rw [List.length_append]; rfl
  · have hq : (ww.1 ++ [(S.length, b9)])[t]? = some q := hq
    rcases Nat.lt_or_ge t ww.1.length with ht | ht
    · rw [List.getElem?_append_left ht] at hq
      rw [o8 72 t (by decide) (by decide) (by omega) (by omega), o8 73 t (by decide) (by decide) (by omega) (by omega)]
      exact b2 t q hq
    · rw [List.getElem?_append_right ht] at hq
      have ht0 : t - ww.1.length = 0 := by
        obtain ⟨hl, -⟩ := List.getElem?_eq_some_iff.mp hq
        simp at hl
        omega
      rw [ht0] at hq
      have eq : (S.length, b9) = q := Option.some.inj hq
      have et : t = ww.1.length := by omega
      rw [et, o 72 _ (Or.inr (Or.inl ⟨by decide, by decide⟩)) (by omega) (by omega) (by omega), o 73 _ (Or.inr (Or.inl ⟨by decide, by decide⟩)) (by omega) (by omega) (by omega), h72, h73, ← eq]
      exact ⟨s1, rfl⟩
/-- cells are added -/
theorem kf_addCells (hq : kV q9) (m v b : Int32) (hb : b = 0 ∨ b = 1) (h0 : 0 ≤ (x.1 60 6).toInt) (hm : 0 ≤ m.toInt) (h1 : (x.1 60 6).toInt + m.toInt ≤ 24) (h : ∀ y, fm (fun c k => (c = 60 ∧ k = 6) ∨ c = 68 ∨ c = 69) x y → (y.1 60 6).toInt = (x.1 60 6).toInt + m.toInt → (∀ l, CEl x l → CEl y (l ++ List.replicate m.toInt.toNat (v, decide (b = 1)))) → Fv y) : KT G q9 dd zk_X0_addCells 0 [(0, vr 60), (1, vi m), (2, vi v), (3, vi b)] [] x (rv Fv) := by
  have k24 : (24 : Int32).toInt = 24 := rfl
  have k0 : (0 : Int32).toInt = 0 := rfl
  have nb : vp_nar .boolean b = if decide (b = 1) = true then 1 else 0 := by
    rcases hb with e | e <;> (rw [e]; rfl)
  have loop : ∀ (n : Nat) (i : Int32) (y : gd), fm (fun c k => (c = 60 ∧ k = 6) ∨ c = 68 ∨ c = 69) x y → 0 ≤ i.toInt → i.toInt ≤ m.toInt → (y.1 60 6).toInt = (x.1 60 6).toInt + i.toInt → (∀ l, CEl x l → CEl y (l ++ List.replicate i.toInt.toNat (v, decide (b = 1)))) → m.toInt - i.toInt ≤ n → KT G q9 dd zk_X0_addCells 3 [(0, vr 60), (1, vi m), (2, vi v), (3, vi b), (4, vi i)] [] y (rv Fv) := by
    intro n
    induction n with
    | zero =>
      intro i y fy i0 i1 ey hl hn
      have em : i.toInt.toNat = m.toInt.toNat := by omega
      rw [em] at hl
      refine kg_X0_addCells_3 hq _ _ _ _ ⟨fun _ => rv_i (h y fy (by omega) hl), fun c => ?_⟩
      exfalso; rw [t_le] at c; omega
    | succ n ih =>
      intro i y fy i0 i1 ey hl hn
      refine kg_X0_addCells_3 hq _ _ _ _ ⟨fun c => rv_i (h y fy (by rw [t_le] at c; omega) (by
        rw [t_le] at c
        have em : i.toInt.toNat = m.toInt.toNat := by omega
        rw [em] at hl
        exact hl)), fun c => ⟨fun c2 => ?_, fun c2 => ?_⟩⟩
      · exfalso; rw [t_le] at c; rw [t_le, k24] at c2; omega
      rw [t_le] at c
      have vi9 : vp_in (y.1 60 6) 24 := by rw [vp_in_iff]; omega
      refine ⟨vi9, fun x4 e4 => ?_⟩
      have q4 : x4.1 60 6 = y.1 60 6 := by rw [e4]; (simp only [si_get, sfl_get, Nat.reduceEqDiff, eq_self, and_false, false_and, and_true, true_and, if_true, if_false, reduceIte, reduceCtorEq])
      refine ⟨by rw [q4]; exact vi9, fun x6 e6 x7 e7 => ?_⟩
      rw [q4] at e6
      have q6 : x6.1 60 6 = y.1 60 6 := by rw [e6, ← q4]; (simp only [si_get, sfl_get, Nat.reduceEqDiff, eq_self, and_false, false_and, and_true, true_and, if_true, if_false, reduceIte, reduceCtorEq])
      have q7 : x7.1 60 6 = y.1 60 6 + 1 := by rw [e7, q6]; (simp only [si_get, sfl_get, Nat.reduceEqDiff, eq_self, and_false, false_and, and_true, true_and, if_true, if_false, reduceIte, reduceCtorEq])
      have t7 : (x7.1 60 6).toInt = (y.1 60 6).toInt + 1 := by rw [q7, t_add (by show _ ≤ _ + (1 : Int); omega) (by show _ + (1 : Int) ≤ _; omega)]; rfl
      have ei : (i + 1).toInt = i.toInt + 1 := t_add (by show _ ≤ _ + (1 : Int); omega) (by show _ + (1 : Int) ≤ _; omega)
      have ei2 : (i + 1).toInt.toNat = i.toInt.toNat + 1 := by omega
      refine ih (i + 1) x7 ?_ (by omega) (by omega) (by omega) (fun l hx => ?_) (by omega)
      · rw [e7, e6, e4]; exact fm_si (fm_si (fm_si fy (Or.inr (Or.inl rfl))) (Or.inr (Or.inr rfl))) (Or.inl ⟨rfl, rfl⟩)
      · rw [ei2, List.replicate_succ', ← List.append_assoc]
        obtain ⟨l1, l2⟩ := hl l hx
        have en : (y.1 60 6).toNatClampNeg = (l ++ List.replicate i.toInt.toNat (v, decide (b = 1))).length := by rw [t_cl, l1]; omega
        rw [en] at e4 e6
        refine ⟨by rw [t7, l1, List.length_append (as := l ++ List.replicate i.toInt.toNat (v, decide (b = 1)))]; rfl, sn_get (fun j r9 hr9 => ?_) ?_⟩
        · have hj := gt_lt hr9
          have a : x7.1 68 j = y.1 68 j := by rw [e7, si_cell (by decide), e6, si_cell (by decide), e4, si_get, if_neg (by omega)]
          have b' : x7.1 69 j = y.1 69 j := by rw [e7, si_cell (by decide), e6, si_get, if_neg (by omega), e4, si_cell (by decide)]
          rw [a, b']
          exact l2 j r9 hr9
        · refine ⟨by rw [e7, si_cell (by decide), e6, si_cell (by decide), e4]; (simp only [si_get, sfl_get, Nat.reduceEqDiff, eq_self, and_false, false_and, and_true, true_and, if_true, if_false, reduceIte, reduceCtorEq]), ?_⟩
          rw [e7, si_cell (by decide), e6, ← nb]; (simp only [si_get, sfl_get, Nat.reduceEqDiff, eq_self, and_false, false_and, and_true, true_and, if_true, if_false, reduceIte, reduceCtorEq])
  refine kg_X0_addCells_0 hq _ _ _ (loop 24 0 x (fm_rf _ _) (by decide) (by rw [k0]; exact hm) (by rw [k0]; omega) (fun l hl => ?_) (by rw [k0]; omega))
  rw [k0]
  show CEl x (l ++ [])
  rw [List.append_nil]
  exact hl
end KCDF
end
section
/-! the class: definitions, and when they are refused; what is told, the counts -/
def tdS (T : gTd) (w : Nat) : gTd := T.filter (fun q => decide (q.2.1 = w))
def TBk (x : gd) (T : gTd) : Prop := ((x.1 40 6).toInt = ((tdS T 0).length : Nat) ∧ ((x.1 40 6).toInt ≤ (x.1 60 6).toInt ∧ (x.1 60 6).toInt = (nbT 0 (tdS T 0) : Nat)) ∧ ∀ (i : Nat) (q : Nat × Nat × Nat × Nat), (tdS T 0)[i]? = some q → (x.1 44 i).toNatClampNeg = q.1 ∧ (x.1 46 i).toInt = (q.2.2.1 : Nat) ∧ (x.1 45 i).toInt = (nbT 0 ((tdS T 0).take i) : Nat)) ∧ ((x.1 40 8).toInt = ((tdS T 1).length : Nat) ∧ ∀ (i : Nat) (q : Nat × Nat × Nat × Nat), (tdS T 1)[i]? = some q → (x.1 48 i).toNatClampNeg = q.1) ∧ ((x.1 40 10).toInt = ((tdS T 2).length : Nat) ∧ ∀ (i : Nat) (q : Nat × Nat × Nat × Nat), (tdS T 2)[i]? = some q → (x.1 50 i).toNatClampNeg = q.1)
def CNk (x : gd) (n : gN) : Prop := (x.1 60 6).toInt = (n.1 : Nat) ∧ (x.1 60 9).toInt = (n.2.1 : Nat) ∧ (x.1 60 10).toInt = (n.2.2.1 : Nat) ∧ (x.1 60 14).toInt = (n.2.2.2.1 : Nat) ∧ (x.1 60 16).toInt = (n.2.2.2.2 : Nat)
section KDG
variable {G : kG} {q : kP} {d : Nat} {x x0 y z xs : gd} {F : Int32 → gd → Prop} {Fv : gd → Prop} {X : String → gd → Prop} {P : Option gv → gd → Prop} {K V : Nat → Int32} {sN : Nat → Nat → Bool} {e : Nat} {Ev : gV} {Ml N : gU} {T : gTd} {n : gN}
theorem TBk_f (h : TBk x T) (g : ∀ c k, c = 40 ∨ (44 ≤ c ∧ c ≤ 51) ∨ (c = 60 ∧ k = 6) → y.1 c k = x.1 c k) : TBk y T := by
  unfold TBk at h ⊢
  have t4 : ∀ k, y.1 40 k = x.1 40 k := fun k => g 40 k (Or.inl rfl)
  have tt : ∀ c k, 44 ≤ c → c ≤ 51 → y.1 c k = x.1 c k := fun c k h1 h2 => g c k (Or.inr (Or.inl ⟨h1, h2⟩))
  have t6 : y.1 60 6 = x.1 60 6 := g 60 6 (Or.inr (Or.inr ⟨rfl, rfl⟩))
  rw [t4, t4, t4, t6]
  obtain ⟨⟨a1, a2, a3⟩, ⟨b1, b2⟩, c1, c2⟩ := h
  exact ⟨⟨a1, a2, fun i q hq => by rw [tt 44 _ (by omega) (by omega), tt 46 _ (by omega) (by omega), tt 45 _ (by omega) (by omega)]; exact a3 i q hq⟩, ⟨b1, fun i q hq => by rw [tt _ _ (by omega) (by omega)]; exact b2 i q hq⟩, c1, fun i q hq => by rw [tt _ _ (by omega) (by omega)]; exact c2 i q hq⟩
theorem TBk_e (h : TBk x T) (g : TBe x y) : TBk y T := TBk_f h (fun c k q => g c k (by unfold Tc; omega))
theorem CNk_e (h : CNk x n) (g : TBe x y) : CNk y n := by
  unfold CNk at h ⊢
  have t : ∀ k, k ≠ 3 → k ≠ 13 → y.1 60 k = x.1 60 k := fun k h1 h2 => g 60 k (Or.inr (Or.inr ⟨rfl, h1, h2⟩))
  rw [t _ (by omega) (by omega), t _ (by omega) (by omega), t _ (by omega) (by omega), t _ (by omega) (by omega), t _ (by omega) (by omega)]
  exact h
theorem tdS_y {a b c w : Nat} : tdS (T ++ [(a, w, b, c)]) w = tdS T w ++ [(a, w, b, c)] := by
  unfold tdS
  rw [List.filter_append]
  simp
theorem tdS_n {a b c v w : Nat} (h : ¬ v = w) : tdS (T ++ [(a, v, b, c)]) w = tdS T w := by
  unfold tdS
  rw [List.filter_append]
  simp [h]
theorem ap1 {α : Type} {l : List α} {a b : α} {i : Nat} (h : (l ++ [a])[i]? = some b) : (i < l.length ∧ l[i]? = some b) ∨ (i = l.length ∧ b = a) := by
  by_cases c : i < l.length
  · rw [List.getElem?_append_left c] at h
    exact Or.inl ⟨c, h⟩
  · rw [List.getElem?_append_right (by omega)] at h
    have : i - l.length = 0 := by
      obtain ⟨hl, -⟩ := List.getElem?_eq_some_iff.mp h
      simp at hl
      omega
    rw [this] at h
    exact Or.inr ⟨by omega, (Option.some.inj h).symm⟩
/-- outside a thread: a token is passed -/
theorem kh_pass (hq : kV q) (hx : 700 ≤ nn x → RX x0 X) (hB : OTb x0 x) (hR : RIw K V sN e Ev xs x Ml) (k0 : ¬ K (nn x) = 0) (k3 : ¬ K (nn x) = 3) (h : nn x < 700 → ∀ y, OTb x0 y → nx y = nx x + 1 → GS x y → nn y = nn x + 1 → RIw K V sN e Ev xs y Ml → y.1 42 (nn x) = 0 → (∀ c k, ccS c k → y.1 c k = x.1 c k) → Fv y) : KE G q (d + 7) zk_X7_pass 0 [(0, vr 100)] [] x (rv Fv) X := by
  have b0 := hB.1.1.2.1
  have c0 := nn_is b0
  refine kf_pass hq hB.2.2.2.2.2 (fun c => hx (by omega)) hB.1 (sort_n0 hR.1 hR.2.1 k0) (FR_12 hB.2.1) (fun c7 y f n S fr la _ => ?_)
  have g : GS x y := ⟨la, fm_w f (fun c k q => by unfold sSum; omega)⟩
  have ut : y.1 42 (nn x) = 0 := by rw [f 42 _ (by omega)]; exact hB.2.1
  refine h (by omega) y (OTb_on hB ?_ fr g) n g (nn_up b0 n) (RI_tok hR b0 c7 k0 k3 la n ut) ut (fun c k q => f c k (by unfold ccS at q; omega))
  unfold SU
  rw [f 60 3 (by omega)]; exact S
theorem kh_need (hq : kV q) (w kw : Int32) (hkw : kc w = kw) (hkn : ¬ kw = -1 ∧ ¬ kw = 0 ∧ ¬ kw = 3) (hw : ¬ w = 0) (hx : ¬ (K (nn x) = kw ∧ nn x < 700) → RX x0 X) (hB : OTb x0 x) (hR : RIw K V sN e Ev xs x Ml) (h : K (nn x) = kw → nn x < 700 → ∀ y, OTb x0 y → nx y = nx x + 1 → GS x y → nn y = nn x + 1 → RIw K V sN e Ev xs y Ml → y.1 42 (nn x) = 0 → (∀ c k, ccS c k → y.1 c k = x.1 c k) → Fv y) : KE G q (d + 7) zk_X7_need 0 [(0, vr 100), (1, vi w)] [] x (rv Fv) X := by
  have b0 := hB.1.1.2.1
  have c0 := nn_is b0
  have ki : x.1 23 (x.1 100 4).toNatClampNeg = w ↔ K (nn x) = kw := by
    rw [← hkw]
    exact KA_k hR.1 hR.2.1 w (by rw [hkw]; exact hkn.1)
  refine kf_need hq hB.2.2.2.2.2 w (fun c => hx (fun z => c.elim (fun c => c (ki.mpr z.1)) (fun c => absurd z.2 (by omega)))) hB.1 hw hB.2.1 (fun cw c7 y f n S fr la _ => ?_)
  have kk := ki.mp cw
  have g : GS x y := ⟨la, fm_w f (fun c k q => by unfold sSum; omega)⟩
  have ut : y.1 42 (nn x) = 0 := by rw [f 42 _ (by omega)]; exact hB.2.1
  refine h kk (by omega) y (OTb_on hB ?_ fr g) n g (nn_up b0 n) (RI_tok hR b0 c7 (by rw [kk]; exact hkn.2.1) (by rw [kk]; exact hkn.2.2) la n ut) ut (fun c k q => f c k (by unfold ccS at q; omega))
  unfold SU
  rw [f 60 3 (by omega)]; exact S
theorem kh_needFor (hq : kV q) (w u kw : Int32) (hkw : kc w = kw) (hkn : ¬ kw = -1 ∧ ¬ kw = 0 ∧ ¬ kw = 3) (hw : ¬ w = 0) (hu : ¬ u = 12) (hx : ¬ (K (nn x) = kw ∧ nn x < 700) → RX x0 X) (hB : OTb x0 x) (hA : KA K V sN e x) (hn : nn x ≤ e) (h : K (nn x) = kw → nn x < 700 → ∀ y, OTb x0 y → nx y = nx x + 1 → GS x y → nn y = nn x + 1 → KA K V sN e y → nn y ≤ e → y.1 42 (nn x) = u → tk y (x.1 100 4) → (∀ c k, ccS c k → y.1 c k = x.1 c k) → F (x.1 100 4) y) : KE G q (d + 7) zk_X7_needFor 0 [(0, vr 100), (1, vi w), (2, vi u)] [] x (ri F) X := by
  have b0 := hB.1.1.2.1
  have c0 := nn_is b0
  have ki : x.1 23 (x.1 100 4).toNatClampNeg = w ↔ K (nn x) = kw := by
    rw [← hkw]
    exact KA_k hA hn w (by rw [hkw]; exact hkn.1)
  refine kf_needFor hq hB.2.2.2.2.2 w u (fun c => hx (fun z => c.elim (fun c => c (ki.mpr z.1)) (fun c => absurd z.2 (by omega)))) hB.1 hw (fun q => absurd q hu) (fun cw c7 y f eu n S fr la _ ht => ?_)
  have kk := ki.mp cw
  have g : GS x y := ⟨la, fm_w f (fun c k q => by unfold sSum; omega)⟩
  have en := nn_up b0 n
  refine h kk (by omega) y (OTb_on hB ?_ fr g) n g en (KA_fm hA la.1) (by rw [en]; exact KA_on hA hn (by omega) (by rw [kk]; exact hkn.2.1) (by rw [kk]; exact hkn.2.2)) eu ht (fun c k q => f c k (by unfold ccS at q; omega))
  unfold SU
  rw [f 60 3 (by omega)]; exact S
theorem kh_sum (hq : kV q) (D : Int32) (L : gU) (hx : pX K true (17 - D.toNatClampNeg) (nn x) L = none → RX x0 X) (hB : OTb x0 x) (hA : KA K V sN e x) (hn : nn x ≤ e) (hD : 1 ≤ D.toInt) (hD2 : D.toInt ≤ 18) (h : ∀ r y, OTb x0 y → nx x < nx y → GS x y → ∀ N, RIw K V sN e Ev x y N → still N → pX K true (17 - D.toNatClampNeg) (nn x) L = some (nn y, L ++ N) → (Ev.2.1 = [] → CPl x y (sPs sN V K Ev N)) → r = x.1 60 3 → F r y) : KE G q (d + 9) zk_X7_sum 0 [(0, vr 100), (1, vi D)] [] x (ri F) X :=
  kf_sum hq hB.2.2.2.2.2 D L hx hB.1 hB.2.1 (fun c => absurd hB.2.2.2.2.1 c) ⟨fun _ => hB.2.2.2.2.1, fun _ => rfl⟩ ⟨hA, hn, UR_0 rfl⟩ hD hD2 (fun r y S fr la f n N hR hN hp hcp hr => h r y (OTb_on hB S fr ⟨la, f⟩) n ⟨la, f⟩ N hR hN hp (fun q => hcp (fun _ => q)) hr)
theorem kh_refuse (hq : kV q) (hx : RX x0 X) (hB : OTb x0 x) (n : Int32) (hn : ¬ n = 0 := by decide) : KE G q (d + 6) zk_X7_refuse 0 [(0, vr 100), (1, vi n)] [] x P X := kp_refuse hq n (RB_at hB.1.1) hB.2.2.2.2.2 hx hn
/-- a cell's start value -/
theorem kh_startValue (hq : kV q) (L : gU) {W : gOp} (hx : W = none → RX x0 X) (eW : W = pCv K (nn x, L)) (hB : OTb x0 x) (hA : KA K V sN e x) (hn : nn x ≤ e) (h : ∀ r y, OTb x0 y → nx x ≤ nx y → GS x y → ∀ N, RIw K V sN e Ev x y N → still N → (∀ v ∈ N, ¬ (31 ≤ v.1 ∧ v.1 ≤ 36)) → W = some (nn y, L ++ N) → ((∀ c, ces K V N c = (c.1, r, c.2.2)) ∧ (∀ c, cds sN K N c = c) ∧ tPs sN V K N Ev = []) → (∀ c k, ccS c k → y.1 c k = x.1 c k) → F r y) : KE G q (d + 8) zk_X7_startValue 0 [(0, vr 100)] [] x (ri F) X := by
  have hR0 : RIw K V sN e Ev x x [] := ⟨hA, hn, UR_0 rfl⟩
  have i50 : x.1 23 (x.1 100 4).toNatClampNeg = 10 ↔ K (nn x) = 50 := KA_k hA hn 10 (by decide)
  have p38 : ∀ (s : Int32) (y : gd) (v : Nat), ((s = 0 ∧ v = 80) ∨ (¬ s = 0 ∧ v = 81)) → (∀ c k, ccS c k → y.1 c k = x.1 c k) → OTb x0 y → GS x y → RIw K V sN e Ev x y [] → dull (v, nn y, 0) → still [(v, nn y, 0)] → ¬ (31 ≤ v ∧ v ≤ 36) → W = (if K (nn y) = 2 ∧ nn y < 700 then some (nn y + 1, L ++ [(v, nn y, 0)]) else none) → KE G q (d + 8) zk_X7_startValue 38 [(0, vr 100), (1, vi s)] [] y (ri F) X := by
    intro s y v hsv hcy hBy gy hRy hv hst hv3 hWy
    -- no told
    have nt : ∀ w ∈ ([] ++ [(v, nn y, 0)] : gU), ¬ (31 ≤ w.1 ∧ w.1 ≤ 36) := fun w hw => by rw [List.mem_singleton.mp hw]; exact hv3
    refine kg_X7_startValue_38 hq _ (kh_needFor hq 3 0 2 (by decide) (by decide) (by decide) (by decide) (fun no => hx (by rw [hWy, if_neg no])) hBy hRy.1 hRy.2.1 (fun kk c7 z hBz nz gz en hAz hnz eu ht hcz => ?_))
    have ln := gy.1.2.1
    have by0 := hBy.1.1.2.1
    have hRz : RIw K V sN e Ev x z ([] ++ [(v, nn y, 0)]) := RI_use hRy by0 gz.1 hAz hnz en (HAs_one.mpr (HA_dull hv)) (fun q => absurd eu q)
    rw [if_pos ⟨kk, c7⟩, ← en] at hWy
    have v27 : z.1 27 (y.1 100 4).toNatClampNeg = V (nn y) := hAz.2.1 _ hRy.2.1 kk
    have hcx : ∀ c k, ccS c k → z.1 c k = x.1 c k := fun c k q => (hcz c k q).trans (hcy c k q)
    refine ⟨fun c0 => ⟨RB_at hBy.1.1, ri_i (h _ z hBz (by omega) (GS_tr gy gz) _ hRz hst nt hWy ?_ hcx)⟩, fun c0 => ⟨RB_at hBy.1.1, ri_i (h _ z hBz (by omega) (GS_tr gy gz) _ hRz hst nt hWy ?_ hcx)⟩⟩
    · have ev : v = 80 := by
        rcases hsv with ⟨-, e⟩ | ⟨e, -⟩
        · exact e
        · exact absurd c0 e
      rw [v27, ev]
      exact ⟨fun c => rfl, fun c => rfl, rfl⟩
    · have ev : v = 81 := by
        rcases hsv with ⟨e, -⟩ | ⟨-, e⟩
        · exact absurd e c0
        · exact e
      rw [v27, ev]
      exact ⟨fun c => rfl, fun c => rfl, rfl⟩
  refine kg_X7_startValue_0 hq (kp_sort hq hB.1.1 ⟨fun c => ?_, fun c => ri_i (h _ x hB (Int.le_refl _) GS_rf [(82, 0, 0)] (RI_dull hR0 (dull_k (by decide))) (stl_k (by decide)) (fun w hw => by rw [List.mem_singleton.mp hw]; decide) ?_ ⟨fun c => rfl, fun c => rfl, rfl⟩ (fun c k _ => rfl))⟩)
  · have k50 := i50.mp c
    refine kh_pass (xs := x) (Ml := []) (Ev := Ev) hq (fun c7 => hx (by rw [eW]; unfold pCv; rw [if_pos k50, if_neg (show ¬ nn x < 700 by omega)])) hB hR0 (by rw [k50]; decide) (by rw [k50]; decide) (fun c7 y hBy ny gy eny hRy u0 hcy => ?_)
    have i58 : y.1 23 (y.1 100 4).toNatClampNeg = 18 ↔ K (nn y) = 58 := KA_k hRy.1 hRy.2.1 18 (by decide)
    have hW1 : W = if K (nn y) = 58 then (if nn y < 700 ∧ K (nn y + 1) = 2 ∧ nn y + 1 < 700 then some (nn y + 2, L ++ [(81, nn y + 1, 0)]) else none) else (if K (nn y) = 2 ∧ nn y < 700 then some (nn y + 1, L ++ [(80, nn y, 0)]) else none) := by
      rw [eW, eny]; unfold pCv; rw [if_pos k50, if_pos c7]
    refine kp_sort hq hBy.1.1 ⟨fun c2 => ?_, fun c2 => ?_⟩
    · refine kg_X7_startValue_29 hq _ ⟨fun _ => p38 _ y 80 (Or.inl ⟨rfl, rfl⟩) hcy hBy gy hRy (dull_k (by decide)) (stl_k (by decide)) (by decide) (by rw [hW1, if_neg (fun z => c2 (i58.mpr z))]), fun q => absurd rfl q⟩
    · have k58 := i58.mp c2
      rw [if_pos k58] at hW1
      refine kg_X7_startValue_29 hq _ ⟨fun q => absurd q (by decide), fun _ => kh_pass hq (fun c8 => hx (by rw [hW1, if_neg (fun z => absurd z.1 (by omega))])) hBy hRy (by rw [k58]; decide) (by rw [k58]; decide) (fun c8 z hBz nz gz enz hRz _ hcz => p38 _ z 81 (Or.inr ⟨by decide, rfl⟩) (fun c k q => (hcz c k q).trans (hcy c k q)) hBz (GS_tr gy gz) hRz (dull_k (by decide)) (stl_k (by decide)) (by decide) ?_)⟩
      rw [hW1, enz]
      by_cases cc : K (nn y + 1) = 2 ∧ nn y + 1 < 700
      · rw [if_pos ⟨c8, cc⟩, if_pos cc]
      · rw [if_neg (fun z => cc z.2), if_neg cc]
  · rw [eW]; unfold pCv; rw [if_neg (fun z => c (i50.mpr z))]
/-- the row ahead: what its size will be -/
theorem kf_rowAhead (hq : kV q) (hR : RB x) (hA : KA K V sN e x) (hn : nn x ≤ e) (hk : K (nn x) = 1) (h7 : nn x < 700) (h : ∀ r : Int32, 0 ≤ r.toInt → r.toInt ≤ 8 → ((r = 0 ∧ ¬ K (nn x + 1) = 65) ∨ (0 < r.toInt ∧ K (nn x + 1) = 65 ∧ (nn x + 1 < 700 → r.toInt = (prz K V (nn x + 2) : Nat)))) → F r x) : KT G q (d + 1) zk_X7_rowAhead 0 [(0, vr 100)] [] x (ri F) := by
  have k2 : (2 : Int32).toInt = 2 := rfl
  have k1 : (1 : Int32).toInt = 1 := rfl
  have k8 : (8 : Int32).toInt = 8 := rfl
  have k700 : (700 : Int32).toInt = 700 := rfl
  have b1 := hR.2.1
  have b2 := hR.2.2.1
  have cx := nn_is b1
  have e1 := KA_on hA hn h7 (by rw [hk]; decide) (by rw [hk]; decide)
  have i65 : x.1 23 ((x.1 100 4).toNatClampNeg + 1) = 25 ↔ K (nn x + 1) = 65 := KA_k hA e1 25 (by decide)
  have e2 : (x.1 100 4 + 2).toInt = nx x + 2 := by rw [t_add (by rw [k2]; unfold nx at *; omega) (by rw [k2]; unfold nx at *; omega), k2]
  have e2c : (x.1 100 4 + 2).toNatClampNeg = nn x + 2 := by rw [t_cl, e2]; omega
  have one : ∀ (v : Int32), v = 1 → K (nn x + 1) = 65 → (nn x + 1 < 700 → prz K V (nn x + 2) = 1) → F v x := fun v hv c hp => h v (by rw [hv]; decide) (by rw [hv]; decide) (Or.inr ⟨by rw [hv]; decide, c, fun c7 => by rw [hv, hp c7]; rfl⟩)
  refine kg_X7_rowAhead_0 hq (kp_sortBehind hq hR ⟨fun c => ?_, fun c => ri_i (h _ (by decide) (by decide) (Or.inl ⟨rfl, fun z => c (i65.mpr z)⟩))⟩)
  have k65 := i65.mp c
  have on2 : nn x + 1 < 700 → nn x + 2 ≤ e := fun c7 => KA_on hA e1 c7 (by rw [k65]; decide) (by rw [k65]; decide)
  refine ⟨fun c7 => ri_i (one _ rfl k65 (fun c8 => ?_)), fun c7 => ?_⟩
  · exfalso; rw [t_lt, k700, e2] at c7; omega
  rw [t_lt, k700, e2] at c7
  have v : vp_in (x.1 100 4 + 2) 702 := by rw [vp_in_iff]; omega
  rw [e2c]
  refine ⟨v, fun c3 => ⟨v, ?_⟩, fun c3 => ri_i (one _ rfl k65 (fun c8 => ?_))⟩
  · have pz : nn x + 1 < 700 → K (nn x + 2) = 2 ∧ x.1 27 (nn x + 2) = V (nn x + 2) := fun c8 => by
      have kk := (KA_k hA (on2 c8) 3 (by decide)).mp c3
      have kk : K (nn x + 2) = 2 := kk
      exact ⟨kk, hA.2.1 _ (on2 c8) kk⟩
    have no : ¬ (1 ≤ (x.1 27 (nn x + 2)).toInt ∧ (x.1 27 (nn x + 2)).toInt ≤ 8) → nn x + 1 < 700 → prz K V (nn x + 2) = 1 := fun z c8 => by
      unfold prz
      rw [if_neg (fun w => z ?_)]
      obtain ⟨w0, w1, w2⟩ := w
      rw [t_le, k1] at w1
      rw [t_le, k8] at w2
      rw [(pz c8).2]
      exact ⟨w1, w2⟩
    refine kg_X6_isRowSize_0 hq _ ⟨fun c1 => ri_i ⟨fun _ => ri_i (one _ rfl k65 (no ?_)), fun q => absurd rfl q⟩, fun c1 => ⟨fun c8 => ri_i ⟨fun _ => ri_i (one _ rfl k65 (no ?_)), fun q => absurd rfl q⟩, fun c8 => ri_i ⟨fun q => absurd q (by decide), fun _ => ⟨v, ?_⟩⟩⟩⟩
    · rw [t_lt, k1] at c1; omega
    · rw [t_lt, k8] at c8; omega
    · rw [t_lt, k1] at c1
      rw [t_lt, k8] at c8
      refine ri_i (h _ (by omega) (by omega) (Or.inr ⟨by omega, k65, fun c9 => ?_⟩))
      obtain ⟨z1, z2⟩ := pz c9
      unfold prz
      rw [if_pos ⟨z1, by rw [t_le, k1, ← z2]; omega, by rw [t_le, k8, ← z2]; omega⟩, ← z2, t_cl]
      omega
  · unfold prz
    rw [if_neg (fun w => c3 ((KA_k hA (on2 c8) 3 (by decide)).mpr w.1))]
theorem kf_tellCell (hq : kV q) (t f9 r : Int32) (hc : 0 ≤ (x.1 40 6).toInt ∧ (x.1 40 6).toInt < 24) (h : ∀ y, fm (fun c k => (c = 40 ∧ k = 6) ∨ (44 ≤ c ∧ c ≤ 46 ∧ k = (x.1 40 6).toNatClampNeg)) x y → (y.1 40 6).toInt = (x.1 40 6).toInt + 1 → y.1 44 (x.1 40 6).toNatClampNeg = t → y.1 45 (x.1 40 6).toNatClampNeg = f9 → y.1 46 (x.1 40 6).toNatClampNeg = r → Fv y) : KT G q d zk_X6_tellCell 0 [(0, vr 40), (1, vi t), (2, vi f9), (3, vi r)] [] x (rv Fv) := by
  have k24 : (24 : Int32).toInt = 24 := rfl
  refine kg_X6_tellCell_0 hq _ _ _ ⟨fun c => ?_, fun c => ?_⟩
  · exfalso; rw [t_le, k24] at c; omega
  have v : vp_in (x.1 40 6) 24 := by rw [vp_in_iff]; omega
  refine ⟨v, fun x3 e3 => ?_⟩
  have q3 : x3.1 40 6 = x.1 40 6 := by rw [e3]; (simp only [si_get, sfl_get, Nat.reduceEqDiff, eq_self, and_false, false_and, and_true, true_and, if_true, if_false, reduceIte, reduceCtorEq])
  refine ⟨by rw [q3]; exact v, fun x5 e5 => ?_⟩
  rw [q3] at e5
  have q5 : x5.1 40 6 = x.1 40 6 := by rw [e5, ← q3]; (simp only [si_get, sfl_get, Nat.reduceEqDiff, eq_self, and_false, false_and, and_true, true_and, if_true, if_false, reduceIte, reduceCtorEq])
  refine ⟨by rw [q5]; exact v, fun x7 e7 z ez => rv_i ?_⟩
  rw [q5] at e7
  have q7 : x7.1 40 6 = x.1 40 6 := by rw [e7, ← q5]; (simp only [si_get, sfl_get, Nat.reduceEqDiff, eq_self, and_false, false_and, and_true, true_and, if_true, if_false, reduceIte, reduceCtorEq])
  rw [q7] at ez
  have z6 : (z.1 40 6).toInt = (x.1 40 6).toInt + 1 := by
    have : z.1 40 6 = x.1 40 6 + 1 := by rw [ez]; (simp only [si_get, sfl_get, Nat.reduceEqDiff, eq_self, and_false, false_and, and_true, true_and, if_true, if_false, reduceIte, reduceCtorEq])
    rw [this, t_add (by show _ ≤ _ + (1 : Int); omega) (by show _ + (1 : Int) ≤ _; omega)]; rfl
  refine h z ?_ z6 ?_ ?_ ?_
  · rw [ez, e7, e5, e3]; exact fm_si (fm_si (fm_si (fm_si (fm_rf _ _) (Or.inr ⟨by omega, by omega, rfl⟩)) (Or.inr ⟨by omega, by omega, rfl⟩)) (Or.inr ⟨by omega, by omega, rfl⟩)) (Or.inl ⟨rfl, rfl⟩)
  · rw [ez, e7, e5, e3]; (simp only [si_get, sfl_get, Nat.reduceEqDiff, eq_self, and_false, false_and, and_true, true_and, if_true, if_false, reduceIte, reduceCtorEq])
  · rw [ez, e7, e5, e3]; (simp only [si_get, sfl_get, Nat.reduceEqDiff, eq_self, and_false, false_and, and_true, true_and, if_true, if_false, reduceIte, reduceCtorEq])
  · rw [ez, e7, e5, e3]; (simp only [si_get, sfl_get, Nat.reduceEqDiff, eq_self, and_false, false_and, and_true, true_and, if_true, if_false, reduceIte, reduceCtorEq])
end KDG
end
section
/-! the class: cells are told -/
section KDH
variable {G : kG} {q : kP} {d : Nat} {x x0 y z xs : gd} {F : Int32 → gd → Prop} {Fv : gd → Prop} {X : String → gd → Prop} {P : Option gv → gd → Prop} {K V : Nat → Int32} {sN : Nat → Nat → Bool} {e : Nat} {Ev : gV} {Ml N : gU} {T : gTd} {n : gN} {W : gD}
theorem HA_31 {U : Nat → Int32} {n a b : Nat} : HAw sN U n Ev (31, a, b) ↔ a < n ∧ U a = 1 := by unfold HAw; simp
theorem HA_32 {U : Nat → Int32} {n a b : Nat} : HAw sN U n Ev (32, a, b) ↔ (a < n ∧ U a = 1) ∧ b < n ∧ U b = 11 := by unfold HAw; simp
theorem HA_33 {U : Nat → Int32} {n a b : Nat} : HAw sN U n Ev (33, a, b) ↔ a < n ∧ U a = 1 := by unfold HAw; simp
theorem HA_34 {U : Nat → Int32} {n a b : Nat} : HAw sN U n Ev (34, a, b) ↔ a < n ∧ U a = 1 := by unfold HAw; simp
theorem HB_t {k a b : Nat} (h : k = 31 ∨ k = 32 ∨ k = 33 ∨ k = 34) : HB sN Ev (k, a, b) a 1 := Or.inr (Or.inr (Or.inr (Or.inr (Or.inr (Or.inr (Or.inr (Or.inr (Or.inr (Or.inr (Or.inr (Or.inr (Or.inr (Or.inl ⟨h, rfl, rfl⟩)))))))))))))
theorem HB_32w {a b : Nat} : HB sN Ev (32, a, b) b 11 := Or.inr (Or.inr (Or.inr (Or.inr (Or.inr (Or.inr (Or.inr (Or.inr (Or.inr (Or.inr (Or.inr (Or.inr (Or.inr (Or.inr ⟨rfl, rfl, rfl⟩)))))))))))))
theorem te1_ns {N : gU} (h : ∀ v ∈ N, ¬ (31 ≤ v.1 ∧ v.1 ≤ 36)) : N.filterMap (te1 K V) = [] := List.filterMap_eq_nil_iff.mpr (fun v hv => te1_no (h v hv))
theorem pCl_2 {n i t : Nat} {L : gU} (h : K (t - 1) = 17 ∧ t - 1 < 700) : pCl K V n i t L = if (K t = 1 ∧ t < 700) ∧ n < 24 then (if K (t + 1) = 65 then (if t + 1 < 700 ∧ n + prz K V (t + 2) ≤ 24 ∧ (K (t + 2) = 2 ∧ t + 2 < 700) ∧ K (t + 3) = 66 ∧ t + 3 < 700 then ((pCv K (t + 4, L ++ [(32, t, t + 2)])).bind (pt K 67)).bind (fun q => some (n + prz K V (t + 2), q.1, q.2 ++ [(83, i, t)])) else none) else ((pCv K (t + 1, L ++ [(31, t, 0)])).bind (pt K 67)).bind (fun q => some (n + 1, q.1, q.2 ++ [(83, i, t)]))) else none := by
  unfold pCl
  by_cases c : (K t = 1 ∧ t < 700) ∧ n < 24
  · rw [if_pos ⟨h, c⟩, if_pos c]
  · rw [if_neg (fun z => c z.2), if_neg c]
/-- one cell, or a row of them, is told -/
theorem TBk_cell {u v : gd} {t : Int32} {b c9 : Nat} (h : TBk x T) (fu : fm (fun c k => (c = 40 ∧ k = 6) ∨ (44 ≤ c ∧ c ≤ 46 ∧ k = (x.1 40 6).toNatClampNeg)) x u) (cu : (u.1 40 6).toInt = (x.1 40 6).toInt + 1) (e4 : u.1 44 (x.1 40 6).toNatClampNeg = t) (e6 : (u.1 46 (x.1 40 6).toNatClampNeg).toInt = (b : Nat)) (fv : fm (fun c k => (c = 60 ∧ k = 6) ∨ c = 68 ∨ c = 69) u v) (e5 : u.1 45 (x.1 40 6).toNatClampNeg = x.1 60 6) (ev : (v.1 60 6).toInt = (x.1 60 6).toInt + (max b 1 : Nat)) : TBk v (T ++ [(t.toNatClampNeg, 0, b, c9)]) := by
  obtain ⟨⟨a1, ⟨a2, a4⟩, a3⟩, ⟨b1, b2⟩, c1, c2⟩ := h
  have m1 : 1 ≤ max b 1 := Nat.le_max_right _ _
  have eN : (x.1 40 6).toNatClampNeg = (tdS T 0).length := by rw [t_cl, a1]; rfl
  unfold TBk
  rw [tdS_y, tdS_n (show ¬ 0 = 1 by decide), tdS_n (show ¬ 0 = 2 by decide), fv 40 6 (by omega), fv 40 8 (by omega), fv 40 10 (by omega), fu 40 8 (by omega), fu 40 10 (by omega)]
  refine ⟨⟨by rw [List.length_append, List.length_singleton]; omega, ⟨by omega, ?_⟩, fun i q hq => ?_⟩, ⟨b1, fun i q hq => by rw [fv 48 i (by omega), fu 48 i (by omega)]; exact b2 i q hq⟩, c1, fun i q hq => by rw [fv 50 i (by omega), fu 50 i (by omega)]; exact c2 i q hq⟩
  · rw [nbT_app, ev, a4]
    show _ = ((nbT 0 (tdS T 0) + (max b 1 + 0) : Nat) : Int)
    omega
  rw [fv 44 i (by omega), fv 46 i (by omega), fv 45 i (by omega)]
  rcases ap1 hq with ⟨hi, hq⟩ | ⟨hi, hq⟩
  · rw [fu 44 i (by omega), fu 46 i (by omega), fu 45 i (by omega), List.take_append_of_le_length (Nat.le_of_lt hi)]
    exact a3 i q hq
  · rw [hi, List.take_left, ← eN, e4, hq, e5]
    exact ⟨rfl, e6, a4⟩
theorem kh_cellDefinition (hq : kV q) (L : gU) (hx : W = none → RX x0 X) (eW : W = pD K V n (nn x) L) (hk : K (nn x) = 34 ∨ K (nn x) = 17) (hA : KA K V sN e x) (hn0 : nn x ≤ e) (hTb : TBk x T) (hCn : CNk x n) (hI : OT x0 x) (h : ∀ y N n', OT x0 y → nx x < nx y → RIw K V sN e Ev x y N → still N → W = some (n', nn y, L ++ N) → TBk y (T ++ N.filterMap (te1 K V)) → CNk y n' → La x y → CGo sN V K Ev x y N → Fv y) : KE G q (d + 9) zk_X7_cellDefinition 0 [(0, vr 100)] [] x (rv Fv) X := by
  have k24 : (24 : Int32).toInt = 24 := rfl
  have k0 : (0 : Int32).toInt = 0 := rfl
  have k1 : (1 : Int32).toInt = 1 := rfl
  have hB := OT_b hI
  have acc := hI.2.2.2.2.2.2
  have bx0 := hB.1.1.2.1
  have hR0 : RIw K V sN e Ev x x [] := ⟨hA, hn0, UR_0 rfl⟩
  obtain ⟨Q, eQ⟩ : ∃ Q : Nat × Nat × gU → gD, Q = fun q => some ((q.1, n.2), q.2) := ⟨_, rfl⟩
  have p109 : ∀ (su row many t : Int32) (y : gd) (N1 : gU) (rn wn : Nat), (su = 0 ∨ su = 1) → (su = 1 ↔ K (nn x) = 34) → (∀ c k, ccS c k → y.1 c k = x.1 c k) → (many.toInt = row.toInt ∨ many.toInt = 1) → ((∀ d, ces K V N1 d = (many.toInt.toNat, d.2)) ∧ (∀ c, cds sN K N1 c = c) ∧ tPs sN V K N1 Ev = []) → OTb x0 y → GS x y → nx x < nx y → tk y t → 0 ≤ row.toInt → row.toInt ≤ 8 → 1 ≤ many.toInt → row.toInt ≤ many.toInt → (y.1 60 6).toInt + many.toInt ≤ 24 → RIw K V sN e Ev x y N1 → still N1 → N1.filterMap (te1 K V) = [(t.toNatClampNeg, 0, rn, wn)] → row.toInt = (rn : Nat) → W = (((pCv K (nn y, L ++ N1)).bind (pt K 67)).bind (fun q => some (n.1 + many.toInt.toNat, q.1, q.2 ++ [(83, nn x, t.toNatClampNeg)]))).bind Q → KE G q (d + 9) zk_X7_cellDefinition 109 [(0, vr 100), (1, vi su), (2, vi row), (3, vi many), (4, vi t)] [] y (rv Fv) X := by
    intro su row many t y N1 rn wn hs01 hs34 hcy hmr hN1c hBy gy ny ht r0 r8 m1 rm hc hRy hN1 hte hrn hWy
    obtain ⟨W1, eW1⟩ : ∃ W1, W1 = pCv K (nn y, L ++ N1) := ⟨_, rfl⟩
    rw [← eW1] at hWy
    refine kg_X7_cellDefinition_109 hq _ _ _ _ (kh_startValue (Ev := Ev) hq (L ++ N1) (fun no => hx (by rw [hWy, no]; rfl)) eW1 hBy hRy.1 hRy.2.1 (fun v z hBz nz gz N2 hRz hN2 hnt hWz hst hcz => ?_))
    have by0 := hBy.1.1.2.1
    have hRxz := RI_app by0 hN1 hRy gz.1 hRz
    rw [hWz] at hWy
    refine kh_need hq 27 67 (by decide) (by decide) (by decide) (fun no => hx (by rw [hWy]; show ((pt K 67 (nn z, L ++ N1 ++ N2)).bind _).bind Q = none; rw [pt_no no]; rfl)) hBz hRxz (fun kk c7 w hBw nw gw enw hRw _ hcw => ?_)
    have hWw : W = some ((n.1 + many.toInt.toNat, n.2), nn w, L ++ (N1 ++ N2 ++ [(83, nn x, t.toNatClampNeg)])) := by
      rw [hWy]
      show ((pt K 67 (nn z, L ++ N1 ++ N2)).bind _).bind Q = _
      rw [pt_yes kk c7, enw, eQ]
      show some ((n.1 + many.toInt.toNat, n.2), nn z + 1, L ++ N1 ++ N2 ++ [(83, nn x, t.toNatClampNeg)]) = _
      rw [List.append_assoc L, List.append_assoc L]
    have gg := GS_tr gz gw
    have g3 := GS_tr gy gg
    have hNw := hBw.2.2.1.2.1
    have hCw := hBw.2.2.1.2.2.1
    have w6 : w.1 60 6 = y.1 60 6 := GS_at gg _ _ (by unfold sSum; omega)
    have hTw : TBk w T := TBk_e hTb (TBe_GS g3)
    have hCnw : CNk w n := CNk_e hCn (TBe_GS g3)
    have c46 : (w.1 40 6).toInt < 24 := by
      have := hTw.1.2.1.1
      rw [w6] at this
      omega
    refine kf_tellCell hq _ _ _ ⟨hNw.1.1, c46⟩ (fun u fu cu u44 u45 u46 => kf_addCells hq _ _ _ hs01 ?_ (by omega) ?_ (fun v9 fv ev hl9 => rv_i (h v9 (N1 ++ N2 ++ [(83, nn x, t.toNatClampNeg)]) (n.1 + many.toInt.toNat, n.2) (OT_of (OTb_nm hBw ?_ ?_ ?_ ?_) ?_) ?_ ?_ ?_ ?_ ?_ ?_ ?_ ?_)))
    · rw [fu 60 6 (by omega), w6]; have := hCw.1.1; rw [w6] at this; exact this
    · rw [fu 60 6 (by omega), w6]; exact hc
    · exact fm_tr (fm_w fu (fun c k q => by omega)) (fm_w fv (fun c k q => by omega))
    · rw [fu 60 6 (by omega)] at ev
      have eN : (((w.1 40 6).toNatClampNeg : Nat) : Int) = (w.1 40 6).toInt := by
        have := hNw.1.1
        rw [t_cl]; omega
      have tkk : ∀ a, tk w a → tk v9 a := fun a ha => by unfold tk at ha ⊢; rw [fv 20 7 (by omega), fu 20 7 (by omega)]; exact ha
      have htw : tk w t := by unfold tk at ht ⊢; rw [GS_at gg 20 7 (by unfold sSum; omega)]; exact ht
      unfold NM
      rw [fv 40 6 (by omega), fv 40 8 (by omega), fu 40 8 (by omega), fv 40 10 (by omega), fu 40 10 (by omega)]
      refine ⟨⟨by have := hNw.1.1; omega, by omega⟩, hNw.2.1, hNw.2.2.1, fun i hi => ?_, fun i hi => ?_, fun i hi => ?_⟩
      · rw [fv 44 i (by omega), fv 45 i (by omega), fv 46 i (by omega)]
        by_cases hi2 : i = (w.1 40 6).toNatClampNeg
        · rw [hi2, u44, u45, u46]
          have := hCw.1.1
          exact ⟨tkk _ htw, this, r0, r8, by omega, by omega⟩
        · rw [fu 44 i (by omega), fu 45 i (by omega), fu 46 i (by omega)]
          obtain ⟨p1, p2, p3, p4, p5, p6⟩ := hNw.2.2.2.1 i (by omega)
          exact ⟨tkk _ p1, p2, p3, p4, by omega, by omega⟩
      · rw [fv 48 i (by omega), fu 48 i (by omega)]; exact tkk _ (hNw.2.2.2.2.1 i hi)
      · rw [fv 50 i (by omega), fu 50 i (by omega)]; exact tkk _ (hNw.2.2.2.2.2 i hi)
    · have z5 : v9.1 100 5 = w.1 100 5 := by rw [fv 100 5 (by omega), fu 100 5 (by omega)]
      have g : ∀ k, k ≠ 6 → v9.1 60 k = w.1 60 k := fun k hk => by rw [fv 60 k (by omega), fu 60 k (by omega)]
      unfold CD at hCw ⊢
      rw [g 9 (by omega), g 10 (by omega), g 14 (by omega), g 16 (by omega), g 13 (by omega), fv 40 8 (by omega), fu 40 8 (by omega), fv 40 10 (by omega), fu 40 10 (by omega)]
      rw [fu 60 6 (by omega), w6] at ev
      refine ⟨by have := hCw.1.1; rw [w6] at this; omega, hCw.2.1, hCw.2.2.1, hCw.2.2.2.1, hCw.2.2.2.2.1, hCw.2.2.2.2.2.1, fun c => absurd (by rw [z5]; exact hBw.2.2.2.2.1) c⟩
    · have hTw := hBw.2.2.1.2.2.2.2
      unfold TS ssm at hTw ⊢
      rw [fv 60 10 (by omega), fu 60 10 (by omega), fv 80 9 (by omega), fu 80 9 (by omega), fv 100 5 (by omega), fu 100 5 (by omega), fv 81 _ (by omega), fu 81 _ (by omega)]
      refine ⟨fun i hi => ?_, hTw.2⟩
      rw [fv 72 i (by omega), fu 72 i (by omega)]; exact hTw.1 i hi
    · have e1 : ssm v9 = ssm w := by unfold ssm; rw [fv 80 9 (by omega), fu 80 9 (by omega)]
      have e2 : nx v9 = nx w := by unfold nx; rw [fv 100 4 (by omega), fu 100 4 (by omega)]
      rw [e1, e2, GS_sm gw, GS_sm gz, GS_sm gy]
      omega
    · have e2 : nx v9 = nx w := by unfold nx; rw [fv 100 4 (by omega), fu 100 4 (by omega)]
      omega
    · exact RI_dull (RI_st hRw (by rw [fv 100 4 (by omega), fu 100 4 (by omega)]) (fun j => by rw [fv 42 j (by omega), fu 42 j (by omega)]) (fun c k q1 q2 => by rw [fv c k (by omega), fu c k (by omega)])) (dull_k (by decide))
    · exact still_app (still_app hN1 hN2) (stl_k (by decide))
    · have en9 : nn v9 = nn w := by unfold nn; rw [fv 100 4 (by omega), fu 100 4 (by omega)]
      rw [en9]; exact hWw
    · rw [List.filterMap_append, List.filterMap_append, hte, te1_ns hnt, te1_ns (N := [(83, nn x, t.toNatClampNeg)]) (fun v hv => by rw [List.mem_singleton.mp hv]; exact (show ¬ (31 ≤ 83 ∧ 83 ≤ 36) by decide)), List.append_nil, List.append_nil]
      refine TBk_cell hTw fu cu u44 (by rw [u46]; exact hrn) fv u45 ?_
      rw [fu 60 6 (by omega)] at ev
      omega
    · rw [fu 60 6 (by omega)] at ev
      obtain ⟨n1, n2, n3, n4, n5⟩ := hCnw
      have g : ∀ k, k ≠ 6 → v9.1 60 k = w.1 60 k := fun k hk => by rw [fv 60 k (by omega), fu 60 k (by omega)]
      refine ⟨?_, ?_, ?_, ?_, ?_⟩
      · show (v9.1 60 6).toInt = ((n.1 + many.toInt.toNat : Nat) : Int)
        omega
      · rw [g 9 (by omega)]; exact n2
      · rw [g 10 (by omega)]; exact n3
      · rw [g 14 (by omega)]; exact n4
      · rw [g 16 (by omega)]; exact n5
    · exact La_tr g3.1 ⟨fun c k q1 q2 => by rw [fv c k (by omega), fu c k (by omega)], by unfold nx; rw [fv 100 4 (by omega), fu 100 4 (by omega)]; exact Int.le_refl _, fun j _ => by rw [fv 42 j (by omega), fu 42 j (by omega)]⟩
    · have hcu : ∀ c k, ccS c k → u.1 c k = x.1 c k := fun c k q => (fu c k (by unfold ccS at q; omega)).trans ((hcw c k q).trans ((hcz c k q).trans (hcy c k q)))
      have e83c : ∀ c, cds sN K [(83, nn x, t.toNatClampNeg)] c = c := fun c => rfl
      have e83t : tPs sN V K [(83, nn x, t.toNatClampNeg)] Ev = [] := rfl
      refine CGo_cell (fun c k q q1 q2 q3 => (fv c k (by omega)).trans (hcu c k q)) (fun c => by rw [cds_app, cds_app, hN1c.2.1, hst.2.1, e83c]) (by rw [tPs_app, tPs_app, hN1c.2.2, exs_still hN1, hst.2.2, exs_still (still_app hN1 hN2), e83t]; rfl) (still_app (still_app hN1 hN2) (stl_k (by decide))) (fun d hd => ?_)
      have eb : decide (su = 1) = decide (K (nn x) = 34) := decide_eq_decide.mpr hs34
      have ec : (ces K V (N1 ++ N2 ++ [(83, nn x, t.toNatClampNeg)]) d).2.2 = d.2.2 ++ List.replicate many.toInt.toNat (v, decide (su = 1)) := by
        rw [ces_app, ces_app, hN1c.1, hst.1, eb]; rfl
      rw [ec]
      exact hl9 d.2.2 ⟨by rw [hcu 60 6 (Or.inl ⟨rfl, by decide⟩)]; exact hd.1, fun j q hq => by rw [hcu 68 j (Or.inr (Or.inl ⟨by decide, by decide⟩)), hcu 69 j (Or.inr (Or.inl ⟨by decide, by decide⟩))]; exact hd.2 j q hq⟩
  have p79 : ∀ (su row many : Int32) (y : gd), (su = 0 ∨ su = 1) → (su = 1 ↔ K (nn x) = 34) → (∀ c k, ccS c k → y.1 c k = x.1 c k) → OTb x0 y → GS x y → RIw K V sN e Ev x y [] → 0 ≤ row.toInt → row.toInt ≤ 8 → 1 ≤ many.toInt → row.toInt ≤ many.toInt → (many.toInt = row.toInt ∨ many.toInt = 1) → (K (nn y) = 1 → nn y < 700 → (row = 0 ∧ ¬ K (nn y + 1) = 65) ∨ (0 < row.toInt ∧ K (nn y + 1) = 65 ∧ (nn y + 1 < 700 → row.toInt = (prz K V (nn y + 2) : Nat)))) → (K (nn y) = 1 → (y.1 60 6).toInt + many.toInt ≤ 24) → W = (if (K (nn y) = 1 ∧ nn y < 700) ∧ n.1 < 24 then (if K (nn y + 1) = 65 then (if nn y + 1 < 700 ∧ n.1 + prz K V (nn y + 2) ≤ 24 ∧ (K (nn y + 2) = 2 ∧ nn y + 2 < 700) ∧ K (nn y + 3) = 66 ∧ nn y + 3 < 700 then ((pCv K (nn y + 4, L ++ [(32, nn y, nn y + 2)])).bind (pt K 67)).bind (fun q => some (n.1 + prz K V (nn y + 2), q.1, q.2 ++ [(83, nn x, nn y)])) else none) else ((pCv K (nn y + 1, L ++ [(31, nn y, 0)])).bind (pt K 67)).bind (fun q => some (n.1 + 1, q.1, q.2 ++ [(83, nn x, nn y)]))) else none).bind Q → KE G q (d + 9) zk_X7_cellDefinition 79 [(0, vr 100), (1, vi su), (2, vi row), (3, vi many)] [] y (rv Fv) X := by
    intro su row many y hs01 hs34 hcy hBy gy hRy r0 r8 m1 rm hm hrow hc hWy
    have ln := gy.1.2.1
    have by0 := hBy.1.1.2.1
    have n6 : y.1 60 6 = x.1 60 6 := GS_at gy _ _ (by unfold sSum; omega)
    have hn1 : (y.1 60 6).toInt = (n.1 : Nat) := by rw [n6]; exact hCn.1
    refine kg_X7_cellDefinition_79 hq _ _ _ (kh_needFor hq 2 1 1 (by decide) (by decide) (by decide) (by decide) (fun no => hx (by rw [hWy, if_neg (fun z => no z.1)]; rfl)) hBy hRy.1 hRy.2.1 (fun kk c7 z hBz nz gz enz hAz hnz eu ht hcz => ?_))
    have hc := hc kk
    have n24 : n.1 < 24 := by omega
    rw [if_pos ⟨⟨kk, c7⟩, n24⟩] at hWy
    have bz0 := hBz.1.1.2.1
    have z6 : z.1 60 6 = y.1 60 6 := GS_at gz _ _ (by unfold sSum; omega)
    refine ⟨fun c => ?_, fun c => ?_⟩
    · rw [t_le, k0] at c
      have h65 : row = 0 ∧ ¬ K (nn y + 1) = 65 := by
        rcases hrow kk c7 with g | ⟨g, -⟩
        · exact g
        · omega
      have m1' : many.toInt = 1 := by
        rw [h65.1, k0] at hm
        omega
      have mN : many.toInt.toNat = 1 := by omega
      rw [if_neg h65.2] at hWy
      have hRz : RIw K V sN e Ev x z ([] ++ [(31, nn y, 0)]) := RI_use hRy by0 gz.1 hAz hnz enz (HAs_one.mpr (HA_31.mpr ⟨by omega, eu⟩)) (fun _ => HBs_one.mpr (by rw [eu]; exact HB_t (Or.inl rfl)))
      exact p109 su row many _ z [(31, nn y, 0)] 0 0 hs01 hs34 (fun c k q => (hcz c k q).trans (hcy c k q)) hm ⟨fun d => by rw [mN]; rfl, fun c => rfl, rfl⟩ hBz (GS_tr gy gz) (by omega) ht r0 r8 m1 rm (by rw [z6]; exact hc) hRz (stl_k (by decide)) rfl (by rw [h65.1]; rfl) (by rw [hWy, mN, enz])
    · rw [t_le, k0] at c
      obtain ⟨-, k65, hpz⟩ : 0 < row.toInt ∧ K (nn y + 1) = 65 ∧ (nn y + 1 < 700 → row.toInt = (prz K V (nn y + 2) : Nat)) := by
        rcases hrow kk c7 with ⟨g, -⟩ | g
        · rw [g, k0] at c; omega
        · exact g
      rw [if_pos k65] at hWy
      have hRz0 : RIw K V sN e Ev z z [] := ⟨hAz, hnz, UR_0 rfl⟩
      refine kh_pass hq (fun c8 => hx (by rw [hWy, if_neg (fun w => absurd w.1 (by omega))]; rfl)) hBz hRz0 (by rw [enz, k65]; decide) (by rw [enz, k65]; decide) (fun c8 w hBw nw gw enw hRw uw hcw => ?_)
      rw [enz] at c8
      have pz := hpz c8
      have mz : many.toInt.toNat = prz K V (nn y + 2) := by omega
      have enw2 : nn w = nn y + 2 := by omega
      refine kh_needFor hq 3 11 2 (by decide) (by decide) (by decide) (by decide) (fun no => hx (by rw [hWy, if_neg (fun z => no (by rw [enw2]; exact z.2.2.1))]; rfl)) hBw hRw.1 hRw.2.1 (fun kk2 c9 v hBv nv gv env hAv hnv euv htv hcv => ?_)
      rw [enw2] at kk2 c9 euv
      have env2 : nn v = nn y + 3 := by omega
      have hRv0 : RIw K V sN e Ev v v [] := ⟨hAv, hnv, UR_0 rfl⟩
      refine kh_need hq 26 66 (by decide) (by decide) (by decide) (fun no => hx (by rw [hWy, if_neg (fun z => no (by rw [env2]; exact z.2.2.2))]; rfl)) hBv hRv0 (fun kk3 c10 u hBu nu gu enu hRu uu hcu => ?_)
      rw [env2] at kk3 c10 uu
      have enu2 : nn u = nn y + 4 := by omega
      have gg := GS_tr (GS_tr gw gv) gu
      have bw0 := hBw.1.1.2.1
      have bv0 := hBv.1.1.2.1
      obtain ⟨-, l1⟩ := La_nn by0 (GS_tr gz gg).1
      obtain ⟨-, l2⟩ := La_nn bz0 gg.1
      obtain ⟨-, l3⟩ := La_nn bw0 (GS_tr gv gu).1
      obtain ⟨-, l4⟩ := La_nn bv0 gu.1
      have m0 : u.1 42 (nn y) = 1 := by rw [l2 _ (by omega)]; exact eu
      have m1' : u.1 42 (nn y + 1) = 0 := by rw [l3 _ (by omega), ← enz]; exact uw
      have m2 : u.1 42 (nn y + 2) = 11 := by rw [l4 _ (by omega)]; exact euv
      have hRu : RIw K V sN e Ev x u [(32, nn y, nn y + 2)] := by
        refine ⟨hRu.1, hRu.2.1, HAs_one.mpr (HA_32.mpr ⟨⟨by omega, m0⟩, by omega, m2⟩), fun j h1 h2 h3 => HBs_one.mpr ?_⟩
        by_cases hj : j < nn y
        · rw [l1 j hj] at h3
          exact (hRy.2.2.2 j h1 hj h3).elim
        · have hj4 : j = nn y ∨ j = nn y + 1 ∨ j = nn y + 2 ∨ j = nn y + 3 := by omega
          rcases hj4 with ej | ej | ej | ej
          · rw [ej, m0]; exact HB_t (Or.inr (Or.inl rfl))
          · rw [ej] at h3; exact absurd m1' h3
          · rw [ej, m2]; exact HB_32w
          · rw [ej] at h3; exact absurd uu h3
      refine p109 su row many _ u [(32, nn y, nn y + 2)] (prz K V (nn y + 2)) (nn y + 2) hs01 hs34 (fun c k q => (hcu c k q).trans ((hcv c k q).trans ((hcw c k q).trans ((hcz c k q).trans (hcy c k q))))) hm ⟨fun d => by rw [mz]; rfl, fun c => rfl, rfl⟩ hBu (GS_tr (GS_tr gy gz) gg) (by omega) ?_ r0 r8 m1 rm ?_ hRu (stl_k (by decide)) rfl pz ?_
      · unfold tk at ht ⊢; rw [GS_at gg 20 7 (by unfold sSum; omega)]; exact ht
      · rw [GS_at gg 60 6 (by unfold sSum; omega), z6]; exact hc
      · rw [hWy, if_pos ⟨c8, by omega, ⟨kk2, c9⟩, kk3, c10⟩, mz, enu2]
  have p45 : ∀ (su row : Int32) (y : gd), (su = 0 ∨ su = 1) → (su = 1 ↔ K (nn x) = 34) → (∀ c k, ccS c k → y.1 c k = x.1 c k) → OTb x0 y → GS x y → RIw K V sN e Ev x y [] → 0 ≤ row.toInt → row.toInt ≤ 8 → (K (nn y) = 1 → nn y < 700 → (row = 0 ∧ ¬ K (nn y + 1) = 65) ∨ (0 < row.toInt ∧ K (nn y + 1) = 65 ∧ (nn y + 1 < 700 → row.toInt = (prz K V (nn y + 2) : Nat)))) → W = (if (K (nn y) = 1 ∧ nn y < 700) ∧ n.1 < 24 then (if K (nn y + 1) = 65 then (if nn y + 1 < 700 ∧ n.1 + prz K V (nn y + 2) ≤ 24 ∧ (K (nn y + 2) = 2 ∧ nn y + 2 < 700) ∧ K (nn y + 3) = 66 ∧ nn y + 3 < 700 then ((pCv K (nn y + 4, L ++ [(32, nn y, nn y + 2)])).bind (pt K 67)).bind (fun q => some (n.1 + prz K V (nn y + 2), q.1, q.2 ++ [(83, nn x, nn y)])) else none) else ((pCv K (nn y + 1, L ++ [(31, nn y, 0)])).bind (pt K 67)).bind (fun q => some (n.1 + 1, q.1, q.2 ++ [(83, nn x, nn y)]))) else none).bind Q → KE G q (d + 9) zk_X7_cellDefinition 45 [(0, vr 100), (1, vi su)] [vi row] y (rv Fv) X := by
    intro su row y hs01 hs34 hcy hBy gy hRy r0 r8 hrow hWy
    have i1 : y.1 23 (y.1 100 4).toNatClampNeg = 2 ↔ K (nn y) = 1 := KA_k hRy.1 hRy.2.1 2 (by decide)
    have c6 := hBy.2.2.1.2.2.1.1
    have n6 : y.1 60 6 = x.1 60 6 := GS_at gy _ _ (by unfold sSum; omega)
    have hn1 : (y.1 60 6).toInt = (n.1 : Nat) := by rw [n6]; exact hCn.1
    refine kg_X7_cellDefinition_45 hq _ _ (fun m hm m1 m2 => ?_)
    rw [k1] at hm m2
    refine kp_sort hq hBy.1.1 ⟨fun c => p79 su row m y hs01 hs34 hcy hBy gy hRy r0 r8 m2 m1 hm hrow (fun q => absurd (i1.mpr q) c) hWy, fun c1 => ⟨fun c => p79 su row m y hs01 hs34 hcy hBy gy hRy r0 r8 m2 m1 hm hrow (fun _ => ?_) hWy, fun c => kh_refuse hq (hx ?_) hBy _⟩⟩
    · rw [t_le, k24, t_add (by omega) (by omega)] at c
      exact c
    · rw [t_le, k24, t_add (by omega) (by omega)] at c
      rw [hWy]
      by_cases cc : (K (nn y) = 1 ∧ nn y < 700) ∧ n.1 < 24
      · rw [if_pos cc]
        rcases hrow cc.1.1 cc.1.2 with ⟨g1, g2⟩ | ⟨g1, g2, g3⟩
        · exfalso
          rw [g1, k0] at hm
          omega
        · rw [if_pos g2, if_neg (fun z => ?_)]
          · rfl
          · have := g3 z.1
            omega
      · rw [if_neg cc]; rfl
  have p23 : ∀ (su : Int32) (y : gd), (su = 0 ∨ su = 1) → (su = 1 ↔ K (nn x) = 34) → (∀ c k, ccS c k → y.1 c k = x.1 c k) → OTb x0 y → GS x y → RIw K V sN e Ev x y [] → W = (pCl K V n.1 (nn x) (nn y + 1) L).bind Q → KE G q (d + 9) zk_X7_cellDefinition 23 [(0, vr 100), (1, vi su)] [] y (rv Fv) X := by
    intro su y hs01 hs34 hcy hBy gy hRy hWy
    refine kg_X7_cellDefinition_23 hq _ (kh_need hq 47 17 (by decide) (by decide) (by decide) (fun no => hx (by rw [hWy]; unfold pCl; rw [if_neg (fun z => no z.1)]; rfl)) hBy hRy (fun kk c7 z hBz nz gz enz hRz _ hcz => ?_))
    have hczx : ∀ c k, ccS c k → z.1 c k = x.1 c k := fun c k q => (hcz c k q).trans (hcy c k q)
    have ek : K (nn y + 1 - 1) = 17 ∧ nn y + 1 - 1 < 700 := ⟨kk, c7⟩
    rw [pCl_2 ek, ← enz] at hWy
    have i1 : z.1 23 (z.1 100 4).toNatClampNeg = 2 ↔ K (nn z) = 1 := KA_k hRz.1 hRz.2.1 2 (by decide)
    refine kp_sort hq hBz.1.1 ⟨fun c => p45 su 0 z hs01 hs34 hczx hBz (GS_tr gy gz) hRz (by decide) (by decide) (fun q => absurd (i1.mpr q) c) hWy, fun c => ?_⟩
    by_cases h7 : nn z < 700
    · exact kf_rowAhead hq hBz.1.1 hRz.1 hRz.2.1 (i1.mp c) h7 (fun r r0 r8 hr => p45 su r z hs01 hs34 hczx hBz (GS_tr gy gz) hRz r0 r8 (fun _ _ => hr) hWy)
    · exact kp_rowAhead hq hBz.1.1 (fun r r0 r8 hr => p45 su r z hs01 hs34 hczx hBz (GS_tr gy gz) hRz r0 r8 (fun _ q => absurd q h7) hWy)
  have i34 : x.1 23 (x.1 100 4).toNatClampNeg = 64 ↔ K (nn x) = 34 := KA_k hA hn0 64 (by decide)
  refine kg_X7_cellDefinition_0 hq (kp_sort hq hB.1.1 ⟨fun c => kg_X7_cellDefinition_14 hq _ ⟨fun _ => p23 _ x (Or.inl rfl) ⟨fun q => absurd q (by decide), fun q => absurd (i34.mpr q) c⟩ (fun c k _ => rfl) hB GS_rf hR0 ?_, fun q => absurd rfl q⟩, fun c => kg_X7_cellDefinition_14 hq _ ⟨fun q => absurd q (by decide), fun _ => ?_⟩⟩)
  · have k17 : K (nn x) = 17 := hk.resolve_left (fun z => c (i34.mpr z))
    rw [eW, eQ]
    unfold pD
    rw [if_neg (by rw [k17]; decide), if_pos k17]
  · have k34 := i34.mp c
    refine kh_pass hq (fun c7 => hx (by rw [eW]; unfold pD; rw [if_pos k34, if_neg (show ¬ nn x < 700 by omega)])) hB hR0 (by rw [k34]; decide) (by rw [k34]; decide) (fun c7 y hBy ny gy eny hRy _ hcy => p23 _ y (Or.inr rfl) ⟨fun _ => k34, fun _ => rfl⟩ hcy hBy gy hRy ?_)
    rw [eW, eQ, eny]
    unfold pD
    rw [if_pos k34, if_pos c7]
end KDH
end
section
/-! the class: locks, threads, claims; all is read -/
section KRL
variable {G : kG} {q : kP} {d : Nat} {x x0 y z : gd} {F : Int32 → gd → Prop} {Fv : gd → Prop} {X : String → gd → Prop} {P : Option gv → gd → Prop}
theorem kp_names_clear (hq : kV q) (h : ∀ y, fm (fun c k => c = 40 ∨ c = 42 ∨ c = 43) x y → y.1 40 6 = 0 → y.1 40 8 = 0 → y.1 40 10 = 0 → (∀ j, j < 702 → y.1 42 j = 0) → Fv y) : KT G q (d + 1) zk_X6_clear 0 [(0, vr 40)] [] x (rv Fv) := by
  refine kg_X6_clear_0 hq (fun x1 e1 x2 e2 x3 e3 x4 e4 z ez => rv_i (h z ?_ ?_ ?_ ?_ (fun j hj => ?_)))
  · rw [ez, e4, e3, e2, e1]
    exact fm_fl (fm_fl (fm_si (fm_si (fm_si (fm_rf _ _) (Or.inl rfl)) (Or.inl rfl)) (Or.inl rfl)) (fun k _ => Or.inr (Or.inl rfl))) (fun k _ => Or.inr (Or.inr rfl))
  · rw [ez, e4, e3, e2, e1]; (simp only [si_get, sfl_get, Nat.reduceEqDiff, eq_self, and_false, false_and, and_true, true_and, if_true, if_false, reduceIte, reduceCtorEq])
  · rw [ez, e4, e3, e2, e1]; (simp only [si_get, sfl_get, Nat.reduceEqDiff, eq_self, and_false, false_and, and_true, true_and, if_true, if_false, reduceIte, reduceCtorEq])
  · rw [ez, e4, e3, e2, e1]; (simp only [si_get, sfl_get, Nat.reduceEqDiff, eq_self, and_false, false_and, and_true, true_and, if_true, if_false, reduceIte, reduceCtorEq])
  · rw [ez, e4, sfl_get, if_neg (by omega), sfl_get, if_pos ⟨rfl, hj⟩]
theorem kp_code_clear (hq : kV q) (h : ∀ y, fm (fun c k => c = 60 ∨ (c = 80 ∧ k = 9)) x y → y.1 80 9 = 0 → y.1 60 3 = 0 → y.1 60 6 = 0 → y.1 60 9 = 0 → y.1 60 10 = 0 → y.1 60 13 = 0 → y.1 60 14 = 0 → y.1 60 16 = 0 → Fv y) : KT G q d zk_X0_clear 0 [(0, vr 60)] [] x (rv Fv) := by
  refine kg_X0_clear_0 hq (fun x1 e1 x2 e2 x3 e3 x4 e4 x5 e5 x6 e6 x7 e7 z ez => rv_i (h z ?_ ?_ ?_ ?_ ?_ ?_ ?_ ?_ ?_))
  · rw [ez, e7, e6, e5, e4, e3, e2, e1]
    exact fm_si (fm_si (fm_si (fm_si (fm_si (fm_si (fm_si (fm_si (fm_rf _ _) (Or.inr ⟨rfl, rfl⟩)) (Or.inl rfl)) (Or.inl rfl)) (Or.inl rfl)) (Or.inl rfl)) (Or.inl rfl)) (Or.inl rfl)) (Or.inl rfl)
  all_goals (rw [ez, e7, e6, e5, e4, e3, e2, e1]; (simp only [si_get, sfl_get, Nat.reduceEqDiff, eq_self, and_false, false_and, and_true, true_and, if_true, if_false, reduceIte, reduceCtorEq]))
end KRL
end
section
/-! the class: locks and claims are told -/
section KDI
variable {G : kG} {q : kP} {d : Nat} {x x0 y z xs : gd} {F : Int32 → gd → Prop} {Fv : gd → Prop} {X : String → gd → Prop} {P : Option gv → gd → Prop} {K V : Nat → Int32} {sN : Nat → Nat → Bool} {e : Nat} {Ev : gV} {Ml N : gU} {T : gTd} {n : gN} {W : gD}
theorem nT_N {L : gU} (h : nT L (L ++ N)) : ∀ v ∈ N, ¬ (31 ≤ v.1 ∧ v.1 ≤ 36) := by
  obtain ⟨N2, e, h⟩ := h
  rw [List.append_cancel_left e]; exact h
theorem TBk_lock {t : Int32} (h : TBk x T) (e8 : (z.1 40 8).toInt = (x.1 40 8).toInt + 1) (e48 : z.1 48 (x.1 40 8).toNatClampNeg = t) (o48 : ∀ i, ¬ i = (x.1 40 8).toNatClampNeg → z.1 48 i = x.1 48 i) (f : ∀ c k, (c = 40 ∧ ¬ k = 8) ∨ (44 ≤ c ∧ c ≤ 46) ∨ c = 50 ∨ (c = 60 ∧ k = 6) → z.1 c k = x.1 c k) : TBk z (T ++ [(t.toNatClampNeg, 1, 0, 0)]) := by
  obtain ⟨⟨a1, a2, a3⟩, ⟨b1, b2⟩, c1, c2⟩ := h
  have eN : (x.1 40 8).toNatClampNeg = (tdS T 1).length := by rw [t_cl, b1]; rfl
  unfold TBk
  rw [tdS_y, tdS_n (show ¬ 1 = 0 by decide), tdS_n (show ¬ 1 = 2 by decide), f 40 6 (by omega), f 40 10 (by omega), f 60 6 (by omega)]
  refine ⟨⟨a1, a2, fun i q hq => by rw [f 44 i (by omega), f 46 i (by omega), f 45 i (by omega)]; exact a3 i q hq⟩, ⟨by rw [List.length_append, List.length_singleton]; omega, fun i q hq => ?_⟩, c1, fun i q hq => by rw [f 50 i (by omega)]; exact c2 i q hq⟩
  rcases ap1 hq with ⟨hi, hq⟩ | ⟨hi, hq⟩
  · rw [o48 i (by omega)]
    exact b2 i q hq
  · rw [hi, ← eN, e48, hq]
theorem TBk_thread {t : Int32} (h : TBk x T) (e8 : (z.1 40 10).toInt = (x.1 40 10).toInt + 1) (e48 : z.1 50 (x.1 40 10).toNatClampNeg = t) (o48 : ∀ i, ¬ i = (x.1 40 10).toNatClampNeg → z.1 50 i = x.1 50 i) (f : ∀ c k, (c = 40 ∧ ¬ k = 10) ∨ (44 ≤ c ∧ c ≤ 48) ∨ (c = 60 ∧ k = 6) → z.1 c k = x.1 c k) : TBk z (T ++ [(t.toNatClampNeg, 2, 0, 0)]) := by
  obtain ⟨⟨a1, a2, a3⟩, ⟨b1, b2⟩, c1, c2⟩ := h
  have eN : (x.1 40 10).toNatClampNeg = (tdS T 2).length := by rw [t_cl, c1]; rfl
  unfold TBk
  rw [tdS_y, tdS_n (show ¬ 2 = 0 by decide), tdS_n (show ¬ 2 = 1 by decide), f 40 6 (by omega), f 40 8 (by omega), f 60 6 (by omega)]
  refine ⟨⟨a1, a2, fun i q hq => by rw [f 44 i (by omega), f 46 i (by omega), f 45 i (by omega)]; exact a3 i q hq⟩, ⟨b1, fun i q hq => by rw [f 48 i (by omega)]; exact b2 i q hq⟩, by rw [List.length_append, List.length_singleton]; omega, fun i q hq => ?_⟩
  rcases ap1 hq with ⟨hi, hq⟩ | ⟨hi, hq⟩
  · rw [o48 i (by omega)]
    exact c2 i q hq
  · rw [hi, ← eN, e48, hq]
theorem kf_tellLock (hq : kV q) (t : Int32) (hc : 0 ≤ (x.1 40 8).toInt) (hc6 : (x.1 40 8).toInt < 6) (h : ∀ y, fm (fun c k => (c = 40 ∧ k = 8) ∨ (c = 48 ∧ k = (x.1 40 8).toNatClampNeg)) x y → y.1 40 8 = x.1 40 8 + 1 → y.1 48 (x.1 40 8).toNatClampNeg = t → Fv y) : KT G q d zk_X6_tellLock 0 [(0, vr 40), (1, vi t)] [] x (rv Fv) := by
  have k6 : (6 : Int32).toInt = 6 := rfl
  have eN : (((x.1 40 8).toNatClampNeg : Nat) : Int) = (x.1 40 8).toInt := by rw [t_cl]; omega
  refine kg_X6_tellLock_0 hq _ ⟨fun c => ?_, fun c => ⟨by rw [vp_in_iff]; omega, fun x3 e3 z ez => rv_i ?_⟩⟩
  · exfalso; rw [t_le, k6] at c; omega
  have q3 : x3.1 40 8 = x.1 40 8 := by rw [e3]; (simp only [si_get, sfl_get, Nat.reduceEqDiff, eq_self, and_false, false_and, and_true, true_and, if_true, if_false, reduceIte, reduceCtorEq])
  refine h z (by rw [ez, e3]; exact fm_si (fm_si (fm_rf _ _) (Or.inr ⟨rfl, rfl⟩)) (Or.inl ⟨rfl, rfl⟩)) (by rw [ez, q3]; (simp only [si_get, sfl_get, Nat.reduceEqDiff, eq_self, and_false, false_and, and_true, true_and, if_true, if_false, reduceIte, reduceCtorEq])) (by rw [ez, e3]; (simp only [si_get, sfl_get, Nat.reduceEqDiff, eq_self, and_false, false_and, and_true, true_and, if_true, if_false, reduceIte, reduceCtorEq]))
theorem kf_tellThread (hq : kV q) (t : Int32) (hc : 0 ≤ (x.1 40 10).toInt) (hc6 : (x.1 40 10).toInt < 6) (h : ∀ y, fm (fun c k => (c = 40 ∧ k = 10) ∨ (c = 50 ∧ k = (x.1 40 10).toNatClampNeg)) x y → y.1 40 10 = x.1 40 10 + 1 → y.1 50 (x.1 40 10).toNatClampNeg = t → Fv y) : KT G q d zk_X6_tellThread 0 [(0, vr 40), (1, vi t)] [] x (rv Fv) := by
  have k6 : (6 : Int32).toInt = 6 := rfl
  have eN : (((x.1 40 10).toNatClampNeg : Nat) : Int) = (x.1 40 10).toInt := by rw [t_cl]; omega
  refine kg_X6_tellThread_0 hq _ ⟨fun c => ?_, fun c => ⟨by rw [vp_in_iff]; omega, fun x3 e3 z ez => rv_i ?_⟩⟩
  · exfalso; rw [t_le, k6] at c; omega
  have q3 : x3.1 40 10 = x.1 40 10 := by rw [e3]; (simp only [si_get, sfl_get, Nat.reduceEqDiff, eq_self, and_false, false_and, and_true, true_and, if_true, if_false, reduceIte, reduceCtorEq])
  refine h z (by rw [ez, e3]; exact fm_si (fm_si (fm_rf _ _) (Or.inr ⟨rfl, rfl⟩)) (Or.inl ⟨rfl, rfl⟩)) (by rw [ez, q3]; (simp only [si_get, sfl_get, Nat.reduceEqDiff, eq_self, and_false, false_and, and_true, true_and, if_true, if_false, reduceIte, reduceCtorEq])) (by rw [ez, e3]; (simp only [si_get, sfl_get, Nat.reduceEqDiff, eq_self, and_false, false_and, and_true, true_and, if_true, if_false, reduceIte, reduceCtorEq]))
theorem kh_lockDefinition (hq : kV q) (L : gU) (hx : W = none → RX x0 X) (eW : W = pD K V n (nn x) L) (k27 : K (nn x) = 27) (hA : KA K V sN e x) (hn0 : nn x ≤ e) (hTb : TBk x T) (hCn : CNk x n) (hI : OT x0 x) (h : ∀ y N n', OT x0 y → nx x < nx y → RIw K V sN e Ev x y N → still N → W = some (n', nn y, L ++ N) → TBk y (T ++ N.filterMap (te1 K V)) → CNk y n' → La x y → CGo sN V K Ev x y N → Fv y) : KE G q (d + 8) zk_X7_lockDefinition 0 [(0, vr 100)] [] x (rv Fv) X := by
  have k6 : (6 : Int32).toInt = 6 := rfl
  have hB := OT_b hI
  have acc := hI.2.2.2.2.2.2
  have hR0 : RIw K V sN e Ev x x [] := ⟨hA, hn0, UR_0 rfl⟩
  have hW : W = if n.2.1 < 6 ∧ nn x < 700 ∧ (K (nn x + 1) = 1 ∧ nn x + 1 < 700) ∧ K (nn x + 2) = 67 ∧ nn x + 2 < 700 then some ((n.1, n.2.1 + 1, n.2.2), nn x + 3, L ++ [(33, nn x + 1, 0)]) else none := by
    rw [eW]
    unfold pD
    rw [if_neg (by rw [k27]; decide), if_neg (by rw [k27]; decide), if_pos k27]
  have hc2 := hCn.2.1
  refine kg_X7_lockDefinition_0 hq ⟨fun c => kg_X7_lockDefinition_17 hq (kh_pass (xs := x) (Ml := []) (Ev := Ev) hq (fun c7 => hx (by rw [hW, if_neg (fun z => absurd z.2.1 (by omega))])) hB hR0 (by rw [k27]; decide) (by rw [k27]; decide) (fun c7 y hBy ny gy eny hRy u0 hcy => kh_needFor hq 2 1 1 (by decide) (by decide) (by decide) (by decide) (fun no => hx (by rw [hW, if_neg (fun z => no (by rw [eny]; exact z.2.2.1))])) hBy hRy.1 hRy.2.1 (fun kk c8 w hBw nw gw enw hAw hnw eu ht hcw => ?_))), fun c => kh_refuse hq (hx (by rw [hW, if_neg (fun z => c (by rw [t_lt, k6]; omega))])) hB _⟩
  rw [t_lt, k6] at c
  have g1 := GS_tr gy gw
  have hNw := hBw.2.2.1.2.1
  have hCw := hBw.2.2.1.2.2.1
  have w9 : w.1 60 9 = x.1 60 9 := GS_at g1 _ _ (by unfold sSum; omega)
  have w8 : w.1 40 8 = x.1 60 9 := by rw [← hCw.2.1, w9]
  have e1 : (w.1 40 8 + 1).toInt = (w.1 40 8).toInt + 1 := t_add (by show _ ≤ _ + (1 : Int); rw [w8]; have := hNw.2.1.1; rw [w8] at this; omega) (by show _ + (1 : Int) ≤ _; rw [w8]; omega)
  refine kf_tellLock hq _ hNw.2.1.1 (by rw [w8]; exact c) (fun u fuS cu u48 => ?_)
  have fu : fm (fun c k => (c = 40 ∧ k = 8) ∨ c = 48) w u := fm_w fuS (fun c k q => by omega)
  have eN8 : (((w.1 40 8).toNatClampNeg : Nat) : Int) = (w.1 40 8).toInt := by
    have := hNw.2.1.1
    rw [t_cl]; omega
  have hu : ∀ i : Nat, (i : Int) < (w.1 40 8).toInt + 1 → ((i : Int) < (w.1 40 8).toInt ∧ u.1 48 i = w.1 48 i) ∨ u.1 48 i = y.1 100 4 := by
    intro i hi
    by_cases hi2 : i = (w.1 40 8).toNatClampNeg
    · rw [hi2]; exact Or.inr u48
    · exact Or.inl ⟨by omega, fuS 48 i (by omega)⟩
  rw [eny] at kk c8 eu
  have by0 := hBy.1.1.2.1
  have hRw : RIw K V sN e Ev x w ([] ++ [(33, nn x + 1, 0)]) := RI_use hRy by0 gw.1 hAw hnw enw (HAs_one.mpr (HA_33.mpr ⟨by omega, eu⟩)) (fun _ => HBs_one.mpr (by rw [eny, eu]; exact HB_t (Or.inr (Or.inr (Or.inl rfl)))))
  have hRw : RIw K V sN e Ev x w [(33, nn x + 1, 0)] := hRw
  have enw2 : nn w = nn x + 2 := by omega
  have i67 : w.1 23 (w.1 100 4).toNatClampNeg = 27 ↔ K (nn w) = 67 := KA_k hAw hnw 27 (by decide)
  have bw0 := hBw.1.1.2.1
  have cw0 := nn_is bw0
  -- the next token is read with names told but not counted: its invariant is that of the state before
  have gu4 : u.1 100 4 = w.1 100 4 := fu _ _ (by omega)
  have SUu : SU u := by
    obtain ⟨⟨hT, b1, b2, b3⟩, ⟨u1, u2⟩, hp, hP⟩ := hBw.1
    have nnq : nx u = nx w := by unfold nx; rw [gu4]
    have la : La w u := ⟨fun c k q1 q2 => fu c k (by omega), by omega, fun j _ => fu 42 j (by omega)⟩
    unfold SU SV US RB mt
    rw [fu 20 7 (by omega), fu 60 3 (by omega), nnq]
    refine ⟨⟨kT_fm hT la.1, b1, b2, b3⟩, ⟨fun j h1 h2 => ?_, fun j h1 h2 => ?_⟩, hp, fun i hi => La_PQ la (fu _ _ (by omega)) (fu _ _ (by omega)) (hP i hi)⟩
    · rw [fu 42 j (by omega)]; exact u1 j h1 h2
    · rw [fu 42 j (by omega)] at h2; rw [fu 42 _ (by omega)]; exact u2 j h1 h2
  have FRu : FR u := by
    have := hBw.2.1
    unfold FR at this ⊢
    rw [gu4, fu 42 _ (by omega)]; exact this
  have fxu : fm sR x0 u := fm_tr hBw.2.2.2.2.2 (fm_w fu (fun c k q => by unfold sR; omega))
  have nuw0 : nx u = nx w := by unfold nx; rw [gu4]
  refine kf_need hq fxu 27 (fun no => hx ?_) SUu (by decide) FRu (fun cw7 c79 v fv nv Sv frv lav fxv z ez => rv_i ?_)
  · rw [hW, if_neg (fun z => ?_)]
    rcases no with no | no
    · rw [gu4, fu 23 _ (by omega)] at no
      exact no (i67.mpr (by rw [enw2]; exact z.2.2.2.1))
    · omega
  rw [gu4, fu 23 _ (by omega)] at cw7
  have kk7 := i67.mp cw7
  rw [enw2] at kk7
  have hWs : W = some ((n.1, n.2.1 + 1, n.2.2), nn x + 3, L ++ [(33, nn x + 1, 0)]) := by
    rw [hW, if_pos ⟨by omega, c7, ⟨kk, c8⟩, kk7, by omega⟩]
  -- as if need came first
  have SUv : SU v := by unfold SU; rw [fv 60 3 (by omega)]; exact Sv
  obtain ⟨w', ew'⟩ : ∃ w', w' = si w 100 4 (v.1 100 4) := ⟨_, rfl⟩
  have fw' : fm (fun c k => c = 100 ∧ k = 4) w w' := by rw [ew']; exact fm_si (fm_rf _ _) ⟨rfl, rfl⟩
  have w4' : w'.1 100 4 = v.1 100 4 := by rw [ew']; (simp only [si_get, sfl_get, Nat.reduceEqDiff, eq_self, and_false, false_and, and_true, true_and, if_true, if_false, reduceIte, reduceCtorEq])
  have hvw : ∀ c k, ¬ ((c = 40 ∧ k = 8) ∨ c = 48) → v.1 c k = w'.1 c k := by
    intro c k hc
    by_cases h4 : c = 100 ∧ k = 4
    · rw [h4.1, h4.2, w4']
    · rw [fv c k h4, fu c k hc, fw' c k h4]
  have nnq : nx w' = nx v := by unfold nx; rw [w4']
  have nuw : nx u = nx w := by unfold nx; rw [gu4]
  have gw' : GS w w' := ⟨⟨fun c k q1 q2 => fw' c k (by omega), by omega, fun j _ => fw' 42 j (by omega)⟩, fm_w fw' (fun c k q => by unfold sSum; omega)⟩
  have law : La v w' := ⟨fun c k q1 q2 => (hvw c k (by omega)).symm, by omega, fun j _ => (hvw 42 j (by omega)).symm⟩
  have SUw' : SU w' := by
    obtain ⟨⟨hT, b1, b2, b3⟩, ⟨u1, u2⟩, hp, hP⟩ := SUv
    unfold SU SV US RB mt
    rw [← hvw 20 7 (by omega), ← hvw 60 3 (by omega), nnq]
    refine ⟨⟨kT_fm hT law.1, b1, b2, b3⟩, ⟨fun j h1 h2 => ?_, fun j h1 h2 => ?_⟩, hp, fun i hi => La_PQ law (hvw _ _ (by omega)).symm (hvw _ _ (by omega)).symm (hP i hi)⟩
    · rw [← hvw 42 j (by omega)]; exact u1 j h1 h2
    · rw [← hvw 42 j (by omega)] at h2; rw [← hvw 42 _ (by omega)]; exact u2 j h1 h2
  have FRw' : FR w' := by unfold FR at frv ⊢; rw [w4', ← hvw 42 _ (by omega)]; exact frv
  have hBw' : OTb x0 w' := OTb_on hBw SUw' FRw' gw'
  have fz : fm (fun c k => (c = 40 ∧ k = 8) ∨ c = 48 ∨ (c = 60 ∧ k = 9)) w' z := by
    intro c k hc
    rw [ez, si_get, if_neg (by omega)]
    exact hvw c k (by omega)
  have hN' := hBw'.2.2.1.2.1
  have hC' := hBw'.2.2.1.2.2.1
  have z8 : z.1 40 8 = w.1 40 8 + 1 := by rw [ez, si_cell (by decide), fv 40 8 (by omega)]; exact cu
  have z9 : z.1 60 9 = w.1 60 9 + 1 := by rw [ez, fv 60 9 (by omega), fu 60 9 (by omega)]; (simp only [si_get, sfl_get, Nat.reduceEqDiff, eq_self, and_false, false_and, and_true, true_and, if_true, if_false, reduceIte, reduceCtorEq])
  have tkk : ∀ a, tk w a → tk z a := fun a ha => by unfold tk at ha ⊢; rw [fz 20 7 (by omega), fw' 20 7 (by omega)]; exact ha
  have z4 : z.1 100 4 = v.1 100 4 := by rw [ez, si_cell (by decide)]
  have lav9 : La w v := ⟨fun c k q1 q2 => by rw [fv c k (by omega), fu c k (by omega)], by omega, fun j _ => by rw [fv 42 j (by omega), fu 42 j (by omega)]⟩
  have env : nn v = nn w + 1 := nn_up bw0 (by omega)
  have hAv : KA K V sN e v := KA_fm hAw lav9.1
  have hRv : RIw K V sN e Ev x v [(33, nn x + 1, 0)] := RI_tok hRw bw0 (by omega) (by rw [enw2, kk7]; decide) (by rw [enw2, kk7]; decide) lav9 (by omega) (by rw [fv 42 _ (by omega), fu 42 _ (by omega)]; exact hBw.2.1)
  have hRz : RIw K V sN e Ev x z [(33, nn x + 1, 0)] := RI_st hRv z4 (fun j => by rw [ez, si_cell (by decide)]) (fun c k q1 q2 => by rw [ez, si_cell (by omega)])
  have enz : nn z = nn x + 3 := by
    have : nn z = nn v := by unfold nn; rw [z4]
    omega
  have b8 := hNw.2.1.1
  refine h z [(33, nn x + 1, 0)] (n.1, n.2.1 + 1, n.2.2) (OT_of (OTb_nm hBw' (fm_w fz (fun c k q => by omega)) ?_ ?_ ?_) ?_) ?_ hRz (stl_k (by decide)) (by rw [enz]; exact hWs) ?_ ?_ (La_tr (La_tr g1.1 lav9) ⟨fun c k q1 q2 => by rw [ez, si_cell (by omega)], by unfold nx; rw [z4]; exact Int.le_refl _, fun j _ => by rw [ez, si_cell (by decide)]⟩) (CGo_lock (fun c k q q1 => (fz c k (by unfold ccS at q; omega)).trans ((fw' c k (by unfold ccS at q; omega)).trans ((hcw c k q).trans (hcy c k q)))))
  · unfold NM
    have b8 := hNw.2.1.1
    rw [z8, e1, fz 40 6 (by omega), fw' 40 6 (by omega), fz 40 10 (by omega), fw' 40 10 (by omega), fz 60 6 (by omega), fw' 60 6 (by omega)]
    rw [w8] at b8 ⊢
    refine ⟨hNw.1, by omega, hNw.2.2.1, fun i hi => ?_, fun i hi => ?_, fun i hi => ?_⟩
    · rw [fz 44 i (by omega), fw' 44 i (by omega), fz 45 i (by omega), fw' 45 i (by omega), fz 46 i (by omega), fw' 46 i (by omega)]
      obtain ⟨p1, p2⟩ := hNw.2.2.2.1 i hi
      exact ⟨tkk _ p1, p2⟩
    · have zi : z.1 48 i = u.1 48 i := by rw [ez, si_cell (by decide), fv 48 i (by omega)]
      rw [zi]
      rcases hu i (by rw [w8]; exact hi) with ⟨g1, g2⟩ | g
      · rw [g2]; exact tkk _ (hNw.2.2.2.2.1 i g1)
      · rw [g]; exact tkk _ ht
    · rw [fz 50 i (by omega), fw' 50 i (by omega)]; exact tkk _ (hNw.2.2.2.2.2 i hi)
  · unfold CD at hC' ⊢
    rw [z8, z9, fz 60 6 (by omega), fz 60 10 (by omega), fz 60 14 (by omega), fz 60 16 (by omega), fz 60 13 (by omega), fz 40 10 (by omega), fz 100 5 (by omega), fz 100 9 (by omega), hCw.2.1]
    exact ⟨hC'.1, rfl, hC'.2.2.1, hC'.2.2.2.1, hC'.2.2.2.2.1, hC'.2.2.2.2.2.1, hC'.2.2.2.2.2.2⟩
  · have hT' := hBw'.2.2.1.2.2.2.2
    unfold TS ssm at hT' ⊢
    rw [fz 60 10 (by omega), fz 80 9 (by omega), fz 100 5 (by omega), fz 81 _ (by omega)]
    refine ⟨fun i hi => ?_, hT'.2⟩
    rw [fz 72 i (by omega)]; exact hT'.1 i hi
  · have e1 : ssm z = ssm w := by unfold ssm; rw [fz 80 9 (by omega), fw' 80 9 (by omega)]
    have e2 : nx z = nx v := by rw [← nnq]; unfold nx; rw [fz 100 4 (by omega)]
    rw [e1, e2, GS_sm g1]
    omega
  · have e2 : nx z = nx v := by rw [← nnq]; unfold nx; rw [fz 100 4 (by omega)]
    omega
  · have hTw : TBk w T := TBk_e hTb (TBe_GS g1)
    have et : (y.1 100 4).toNatClampNeg = nn x + 1 := eny
    have r := TBk_lock (z := z) (t := y.1 100 4) hTw (by rw [z8, e1]) (by rw [ez, si_cell (by decide), fv 48 _ (by omega)]; exact u48) (fun i hi => by rw [ez, si_cell (by decide), fv 48 i (by omega)]; exact fuS 48 i (by omega)) (fun c k hc => by rw [fz c k (by omega), fw' c k (by omega)])
    rw [et] at r
    exact r
  · obtain ⟨n1, n2, n3, n4, n5⟩ := CNk_e hCn (TBe_GS g1)
    have g : ∀ k, k ≠ 9 → z.1 60 k = w.1 60 k := fun k hk => by rw [fz 60 k (by omega), fw' 60 k (by omega)]
    refine ⟨by rw [g 6 (by omega)]; exact n1, ?_, by rw [g 10 (by omega)]; exact n3, by rw [g 14 (by omega)]; exact n4, by rw [g 16 (by omega)]; exact n5⟩
    show (z.1 60 9).toInt = ((n.2.1 + 1 : Nat) : Int)
    rw [z9, t_add (by show _ ≤ _ + (1 : Int); omega) (by show _ + (1 : Int) ≤ _; omega)]
    show (w.1 60 9).toInt + (1 : Int) = _
    omega
theorem kh_claim (hq : kV q) (L : gU) (hx : W = none → RX x0 X) (eW : W = pD K V n (nn x) L) (hk : K (nn x) = 11 ∨ K (nn x) = 21) (hA : KA K V sN e x) (hn0 : nn x ≤ e) (hTb : TBk x T) (hCn : CNk x n) (hE2 : Ev.2.1 = []) (hI : OT x0 x) (h : ∀ y N n', OT x0 y → nx x < nx y → RIw K V sN e Ev x y N → still N → W = some (n', nn y, L ++ N) → TBk y (T ++ N.filterMap (te1 K V)) → CNk y n' → La x y → CGo sN V K Ev x y N → Fv y) : KE G q (d + 10) zk_X7_claim 0 [(0, vr 100)] [] x (rv Fv) X := by
  have k4 : (4 : Int32).toInt = 4 := rfl
  have hB := OT_b hI
  have acc := hI.2.2.2.2.2.2
  have hC := hB.2.2.1.2.2.1
  have p47 : ∀ a m : Int32, (a = 0 ∧ m = x.1 60 16 ∨ ¬ a = 0 ∧ m = x.1 60 14) → (a = 0 ↔ K (nn x) = 21) → m.toInt < 4 → KE G q (d + 10) zk_X7_claim 47 [(0, vr 100), (1, vi a), (2, vi m)] [] x (rv Fv) X := by
    intro a m ham hak hm
    obtain ⟨v9, Q, hv35, hv9, hvd, hvs, eQ, hW⟩ : ∃ (v9 : Nat × Nat × Nat) (n9 : gN), ((a = 0 ∧ v9 = (36, nn x, 0)) ∨ (¬ a = 0 ∧ v9 = (35, nn x, 0))) ∧ (¬ (31 ≤ v9.1 ∧ v9.1 ≤ 34) ∧ (35 ≤ v9.1 ∧ v9.1 ≤ 36)) ∧ dull v9 ∧ still [v9] ∧ ((a = 0 ∧ n9 = (n.1, n.2.1, n.2.2.1, n.2.2.2.1, n.2.2.2.2 + 1)) ∨ (¬ a = 0 ∧ n9 = (n.1, n.2.1, n.2.2.1, n.2.2.2.1 + 1, n.2.2.2.2))) ∧ W = if nn x < 700 then ((pX K true 16 (nn x + 1) (L ++ [v9])).bind (pt K 67)).bind (fun q => some (n9, q)) else none := by
      by_cases ca : a = 0
      · have k21 := hak.mp ca
        have hm4 : n.2.2.2.2 < 4 := by
          have := hCn.2.2.2.2
          rcases ham with ⟨-, e⟩ | ⟨e, -⟩
          · rw [e] at hm; omega
          · exact absurd ca e
        refine ⟨(36, nn x, 0), _, Or.inl ⟨ca, rfl⟩, ⟨(show ¬ (31 ≤ 36 ∧ 36 ≤ 34) by decide), (show 35 ≤ 36 ∧ 36 ≤ 36 by decide)⟩, dull_k (by decide), stl_k (by decide), Or.inl ⟨ca, rfl⟩, ?_⟩
        rw [eW]
        unfold pD
        rw [if_neg (by rw [k21]; decide), if_neg (by rw [k21]; decide), if_neg (by rw [k21]; decide), if_neg (by rw [k21]; decide), if_neg (by rw [k21]; decide), if_neg (by rw [k21]; decide), if_pos k21]
        by_cases c7 : nn x < 700
        · rw [if_pos ⟨hm4, c7⟩, if_pos c7]
        · rw [if_neg (fun z => c7 z.2), if_neg c7]
      · have k11 : K (nn x) = 11 := hk.resolve_right (fun z => ca (hak.mpr z))
        have hm4 : n.2.2.2.1 < 4 := by
          have := hCn.2.2.2.1
          rcases ham with ⟨e, -⟩ | ⟨-, e⟩
          · exact absurd e ca
          · rw [e] at hm; omega
        refine ⟨(35, nn x, 0), _, Or.inr ⟨ca, rfl⟩, ⟨(show ¬ (31 ≤ 35 ∧ 35 ≤ 34) by decide), (show 35 ≤ 35 ∧ 35 ≤ 36 by decide)⟩, dull_k (by decide), stl_k (by decide), Or.inr ⟨ca, rfl⟩, ?_⟩
        rw [eW]
        unfold pD
        rw [if_neg (by rw [k11]; decide), if_neg (by rw [k11]; decide), if_neg (by rw [k11]; decide), if_neg (by rw [k11]; decide), if_neg (by rw [k11]; decide), if_pos k11]
        by_cases c7 : nn x < 700
        · rw [if_pos ⟨hm4, c7⟩, if_pos c7]
        · rw [if_neg (fun z => c7 z.2), if_neg c7]
    have hR0 : RIw K V sN e Ev x x [] := ⟨hA, hn0, UR_0 rfl⟩
    have kk0 : ¬ K (nn x) = 0 ∧ ¬ K (nn x) = 3 := by rcases hk with e | e <;> rw [e] <;> decide
    have m0 : 0 ≤ m.toInt := by
      rcases ham with ⟨-, e⟩ | ⟨-, e⟩
      · rw [e]; exact hC.2.2.2.2.1.1
      · rw [e]; exact hC.2.2.2.1.1
    refine kg_X7_claim_47 hq _ _ (kh_pass hq (fun c7 => hx (by rw [hW, if_neg (show ¬ nn x < 700 by omega)])) hB hR0 kk0.1 kk0.2 (fun c7 y hBy ny gy eny hRy _ hcy => ?_))
    rw [if_pos c7, ← eny] at hW
    have by0 := hBy.1.1.2.1
    refine kh_sum (Ev := Ev) hq _ (L ++ [v9]) (fun no => hx (by rw [hW]; have no : pX K true 16 (nn y) (L ++ [v9]) = none := no; rw [no]; rfl)) hBy hRy.1 hRy.2.1 (by decide) (by decide) (fun r z hBz nz gz N2 hRz hN2 hpX hcp hrr => ?_)
    have hpX : pX K true 16 (nn y) (L ++ [v9]) = some (nn z, L ++ [v9] ++ N2) := hpX
    obtain ⟨N20, eN20, hs20⟩ := pX_sE hpX
    have hcp := hcp hE2
    rw [eN20] at hcp
    have hn2 := nT_N (pX_nT hpX)
    rw [hpX] at hW
    have hRxz : RIw K V sN e Ev x z ([v9] ++ N2) := RI_app by0 hvs (RI_dull hRy hvd) gz.1 hRz
    refine kh_need hq 27 67 (by decide) (by decide) (by decide) (fun no => hx (by rw [hW]; show (pt K 67 (nn z, L ++ [v9] ++ N2)).bind _ = none; rw [pt_no no]; rfl)) hBz hRxz (fun kk c8 w hBw nw gw enw hRw _ hcw => ?_)
    have hWs : W = some (Q, nn w, L ++ ([v9] ++ N2)) := by
      rw [hW]
      show (pt K 67 (nn z, L ++ [v9] ++ N2)).bind _ = _
      rw [pt_yes kk c8, enw, ← List.append_assoc]
      rfl
    have gg := GS_tr (GS_tr gy gz) gw
    have vm : vp_in m 4 := by rw [vp_in_iff]; omega
    have fin : ∀ (k : Nat) (v : gd), (k = 14 ∨ k = 16) → fm (fun c j => c = 76 ∨ c = 78 ∨ (c = 60 ∧ j = k)) w v → (0 ≤ (v.1 60 k).toInt ∧ (v.1 60 k).toInt ≤ 4) → CNk v Q → CGo sN V K Ev x v ([v9] ++ N2) → Fv v := by
      intro k v hk fv hv hcn hcg
      have hC' := hBw.2.2.1.2.2.1
      refine h v ([v9] ++ N2) Q (OT_of (OTb_nm hBw (fm_w fv (fun c j q => by omega)) (NM_fm hBw.2.2.1.2.1 (fun c k q1 q2 q3 q4 => fv c k (by omega)) (fv _ _ (by omega)) (fv _ _ (by omega))) ?_ ?_) ?_) ?_ (RI_st hRw (fv _ _ (by omega)) (fun j => fv _ _ (by omega)) (fun c k q1 q2 => fv _ _ (by omega))) (still_app hvs hN2) (by rw [show nn v = nn w by unfold nn; rw [fv 100 4 (by omega)]]; exact hWs) ?_ hcn (La_tr gg.1 ⟨fun c k q1 q2 => fv _ _ (by omega), by unfold nx; rw [fv 100 4 (by omega)]; exact Int.le_refl _, fun j _ => fv _ _ (by omega)⟩) hcg
      · unfold CD at hC' ⊢
        rw [fv 60 6 (by omega), fv 60 9 (by omega), fv 60 10 (by omega), fv 60 13 (by omega), fv 40 8 (by omega), fv 40 10 (by omega), fv 100 5 (by omega), fv 100 9 (by omega)]
        refine ⟨hC'.1, hC'.2.1, hC'.2.2.1, ?_, ?_, hC'.2.2.2.2.2.1, hC'.2.2.2.2.2.2⟩
        · rcases hk with rfl | rfl
          · exact hv
          · rw [fv 60 14 (by omega)]; exact hC'.2.2.2.1
        · rcases hk with rfl | rfl
          · rw [fv 60 16 (by omega)]; exact hC'.2.2.2.2.1
          · exact hv
      · have hT' := hBw.2.2.1.2.2.2.2
        unfold TS ssm at hT' ⊢
        rw [fv 60 10 (by omega), fv 80 9 (by omega), fv 100 5 (by omega), fv 81 _ (by omega)]
        refine ⟨fun i hi => ?_, hT'.2⟩
        rw [fv 72 i (by omega)]; exact hT'.1 i hi
      · have e1 : ssm v = ssm w := by unfold ssm; rw [fv 80 9 (by omega)]
        have e2 : nx v = nx w := by unfold nx; rw [fv 100 4 (by omega)]
        rw [e1, e2, GS_sm gg]; omega
      · have e2 : nx v = nx w := by unfold nx; rw [fv 100 4 (by omega)]
        omega
      · have t0 : te1 K V v9 = none := by
          unfold te1
          rw [if_neg (by omega), if_neg (by omega), if_neg (by omega), if_neg (by omega)]
        have t1 : ([v9] ++ N2).filterMap (te1 K V) = [] := by
          rw [List.filterMap_append, te1_ns hn2, List.append_nil, List.filterMap_cons_none t0, List.filterMap_nil]
        rw [t1, List.append_nil]
        exact TBk_f (TBk_e hTb (TBe_GS gg)) (fun c j q => fv c j (by omega))
    have em : ∀ k : Nat, ¬ k = 3 → w.1 60 k = x.1 60 k := fun k hk => GS_at gg _ _ (by unfold sSum; omega)
    refine ⟨fun c => ⟨vm, fun x7 e7 v ev => rv_i (fin 16 v (Or.inr rfl) (by rw [ev, e7]; exact fm_si (fm_si (fm_rf _ _) (Or.inr (Or.inl rfl))) (Or.inr (Or.inr ⟨rfl, rfl⟩))) ?_ ?_ ?_)⟩, fun c => ⟨vm, fun x7 e7 v ev => rv_i (fin 14 v (Or.inl rfl) (by rw [ev, e7]; exact fm_si (fm_si (fm_rf _ _) (Or.inl rfl)) (Or.inr (Or.inr ⟨rfl, rfl⟩))) ?_ ?_ ?_)⟩⟩
    · have e1 : x7.1 60 16 = m := by
        rw [e7, si_cell (by decide), em 16 (by omega)]
        rcases ham with ⟨-, e⟩ | ⟨e, -⟩
        · exact e.symm
        · exact absurd c e
      have e2 : v.1 60 16 = m + 1 := by rw [ev, e1]; (simp only [si_get, sfl_get, Nat.reduceEqDiff, eq_self, and_false, false_and, and_true, true_and, if_true, if_false, reduceIte, reduceCtorEq])
      rw [e2, t_add (by show _ ≤ _ + (1 : Int); omega) (by show _ + (1 : Int) ≤ _; omega)]
      show 0 ≤ _ + (1 : Int) ∧ _ + (1 : Int) ≤ _
      omega
    · have e1 : x7.1 60 16 = m := by
        rw [e7, si_cell (by decide), em 16 (by omega)]
        rcases ham with ⟨-, e⟩ | ⟨ea, e⟩
        · exact e.symm
        · exact absurd c ea
      have e2 : v.1 60 16 = m + 1 := by rw [ev, e1]; (simp only [si_get, sfl_get, Nat.reduceEqDiff, eq_self, and_false, false_and, and_true, true_and, if_true, if_false, reduceIte, reduceCtorEq])
      have vk : ∀ k, k ≠ 16 → k ≠ 3 → v.1 60 k = x.1 60 k := fun k h1 h2 => by rw [ev, si_get, if_neg (fun q => h1 q.2), e7, si_cell (by decide)]; exact em k h2
      have em2 : m = x.1 60 16 := by rw [← e1, e7, si_cell (by decide), em 16 (by omega)]
      have eQ2 : Q = (n.1, n.2.1, n.2.2.1, n.2.2.2.1, n.2.2.2.2 + 1) := by
        rcases eQ with ⟨e, eq⟩ | ⟨e, eq⟩
        · exact eq
        · exact absurd c e
      have e3 : (m + 1).toInt = m.toInt + 1 := t_add (by show _ ≤ _ + (1 : Int); omega) (by show _ + (1 : Int) ≤ _; omega)
      obtain ⟨n1, n2, n3, n4, n5⟩ := hCn
      rw [eQ2]
      refine ⟨by rw [vk 6 (by omega) (by omega)]; exact n1, by rw [vk 9 (by omega) (by omega)]; exact n2, by rw [vk 10 (by omega) (by omega)]; exact n3, ?_, ?_⟩
      · rw [vk 14 (by omega) (by omega)]; exact n4
      · show (v.1 60 16).toInt = ((n.2.2.2.2 + 1 : Nat) : Int)
        rw [e2, e3, em2]; omega
    · have e1 : x7.1 60 16 = m := by
        rw [e7, si_cell (by decide), em 16 (by omega)]
        rcases ham with ⟨-, e⟩ | ⟨ea, e⟩
        · exact e.symm
        · exact absurd c ea
      have em2 : m = x.1 60 16 := by rw [← e1, e7, si_cell (by decide), em 16 (by omega)]
      have e2 : v.1 60 16 = m + 1 := by rw [ev, e1]; (simp only [si_get, sfl_get, Nat.reduceEqDiff, eq_self, and_false, false_and, and_true, true_and, if_true, if_false, reduceIte, reduceCtorEq])
      have e3 : (m + 1).toInt = m.toInt + 1 := t_add (by show _ ≤ _ + (1 : Int); omega) (by show _ + (1 : Int) ≤ _; omega)
      have ev9 : v9 = (36, nn x, 0) := by
        rcases hv35 with ⟨-, e⟩ | ⟨e, -⟩
        · exact e
        · exact absurd c e
      rw [ev9, eN20]
      refine CGo_claim hcy hE2 hs20 hcp (GS_su gz) hrr (Or.inr ⟨rfl, ?_, by rw [e2, e3, em2], fun c k q q1 q2 => ?_⟩)
      · rw [ev, si_cell (by decide), e7, em2]; (simp only [si_get, sfl_get, Nat.reduceEqDiff, eq_self, and_false, false_and, and_true, true_and, if_true, if_false, reduceIte, reduceCtorEq])
      · rw [ev, si_get, if_neg q1, e7, em2, si_get, if_neg q2]
        exact hcw c k q
    · have e1 : x7.1 60 14 = m := by
        rw [e7, si_cell (by decide), em 14 (by omega)]
        rcases ham with ⟨e, -⟩ | ⟨-, e⟩
        · exact absurd e c
        · exact e.symm
      have e2 : v.1 60 14 = m + 1 := by rw [ev, e1]; (simp only [si_get, sfl_get, Nat.reduceEqDiff, eq_self, and_false, false_and, and_true, true_and, if_true, if_false, reduceIte, reduceCtorEq])
      rw [e2, t_add (by show _ ≤ _ + (1 : Int); omega) (by show _ + (1 : Int) ≤ _; omega)]
      show 0 ≤ _ + (1 : Int) ∧ _ + (1 : Int) ≤ _
      omega
    · have e1 : x7.1 60 14 = m := by
        rw [e7, si_cell (by decide), em 14 (by omega)]
        rcases ham with ⟨ea, e⟩ | ⟨-, e⟩
        · exact absurd ea c
        · exact e.symm
      have e2 : v.1 60 14 = m + 1 := by rw [ev, e1]; (simp only [si_get, sfl_get, Nat.reduceEqDiff, eq_self, and_false, false_and, and_true, true_and, if_true, if_false, reduceIte, reduceCtorEq])
      have vk : ∀ k, k ≠ 14 → k ≠ 3 → v.1 60 k = x.1 60 k := fun k h1 h2 => by rw [ev, si_get, if_neg (fun q => h1 q.2), e7, si_cell (by decide)]; exact em k h2
      have em2 : m = x.1 60 14 := by rw [← e1, e7, si_cell (by decide), em 14 (by omega)]
      have eQ2 : Q = (n.1, n.2.1, n.2.2.1, n.2.2.2.1 + 1, n.2.2.2.2) := by
        rcases eQ with ⟨e, eq⟩ | ⟨e, eq⟩
        · exact absurd e c
        · exact eq
      have e3 : (m + 1).toInt = m.toInt + 1 := t_add (by show _ ≤ _ + (1 : Int); omega) (by show _ + (1 : Int) ≤ _; omega)
      obtain ⟨n1, n2, n3, n4, n5⟩ := hCn
      rw [eQ2]
      refine ⟨by rw [vk 6 (by omega) (by omega)]; exact n1, by rw [vk 9 (by omega) (by omega)]; exact n2, by rw [vk 10 (by omega) (by omega)]; exact n3, ?_, ?_⟩
      · show (v.1 60 14).toInt = ((n.2.2.2.1 + 1 : Nat) : Int)
        rw [e2, e3, em2]; omega
      · rw [vk 16 (by omega) (by omega)]; exact n5
    · have e1 : x7.1 60 14 = m := by
        rw [e7, si_cell (by decide), em 14 (by omega)]
        rcases ham with ⟨ea, e⟩ | ⟨-, e⟩
        · exact absurd ea c
        · exact e.symm
      have em2 : m = x.1 60 14 := by rw [← e1, e7, si_cell (by decide), em 14 (by omega)]
      have e2 : v.1 60 14 = m + 1 := by rw [ev, e1]; (simp only [si_get, sfl_get, Nat.reduceEqDiff, eq_self, and_false, false_and, and_true, true_and, if_true, if_false, reduceIte, reduceCtorEq])
      have e3 : (m + 1).toInt = m.toInt + 1 := t_add (by show _ ≤ _ + (1 : Int); omega) (by show _ + (1 : Int) ≤ _; omega)
      have ev9 : v9 = (35, nn x, 0) := by
        rcases hv35 with ⟨e, -⟩ | ⟨-, e⟩
        · exact absurd e c
        · exact e
      rw [ev9, eN20]
      refine CGo_claim hcy hE2 hs20 hcp (GS_su gz) hrr (Or.inl ⟨rfl, ?_, by rw [e2, e3, em2], fun c k q q1 q2 => ?_⟩)
      · rw [ev, si_cell (by decide), e7, em2]; (simp only [si_get, sfl_get, Nat.reduceEqDiff, eq_self, and_false, false_and, and_true, true_and, if_true, if_false, reduceIte, reduceCtorEq])
      · rw [ev, si_get, if_neg q1, e7, em2, si_get, if_neg q2]
        exact hcw c k q
  have p36 : ∀ a m : Int32, (a = 0 ∧ m = x.1 60 16 ∨ ¬ a = 0 ∧ m = x.1 60 14) → (a = 0 ↔ K (nn x) = 21) → KE G q (d + 10) zk_X7_claim 36 [(0, vr 100), (1, vi a)] [vi m] x (rv Fv) X := by
    intro a m ham hak
    refine kg_X7_claim_36 hq _ _ ⟨fun c => p47 a m ham hak (by rw [t_lt, k4] at c; exact c), fun c => kh_refuse hq (hx ?_) hB _⟩
    rw [t_lt, k4] at c
    rw [eW]
    unfold pD
    rcases hk with k | k
    · have na : ¬ a = 0 := fun z => by
        have := hak.mp z
        rw [k] at this
        exact absurd this (by decide)
      have hm4 : ¬ n.2.2.2.1 < 4 := by
        have := hCn.2.2.2.1
        rcases ham with ⟨e, -⟩ | ⟨-, e⟩
        · exact absurd e na
        · rw [e] at c; omega
      rw [if_neg (by rw [k]; decide), if_neg (by rw [k]; decide), if_neg (by rw [k]; decide), if_neg (by rw [k]; decide), if_neg (by rw [k]; decide), if_pos k, if_neg (fun z => hm4 z.1)]
    · have na : a = 0 := hak.mpr k
      have hm4 : ¬ n.2.2.2.2 < 4 := by
        have := hCn.2.2.2.2
        rcases ham with ⟨-, e⟩ | ⟨e, -⟩
        · rw [e] at c; omega
        · exact absurd na e
      rw [if_neg (by rw [k]; decide), if_neg (by rw [k]; decide), if_neg (by rw [k]; decide), if_neg (by rw [k]; decide), if_neg (by rw [k]; decide), if_neg (by rw [k]; decide), if_pos k, if_neg (fun z => hm4 z.1)]
  have p14 : ∀ a : Int32, (a = 0 ↔ K (nn x) = 21) → KE G q (d + 10) zk_X7_claim 14 [(0, vr 100)] [vi a] x (rv Fv) X := fun a hak => kg_X7_claim_14 hq _ ⟨fun c => p36 _ _ (Or.inl ⟨c, rfl⟩) hak, fun c => p36 _ _ (Or.inr ⟨c, rfl⟩) hak⟩
  have i11 : x.1 23 (x.1 100 4).toNatClampNeg = 41 ↔ K (nn x) = 11 := KA_k hA hn0 41 (by decide)
  refine kg_X7_claim_0 hq (kp_sort hq hB.1.1 ⟨fun c => p14 _ ⟨fun _ => hk.resolve_left (fun z => c (i11.mpr z)), fun _ => rfl⟩, fun c => p14 _ ⟨fun z => absurd z (by decide), fun z => ?_⟩⟩)
  rw [i11.mp c] at z
  exact absurd z (by decide)
end KDI
end
